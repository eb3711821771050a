theorem hd_X0_drop : yX0_drop.cls ≠ "java/lang/invoke/MethodHandle" ∧ yX0_drop.cls ≠ "java/lang/invoke/VarHandle" ∧ (parseMethodDescriptor yX0_drop.desc).map (fun d => d.parameters.length) = some 1 := by decide +kernel
theorem iX0_tell_X0 : ∀ w ∈ u_ws RX0 TX0 4, w ∈ wsX0_tell := by decide +kernel
theorem fX0_tell_1 : Cond.fieldLink RX0 9 "FeatureSolve$Choices" "told" "[I" ∈ wsX0_tell := by decide +kernel
theorem fX0_tell_2 : Cond.fieldLink RX0 23 "FeatureSolve$Choices" "size" "I" ∈ wsX0_tell := by decide +kernel
theorem fX0_tell_3 : Cond.initialized RX7 ∈ wsX0_tell := by decide +kernel
theorem fX0_tell_4 : Cond.static yX7_put ∈ wsX0_tell := by decide +kernel
theorem fX0_tell_5 : Cond.fieldLink RX0 31 "FeatureSolve$Choices" "must" "I" ∈ wsX0_tell := by decide +kernel
theorem fX0_tell_6 : Cond.fieldLink RX0 38 "FeatureSolve$Choices" "mustNot" "I" ∈ wsX0_tell := by decide +kernel
theorem fX0_tell_7 : Cond.static yX7_bit ∈ wsX0_tell := by decide +kernel
set_option maxHeartbeats 4000000 in
set_option maxRecDepth 100000 in
/-- Choices.tell(f, on) -/
theorem c_X0_tell (l : Launch) (G : GG) (h : Nat) (mu mn : Int32) (k1 : Nat) (td : Nat → Int32) (L : List Int32) (f : Int32) (on : Bool) (hL : L.length ≤ 14) (hr0 : rowIs td L) (hlt : (L.filter (dropB f)).length < 14) : Met l yX0_tell wsX0_tell (rmK 2) (va_Pc [.ref h, .int f, .int (bI on)] (PM G [(oX0 h (nI L.length) mu mn k1), (cI G k1 14 td)])) (QG (S := Nat → Int32) G [(oX0 h (nI L.length) mu mn k1), (cI G k1 14 td)] (fun u => rowIs u ((L.filter (dropB f)) ++ [if on then f else -f])) (fun u => none) (fun u => [(oX0 h (nI ((L.filter (dropB f)).length + 1)) (mu &&& (bitI f ^^^ -1) ||| if on then bitI f else 0) (mn &&& (bitI f ^^^ -1) ||| if on then 0 else bitI f) k1), (cI G k1 14 u)])) 0 0 (adr [(oX0 h (nI L.length) mu mn k1), (cI G k1 14 td)]) := by
  refine Met.ofW (cc := cX0_tell) (maxL := 3) (ret := none) (by decide) rfl ?_
  intro p e s m args below meth c s₁ B hml hv
  obtain ⟨rfl, hP, hD0, hKK⟩ := hv
  have hx := B.exec
  have hb := B.bytes
  have hr := B.returns
  have hts := atoms_spec (ws := wsX0_tell) B.pre
  have hown : s.vm.findClass RX0 = some m.cls := findClass_of_methodNamed B.named
  have hlocks := B.notSynchronized
  have hK := hKK.1
  generalize hAe : adr [(oX0 h (nI L.length) mu mn k1), (cI G k1 14 td)] = A
  have hD : va_D A [(oX0 h (nI L.length) mu mn k1), (cI G k1 14 td)] := by rw [← hAe]; exact hD0.own
  have hS : va_S A s.heap s.heap [] := va_S.rf
  have hP : va_P G.1 vwCl [(oX0 h (nI L.length) mu mn k1), (cI G k1 14 td)] s.heap := hP
  have hl := lv_entry ([.ref h, .int f, .int (bI on)]) (n := 3) (Nat.le_of_ble_eq_true rfl)
  rw [lg_entry_eq]
  generalize (lg_sl ([.ref h, .int f, .int (bI on)]) ++ List.replicate (3 - (lg_sl ([.ref h, .int f, .int (bI on)])).length) Slot.unset).toArray = ls at hl ⊢
  have hl : lv_has ls 3 [(0, .ref h), (1, .int f), (2, .int (bI on))] := hl
  refine lv_aload_n hx hb dX0_tell_0 rfl (lv_at hl 0 rfl) ?_
  refine lv_iload_n hx hb dX0_tell_1 rfl (lv_at hl 1 rfl) ?_
  refine cnV (nw := 2) (ci := 2) (T0 := TX0) (N := 4) (As := [.int f]) (rest := []) ⟨hx, hb, hml, hown, hts⟩ (c_X0_drop l G h mu mn k1 td L f hL hr0) (cwV 1 hts gX0_tell_X0_drop rfl rfl rfl ⟨rfl, hd_X0_drop⟩ ⟨Nat.le_of_ble_eq_true rfl, Nat.le_of_ble_eq_true rfl⟩) hKK hP hD hS [0, 1] [] (fun gd => [(oX0 h (nI (L.filter (dropB f)).length) (mu &&& (bitI f ^^^ -1)) (mn &&& (bitI f ^^^ -1)) k1), (cI G k1 14 gd)]) [] [h, k1] rfl (by decide) (by decide) rfl rfl rfl hl.1 rfl (Nat.le_of_ble_eq_true rfl) dX0_tell_2 ⟨Nat.zero_le _, Nat.zero_le _⟩ (fun _ => rfl) (fun _ => rfl) rfl (fun _ => rfl) rfl (fun _ => rfl) (fun gd H locs hgd hP hD hS => ?_)
  refine lv_aload_n hx hb dX0_tell_5 rfl (lv_at hl 0 rfl) ?_
  refine va_get (D := G.1) (ci := 2) (v := .ref k1) (C := RX0) (T := TX0) (N := 4) hx hb hts iX0_tell_X0 hown hK hP 0 rfl rfl 3 (by decide) (hts _ fX0_tell_1) (fun _ h9 => h9) rfl dX0_tell_6 ?_
  refine lv_aload_n hx hb dX0_tell_9 rfl (lv_at hl 0 rfl) ?_
  refine va_get (D := G.1) (ci := 2) (v := .int (nI (L.filter (dropB f)).length)) (C := RX0) (T := TX0) (N := 4) hx hb hts iX0_tell_X0 hown hK hP 0 rfl rfl 0 (by decide) (hts _ fX0_tell_2) (fun _ h9 => h9) rfl dX0_tell_10 ?_
  refine cutJ (nL := 3) (lv := [(0, .ref h), (1, .int f), (2, .int (bI on))]) (pc' := 23) (st' := [.int (if on then f else -f), .int (nI (L.filter (dropB f)).length), .ref k1]) (fun ls hl => ?_) (fun hJ_23 => ?_)
  · skip
    refine cnN (nw := 2) (As := [.ref k1, .int (nI (L.filter (dropB f)).length), .int (if on then f else -f)]) (rest := []) ⟨hx, hb, hml, hown, hts⟩ (c_X7_putk l G k1 14 gd (nI (L.filter (dropB f)).length) (if on then f else -f) ((L.filter (dropB f)).length) (rfl) (hlt) (by decide)) ⟨va_cnB (own := RX0) (host := RX7) (index := 27) (y := yX7_put) 3 hts gX0_tell_X7_put_n27 rfl rfl rfl (hKK.2.nth 14 (q := (RX0, 27, yX7_put)) rfl) (hts _ fX0_tell_3) hd_X7_put ⟨Nat.le_of_ble_eq_true rfl, Nat.le_of_ble_eq_true rfl⟩, (hts _ fX0_tell_4), trivial⟩ hKK hP hD hS [1] [0] (fun _ => [(oX0 h (nI (L.filter (dropB f)).length) (mu &&& (bitI f ^^^ -1)) (mn &&& (bitI f ^^^ -1)) k1), (cI G k1 14 (upd gd ((L.filter (dropB f)).length) (if on then f else -f)))]) [some (oX0 h (nI (L.filter (dropB f)).length) (mu &&& (bitI f ^^^ -1)) (mn &&& (bitI f ^^^ -1)) k1)] [h, k1] rfl (by decide) (by decide) rfl hl.1 rfl (Nat.le_of_ble_eq_true rfl) dX0_tell_23 ⟨Nat.zero_le _, Nat.zero_le _⟩ (fun _ => rfl) (fun _ => rfl) rfl (fun _ => rfl) rfl (fun _ => rfl) (fun _ H locs _ hP hD hS => ?_)
    refine lv_aload_n hx hb dX0_tell_26 rfl (lv_at hl 0 rfl) ?_
    refine lv_dup hx hb dX0_tell_27 rfl ?_
    refine va_get (D := G.1) (ci := 2) (v := .int (nI (L.filter (dropB f)).length)) (C := RX0) (T := TX0) (N := 4) hx hb hts iX0_tell_X0 hown hK hP 0 rfl rfl 0 (by decide) (hts _ fX0_tell_2) (fun _ h9 => h9) rfl dX0_tell_28 ?_
    refine lv_iconst (v := 1) hx hb dX0_tell_31 (by decide) ?_
    refine lv_iadd hx hb dX0_tell_32 ?_
    refine stI (y := nI ((L.filter (dropB f)).length + 1)) (nI_1 _) ?_
    refine va_put (D := G.1) (ci := 2) (v := .int (nI ((L.filter (dropB f)).length + 1))) (ty := .int) (C := RX0) (T := TX0) (N := 4) hx hb hts iX0_tell_X0 tyX0 tyX0_ok nmX0 hown hK hP hD hS 0 rfl rfl 0 (by decide) (hts _ fX0_tell_2) (fun _ h9 => h9) rfl (by decide +kernel) rfl rfl (Nat.le_of_ble_eq_true rfl) dX0_tell_33 (fun H locs hP hD hS => ?_)
    have hPD : PD G A [(oX0 h (nI ((L.filter (dropB f)).length + 1)) (mu &&& (bitI f ^^^ -1)) (mn &&& (bitI f ^^^ -1)) k1), (cI G k1 14 (upd gd ((L.filter (dropB f)).length) (if on then f else -f)))] H := ⟨hP, hD⟩
    have hP := hPD.1
    have hD := hPD.2
    clear hPD
    refine lv_aload_n hx hb dX0_tell_36 rfl (lv_at hl 0 rfl) ?_
    refine lv_dup hx hb dX0_tell_37 rfl ?_
    refine va_get (D := G.1) (ci := 2) (v := .int (mu &&& (bitI f ^^^ -1))) (C := RX0) (T := TX0) (N := 4) hx hb hts iX0_tell_X0 hown hK hP 0 rfl rfl 1 (by decide) (hts _ fX0_tell_5) (fun _ h9 => h9) rfl dX0_tell_38 ?_
    refine cutJ (nL := 3) (lv := [(0, .ref h), (1, .int f), (2, .int (bI on))]) (pc' := 53) (st' := [.int (if on then bitI f else 0), .int (mu &&& (bitI f ^^^ -1)), .ref h]) (fun ls hl => ?_) (fun hJ_53 => ?_)
    · skip
      refine lv_ior hx hb dX0_tell_53 ?_
      refine va_put (D := G.1) (ci := 2) (v := .int ((mu &&& (bitI f ^^^ -1)) ||| (if on then bitI f else 0))) (ty := .int) (C := RX0) (T := TX0) (N := 4) hx hb hts iX0_tell_X0 tyX0 tyX0_ok nmX0 hown hK hP hD hS 0 rfl rfl 1 (by decide) (hts _ fX0_tell_5) (fun _ h9 => h9) rfl (by decide +kernel) rfl rfl (Nat.le_of_ble_eq_true rfl) dX0_tell_54 (fun H locs hP hD hS => ?_)
      have hPD : PD G A [(oX0 h (nI ((L.filter (dropB f)).length + 1)) ((mu &&& (bitI f ^^^ -1)) ||| (if on then bitI f else 0)) (mn &&& (bitI f ^^^ -1)) k1), (cI G k1 14 (upd gd ((L.filter (dropB f)).length) (if on then f else -f)))] H := ⟨hP, hD⟩
      have hP := hPD.1
      have hD := hPD.2
      clear hPD
      refine lv_aload_n hx hb dX0_tell_57 rfl (lv_at hl 0 rfl) ?_
      refine lv_dup hx hb dX0_tell_58 rfl ?_
      refine va_get (D := G.1) (ci := 2) (v := .int (mn &&& (bitI f ^^^ -1))) (C := RX0) (T := TX0) (N := 4) hx hb hts iX0_tell_X0 hown hK hP 0 rfl rfl 2 (by decide) (hts _ fX0_tell_6) (fun _ h9 => h9) rfl dX0_tell_59 ?_
      refine cutJ (nL := 3) (lv := [(0, .ref h), (1, .int f), (2, .int (bI on))]) (pc' := 74) (st' := [.int (if on then 0 else bitI f), .int (mn &&& (bitI f ^^^ -1)), .ref h]) (fun ls hl => ?_) (fun hJ_74 => ?_)
      · skip
        refine lv_ior hx hb dX0_tell_74 ?_
        refine va_put (D := G.1) (ci := 2) (v := .int ((mn &&& (bitI f ^^^ -1)) ||| (if on then 0 else bitI f))) (ty := .int) (C := RX0) (T := TX0) (N := 4) hx hb hts iX0_tell_X0 tyX0 tyX0_ok nmX0 hown hK hP hD hS 0 rfl rfl 2 (by decide) (hts _ fX0_tell_6) (fun _ h9 => h9) rfl (by decide +kernel) rfl rfl (Nat.le_of_ble_eq_true rfl) dX0_tell_75 (fun H locs hP hD hS => ?_)
        have hPD : PD G A [(oX0 h (nI ((L.filter (dropB f)).length + 1)) ((mu &&& (bitI f ^^^ -1)) ||| (if on then bitI f else 0)) ((mn &&& (bitI f ^^^ -1)) ||| (if on then 0 else bitI f)) k1), (cI G k1 14 (upd gd ((L.filter (dropB f)).length) (if on then f else -f)))] H := ⟨hP, hD⟩
        have hP := hPD.1
        have hD := hPD.2
        clear hPD
        exact gretv hx hb hr hlocks hAe hS (upd gd (L.filter (dropB f)).length (if on then f else -f)) (rfl) (rowIs_app hgd) (hP) dX0_tell_78
      · skip
        refine lv_iload_n hx hb dX0_tell_62 rfl (lv_at hl 2 rfl) ?_
        refine lv_if_eq (tgt := 70) hx hb dX0_tell_63 (by decide) (fun c_63 => ?_) (fun c_63 => ?_)
        · skip
          refine lv_iload_n hx hb dX0_tell_70 rfl (lv_at hl 1 rfl) ?_
          refine cpN (As := [.int f]) (rest := [.int (mn &&& (bitI f ^^^ -1)), .ref h]) ⟨hx, hb, hml, hown, hts⟩ (c_X7_bit l G f) ⟨va_cnB (own := RX0) (host := RX7) (index := 34) (y := yX7_bit) 1 hts gX0_tell_X7_bit_n34 rfl rfl rfl (hKK.2.nth 15 (q := (RX0, 34, yX7_bit)) rfl) (hts _ fX0_tell_3) hd_X7_bit ⟨Nat.le_of_ble_eq_true rfl, Nat.le_of_ble_eq_true rfl⟩, (hts _ fX0_tell_7), trivial⟩ hKK hP [] rfl rfl hl.1 rfl (Nat.le_of_ble_eq_true rfl) dX0_tell_71 ⟨Nat.zero_le _, Nat.zero_le _⟩ ?_
          refine stI (y := (if on then 0 else bitI f)) (by rw [bI_0.mp c_63]; rfl) ?_
          exact hJ_74 ls (lv_sub hl [0, 1, 2] rfl)
        · skip
          refine lv_iconst (v := 0) hx hb dX0_tell_66 (by decide) ?_
          refine lv_goto (tgt := 74) hx hb dX0_tell_67 (by decide) ?_
          refine stI (y := (if on then 0 else bitI f)) (by rw [bI_n0 c_63]; rfl) ?_
          exact hJ_74 ls (lv_sub hl [0, 1, 2] rfl)
    · skip
      refine lv_iload_n hx hb dX0_tell_41 rfl (lv_at hl 2 rfl) ?_
      refine lv_if_eq (tgt := 52) hx hb dX0_tell_42 (by decide) (fun c_42 => ?_) (fun c_42 => ?_)
      · skip
        refine lv_iconst (v := 0) hx hb dX0_tell_52 (by decide) ?_
        refine stI (y := (if on then bitI f else 0)) (by rw [bI_0.mp c_42]; rfl) ?_
        exact hJ_53 ls (lv_sub hl [0, 1, 2] rfl)
      · skip
        refine lv_iload_n hx hb dX0_tell_45 rfl (lv_at hl 1 rfl) ?_
        refine cpN (As := [.int f]) (rest := [.int (mu &&& (bitI f ^^^ -1)), .ref h]) ⟨hx, hb, hml, hown, hts⟩ (c_X7_bit l G f) ⟨va_cnB (own := RX0) (host := RX7) (index := 34) (y := yX7_bit) 1 hts gX0_tell_X7_bit_n34 rfl rfl rfl (hKK.2.nth 15 (q := (RX0, 34, yX7_bit)) rfl) (hts _ fX0_tell_3) hd_X7_bit ⟨Nat.le_of_ble_eq_true rfl, Nat.le_of_ble_eq_true rfl⟩, (hts _ fX0_tell_7), trivial⟩ hKK hP [] rfl rfl hl.1 rfl (Nat.le_of_ble_eq_true rfl) dX0_tell_46 ⟨Nat.zero_le _, Nat.zero_le _⟩ ?_
        refine lv_goto (tgt := 53) hx hb dX0_tell_49 (by decide) ?_
        refine stI (y := (if on then bitI f else 0)) (by rw [bI_n0 c_42]; rfl) ?_
        exact hJ_53 ls (lv_sub hl [0, 1, 2] rfl)
  · skip
    refine lv_iload_n hx hb dX0_tell_13 rfl (lv_at hl 2 rfl) ?_
    refine lv_if_eq (tgt := 21) hx hb dX0_tell_14 (by decide) (fun c_14 => ?_) (fun c_14 => ?_)
    · skip
      refine lv_iload_n hx hb dX0_tell_21 rfl (lv_at hl 1 rfl) ?_
      refine lv_ineg hx hb dX0_tell_22 ?_
      refine stI (y := (if on then f else -f)) (by rw [bI_0.mp c_14]; rfl) ?_
      exact hJ_23 ls (lv_sub hl [0, 1, 2] rfl)
    · skip
      refine lv_iload_n hx hb dX0_tell_17 rfl (lv_at hl 1 rfl) ?_
      refine lv_goto (tgt := 23) hx hb dX0_tell_18 (by decide) ?_
      refine stI (y := (if on then f else -f)) (by rw [bI_n0 c_14]; rfl) ?_
      exact hJ_23 ls (lv_sub hl [0, 1, 2] rfl)

theorem iX7_feature_X7 : ∀ w ∈ u_ws RX7 TX7 7, w ∈ wsX7_feature := by decide +kernel
theorem fX7_feature_1 : Cond.fieldLink RX7 20 "FeatureSolve" "tree" "LFeatureSolve$Tree;" ∈ wsX7_feature := by decide +kernel
theorem hd_X5_takesParent : yX5_takesParent.cls ≠ "java/lang/invoke/MethodHandle" ∧ yX5_takesParent.cls ≠ "java/lang/invoke/VarHandle" ∧ (parseMethodDescriptor yX5_takesParent.desc).map (fun d => d.parameters.length) = some 1 := by decide +kernel
theorem iX7_feature_X5 : ∀ w ∈ u_ws RX5 TX5 8, w ∈ wsX7_feature := by decide +kernel
theorem fX7_feature_3 : Cond.fieldLink RX7 58 "FeatureSolve$Tree" "size" "I" ∈ wsX7_feature := by decide +kernel
theorem fX7_feature_4 : Cond.fieldLink RX7 10 "FeatureSolve" "variants" "LFeatureSolve$Variants;" ∈ wsX7_feature := by decide +kernel
theorem hd_X6_outdate : yX6_outdate.cls ≠ "java/lang/invoke/MethodHandle" ∧ yX6_outdate.cls ≠ "java/lang/invoke/VarHandle" ∧ (parseMethodDescriptor yX6_outdate.desc).map (fun d => d.parameters.length) = some 0 := by decide +kernel
theorem hd_X5_add : yX5_add.cls ≠ "java/lang/invoke/MethodHandle" ∧ yX5_add.cls ≠ "java/lang/invoke/VarHandle" ∧ (parseMethodDescriptor yX5_add.desc).map (fun d => d.parameters.length) = some 2 := by decide +kernel
set_option maxHeartbeats 4000000 in
set_option maxRecDepth 100000 in
/-- feature -/
theorem c_X7_feature (l : Launch) (G : GG) (a : Nat → Nat) (n mf : Nat) (bd : Int32) (zN : Nat) (ub : Bool) (cs : Nat) (mu mn la : Int32) (fq rq : Nat) (r : Nat → Nat → Int32) (x k : Int32) (hn : n ≤ 14) : Met l yX7_feature wsX7_feature (rmK 2) (va_Pc [.ref (a 0), .int x, .int k] (PM G [(oX7 (a 0) (a 1) (a 2) (a 9) (a 15) (a 19) (a 21) (a 23)), (oX6 (a 1) (a 2) (a 9) (a 15) (a 18) (nI zN) (bI ub)), (oX5 (a 2) (nI n) (a 3) (a 4) (a 5) (a 6) (a 7) (a 8) bd), (cI G (a 3) 15 (r 3)), (cI G (a 4) 15 (r 4)), (cI G (a 5) 15 (r 5)), (cI G (a 6) 15 (r 6)), (cI G (a 7) 15 (r 7)), (cI G (a 8) 15 (r 8)), (oX1 (a 9) (nI mf) (a 10) (a 11) (a 12) (a 13) (a 14)), (cI G (a 10) 40 (r 10)), (cI G (a 11) 40 (r 11)), (cI G (a 12) 40 (r 12)), (cI G (a 13) 40 (r 13)), (cI G (a 14) 40 (r 14)), (oX4 (a 15) (a 16) (a 17)), (cI G (a 16) 60 (r 16)), (cI G (a 17) 4 (r 17)), (cI G (a 18) 8192 (r 18)), (oX0 (a 19) (nI cs) mu mn (a 20)), (cI G (a 20) 14 (r 20)), (oX2 (a 21) la (nI fq) (a 22)), (cI G (a 22) 200 (r 22)), (oX3 (a 23) (nI rq) (a 24)), (cI G (a 24) 14 (r 24))])) (QG (S := Int32 × CS) G [(oX7 (a 0) (a 1) (a 2) (a 9) (a 15) (a 19) (a 21) (a 23)), (oX6 (a 1) (a 2) (a 9) (a 15) (a 18) (nI zN) (bI ub)), (oX5 (a 2) (nI n) (a 3) (a 4) (a 5) (a 6) (a 7) (a 8) bd), (cI G (a 3) 15 (r 3)), (cI G (a 4) 15 (r 4)), (cI G (a 5) 15 (r 5)), (cI G (a 6) 15 (r 6)), (cI G (a 7) 15 (r 7)), (cI G (a 8) 15 (r 8)), (oX1 (a 9) (nI mf) (a 10) (a 11) (a 12) (a 13) (a 14)), (cI G (a 10) 40 (r 10)), (cI G (a 11) 40 (r 11)), (cI G (a 12) 40 (r 12)), (cI G (a 13) 40 (r 13)), (cI G (a 14) 40 (r 14)), (oX4 (a 15) (a 16) (a 17)), (cI G (a 16) 60 (r 16)), (cI G (a 17) 4 (r 17)), (cI G (a 18) 8192 (r 18)), (oX0 (a 19) (nI cs) mu mn (a 20)), (cI G (a 20) 14 (r 20)), (oX2 (a 21) la (nI fq) (a 22)), (cI G (a 22) 200 (r 22)), (oX3 (a 23) (nI rq) (a 24)), (cI G (a 24) 14 (r 24))] (fun u => u = cFeature n mf bd zN ub cs mu mn la fq rq r x k) (fun u => some (.int u.1)) (fun u => cW G a u.2)) 0 0 (adr [(oX7 (a 0) (a 1) (a 2) (a 9) (a 15) (a 19) (a 21) (a 23)), (oX6 (a 1) (a 2) (a 9) (a 15) (a 18) (nI zN) (bI ub)), (oX5 (a 2) (nI n) (a 3) (a 4) (a 5) (a 6) (a 7) (a 8) bd), (cI G (a 3) 15 (r 3)), (cI G (a 4) 15 (r 4)), (cI G (a 5) 15 (r 5)), (cI G (a 6) 15 (r 6)), (cI G (a 7) 15 (r 7)), (cI G (a 8) 15 (r 8)), (oX1 (a 9) (nI mf) (a 10) (a 11) (a 12) (a 13) (a 14)), (cI G (a 10) 40 (r 10)), (cI G (a 11) 40 (r 11)), (cI G (a 12) 40 (r 12)), (cI G (a 13) 40 (r 13)), (cI G (a 14) 40 (r 14)), (oX4 (a 15) (a 16) (a 17)), (cI G (a 16) 60 (r 16)), (cI G (a 17) 4 (r 17)), (cI G (a 18) 8192 (r 18)), (oX0 (a 19) (nI cs) mu mn (a 20)), (cI G (a 20) 14 (r 20)), (oX2 (a 21) la (nI fq) (a 22)), (cI G (a 22) 200 (r 22)), (oX3 (a 23) (nI rq) (a 24)), (cI G (a 24) 14 (r 24))]) := by
  refine Met.ofW (cc := cX7_feature) (maxL := 3) (ret := (some .int)) (by decide) rfl ?_
  intro p e s m args below meth c s₁ B hml hv
  obtain ⟨rfl, hP, hD0, hKK⟩ := hv
  have hx := B.exec
  have hb := B.bytes
  have hr := B.returns
  have hts := atoms_spec (ws := wsX7_feature) B.pre
  have hown : s.vm.findClass RX7 = some m.cls := findClass_of_methodNamed B.named
  have hlocks := B.notSynchronized
  have hK := hKK.1
  generalize hAe : adr [(oX7 (a 0) (a 1) (a 2) (a 9) (a 15) (a 19) (a 21) (a 23)), (oX6 (a 1) (a 2) (a 9) (a 15) (a 18) (nI zN) (bI ub)), (oX5 (a 2) (nI n) (a 3) (a 4) (a 5) (a 6) (a 7) (a 8) bd), (cI G (a 3) 15 (r 3)), (cI G (a 4) 15 (r 4)), (cI G (a 5) 15 (r 5)), (cI G (a 6) 15 (r 6)), (cI G (a 7) 15 (r 7)), (cI G (a 8) 15 (r 8)), (oX1 (a 9) (nI mf) (a 10) (a 11) (a 12) (a 13) (a 14)), (cI G (a 10) 40 (r 10)), (cI G (a 11) 40 (r 11)), (cI G (a 12) 40 (r 12)), (cI G (a 13) 40 (r 13)), (cI G (a 14) 40 (r 14)), (oX4 (a 15) (a 16) (a 17)), (cI G (a 16) 60 (r 16)), (cI G (a 17) 4 (r 17)), (cI G (a 18) 8192 (r 18)), (oX0 (a 19) (nI cs) mu mn (a 20)), (cI G (a 20) 14 (r 20)), (oX2 (a 21) la (nI fq) (a 22)), (cI G (a 22) 200 (r 22)), (oX3 (a 23) (nI rq) (a 24)), (cI G (a 24) 14 (r 24))] = A
  have hD : va_D A [(oX7 (a 0) (a 1) (a 2) (a 9) (a 15) (a 19) (a 21) (a 23)), (oX6 (a 1) (a 2) (a 9) (a 15) (a 18) (nI zN) (bI ub)), (oX5 (a 2) (nI n) (a 3) (a 4) (a 5) (a 6) (a 7) (a 8) bd), (cI G (a 3) 15 (r 3)), (cI G (a 4) 15 (r 4)), (cI G (a 5) 15 (r 5)), (cI G (a 6) 15 (r 6)), (cI G (a 7) 15 (r 7)), (cI G (a 8) 15 (r 8)), (oX1 (a 9) (nI mf) (a 10) (a 11) (a 12) (a 13) (a 14)), (cI G (a 10) 40 (r 10)), (cI G (a 11) 40 (r 11)), (cI G (a 12) 40 (r 12)), (cI G (a 13) 40 (r 13)), (cI G (a 14) 40 (r 14)), (oX4 (a 15) (a 16) (a 17)), (cI G (a 16) 60 (r 16)), (cI G (a 17) 4 (r 17)), (cI G (a 18) 8192 (r 18)), (oX0 (a 19) (nI cs) mu mn (a 20)), (cI G (a 20) 14 (r 20)), (oX2 (a 21) la (nI fq) (a 22)), (cI G (a 22) 200 (r 22)), (oX3 (a 23) (nI rq) (a 24)), (cI G (a 24) 14 (r 24))] := by rw [← hAe]; exact hD0.own
  have hS : va_S A s.heap s.heap [] := va_S.rf
  have hP : va_P G.1 vwCl [(oX7 (a 0) (a 1) (a 2) (a 9) (a 15) (a 19) (a 21) (a 23)), (oX6 (a 1) (a 2) (a 9) (a 15) (a 18) (nI zN) (bI ub)), (oX5 (a 2) (nI n) (a 3) (a 4) (a 5) (a 6) (a 7) (a 8) bd), (cI G (a 3) 15 (r 3)), (cI G (a 4) 15 (r 4)), (cI G (a 5) 15 (r 5)), (cI G (a 6) 15 (r 6)), (cI G (a 7) 15 (r 7)), (cI G (a 8) 15 (r 8)), (oX1 (a 9) (nI mf) (a 10) (a 11) (a 12) (a 13) (a 14)), (cI G (a 10) 40 (r 10)), (cI G (a 11) 40 (r 11)), (cI G (a 12) 40 (r 12)), (cI G (a 13) 40 (r 13)), (cI G (a 14) 40 (r 14)), (oX4 (a 15) (a 16) (a 17)), (cI G (a 16) 60 (r 16)), (cI G (a 17) 4 (r 17)), (cI G (a 18) 8192 (r 18)), (oX0 (a 19) (nI cs) mu mn (a 20)), (cI G (a 20) 14 (r 20)), (oX2 (a 21) la (nI fq) (a 22)), (cI G (a 22) 200 (r 22)), (oX3 (a 23) (nI rq) (a 24)), (cI G (a 24) 14 (r 24))] s.heap := hP
  have hl := lv_entry ([.ref (a 0), .int x, .int k]) (n := 3) (Nat.le_of_ble_eq_true rfl)
  rw [lg_entry_eq]
  generalize (lg_sl ([.ref (a 0), .int x, .int k]) ++ List.replicate (3 - (lg_sl ([.ref (a 0), .int x, .int k])).length) Slot.unset).toArray = ls at hl ⊢
  have hl : lv_has ls 3 [(0, .ref (a 0)), (1, .int x), (2, .int k)] := hl
  refine lv_aload_n hx hb dX7_feature_0 rfl (lv_at hl 0 rfl) ?_
  refine va_get (D := G.1) (ci := 9) (v := .ref (a 2)) (C := RX7) (T := TX7) (N := 7) hx hb hts iX7_feature_X7 hown hK hP 0 rfl rfl 1 (by decide) (hts _ fX7_feature_1) (fun _ h9 => h9) rfl dX7_feature_1 ?_
  refine lv_iload_n hx hb dX7_feature_4 rfl (lv_at hl 1 rfl) ?_
  refine cpV (ci := 7) (T0 := TX5) (N := 8) (As := [.int x]) (rest := []) ⟨hx, hb, hml, hown, hts⟩ (c_X5_takesParent l G (a 2) (nI n) (a 3) (a 4) (a 5) (a 6) (a 7) (a 8) bd x) (cwV 1 hts gX7_feature_X5_takesParent rfl rfl rfl ⟨rfl, hd_X5_takesParent⟩ ⟨Nat.le_of_ble_eq_true rfl, Nat.le_of_ble_eq_true rfl⟩) hKK hP [2] rfl rfl rfl rfl hl.1 rfl (Nat.le_of_ble_eq_true rfl) dX7_feature_5 ⟨Nat.zero_le _, Nat.zero_le _⟩ ?_
  refine lv_if_ne (tgt := 13) hx hb dX7_feature_8 (by decide) (fun c_8 => ?_) (fun c_8 => ?_)
  · skip
    have htk := takes_nat hn (bI_n0 c_8)
    refine lv_iload_n hx hb dX7_feature_13 rfl (lv_at hl 2 rfl) ?_
    refine lv_if_lt (tgt := 22) hx hb dX7_feature_14 (by decide) (fun c_14 => ?_) (fun c_14 => ?_)
    · skip
      refine lv_bipush (v := -2) hx hb dX7_feature_22 (by decide) ?_
      exact greti hx hb hr hlocks rfl hAe hS (⟨-2, (n, mf, bd, zN, ub, cs, mu, mn, la, fq, rq, r)⟩) (rfl) (by unfold cFeature; rw [if_pos (bI_n0 c_8), if_pos c_14]) (hP) dX7_feature_24
    · skip
      refine lv_iload_n hx hb dX7_feature_17 rfl (lv_at hl 2 rfl) ?_
      refine lv_iconst (v := 2) hx hb dX7_feature_18 (by decide) ?_
      refine lv_icmp_le (tgt := 25) hx hb dX7_feature_19 (by decide) (fun c_19 => ?_) (fun c_19 => ?_)
      · skip
        refine lv_aload_n hx hb dX7_feature_25 rfl (lv_at hl 0 rfl) ?_
        refine va_get (D := G.1) (ci := 9) (v := .ref (a 2)) (C := RX7) (T := TX7) (N := 7) hx hb hts iX7_feature_X7 hown hK hP 0 rfl rfl 1 (by decide) (hts _ fX7_feature_1) (fun _ h9 => h9) rfl dX7_feature_26 ?_
        refine va_get (D := G.1) (ci := 7) (v := .int (nI n)) (C := RX5) (T := TX5) (N := 8) hx hb hts iX7_feature_X5 hown hK hP 2 rfl rfl 0 (by decide) (hts _ fX7_feature_3) (fun _ h9 => h9) rfl dX7_feature_29 ?_
        refine lv_bipush (v := 14) hx hb dX7_feature_32 (by decide) ?_
        refine lv_icmp_lt (tgt := 40) hx hb dX7_feature_34 (by decide) (fun c_34 => ?_) (fun c_34 => ?_)
        · skip
          have hn14 : n < 14 := (nI_ltI (a := n) (b := 14) (by omega) (by decide)).mp c_34
          refine lv_aload_n hx hb dX7_feature_40 rfl (lv_at hl 0 rfl) ?_
          refine va_get (D := G.1) (ci := 9) (v := .ref (a 1)) (C := RX7) (T := TX7) (N := 7) hx hb hts iX7_feature_X7 hown hK hP 0 rfl rfl 0 (by decide) (hts _ fX7_feature_4) (fun _ h9 => h9) rfl dX7_feature_41 ?_
          refine cnV (nw := 25) (ci := 8) (T0 := TX6) (N := 6) (As := []) (rest := []) ⟨hx, hb, hml, hown, hts⟩ (c_X6_outdate l G (a 1) (a 2) (a 9) (a 15) (a 18) (nI zN) (bI ub)) (cwV 0 hts gX7_feature_X6_outdate rfl rfl rfl ⟨rfl, hd_X6_outdate⟩ ⟨Nat.le_of_ble_eq_true rfl, Nat.le_of_ble_eq_true rfl⟩) hKK hP hD hS [1] [0, 2, 3, 4, 5, 6, 7, 8, 9, 10, 11, 12, 13, 14, 15, 16, 17, 18, 19, 20, 21, 22, 23, 24] (fun _ => [(oX7 (a 0) (a 1) (a 2) (a 9) (a 15) (a 19) (a 21) (a 23)), (oX6 (a 1) (a 2) (a 9) (a 15) (a 18) (nI zN) 0), (oX5 (a 2) (nI n) (a 3) (a 4) (a 5) (a 6) (a 7) (a 8) bd), (cI G (a 3) 15 (r 3)), (cI G (a 4) 15 (r 4)), (cI G (a 5) 15 (r 5)), (cI G (a 6) 15 (r 6)), (cI G (a 7) 15 (r 7)), (cI G (a 8) 15 (r 8)), (oX1 (a 9) (nI mf) (a 10) (a 11) (a 12) (a 13) (a 14)), (cI G (a 10) 40 (r 10)), (cI G (a 11) 40 (r 11)), (cI G (a 12) 40 (r 12)), (cI G (a 13) 40 (r 13)), (cI G (a 14) 40 (r 14)), (oX4 (a 15) (a 16) (a 17)), (cI G (a 16) 60 (r 16)), (cI G (a 17) 4 (r 17)), (cI G (a 18) 8192 (r 18)), (oX0 (a 19) (nI cs) mu mn (a 20)), (cI G (a 20) 14 (r 20)), (oX2 (a 21) la (nI fq) (a 22)), (cI G (a 22) 200 (r 22)), (oX3 (a 23) (nI rq) (a 24)), (cI G (a 24) 14 (r 24))]) [some (oX7 (a 0) (a 1) (a 2) (a 9) (a 15) (a 19) (a 21) (a 23)), some (oX5 (a 2) (nI n) (a 3) (a 4) (a 5) (a 6) (a 7) (a 8) bd), some (cI G (a 3) 15 (r 3)), some (cI G (a 4) 15 (r 4)), some (cI G (a 5) 15 (r 5)), some (cI G (a 6) 15 (r 6)), some (cI G (a 7) 15 (r 7)), some (cI G (a 8) 15 (r 8)), some (oX1 (a 9) (nI mf) (a 10) (a 11) (a 12) (a 13) (a 14)), some (cI G (a 10) 40 (r 10)), some (cI G (a 11) 40 (r 11)), some (cI G (a 12) 40 (r 12)), some (cI G (a 13) 40 (r 13)), some (cI G (a 14) 40 (r 14)), some (oX4 (a 15) (a 16) (a 17)), some (cI G (a 16) 60 (r 16)), some (cI G (a 17) 4 (r 17)), some (cI G (a 18) 8192 (r 18)), some (oX0 (a 19) (nI cs) mu mn (a 20)), some (cI G (a 20) 14 (r 20)), some (oX2 (a 21) la (nI fq) (a 22)), some (cI G (a 22) 200 (r 22)), some (oX3 (a 23) (nI rq) (a 24)), some (cI G (a 24) 14 (r 24))] [a 0, a 1, a 2, a 3, a 4, a 5, a 6, a 7, a 8, a 9, a 10, a 11, a 12, a 13, a 14, a 15, a 16, a 17, a 18, a 19, a 20, a 21, a 22, a 23, a 24] rfl (by decide) (by decide) rfl rfl rfl hl.1 rfl (Nat.le_of_ble_eq_true rfl) dX7_feature_44 ⟨Nat.zero_le _, Nat.zero_le _⟩ (fun _ => rfl) (fun _ => rfl) rfl (fun _ => rfl) rfl (fun _ => rfl) (fun _ H locs _ hP hD hS => ?_)
          refine lv_aload_n hx hb dX7_feature_47 rfl (lv_at hl 0 rfl) ?_
          refine va_get (D := G.1) (ci := 9) (v := .ref (a 2)) (C := RX7) (T := TX7) (N := 7) hx hb hts iX7_feature_X7 hown hK hP 0 rfl rfl 1 (by decide) (hts _ fX7_feature_1) (fun _ h9 => h9) rfl dX7_feature_48 ?_
          refine lv_iload_n hx hb dX7_feature_51 rfl (lv_at hl 1 rfl) ?_
          refine stI (y := nI x.toNatClampNeg) (htk.1) ?_
          refine lv_iload_n hx hb dX7_feature_52 rfl (lv_at hl 2 rfl) ?_
          refine cnV (nw := 25) (ci := 7) (T0 := TX5) (N := 8) (As := [.int (nI x.toNatClampNeg), .int k]) (rest := []) ⟨hx, hb, hml, hown, hts⟩ (c_X5_add l G (a 2) n (a 3) (a 4) (a 5) (a 6) (a 7) (a 8) bd (r 3) (r 4) (r 5) (r 6) x.toNatClampNeg k (hn14) (by omega)) (cwV 2 hts gX7_feature_X5_add rfl rfl rfl ⟨rfl, hd_X5_add⟩ ⟨Nat.le_of_ble_eq_true rfl, Nat.le_of_ble_eq_true rfl⟩) hKK hP hD hS [2, 3, 4, 5, 6] [0, 1, 7, 8, 9, 10, 11, 12, 13, 14, 15, 16, 17, 18, 19, 20, 21, 22, 23, 24] (fun _ => [(oX7 (a 0) (a 1) (a 2) (a 9) (a 15) (a 19) (a 21) (a 23)), (oX6 (a 1) (a 2) (a 9) (a 15) (a 18) (nI zN) 0), (oX5 (a 2) (nI (n + 1)) (a 3) (a 4) (a 5) (a 6) (a 7) (a 8) bd), (cI G (a 3) 15 (upd (r 3) (n + 1) k)), (cI G (a 4) 15 (if n = 0 then upd (r 4) (n + 1) 0 else upd (r 4) (n + 1) ((r 4) x.toNatClampNeg + 1))), (cI G (a 5) 15 (upd (r 5) (n + 1) (bitI (nI x.toNatClampNeg)))), (cI G (a 6) 15 (if k = 2 then upd (r 6) x.toNatClampNeg ((r 6) x.toNatClampNeg ||| bitI (nI (n + 1))) else (r 6))), (cI G (a 7) 15 (r 7)), (cI G (a 8) 15 (r 8)), (oX1 (a 9) (nI mf) (a 10) (a 11) (a 12) (a 13) (a 14)), (cI G (a 10) 40 (r 10)), (cI G (a 11) 40 (r 11)), (cI G (a 12) 40 (r 12)), (cI G (a 13) 40 (r 13)), (cI G (a 14) 40 (r 14)), (oX4 (a 15) (a 16) (a 17)), (cI G (a 16) 60 (r 16)), (cI G (a 17) 4 (r 17)), (cI G (a 18) 8192 (r 18)), (oX0 (a 19) (nI cs) mu mn (a 20)), (cI G (a 20) 14 (r 20)), (oX2 (a 21) la (nI fq) (a 22)), (cI G (a 22) 200 (r 22)), (oX3 (a 23) (nI rq) (a 24)), (cI G (a 24) 14 (r 24))]) [some (oX7 (a 0) (a 1) (a 2) (a 9) (a 15) (a 19) (a 21) (a 23)), some (oX6 (a 1) (a 2) (a 9) (a 15) (a 18) (nI zN) 0), some (cI G (a 7) 15 (r 7)), some (cI G (a 8) 15 (r 8)), some (oX1 (a 9) (nI mf) (a 10) (a 11) (a 12) (a 13) (a 14)), some (cI G (a 10) 40 (r 10)), some (cI G (a 11) 40 (r 11)), some (cI G (a 12) 40 (r 12)), some (cI G (a 13) 40 (r 13)), some (cI G (a 14) 40 (r 14)), some (oX4 (a 15) (a 16) (a 17)), some (cI G (a 16) 60 (r 16)), some (cI G (a 17) 4 (r 17)), some (cI G (a 18) 8192 (r 18)), some (oX0 (a 19) (nI cs) mu mn (a 20)), some (cI G (a 20) 14 (r 20)), some (oX2 (a 21) la (nI fq) (a 22)), some (cI G (a 22) 200 (r 22)), some (oX3 (a 23) (nI rq) (a 24)), some (cI G (a 24) 14 (r 24))] [a 0, a 1, a 2, a 3, a 4, a 5, a 6, a 7, a 8, a 9, a 10, a 11, a 12, a 13, a 14, a 15, a 16, a 17, a 18, a 19, a 20, a 21, a 22, a 23, a 24] rfl (by decide) (by decide) rfl rfl rfl hl.1 rfl (Nat.le_of_ble_eq_true rfl) dX7_feature_53 ⟨Nat.zero_le _, Nat.zero_le _⟩ (fun _ => rfl) (fun _ => rfl) rfl (fun _ => rfl) rfl (fun _ => rfl) (fun _ H locs _ hP hD hS => ?_)
          exact greti hx hb hr hlocks rfl hAe hS (⟨nI (n + 1), (n + 1, mf, bd, zN, false, cs, mu, mn, la, fq, rq, upR (upR (upR (upR r 3 (upd (r 3) (n + 1) k)) 4 (if n = 0 then upd (r 4) (n + 1) 0 else upd (r 4) (n + 1) (r 4 x.toNatClampNeg + 1))) 5 (upd (r 5) (n + 1) (bitI (nI x.toNatClampNeg)))) 6 (if k = 2 then upd (r 6) x.toNatClampNeg (r 6 x.toNatClampNeg ||| bitI (nI (n + 1))) else r 6))⟩) (rfl) (by unfold cFeature; rw [if_pos (bI_n0 c_8), if_neg c_14, if_pos c_19, if_pos c_34]) (hP) dX7_feature_56
        · skip
          refine lv_bipush (v := -4) hx hb dX7_feature_37 (by decide) ?_
          exact greti hx hb hr hlocks rfl hAe hS (⟨-4, (n, mf, bd, zN, ub, cs, mu, mn, la, fq, rq, r)⟩) (rfl) (by unfold cFeature; rw [if_pos (bI_n0 c_8), if_neg c_14, if_pos c_19, if_neg c_34]) (hP) dX7_feature_39
      · skip
        refine lv_bipush (v := -2) hx hb dX7_feature_22 (by decide) ?_
        exact greti hx hb hr hlocks rfl hAe hS (⟨-2, (n, mf, bd, zN, ub, cs, mu, mn, la, fq, rq, r)⟩) (rfl) (by unfold cFeature; rw [if_pos (bI_n0 c_8), if_neg c_14, if_neg c_19]) (hP) dX7_feature_24
  · skip
    refine lv_iconst (v := -1) hx hb dX7_feature_11 (by decide) ?_
    exact greti hx hb hr hlocks rfl hAe hS (⟨-1, (n, mf, bd, zN, ub, cs, mu, mn, la, fq, rq, r)⟩) (rfl) (by unfold cFeature; rw [if_neg (by rw [bI_0.mp c_8]; decide)]) (hP) dX7_feature_12

theorem iX7_group_X7 : ∀ w ∈ u_ws RX7 TX7 7, w ∈ wsX7_group := by decide +kernel
theorem fX7_group_1 : Cond.fieldLink RX7 20 "FeatureSolve" "tree" "LFeatureSolve$Tree;" ∈ wsX7_group := by decide +kernel
theorem fX7_group_2 : Cond.fieldLink RX7 10 "FeatureSolve" "variants" "LFeatureSolve$Variants;" ∈ wsX7_group := by decide +kernel
theorem hd_X5_bound : yX5_bound.cls ≠ "java/lang/invoke/MethodHandle" ∧ yX5_bound.cls ≠ "java/lang/invoke/VarHandle" ∧ (parseMethodDescriptor yX5_bound.desc).map (fun d => d.parameters.length) = some 3 := by decide +kernel
set_option maxHeartbeats 4000000 in
set_option maxRecDepth 100000 in
/-- group -/
theorem c_X7_group (l : Launch) (G : GG) (a : Nat → Nat) (n mf : Nat) (bd : Int32) (zN : Nat) (ub : Bool) (cs : Nat) (mu mn la : Int32) (fq rq : Nat) (r : Nat → Nat → Int32) (x lo hi : Int32) (hn : n ≤ 14) : Met l yX7_group wsX7_group (rmK 2) (va_Pc [.ref (a 0), .int x, .int lo, .int hi] (PM G [(oX7 (a 0) (a 1) (a 2) (a 9) (a 15) (a 19) (a 21) (a 23)), (oX6 (a 1) (a 2) (a 9) (a 15) (a 18) (nI zN) (bI ub)), (oX5 (a 2) (nI n) (a 3) (a 4) (a 5) (a 6) (a 7) (a 8) bd), (cI G (a 3) 15 (r 3)), (cI G (a 4) 15 (r 4)), (cI G (a 5) 15 (r 5)), (cI G (a 6) 15 (r 6)), (cI G (a 7) 15 (r 7)), (cI G (a 8) 15 (r 8)), (oX1 (a 9) (nI mf) (a 10) (a 11) (a 12) (a 13) (a 14)), (cI G (a 10) 40 (r 10)), (cI G (a 11) 40 (r 11)), (cI G (a 12) 40 (r 12)), (cI G (a 13) 40 (r 13)), (cI G (a 14) 40 (r 14)), (oX4 (a 15) (a 16) (a 17)), (cI G (a 16) 60 (r 16)), (cI G (a 17) 4 (r 17)), (cI G (a 18) 8192 (r 18)), (oX0 (a 19) (nI cs) mu mn (a 20)), (cI G (a 20) 14 (r 20)), (oX2 (a 21) la (nI fq) (a 22)), (cI G (a 22) 200 (r 22)), (oX3 (a 23) (nI rq) (a 24)), (cI G (a 24) 14 (r 24))])) (QG (S := Int32 × CS) G [(oX7 (a 0) (a 1) (a 2) (a 9) (a 15) (a 19) (a 21) (a 23)), (oX6 (a 1) (a 2) (a 9) (a 15) (a 18) (nI zN) (bI ub)), (oX5 (a 2) (nI n) (a 3) (a 4) (a 5) (a 6) (a 7) (a 8) bd), (cI G (a 3) 15 (r 3)), (cI G (a 4) 15 (r 4)), (cI G (a 5) 15 (r 5)), (cI G (a 6) 15 (r 6)), (cI G (a 7) 15 (r 7)), (cI G (a 8) 15 (r 8)), (oX1 (a 9) (nI mf) (a 10) (a 11) (a 12) (a 13) (a 14)), (cI G (a 10) 40 (r 10)), (cI G (a 11) 40 (r 11)), (cI G (a 12) 40 (r 12)), (cI G (a 13) 40 (r 13)), (cI G (a 14) 40 (r 14)), (oX4 (a 15) (a 16) (a 17)), (cI G (a 16) 60 (r 16)), (cI G (a 17) 4 (r 17)), (cI G (a 18) 8192 (r 18)), (oX0 (a 19) (nI cs) mu mn (a 20)), (cI G (a 20) 14 (r 20)), (oX2 (a 21) la (nI fq) (a 22)), (cI G (a 22) 200 (r 22)), (oX3 (a 23) (nI rq) (a 24)), (cI G (a 24) 14 (r 24))] (fun u => u = cGroup n mf bd zN ub cs mu mn la fq rq r x lo hi) (fun u => some (.int u.1)) (fun u => cW G a u.2)) 0 0 (adr [(oX7 (a 0) (a 1) (a 2) (a 9) (a 15) (a 19) (a 21) (a 23)), (oX6 (a 1) (a 2) (a 9) (a 15) (a 18) (nI zN) (bI ub)), (oX5 (a 2) (nI n) (a 3) (a 4) (a 5) (a 6) (a 7) (a 8) bd), (cI G (a 3) 15 (r 3)), (cI G (a 4) 15 (r 4)), (cI G (a 5) 15 (r 5)), (cI G (a 6) 15 (r 6)), (cI G (a 7) 15 (r 7)), (cI G (a 8) 15 (r 8)), (oX1 (a 9) (nI mf) (a 10) (a 11) (a 12) (a 13) (a 14)), (cI G (a 10) 40 (r 10)), (cI G (a 11) 40 (r 11)), (cI G (a 12) 40 (r 12)), (cI G (a 13) 40 (r 13)), (cI G (a 14) 40 (r 14)), (oX4 (a 15) (a 16) (a 17)), (cI G (a 16) 60 (r 16)), (cI G (a 17) 4 (r 17)), (cI G (a 18) 8192 (r 18)), (oX0 (a 19) (nI cs) mu mn (a 20)), (cI G (a 20) 14 (r 20)), (oX2 (a 21) la (nI fq) (a 22)), (cI G (a 22) 200 (r 22)), (oX3 (a 23) (nI rq) (a 24)), (cI G (a 24) 14 (r 24))]) := by
  refine Met.ofW (cc := cX7_group) (maxL := 4) (ret := (some .int)) (by decide) rfl ?_
  intro p e s m args below meth c s₁ B hml hv
  obtain ⟨rfl, hP, hD0, hKK⟩ := hv
  have hx := B.exec
  have hb := B.bytes
  have hr := B.returns
  have hts := atoms_spec (ws := wsX7_group) B.pre
  have hown : s.vm.findClass RX7 = some m.cls := findClass_of_methodNamed B.named
  have hlocks := B.notSynchronized
  have hK := hKK.1
  generalize hAe : adr [(oX7 (a 0) (a 1) (a 2) (a 9) (a 15) (a 19) (a 21) (a 23)), (oX6 (a 1) (a 2) (a 9) (a 15) (a 18) (nI zN) (bI ub)), (oX5 (a 2) (nI n) (a 3) (a 4) (a 5) (a 6) (a 7) (a 8) bd), (cI G (a 3) 15 (r 3)), (cI G (a 4) 15 (r 4)), (cI G (a 5) 15 (r 5)), (cI G (a 6) 15 (r 6)), (cI G (a 7) 15 (r 7)), (cI G (a 8) 15 (r 8)), (oX1 (a 9) (nI mf) (a 10) (a 11) (a 12) (a 13) (a 14)), (cI G (a 10) 40 (r 10)), (cI G (a 11) 40 (r 11)), (cI G (a 12) 40 (r 12)), (cI G (a 13) 40 (r 13)), (cI G (a 14) 40 (r 14)), (oX4 (a 15) (a 16) (a 17)), (cI G (a 16) 60 (r 16)), (cI G (a 17) 4 (r 17)), (cI G (a 18) 8192 (r 18)), (oX0 (a 19) (nI cs) mu mn (a 20)), (cI G (a 20) 14 (r 20)), (oX2 (a 21) la (nI fq) (a 22)), (cI G (a 22) 200 (r 22)), (oX3 (a 23) (nI rq) (a 24)), (cI G (a 24) 14 (r 24))] = A
  have hD : va_D A [(oX7 (a 0) (a 1) (a 2) (a 9) (a 15) (a 19) (a 21) (a 23)), (oX6 (a 1) (a 2) (a 9) (a 15) (a 18) (nI zN) (bI ub)), (oX5 (a 2) (nI n) (a 3) (a 4) (a 5) (a 6) (a 7) (a 8) bd), (cI G (a 3) 15 (r 3)), (cI G (a 4) 15 (r 4)), (cI G (a 5) 15 (r 5)), (cI G (a 6) 15 (r 6)), (cI G (a 7) 15 (r 7)), (cI G (a 8) 15 (r 8)), (oX1 (a 9) (nI mf) (a 10) (a 11) (a 12) (a 13) (a 14)), (cI G (a 10) 40 (r 10)), (cI G (a 11) 40 (r 11)), (cI G (a 12) 40 (r 12)), (cI G (a 13) 40 (r 13)), (cI G (a 14) 40 (r 14)), (oX4 (a 15) (a 16) (a 17)), (cI G (a 16) 60 (r 16)), (cI G (a 17) 4 (r 17)), (cI G (a 18) 8192 (r 18)), (oX0 (a 19) (nI cs) mu mn (a 20)), (cI G (a 20) 14 (r 20)), (oX2 (a 21) la (nI fq) (a 22)), (cI G (a 22) 200 (r 22)), (oX3 (a 23) (nI rq) (a 24)), (cI G (a 24) 14 (r 24))] := by rw [← hAe]; exact hD0.own
  have hS : va_S A s.heap s.heap [] := va_S.rf
  have hP : va_P G.1 vwCl [(oX7 (a 0) (a 1) (a 2) (a 9) (a 15) (a 19) (a 21) (a 23)), (oX6 (a 1) (a 2) (a 9) (a 15) (a 18) (nI zN) (bI ub)), (oX5 (a 2) (nI n) (a 3) (a 4) (a 5) (a 6) (a 7) (a 8) bd), (cI G (a 3) 15 (r 3)), (cI G (a 4) 15 (r 4)), (cI G (a 5) 15 (r 5)), (cI G (a 6) 15 (r 6)), (cI G (a 7) 15 (r 7)), (cI G (a 8) 15 (r 8)), (oX1 (a 9) (nI mf) (a 10) (a 11) (a 12) (a 13) (a 14)), (cI G (a 10) 40 (r 10)), (cI G (a 11) 40 (r 11)), (cI G (a 12) 40 (r 12)), (cI G (a 13) 40 (r 13)), (cI G (a 14) 40 (r 14)), (oX4 (a 15) (a 16) (a 17)), (cI G (a 16) 60 (r 16)), (cI G (a 17) 4 (r 17)), (cI G (a 18) 8192 (r 18)), (oX0 (a 19) (nI cs) mu mn (a 20)), (cI G (a 20) 14 (r 20)), (oX2 (a 21) la (nI fq) (a 22)), (cI G (a 22) 200 (r 22)), (oX3 (a 23) (nI rq) (a 24)), (cI G (a 24) 14 (r 24))] s.heap := hP
  have hl := lv_entry ([.ref (a 0), .int x, .int lo, .int hi]) (n := 4) (Nat.le_of_ble_eq_true rfl)
  rw [lg_entry_eq]
  generalize (lg_sl ([.ref (a 0), .int x, .int lo, .int hi]) ++ List.replicate (4 - (lg_sl ([.ref (a 0), .int x, .int lo, .int hi])).length) Slot.unset).toArray = ls at hl ⊢
  have hl : lv_has ls 4 [(0, .ref (a 0)), (1, .int x), (2, .int lo), (3, .int hi)] := hl
  refine lv_aload_n hx hb dX7_group_0 rfl (lv_at hl 0 rfl) ?_
  refine va_get (D := G.1) (ci := 9) (v := .ref (a 2)) (C := RX7) (T := TX7) (N := 7) hx hb hts iX7_group_X7 hown hK hP 0 rfl rfl 1 (by decide) (hts _ fX7_group_1) (fun _ h9 => h9) rfl dX7_group_1 ?_
  refine lv_iload_n hx hb dX7_group_4 rfl (lv_at hl 1 rfl) ?_
  refine cpV (ci := 7) (T0 := TX5) (N := 8) (As := [.int x]) (rest := []) ⟨hx, hb, hml, hown, hts⟩ (c_X5_has l G (a 2) (nI n) (a 3) (a 4) (a 5) (a 6) (a 7) (a 8) bd x) (cwV 1 hts gX7_group_X5_has rfl rfl rfl ⟨rfl, hd_X5_has⟩ ⟨Nat.le_of_ble_eq_true rfl, Nat.le_of_ble_eq_true rfl⟩) hKK hP [2] rfl rfl rfl rfl hl.1 rfl (Nat.le_of_ble_eq_true rfl) dX7_group_5 ⟨Nat.zero_le _, Nat.zero_le _⟩ ?_
  refine lv_if_ne (tgt := 13) hx hb dX7_group_8 (by decide) (fun c_8 => ?_) (fun c_8 => ?_)
  · skip
    have hfx := has_nat hn (bI_n0 c_8)
    refine lv_iload_n hx hb dX7_group_13 rfl (lv_at hl 2 rfl) ?_
    refine lv_if_lt (tgt := 28) hx hb dX7_group_14 (by decide) (fun c_14 => ?_) (fun c_14 => ?_)
    · skip
      refine lv_bipush (v := -2) hx hb dX7_group_28 (by decide) ?_
      exact greti hx hb hr hlocks rfl hAe hS (⟨-2, (n, mf, bd, zN, ub, cs, mu, mn, la, fq, rq, r)⟩) (rfl) (by unfold cGroup; rw [if_pos (bI_n0 c_8), if_pos c_14]) (hP) dX7_group_30
    · skip
      refine lv_iload_n hx hb dX7_group_17 rfl (lv_at hl 2 rfl) ?_
      refine lv_iload_n hx hb dX7_group_18 rfl (lv_at hl 3 rfl) ?_
      refine lv_icmp_gt (tgt := 28) hx hb dX7_group_19 (by decide) (fun c_19 => ?_) (fun c_19 => ?_)
      · skip
        refine lv_bipush (v := -2) hx hb dX7_group_28 (by decide) ?_
        exact greti hx hb hr hlocks rfl hAe hS (⟨-2, (n, mf, bd, zN, ub, cs, mu, mn, la, fq, rq, r)⟩) (rfl) (by unfold cGroup; rw [if_pos (bI_n0 c_8), if_neg c_14, if_pos c_19]) (hP) dX7_group_30
      · skip
        refine lv_iload_n hx hb dX7_group_22 rfl (lv_at hl 3 rfl) ?_
        refine lv_bipush (v := 14) hx hb dX7_group_23 (by decide) ?_
        refine lv_icmp_le (tgt := 31) hx hb dX7_group_25 (by decide) (fun c_25 => ?_) (fun c_25 => ?_)
        · skip
          refine lv_aload_n hx hb dX7_group_31 rfl (lv_at hl 0 rfl) ?_
          refine va_get (D := G.1) (ci := 9) (v := .ref (a 1)) (C := RX7) (T := TX7) (N := 7) hx hb hts iX7_group_X7 hown hK hP 0 rfl rfl 0 (by decide) (hts _ fX7_group_2) (fun _ h9 => h9) rfl dX7_group_32 ?_
          refine cnV (nw := 25) (ci := 8) (T0 := TX6) (N := 6) (As := []) (rest := []) ⟨hx, hb, hml, hown, hts⟩ (c_X6_outdate l G (a 1) (a 2) (a 9) (a 15) (a 18) (nI zN) (bI ub)) (cwV 0 hts gX7_group_X6_outdate rfl rfl rfl ⟨rfl, hd_X6_outdate⟩ ⟨Nat.le_of_ble_eq_true rfl, Nat.le_of_ble_eq_true rfl⟩) hKK hP hD hS [1] [0, 2, 3, 4, 5, 6, 7, 8, 9, 10, 11, 12, 13, 14, 15, 16, 17, 18, 19, 20, 21, 22, 23, 24] (fun _ => [(oX7 (a 0) (a 1) (a 2) (a 9) (a 15) (a 19) (a 21) (a 23)), (oX6 (a 1) (a 2) (a 9) (a 15) (a 18) (nI zN) 0), (oX5 (a 2) (nI n) (a 3) (a 4) (a 5) (a 6) (a 7) (a 8) bd), (cI G (a 3) 15 (r 3)), (cI G (a 4) 15 (r 4)), (cI G (a 5) 15 (r 5)), (cI G (a 6) 15 (r 6)), (cI G (a 7) 15 (r 7)), (cI G (a 8) 15 (r 8)), (oX1 (a 9) (nI mf) (a 10) (a 11) (a 12) (a 13) (a 14)), (cI G (a 10) 40 (r 10)), (cI G (a 11) 40 (r 11)), (cI G (a 12) 40 (r 12)), (cI G (a 13) 40 (r 13)), (cI G (a 14) 40 (r 14)), (oX4 (a 15) (a 16) (a 17)), (cI G (a 16) 60 (r 16)), (cI G (a 17) 4 (r 17)), (cI G (a 18) 8192 (r 18)), (oX0 (a 19) (nI cs) mu mn (a 20)), (cI G (a 20) 14 (r 20)), (oX2 (a 21) la (nI fq) (a 22)), (cI G (a 22) 200 (r 22)), (oX3 (a 23) (nI rq) (a 24)), (cI G (a 24) 14 (r 24))]) [some (oX7 (a 0) (a 1) (a 2) (a 9) (a 15) (a 19) (a 21) (a 23)), some (oX5 (a 2) (nI n) (a 3) (a 4) (a 5) (a 6) (a 7) (a 8) bd), some (cI G (a 3) 15 (r 3)), some (cI G (a 4) 15 (r 4)), some (cI G (a 5) 15 (r 5)), some (cI G (a 6) 15 (r 6)), some (cI G (a 7) 15 (r 7)), some (cI G (a 8) 15 (r 8)), some (oX1 (a 9) (nI mf) (a 10) (a 11) (a 12) (a 13) (a 14)), some (cI G (a 10) 40 (r 10)), some (cI G (a 11) 40 (r 11)), some (cI G (a 12) 40 (r 12)), some (cI G (a 13) 40 (r 13)), some (cI G (a 14) 40 (r 14)), some (oX4 (a 15) (a 16) (a 17)), some (cI G (a 16) 60 (r 16)), some (cI G (a 17) 4 (r 17)), some (cI G (a 18) 8192 (r 18)), some (oX0 (a 19) (nI cs) mu mn (a 20)), some (cI G (a 20) 14 (r 20)), some (oX2 (a 21) la (nI fq) (a 22)), some (cI G (a 22) 200 (r 22)), some (oX3 (a 23) (nI rq) (a 24)), some (cI G (a 24) 14 (r 24))] [a 0, a 1, a 2, a 3, a 4, a 5, a 6, a 7, a 8, a 9, a 10, a 11, a 12, a 13, a 14, a 15, a 16, a 17, a 18, a 19, a 20, a 21, a 22, a 23, a 24] rfl (by decide) (by decide) rfl rfl rfl hl.1 rfl (Nat.le_of_ble_eq_true rfl) dX7_group_35 ⟨Nat.zero_le _, Nat.zero_le _⟩ (fun _ => rfl) (fun _ => rfl) rfl (fun _ => rfl) rfl (fun _ => rfl) (fun _ H locs _ hP hD hS => ?_)
          refine lv_aload_n hx hb dX7_group_38 rfl (lv_at hl 0 rfl) ?_
          refine va_get (D := G.1) (ci := 9) (v := .ref (a 2)) (C := RX7) (T := TX7) (N := 7) hx hb hts iX7_group_X7 hown hK hP 0 rfl rfl 1 (by decide) (hts _ fX7_group_1) (fun _ h9 => h9) rfl dX7_group_39 ?_
          refine lv_iload_n hx hb dX7_group_42 rfl (lv_at hl 1 rfl) ?_
          refine stI (y := nI x.toNatClampNeg) (hfx.1) ?_
          refine lv_iload_n hx hb dX7_group_43 rfl (lv_at hl 2 rfl) ?_
          refine lv_iload_n hx hb dX7_group_44 rfl (lv_at hl 3 rfl) ?_
          refine cnV (nw := 25) (ci := 7) (T0 := TX5) (N := 8) (As := [.int (nI x.toNatClampNeg), .int lo, .int hi]) (rest := []) ⟨hx, hb, hml, hown, hts⟩ (c_X5_bound l G (a 2) (nI n) (a 3) (a 4) (a 5) (a 6) (a 7) (a 8) bd (r 6) (r 7) (r 8) x.toNatClampNeg lo hi (by omega)) (cwV 3 hts gX7_group_X5_bound rfl rfl rfl ⟨rfl, hd_X5_bound⟩ ⟨Nat.le_of_ble_eq_true rfl, Nat.le_of_ble_eq_true rfl⟩) hKK hP hD hS [2, 6, 7, 8] [0, 1, 3, 4, 5, 9, 10, 11, 12, 13, 14, 15, 16, 17, 18, 19, 20, 21, 22, 23, 24] (fun _ => [(oX7 (a 0) (a 1) (a 2) (a 9) (a 15) (a 19) (a 21) (a 23)), (oX6 (a 1) (a 2) (a 9) (a 15) (a 18) (nI zN) 0), (oX5 (a 2) (nI n) (a 3) (a 4) (a 5) (a 6) (a 7) (a 8) (bd ||| bitI (nI x.toNatClampNeg))), (cI G (a 3) 15 (r 3)), (cI G (a 4) 15 (r 4)), (cI G (a 5) 15 (r 5)), (cI G (a 6) 15 (r 6)), (cI G (a 7) 15 (upd (r 7) x.toNatClampNeg lo)), (cI G (a 8) 15 (upd (r 8) x.toNatClampNeg hi)), (oX1 (a 9) (nI mf) (a 10) (a 11) (a 12) (a 13) (a 14)), (cI G (a 10) 40 (r 10)), (cI G (a 11) 40 (r 11)), (cI G (a 12) 40 (r 12)), (cI G (a 13) 40 (r 13)), (cI G (a 14) 40 (r 14)), (oX4 (a 15) (a 16) (a 17)), (cI G (a 16) 60 (r 16)), (cI G (a 17) 4 (r 17)), (cI G (a 18) 8192 (r 18)), (oX0 (a 19) (nI cs) mu mn (a 20)), (cI G (a 20) 14 (r 20)), (oX2 (a 21) la (nI fq) (a 22)), (cI G (a 22) 200 (r 22)), (oX3 (a 23) (nI rq) (a 24)), (cI G (a 24) 14 (r 24))]) [some (oX7 (a 0) (a 1) (a 2) (a 9) (a 15) (a 19) (a 21) (a 23)), some (oX6 (a 1) (a 2) (a 9) (a 15) (a 18) (nI zN) 0), some (cI G (a 3) 15 (r 3)), some (cI G (a 4) 15 (r 4)), some (cI G (a 5) 15 (r 5)), some (oX1 (a 9) (nI mf) (a 10) (a 11) (a 12) (a 13) (a 14)), some (cI G (a 10) 40 (r 10)), some (cI G (a 11) 40 (r 11)), some (cI G (a 12) 40 (r 12)), some (cI G (a 13) 40 (r 13)), some (cI G (a 14) 40 (r 14)), some (oX4 (a 15) (a 16) (a 17)), some (cI G (a 16) 60 (r 16)), some (cI G (a 17) 4 (r 17)), some (cI G (a 18) 8192 (r 18)), some (oX0 (a 19) (nI cs) mu mn (a 20)), some (cI G (a 20) 14 (r 20)), some (oX2 (a 21) la (nI fq) (a 22)), some (cI G (a 22) 200 (r 22)), some (oX3 (a 23) (nI rq) (a 24)), some (cI G (a 24) 14 (r 24))] [a 0, a 1, a 2, a 3, a 4, a 5, a 6, a 7, a 8, a 9, a 10, a 11, a 12, a 13, a 14, a 15, a 16, a 17, a 18, a 19, a 20, a 21, a 22, a 23, a 24] rfl (by decide) (by decide) rfl rfl rfl hl.1 rfl (Nat.le_of_ble_eq_true rfl) dX7_group_45 ⟨Nat.zero_le _, Nat.zero_le _⟩ (fun _ => rfl) (fun _ => rfl) rfl (fun _ => rfl) rfl (fun _ => rfl) (fun _ H locs _ hP hD hS => ?_)
          exact greti hx hb hr hlocks rfl hAe hS (⟨bcI (r 6 x.toNatClampNeg), (n, mf, bd ||| bitI (nI x.toNatClampNeg), zN, false, cs, mu, mn, la, fq, rq, upR (upR r 7 (upd (r 7) x.toNatClampNeg lo)) 8 (upd (r 8) x.toNatClampNeg hi))⟩) (rfl) (by unfold cGroup; rw [if_pos (bI_n0 c_8), if_neg c_14, if_neg c_19, if_pos c_25]) (hP) dX7_group_48
        · skip
          refine lv_bipush (v := -2) hx hb dX7_group_28 (by decide) ?_
          exact greti hx hb hr hlocks rfl hAe hS (⟨-2, (n, mf, bd, zN, ub, cs, mu, mn, la, fq, rq, r)⟩) (rfl) (by unfold cGroup; rw [if_pos (bI_n0 c_8), if_neg c_14, if_neg c_19, if_neg c_25]) (hP) dX7_group_30
  · skip
    refine lv_iconst (v := -1) hx hb dX7_group_11 (by decide) ?_
    exact greti hx hb hr hlocks rfl hAe hS (⟨-1, (n, mf, bd, zN, ub, cs, mu, mn, la, fq, rq, r)⟩) (rfl) (by unfold cGroup; rw [if_neg (by rw [bI_0.mp c_8]; decide)]) (hP) dX7_group_12

theorem iX7_formula_X7 : ∀ w ∈ u_ws RX7 TX7 7, w ∈ wsX7_formula := by decide +kernel
theorem fX7_formula_1 : Cond.fieldLink RX7 20 "FeatureSolve" "tree" "LFeatureSolve$Tree;" ∈ wsX7_formula := by decide +kernel
theorem hd_X5_hasSigned : yX5_hasSigned.cls ≠ "java/lang/invoke/MethodHandle" ∧ yX5_hasSigned.cls ≠ "java/lang/invoke/VarHandle" ∧ (parseMethodDescriptor yX5_hasSigned.desc).map (fun d => d.parameters.length) = some 1 := by decide +kernel
theorem fX7_formula_2 : Cond.fieldLink RX7 25 "FeatureSolve" "formulas" "LFeatureSolve$Formulas;" ∈ wsX7_formula := by decide +kernel
theorem iX7_formula_X1 : ∀ w ∈ u_ws RX1 TX1 6, w ∈ wsX7_formula := by decide +kernel
theorem fX7_formula_4 : Cond.fieldLink RX7 79 "FeatureSolve$Formulas" "size" "I" ∈ wsX7_formula := by decide +kernel
theorem hd_X1_isAlwaysTrue : yX1_isAlwaysTrue.cls ≠ "java/lang/invoke/MethodHandle" ∧ yX1_isAlwaysTrue.cls ≠ "java/lang/invoke/VarHandle" ∧ (parseMethodDescriptor yX1_isAlwaysTrue.desc).map (fun d => d.parameters.length) = some 3 := by decide +kernel
theorem fX7_formula_5 : Cond.fieldLink RX7 10 "FeatureSolve" "variants" "LFeatureSolve$Variants;" ∈ wsX7_formula := by decide +kernel
theorem hd_X1_add : yX1_add.cls ≠ "java/lang/invoke/MethodHandle" ∧ yX1_add.cls ≠ "java/lang/invoke/VarHandle" ∧ (parseMethodDescriptor yX1_add.desc).map (fun d => d.parameters.length) = some 3 := by decide +kernel
set_option maxHeartbeats 4000000 in
set_option maxRecDepth 100000 in
/-- formula -/
theorem c_X7_formula (l : Launch) (G : GG) (a : Nat → Nat) (n mf : Nat) (bd : Int32) (zN : Nat) (ub : Bool) (cs : Nat) (mu mn la : Int32) (fq rq : Nat) (r : Nat → Nat → Int32) (o x y : Int32) (hn : n ≤ 14) (hm : mf ≤ 40) : Met l yX7_formula wsX7_formula (rmK 4) (va_Pc [.ref (a 0), .int o, .int x, .int y] (PM G [(oX7 (a 0) (a 1) (a 2) (a 9) (a 15) (a 19) (a 21) (a 23)), (oX6 (a 1) (a 2) (a 9) (a 15) (a 18) (nI zN) (bI ub)), (oX5 (a 2) (nI n) (a 3) (a 4) (a 5) (a 6) (a 7) (a 8) bd), (cI G (a 3) 15 (r 3)), (cI G (a 4) 15 (r 4)), (cI G (a 5) 15 (r 5)), (cI G (a 6) 15 (r 6)), (cI G (a 7) 15 (r 7)), (cI G (a 8) 15 (r 8)), (oX1 (a 9) (nI mf) (a 10) (a 11) (a 12) (a 13) (a 14)), (cI G (a 10) 40 (r 10)), (cI G (a 11) 40 (r 11)), (cI G (a 12) 40 (r 12)), (cI G (a 13) 40 (r 13)), (cI G (a 14) 40 (r 14)), (oX4 (a 15) (a 16) (a 17)), (cI G (a 16) 60 (r 16)), (cI G (a 17) 4 (r 17)), (cI G (a 18) 8192 (r 18)), (oX0 (a 19) (nI cs) mu mn (a 20)), (cI G (a 20) 14 (r 20)), (oX2 (a 21) la (nI fq) (a 22)), (cI G (a 22) 200 (r 22)), (oX3 (a 23) (nI rq) (a 24)), (cI G (a 24) 14 (r 24))])) (QG (S := Int32 × CS) G [(oX7 (a 0) (a 1) (a 2) (a 9) (a 15) (a 19) (a 21) (a 23)), (oX6 (a 1) (a 2) (a 9) (a 15) (a 18) (nI zN) (bI ub)), (oX5 (a 2) (nI n) (a 3) (a 4) (a 5) (a 6) (a 7) (a 8) bd), (cI G (a 3) 15 (r 3)), (cI G (a 4) 15 (r 4)), (cI G (a 5) 15 (r 5)), (cI G (a 6) 15 (r 6)), (cI G (a 7) 15 (r 7)), (cI G (a 8) 15 (r 8)), (oX1 (a 9) (nI mf) (a 10) (a 11) (a 12) (a 13) (a 14)), (cI G (a 10) 40 (r 10)), (cI G (a 11) 40 (r 11)), (cI G (a 12) 40 (r 12)), (cI G (a 13) 40 (r 13)), (cI G (a 14) 40 (r 14)), (oX4 (a 15) (a 16) (a 17)), (cI G (a 16) 60 (r 16)), (cI G (a 17) 4 (r 17)), (cI G (a 18) 8192 (r 18)), (oX0 (a 19) (nI cs) mu mn (a 20)), (cI G (a 20) 14 (r 20)), (oX2 (a 21) la (nI fq) (a 22)), (cI G (a 22) 200 (r 22)), (oX3 (a 23) (nI rq) (a 24)), (cI G (a 24) 14 (r 24))] (fun u => u = cFormula n mf bd zN ub cs mu mn la fq rq r o x y) (fun u => some (.int u.1)) (fun u => cW G a u.2)) 0 0 (adr [(oX7 (a 0) (a 1) (a 2) (a 9) (a 15) (a 19) (a 21) (a 23)), (oX6 (a 1) (a 2) (a 9) (a 15) (a 18) (nI zN) (bI ub)), (oX5 (a 2) (nI n) (a 3) (a 4) (a 5) (a 6) (a 7) (a 8) bd), (cI G (a 3) 15 (r 3)), (cI G (a 4) 15 (r 4)), (cI G (a 5) 15 (r 5)), (cI G (a 6) 15 (r 6)), (cI G (a 7) 15 (r 7)), (cI G (a 8) 15 (r 8)), (oX1 (a 9) (nI mf) (a 10) (a 11) (a 12) (a 13) (a 14)), (cI G (a 10) 40 (r 10)), (cI G (a 11) 40 (r 11)), (cI G (a 12) 40 (r 12)), (cI G (a 13) 40 (r 13)), (cI G (a 14) 40 (r 14)), (oX4 (a 15) (a 16) (a 17)), (cI G (a 16) 60 (r 16)), (cI G (a 17) 4 (r 17)), (cI G (a 18) 8192 (r 18)), (oX0 (a 19) (nI cs) mu mn (a 20)), (cI G (a 20) 14 (r 20)), (oX2 (a 21) la (nI fq) (a 22)), (cI G (a 22) 200 (r 22)), (oX3 (a 23) (nI rq) (a 24)), (cI G (a 24) 14 (r 24))]) := by
  refine Met.ofW (cc := cX7_formula) (maxL := 4) (ret := (some .int)) (by decide) rfl ?_
  intro p e s m args below meth c s₁ B hml hv
  obtain ⟨rfl, hP, hD0, hKK⟩ := hv
  have hx := B.exec
  have hb := B.bytes
  have hr := B.returns
  have hts := atoms_spec (ws := wsX7_formula) B.pre
  have hown : s.vm.findClass RX7 = some m.cls := findClass_of_methodNamed B.named
  have hlocks := B.notSynchronized
  have hK := hKK.1
  generalize hAe : adr [(oX7 (a 0) (a 1) (a 2) (a 9) (a 15) (a 19) (a 21) (a 23)), (oX6 (a 1) (a 2) (a 9) (a 15) (a 18) (nI zN) (bI ub)), (oX5 (a 2) (nI n) (a 3) (a 4) (a 5) (a 6) (a 7) (a 8) bd), (cI G (a 3) 15 (r 3)), (cI G (a 4) 15 (r 4)), (cI G (a 5) 15 (r 5)), (cI G (a 6) 15 (r 6)), (cI G (a 7) 15 (r 7)), (cI G (a 8) 15 (r 8)), (oX1 (a 9) (nI mf) (a 10) (a 11) (a 12) (a 13) (a 14)), (cI G (a 10) 40 (r 10)), (cI G (a 11) 40 (r 11)), (cI G (a 12) 40 (r 12)), (cI G (a 13) 40 (r 13)), (cI G (a 14) 40 (r 14)), (oX4 (a 15) (a 16) (a 17)), (cI G (a 16) 60 (r 16)), (cI G (a 17) 4 (r 17)), (cI G (a 18) 8192 (r 18)), (oX0 (a 19) (nI cs) mu mn (a 20)), (cI G (a 20) 14 (r 20)), (oX2 (a 21) la (nI fq) (a 22)), (cI G (a 22) 200 (r 22)), (oX3 (a 23) (nI rq) (a 24)), (cI G (a 24) 14 (r 24))] = A
  have hD : va_D A [(oX7 (a 0) (a 1) (a 2) (a 9) (a 15) (a 19) (a 21) (a 23)), (oX6 (a 1) (a 2) (a 9) (a 15) (a 18) (nI zN) (bI ub)), (oX5 (a 2) (nI n) (a 3) (a 4) (a 5) (a 6) (a 7) (a 8) bd), (cI G (a 3) 15 (r 3)), (cI G (a 4) 15 (r 4)), (cI G (a 5) 15 (r 5)), (cI G (a 6) 15 (r 6)), (cI G (a 7) 15 (r 7)), (cI G (a 8) 15 (r 8)), (oX1 (a 9) (nI mf) (a 10) (a 11) (a 12) (a 13) (a 14)), (cI G (a 10) 40 (r 10)), (cI G (a 11) 40 (r 11)), (cI G (a 12) 40 (r 12)), (cI G (a 13) 40 (r 13)), (cI G (a 14) 40 (r 14)), (oX4 (a 15) (a 16) (a 17)), (cI G (a 16) 60 (r 16)), (cI G (a 17) 4 (r 17)), (cI G (a 18) 8192 (r 18)), (oX0 (a 19) (nI cs) mu mn (a 20)), (cI G (a 20) 14 (r 20)), (oX2 (a 21) la (nI fq) (a 22)), (cI G (a 22) 200 (r 22)), (oX3 (a 23) (nI rq) (a 24)), (cI G (a 24) 14 (r 24))] := by rw [← hAe]; exact hD0.own
  have hS : va_S A s.heap s.heap [] := va_S.rf
  have hP : va_P G.1 vwCl [(oX7 (a 0) (a 1) (a 2) (a 9) (a 15) (a 19) (a 21) (a 23)), (oX6 (a 1) (a 2) (a 9) (a 15) (a 18) (nI zN) (bI ub)), (oX5 (a 2) (nI n) (a 3) (a 4) (a 5) (a 6) (a 7) (a 8) bd), (cI G (a 3) 15 (r 3)), (cI G (a 4) 15 (r 4)), (cI G (a 5) 15 (r 5)), (cI G (a 6) 15 (r 6)), (cI G (a 7) 15 (r 7)), (cI G (a 8) 15 (r 8)), (oX1 (a 9) (nI mf) (a 10) (a 11) (a 12) (a 13) (a 14)), (cI G (a 10) 40 (r 10)), (cI G (a 11) 40 (r 11)), (cI G (a 12) 40 (r 12)), (cI G (a 13) 40 (r 13)), (cI G (a 14) 40 (r 14)), (oX4 (a 15) (a 16) (a 17)), (cI G (a 16) 60 (r 16)), (cI G (a 17) 4 (r 17)), (cI G (a 18) 8192 (r 18)), (oX0 (a 19) (nI cs) mu mn (a 20)), (cI G (a 20) 14 (r 20)), (oX2 (a 21) la (nI fq) (a 22)), (cI G (a 22) 200 (r 22)), (oX3 (a 23) (nI rq) (a 24)), (cI G (a 24) 14 (r 24))] s.heap := hP
  have hl := lv_entry ([.ref (a 0), .int o, .int x, .int y]) (n := 4) (Nat.le_of_ble_eq_true rfl)
  rw [lg_entry_eq]
  generalize (lg_sl ([.ref (a 0), .int o, .int x, .int y]) ++ List.replicate (4 - (lg_sl ([.ref (a 0), .int o, .int x, .int y])).length) Slot.unset).toArray = ls at hl ⊢
  have hl : lv_has ls 4 [(0, .ref (a 0)), (1, .int o), (2, .int x), (3, .int y)] := hl
  refine lv_aload_n hx hb dX7_formula_0 rfl (lv_at hl 0 rfl) ?_
  refine va_get (D := G.1) (ci := 9) (v := .ref (a 2)) (C := RX7) (T := TX7) (N := 7) hx hb hts iX7_formula_X7 hown hK hP 0 rfl rfl 1 (by decide) (hts _ fX7_formula_1) (fun _ h9 => h9) rfl dX7_formula_1 ?_
  refine lv_iload_n hx hb dX7_formula_4 rfl (lv_at hl 2 rfl) ?_
  refine cpV (ci := 7) (T0 := TX5) (N := 8) (As := [.int x]) (rest := []) ⟨hx, hb, hml, hown, hts⟩ (c_X5_hasSigned l G (a 2) (nI n) (a 3) (a 4) (a 5) (a 6) (a 7) (a 8) bd x) (cwV 1 hts gX7_formula_X5_hasSigned rfl rfl rfl ⟨rfl, hd_X5_hasSigned⟩ ⟨Nat.le_of_ble_eq_true rfl, Nat.le_of_ble_eq_true rfl⟩) hKK hP [2] rfl rfl rfl rfl hl.1 rfl (Nat.le_of_ble_eq_true rfl) dX7_formula_5 ⟨Nat.zero_le _, Nat.zero_le _⟩ ?_
  refine lv_if_eq (tgt := 22) hx hb dX7_formula_8 (by decide) (fun c_8 => ?_) (fun c_8 => ?_)
  · skip
    refine lv_iconst (v := -1) hx hb dX7_formula_22 (by decide) ?_
    exact greti hx hb hr hlocks rfl hAe hS (⟨-1, (n, mf, bd, zN, ub, cs, mu, mn, la, fq, rq, r)⟩) (rfl) (by unfold cFormula; rw [if_neg (by rw [bI_0.mp c_8]; decide)]) (hP) dX7_formula_23
  · skip
    refine lv_aload_n hx hb dX7_formula_11 rfl (lv_at hl 0 rfl) ?_
    refine va_get (D := G.1) (ci := 9) (v := .ref (a 2)) (C := RX7) (T := TX7) (N := 7) hx hb hts iX7_formula_X7 hown hK hP 0 rfl rfl 1 (by decide) (hts _ fX7_formula_1) (fun _ h9 => h9) rfl dX7_formula_12 ?_
    refine lv_iload_n hx hb dX7_formula_15 rfl (lv_at hl 3 rfl) ?_
    refine cpV (ci := 7) (T0 := TX5) (N := 8) (As := [.int y]) (rest := []) ⟨hx, hb, hml, hown, hts⟩ (c_X5_hasSigned l G (a 2) (nI n) (a 3) (a 4) (a 5) (a 6) (a 7) (a 8) bd y) (cwV 1 hts gX7_formula_X5_hasSigned rfl rfl rfl ⟨rfl, hd_X5_hasSigned⟩ ⟨Nat.le_of_ble_eq_true rfl, Nat.le_of_ble_eq_true rfl⟩) hKK hP [2] rfl rfl rfl rfl hl.1 rfl (Nat.le_of_ble_eq_true rfl) dX7_formula_16 ⟨Nat.zero_le _, Nat.zero_le _⟩ ?_
    refine lv_if_ne (tgt := 24) hx hb dX7_formula_19 (by decide) (fun c_19 => ?_) (fun c_19 => ?_)
    · skip
      refine lv_iload_n hx hb dX7_formula_24 rfl (lv_at hl 1 rfl) ?_
      refine lv_if_lt (tgt := 33) hx hb dX7_formula_25 (by decide) (fun c_25 => ?_) (fun c_25 => ?_)
      · skip
        refine lv_bipush (v := -2) hx hb dX7_formula_33 (by decide) ?_
        exact greti hx hb hr hlocks rfl hAe hS (⟨-2, (n, mf, bd, zN, ub, cs, mu, mn, la, fq, rq, r)⟩) (rfl) (by unfold cFormula; rw [if_pos (bI_n0 c_8), if_pos (bI_n0 c_19), if_pos c_25]) (hP) dX7_formula_35
      · skip
        refine lv_iload_n hx hb dX7_formula_28 rfl (lv_at hl 1 rfl) ?_
        refine lv_iconst (v := 3) hx hb dX7_formula_29 (by decide) ?_
        refine lv_icmp_le (tgt := 36) hx hb dX7_formula_30 (by decide) (fun c_30 => ?_) (fun c_30 => ?_)
        · skip
          refine lv_aload_n hx hb dX7_formula_36 rfl (lv_at hl 0 rfl) ?_
          refine va_get (D := G.1) (ci := 9) (v := .ref (a 9)) (C := RX7) (T := TX7) (N := 7) hx hb hts iX7_formula_X7 hown hK hP 0 rfl rfl 2 (by decide) (hts _ fX7_formula_2) (fun _ h9 => h9) rfl dX7_formula_37 ?_
          refine va_get (D := G.1) (ci := 3) (v := .int (nI mf)) (C := RX1) (T := TX1) (N := 6) hx hb hts iX7_formula_X1 hown hK hP 9 rfl rfl 0 (by decide) (hts _ fX7_formula_4) (fun _ h9 => h9) rfl dX7_formula_40 ?_
          refine lv_bipush (v := 40) hx hb dX7_formula_43 (by decide) ?_
          refine lv_icmp_lt (tgt := 51) hx hb dX7_formula_45 (by decide) (fun c_45 => ?_) (fun c_45 => ?_)
          · skip
            have hm40 : mf < 40 := (nI_ltI (a := mf) (b := 40) (by omega) (by decide)).mp c_45
            refine lv_iload_n hx hb dX7_formula_51 rfl (lv_at hl 1 rfl) ?_
            refine lv_iload_n hx hb dX7_formula_52 rfl (lv_at hl 2 rfl) ?_
            refine lv_iload_n hx hb dX7_formula_53 rfl (lv_at hl 3 rfl) ?_
            refine cpS (As := [.int o, .int x, .int y]) (rest := []) ⟨hx, hb, hml, hown, hts⟩ (c_X1_isAlwaysTrue l G o x y) (va_cwS 3 hts gX7_formula_X1_isAlwaysTrue rfl rfl rfl hd_X1_isAlwaysTrue ⟨Nat.le_of_ble_eq_true rfl, Nat.le_of_ble_eq_true rfl⟩) hKK hP [] rfl rfl hl.1 rfl (Nat.le_of_ble_eq_true rfl) dX7_formula_54 ⟨Nat.zero_le _, Nat.zero_le _⟩ ?_
            refine lv_if_eq (tgt := 62) hx hb dX7_formula_57 (by decide) (fun c_57 => ?_) (fun c_57 => ?_)
            · skip
              refine lv_aload_n hx hb dX7_formula_62 rfl (lv_at hl 0 rfl) ?_
              refine va_get (D := G.1) (ci := 9) (v := .ref (a 1)) (C := RX7) (T := TX7) (N := 7) hx hb hts iX7_formula_X7 hown hK hP 0 rfl rfl 0 (by decide) (hts _ fX7_formula_5) (fun _ h9 => h9) rfl dX7_formula_63 ?_
              refine cnV (nw := 25) (ci := 8) (T0 := TX6) (N := 6) (As := []) (rest := []) ⟨hx, hb, hml, hown, hts⟩ (c_X6_outdate l G (a 1) (a 2) (a 9) (a 15) (a 18) (nI zN) (bI ub)) (cwV 0 hts gX7_formula_X6_outdate rfl rfl rfl ⟨rfl, hd_X6_outdate⟩ ⟨Nat.le_of_ble_eq_true rfl, Nat.le_of_ble_eq_true rfl⟩) hKK hP hD hS [1] [0, 2, 3, 4, 5, 6, 7, 8, 9, 10, 11, 12, 13, 14, 15, 16, 17, 18, 19, 20, 21, 22, 23, 24] (fun _ => [(oX7 (a 0) (a 1) (a 2) (a 9) (a 15) (a 19) (a 21) (a 23)), (oX6 (a 1) (a 2) (a 9) (a 15) (a 18) (nI zN) 0), (oX5 (a 2) (nI n) (a 3) (a 4) (a 5) (a 6) (a 7) (a 8) bd), (cI G (a 3) 15 (r 3)), (cI G (a 4) 15 (r 4)), (cI G (a 5) 15 (r 5)), (cI G (a 6) 15 (r 6)), (cI G (a 7) 15 (r 7)), (cI G (a 8) 15 (r 8)), (oX1 (a 9) (nI mf) (a 10) (a 11) (a 12) (a 13) (a 14)), (cI G (a 10) 40 (r 10)), (cI G (a 11) 40 (r 11)), (cI G (a 12) 40 (r 12)), (cI G (a 13) 40 (r 13)), (cI G (a 14) 40 (r 14)), (oX4 (a 15) (a 16) (a 17)), (cI G (a 16) 60 (r 16)), (cI G (a 17) 4 (r 17)), (cI G (a 18) 8192 (r 18)), (oX0 (a 19) (nI cs) mu mn (a 20)), (cI G (a 20) 14 (r 20)), (oX2 (a 21) la (nI fq) (a 22)), (cI G (a 22) 200 (r 22)), (oX3 (a 23) (nI rq) (a 24)), (cI G (a 24) 14 (r 24))]) [some (oX7 (a 0) (a 1) (a 2) (a 9) (a 15) (a 19) (a 21) (a 23)), some (oX5 (a 2) (nI n) (a 3) (a 4) (a 5) (a 6) (a 7) (a 8) bd), some (cI G (a 3) 15 (r 3)), some (cI G (a 4) 15 (r 4)), some (cI G (a 5) 15 (r 5)), some (cI G (a 6) 15 (r 6)), some (cI G (a 7) 15 (r 7)), some (cI G (a 8) 15 (r 8)), some (oX1 (a 9) (nI mf) (a 10) (a 11) (a 12) (a 13) (a 14)), some (cI G (a 10) 40 (r 10)), some (cI G (a 11) 40 (r 11)), some (cI G (a 12) 40 (r 12)), some (cI G (a 13) 40 (r 13)), some (cI G (a 14) 40 (r 14)), some (oX4 (a 15) (a 16) (a 17)), some (cI G (a 16) 60 (r 16)), some (cI G (a 17) 4 (r 17)), some (cI G (a 18) 8192 (r 18)), some (oX0 (a 19) (nI cs) mu mn (a 20)), some (cI G (a 20) 14 (r 20)), some (oX2 (a 21) la (nI fq) (a 22)), some (cI G (a 22) 200 (r 22)), some (oX3 (a 23) (nI rq) (a 24)), some (cI G (a 24) 14 (r 24))] [a 0, a 1, a 2, a 3, a 4, a 5, a 6, a 7, a 8, a 9, a 10, a 11, a 12, a 13, a 14, a 15, a 16, a 17, a 18, a 19, a 20, a 21, a 22, a 23, a 24] rfl (by decide) (by decide) rfl rfl rfl hl.1 rfl (Nat.le_of_ble_eq_true rfl) dX7_formula_66 ⟨Nat.zero_le _, Nat.zero_le _⟩ (fun _ => rfl) (fun _ => rfl) rfl (fun _ => rfl) rfl (fun _ => rfl) (fun _ H locs _ hP hD hS => ?_)
              refine lv_aload_n hx hb dX7_formula_69 rfl (lv_at hl 0 rfl) ?_
              refine va_get (D := G.1) (ci := 9) (v := .ref (a 9)) (C := RX7) (T := TX7) (N := 7) hx hb hts iX7_formula_X7 hown hK hP 0 rfl rfl 2 (by decide) (hts _ fX7_formula_2) (fun _ h9 => h9) rfl dX7_formula_70 ?_
              refine lv_iload_n hx hb dX7_formula_73 rfl (lv_at hl 1 rfl) ?_
              refine lv_iload_n hx hb dX7_formula_74 rfl (lv_at hl 2 rfl) ?_
              refine lv_iload_n hx hb dX7_formula_75 rfl (lv_at hl 3 rfl) ?_
              refine cnV (nw := 25) (ci := 3) (T0 := TX1) (N := 6) (As := [.int o, .int x, .int y]) (rest := []) ⟨hx, hb, hml, hown, hts⟩ (c_X1_add l G (a 9) mf (a 10) (a 11) (a 12) (a 13) (a 14) (r 10) (r 11) (r 12) (r 13) (r 14) o x y (hm40)) (cwV 3 hts gX7_formula_X1_add rfl rfl rfl ⟨rfl, hd_X1_add⟩ ⟨Nat.le_of_ble_eq_true rfl, Nat.le_of_ble_eq_true rfl⟩) hKK hP hD hS [9, 10, 11, 12, 13, 14] [0, 1, 2, 3, 4, 5, 6, 7, 8, 15, 16, 17, 18, 19, 20, 21, 22, 23, 24] (fun _ => [(oX7 (a 0) (a 1) (a 2) (a 9) (a 15) (a 19) (a 21) (a 23)), (oX6 (a 1) (a 2) (a 9) (a 15) (a 18) (nI zN) 0), (oX5 (a 2) (nI n) (a 3) (a 4) (a 5) (a 6) (a 7) (a 8) bd), (cI G (a 3) 15 (r 3)), (cI G (a 4) 15 (r 4)), (cI G (a 5) 15 (r 5)), (cI G (a 6) 15 (r 6)), (cI G (a 7) 15 (r 7)), (cI G (a 8) 15 (r 8)), (oX1 (a 9) (nI (mf + 1)) (a 10) (a 11) (a 12) (a 13) (a 14)), (cI G (a 10) 40 (upd (r 10) mf o)), (cI G (a 11) 40 (upd (r 11) mf (bitOfI x))), (cI G (a 12) 40 (upd (r 12) mf (bitI x))), (cI G (a 13) 40 (upd (r 13) mf (bitOfI y))), (cI G (a 14) 40 (upd (r 14) mf (bitI y))), (oX4 (a 15) (a 16) (a 17)), (cI G (a 16) 60 (r 16)), (cI G (a 17) 4 (r 17)), (cI G (a 18) 8192 (r 18)), (oX0 (a 19) (nI cs) mu mn (a 20)), (cI G (a 20) 14 (r 20)), (oX2 (a 21) la (nI fq) (a 22)), (cI G (a 22) 200 (r 22)), (oX3 (a 23) (nI rq) (a 24)), (cI G (a 24) 14 (r 24))]) [some (oX7 (a 0) (a 1) (a 2) (a 9) (a 15) (a 19) (a 21) (a 23)), some (oX6 (a 1) (a 2) (a 9) (a 15) (a 18) (nI zN) 0), some (oX5 (a 2) (nI n) (a 3) (a 4) (a 5) (a 6) (a 7) (a 8) bd), some (cI G (a 3) 15 (r 3)), some (cI G (a 4) 15 (r 4)), some (cI G (a 5) 15 (r 5)), some (cI G (a 6) 15 (r 6)), some (cI G (a 7) 15 (r 7)), some (cI G (a 8) 15 (r 8)), some (oX4 (a 15) (a 16) (a 17)), some (cI G (a 16) 60 (r 16)), some (cI G (a 17) 4 (r 17)), some (cI G (a 18) 8192 (r 18)), some (oX0 (a 19) (nI cs) mu mn (a 20)), some (cI G (a 20) 14 (r 20)), some (oX2 (a 21) la (nI fq) (a 22)), some (cI G (a 22) 200 (r 22)), some (oX3 (a 23) (nI rq) (a 24)), some (cI G (a 24) 14 (r 24))] [a 0, a 1, a 2, a 3, a 4, a 5, a 6, a 7, a 8, a 9, a 10, a 11, a 12, a 13, a 14, a 15, a 16, a 17, a 18, a 19, a 20, a 21, a 22, a 23, a 24] rfl (by decide) (by decide) rfl rfl rfl hl.1 rfl (Nat.le_of_ble_eq_true rfl) dX7_formula_76 ⟨Nat.zero_le _, Nat.zero_le _⟩ (fun _ => rfl) (fun _ => rfl) rfl (fun _ => rfl) rfl (fun _ => rfl) (fun _ H locs _ hP hD hS => ?_)
              exact greti hx hb hr hlocks rfl hAe hS (⟨nI (mf + 1), (n, mf + 1, bd, zN, false, cs, mu, mn, la, fq, rq, upR (upR (upR (upR (upR r 10 (upd (r 10) mf o)) 11 (upd (r 11) mf (bitOfI x))) 12 (upd (r 12) mf (bitI x))) 13 (upd (r 13) mf (bitOfI y))) 14 (upd (r 14) mf (bitI y)))⟩) (rfl) (by unfold cFormula; rw [if_pos (bI_n0 c_8), if_pos (bI_n0 c_19), if_neg c_25, if_pos c_30, if_pos c_45, if_neg (by rw [bI_0.mp c_57]; decide)]) (hP) dX7_formula_79
            · skip
              refine lv_iconst (v := 0) hx hb dX7_formula_60 (by decide) ?_
              exact greti hx hb hr hlocks rfl hAe hS (⟨0, (n, mf, bd, zN, ub, cs, mu, mn, la, fq, rq, r)⟩) (rfl) (by unfold cFormula; rw [if_pos (bI_n0 c_8), if_pos (bI_n0 c_19), if_neg c_25, if_pos c_30, if_pos c_45, if_pos (bI_n0 c_57)]) (hP) dX7_formula_61
          · skip
            refine lv_bipush (v := -4) hx hb dX7_formula_48 (by decide) ?_
            exact greti hx hb hr hlocks rfl hAe hS (⟨-4, (n, mf, bd, zN, ub, cs, mu, mn, la, fq, rq, r)⟩) (rfl) (by unfold cFormula; rw [if_pos (bI_n0 c_8), if_pos (bI_n0 c_19), if_neg c_25, if_pos c_30, if_neg c_45]) (hP) dX7_formula_50
        · skip
          refine lv_bipush (v := -2) hx hb dX7_formula_33 (by decide) ?_
          exact greti hx hb hr hlocks rfl hAe hS (⟨-2, (n, mf, bd, zN, ub, cs, mu, mn, la, fq, rq, r)⟩) (rfl) (by unfold cFormula; rw [if_pos (bI_n0 c_8), if_pos (bI_n0 c_19), if_neg c_25, if_neg c_30]) (hP) dX7_formula_35
    · skip
      refine lv_iconst (v := -1) hx hb dX7_formula_22 (by decide) ?_
      exact greti hx hb hr hlocks rfl hAe hS (⟨-1, (n, mf, bd, zN, ub, cs, mu, mn, la, fq, rq, r)⟩) (rfl) (by unfold cFormula; rw [if_pos (bI_n0 c_8), if_neg (by rw [bI_0.mp c_19]; decide)]) (hP) dX7_formula_23

theorem iX7_attribute_X7 : ∀ w ∈ u_ws RX7 TX7 7, w ∈ wsX7_attribute := by decide +kernel
theorem fX7_attribute_1 : Cond.fieldLink RX7 20 "FeatureSolve" "tree" "LFeatureSolve$Tree;" ∈ wsX7_attribute := by decide +kernel
theorem fX7_attribute_2 : Cond.fieldLink RX7 10 "FeatureSolve" "variants" "LFeatureSolve$Variants;" ∈ wsX7_attribute := by decide +kernel
theorem fX7_attribute_3 : Cond.fieldLink RX7 30 "FeatureSolve" "sums" "LFeatureSolve$Sums;" ∈ wsX7_attribute := by decide +kernel
theorem hd_X4_set : yX4_set.cls ≠ "java/lang/invoke/MethodHandle" ∧ yX4_set.cls ≠ "java/lang/invoke/VarHandle" ∧ (parseMethodDescriptor yX4_set.desc).map (fun d => d.parameters.length) = some 3 := by decide +kernel
theorem hd_X4_limit : yX4_limit.cls ≠ "java/lang/invoke/MethodHandle" ∧ yX4_limit.cls ≠ "java/lang/invoke/VarHandle" ∧ (parseMethodDescriptor yX4_limit.desc).map (fun d => d.parameters.length) = some 2 := by decide +kernel
set_option maxHeartbeats 4000000 in
set_option maxRecDepth 100000 in
/-- attribute -/
theorem c_X7_attribute (l : Launch) (G : GG) (a : Nat → Nat) (n mf : Nat) (bd : Int32) (zN : Nat) (ub : Bool) (cs : Nat) (mu mn la : Int32) (fq rq : Nat) (r : Nat → Nat → Int32) (x wh v : Int32) (hn : n ≤ 14) : Met l yX7_attribute wsX7_attribute (rmK 2) (va_Pc [.ref (a 0), .int x, .int wh, .int v] (PM G [(oX7 (a 0) (a 1) (a 2) (a 9) (a 15) (a 19) (a 21) (a 23)), (oX6 (a 1) (a 2) (a 9) (a 15) (a 18) (nI zN) (bI ub)), (oX5 (a 2) (nI n) (a 3) (a 4) (a 5) (a 6) (a 7) (a 8) bd), (cI G (a 3) 15 (r 3)), (cI G (a 4) 15 (r 4)), (cI G (a 5) 15 (r 5)), (cI G (a 6) 15 (r 6)), (cI G (a 7) 15 (r 7)), (cI G (a 8) 15 (r 8)), (oX1 (a 9) (nI mf) (a 10) (a 11) (a 12) (a 13) (a 14)), (cI G (a 10) 40 (r 10)), (cI G (a 11) 40 (r 11)), (cI G (a 12) 40 (r 12)), (cI G (a 13) 40 (r 13)), (cI G (a 14) 40 (r 14)), (oX4 (a 15) (a 16) (a 17)), (cI G (a 16) 60 (r 16)), (cI G (a 17) 4 (r 17)), (cI G (a 18) 8192 (r 18)), (oX0 (a 19) (nI cs) mu mn (a 20)), (cI G (a 20) 14 (r 20)), (oX2 (a 21) la (nI fq) (a 22)), (cI G (a 22) 200 (r 22)), (oX3 (a 23) (nI rq) (a 24)), (cI G (a 24) 14 (r 24))])) (QG (S := Int32 × CS) G [(oX7 (a 0) (a 1) (a 2) (a 9) (a 15) (a 19) (a 21) (a 23)), (oX6 (a 1) (a 2) (a 9) (a 15) (a 18) (nI zN) (bI ub)), (oX5 (a 2) (nI n) (a 3) (a 4) (a 5) (a 6) (a 7) (a 8) bd), (cI G (a 3) 15 (r 3)), (cI G (a 4) 15 (r 4)), (cI G (a 5) 15 (r 5)), (cI G (a 6) 15 (r 6)), (cI G (a 7) 15 (r 7)), (cI G (a 8) 15 (r 8)), (oX1 (a 9) (nI mf) (a 10) (a 11) (a 12) (a 13) (a 14)), (cI G (a 10) 40 (r 10)), (cI G (a 11) 40 (r 11)), (cI G (a 12) 40 (r 12)), (cI G (a 13) 40 (r 13)), (cI G (a 14) 40 (r 14)), (oX4 (a 15) (a 16) (a 17)), (cI G (a 16) 60 (r 16)), (cI G (a 17) 4 (r 17)), (cI G (a 18) 8192 (r 18)), (oX0 (a 19) (nI cs) mu mn (a 20)), (cI G (a 20) 14 (r 20)), (oX2 (a 21) la (nI fq) (a 22)), (cI G (a 22) 200 (r 22)), (oX3 (a 23) (nI rq) (a 24)), (cI G (a 24) 14 (r 24))] (fun u => u = cAttribute n mf bd zN ub cs mu mn la fq rq r x wh v) (fun u => some (.int u.1)) (fun u => cW G a u.2)) 0 0 (adr [(oX7 (a 0) (a 1) (a 2) (a 9) (a 15) (a 19) (a 21) (a 23)), (oX6 (a 1) (a 2) (a 9) (a 15) (a 18) (nI zN) (bI ub)), (oX5 (a 2) (nI n) (a 3) (a 4) (a 5) (a 6) (a 7) (a 8) bd), (cI G (a 3) 15 (r 3)), (cI G (a 4) 15 (r 4)), (cI G (a 5) 15 (r 5)), (cI G (a 6) 15 (r 6)), (cI G (a 7) 15 (r 7)), (cI G (a 8) 15 (r 8)), (oX1 (a 9) (nI mf) (a 10) (a 11) (a 12) (a 13) (a 14)), (cI G (a 10) 40 (r 10)), (cI G (a 11) 40 (r 11)), (cI G (a 12) 40 (r 12)), (cI G (a 13) 40 (r 13)), (cI G (a 14) 40 (r 14)), (oX4 (a 15) (a 16) (a 17)), (cI G (a 16) 60 (r 16)), (cI G (a 17) 4 (r 17)), (cI G (a 18) 8192 (r 18)), (oX0 (a 19) (nI cs) mu mn (a 20)), (cI G (a 20) 14 (r 20)), (oX2 (a 21) la (nI fq) (a 22)), (cI G (a 22) 200 (r 22)), (oX3 (a 23) (nI rq) (a 24)), (cI G (a 24) 14 (r 24))]) := by
  refine Met.ofW (cc := cX7_attribute) (maxL := 6) (ret := (some .int)) (by decide) rfl ?_
  intro p e s m args below meth c s₁ B hml hv
  obtain ⟨rfl, hP, hD0, hKK⟩ := hv
  have hx := B.exec
  have hb := B.bytes
  have hr := B.returns
  have hts := atoms_spec (ws := wsX7_attribute) B.pre
  have hown : s.vm.findClass RX7 = some m.cls := findClass_of_methodNamed B.named
  have hlocks := B.notSynchronized
  have hK := hKK.1
  generalize hAe : adr [(oX7 (a 0) (a 1) (a 2) (a 9) (a 15) (a 19) (a 21) (a 23)), (oX6 (a 1) (a 2) (a 9) (a 15) (a 18) (nI zN) (bI ub)), (oX5 (a 2) (nI n) (a 3) (a 4) (a 5) (a 6) (a 7) (a 8) bd), (cI G (a 3) 15 (r 3)), (cI G (a 4) 15 (r 4)), (cI G (a 5) 15 (r 5)), (cI G (a 6) 15 (r 6)), (cI G (a 7) 15 (r 7)), (cI G (a 8) 15 (r 8)), (oX1 (a 9) (nI mf) (a 10) (a 11) (a 12) (a 13) (a 14)), (cI G (a 10) 40 (r 10)), (cI G (a 11) 40 (r 11)), (cI G (a 12) 40 (r 12)), (cI G (a 13) 40 (r 13)), (cI G (a 14) 40 (r 14)), (oX4 (a 15) (a 16) (a 17)), (cI G (a 16) 60 (r 16)), (cI G (a 17) 4 (r 17)), (cI G (a 18) 8192 (r 18)), (oX0 (a 19) (nI cs) mu mn (a 20)), (cI G (a 20) 14 (r 20)), (oX2 (a 21) la (nI fq) (a 22)), (cI G (a 22) 200 (r 22)), (oX3 (a 23) (nI rq) (a 24)), (cI G (a 24) 14 (r 24))] = A
  have hD : va_D A [(oX7 (a 0) (a 1) (a 2) (a 9) (a 15) (a 19) (a 21) (a 23)), (oX6 (a 1) (a 2) (a 9) (a 15) (a 18) (nI zN) (bI ub)), (oX5 (a 2) (nI n) (a 3) (a 4) (a 5) (a 6) (a 7) (a 8) bd), (cI G (a 3) 15 (r 3)), (cI G (a 4) 15 (r 4)), (cI G (a 5) 15 (r 5)), (cI G (a 6) 15 (r 6)), (cI G (a 7) 15 (r 7)), (cI G (a 8) 15 (r 8)), (oX1 (a 9) (nI mf) (a 10) (a 11) (a 12) (a 13) (a 14)), (cI G (a 10) 40 (r 10)), (cI G (a 11) 40 (r 11)), (cI G (a 12) 40 (r 12)), (cI G (a 13) 40 (r 13)), (cI G (a 14) 40 (r 14)), (oX4 (a 15) (a 16) (a 17)), (cI G (a 16) 60 (r 16)), (cI G (a 17) 4 (r 17)), (cI G (a 18) 8192 (r 18)), (oX0 (a 19) (nI cs) mu mn (a 20)), (cI G (a 20) 14 (r 20)), (oX2 (a 21) la (nI fq) (a 22)), (cI G (a 22) 200 (r 22)), (oX3 (a 23) (nI rq) (a 24)), (cI G (a 24) 14 (r 24))] := by rw [← hAe]; exact hD0.own
  have hS : va_S A s.heap s.heap [] := va_S.rf
  have hP : va_P G.1 vwCl [(oX7 (a 0) (a 1) (a 2) (a 9) (a 15) (a 19) (a 21) (a 23)), (oX6 (a 1) (a 2) (a 9) (a 15) (a 18) (nI zN) (bI ub)), (oX5 (a 2) (nI n) (a 3) (a 4) (a 5) (a 6) (a 7) (a 8) bd), (cI G (a 3) 15 (r 3)), (cI G (a 4) 15 (r 4)), (cI G (a 5) 15 (r 5)), (cI G (a 6) 15 (r 6)), (cI G (a 7) 15 (r 7)), (cI G (a 8) 15 (r 8)), (oX1 (a 9) (nI mf) (a 10) (a 11) (a 12) (a 13) (a 14)), (cI G (a 10) 40 (r 10)), (cI G (a 11) 40 (r 11)), (cI G (a 12) 40 (r 12)), (cI G (a 13) 40 (r 13)), (cI G (a 14) 40 (r 14)), (oX4 (a 15) (a 16) (a 17)), (cI G (a 16) 60 (r 16)), (cI G (a 17) 4 (r 17)), (cI G (a 18) 8192 (r 18)), (oX0 (a 19) (nI cs) mu mn (a 20)), (cI G (a 20) 14 (r 20)), (oX2 (a 21) la (nI fq) (a 22)), (cI G (a 22) 200 (r 22)), (oX3 (a 23) (nI rq) (a 24)), (cI G (a 24) 14 (r 24))] s.heap := hP
  have hl := lv_entry ([.ref (a 0), .int x, .int wh, .int v]) (n := 6) (Nat.le_of_ble_eq_true rfl)
  rw [lg_entry_eq]
  generalize (lg_sl ([.ref (a 0), .int x, .int wh, .int v]) ++ List.replicate (6 - (lg_sl ([.ref (a 0), .int x, .int wh, .int v])).length) Slot.unset).toArray = ls at hl ⊢
  have hl : lv_has ls 6 [(0, .ref (a 0)), (1, .int x), (2, .int wh), (3, .int v)] := hl
  refine lv_iload_n hx hb dX7_attribute_0 rfl (lv_at hl 1 rfl) ?_
  refine lv_if_ne (tgt := 8) hx hb dX7_attribute_1 (by decide) (fun c_1 => ?_) (fun c_1 => ?_)
  · skip
    refine lv_iconst (v := 0) hx hb dX7_attribute_8 (by decide) ?_
    refine lv_istore (lv' := [(4, .int 0), (0, .ref (a 0)), (1, .int x), (2, .int wh), (3, .int v)]) hx hb dX7_attribute_9 hl (by decide) rfl (fun ls hl => ?_)
    refine lv_iload hx hb dX7_attribute_11 (lv_at hl 0 rfl) ?_
    refine lv_if_ne (tgt := 29) hx hb dX7_attribute_13 (by decide) (fun c_13 => ?_) (fun c_13 => ?_)
    · exact absurd rfl c_13
    · skip
      refine lv_aload_n hx hb dX7_attribute_16 rfl (lv_at hl 1 rfl) ?_
      refine va_get (D := G.1) (ci := 9) (v := .ref (a 2)) (C := RX7) (T := TX7) (N := 7) hx hb hts iX7_attribute_X7 hown hK hP 0 rfl rfl 1 (by decide) (hts _ fX7_attribute_1) (fun _ h9 => h9) rfl dX7_attribute_17 ?_
      refine lv_iload_n hx hb dX7_attribute_20 rfl (lv_at hl 2 rfl) ?_
      refine cpV (ci := 7) (T0 := TX5) (N := 8) (As := [.int x]) (rest := []) ⟨hx, hb, hml, hown, hts⟩ (c_X5_has l G (a 2) (nI n) (a 3) (a 4) (a 5) (a 6) (a 7) (a 8) bd x) (cwV 1 hts gX7_attribute_X5_has rfl rfl rfl ⟨rfl, hd_X5_has⟩ ⟨Nat.le_of_ble_eq_true rfl, Nat.le_of_ble_eq_true rfl⟩) hKK hP [2] rfl rfl rfl rfl hl.1 rfl (Nat.le_of_ble_eq_true rfl) dX7_attribute_21 ⟨Nat.zero_le _, Nat.zero_le _⟩ ?_
      refine lv_if_ne (tgt := 29) hx hb dX7_attribute_24 (by decide) (fun c_24 => ?_) (fun c_24 => ?_)
      · skip
        have hfx := has_nat hn (bI_n0 c_24)
        refine lv_iload hx hb dX7_attribute_29 (lv_at hl 0 rfl) ?_
        refine lv_if_eq (tgt := 40) hx hb dX7_attribute_31 (by decide) (fun c_31 => ?_) (fun c_31 => ?_)
        · skip
          refine lv_sipush (v := 1000) hx hb dX7_attribute_40 (by decide) ?_
          refine lv_istore (lv' := [(5, .int 1000), (4, .int 0), (0, .ref (a 0)), (1, .int x), (2, .int wh), (3, .int v)]) hx hb dX7_attribute_43 hl (by decide) rfl (fun ls hl => ?_)
          refine lv_iload_n hx hb dX7_attribute_45 rfl (lv_at hl 4 rfl) ?_
          refine lv_if_lt (tgt := 67) hx hb dX7_attribute_46 (by decide) (fun c_46 => ?_) (fun c_46 => ?_)
          · skip
            refine lv_bipush (v := -2) hx hb dX7_attribute_67 (by decide) ?_
            exact greti hx hb hr hlocks rfl hAe hS (⟨-2, (n, mf, bd, zN, ub, cs, mu, mn, la, fq, rq, r)⟩) (rfl) (by unfold cAttribute; rw [if_neg c_1, if_pos (bI_n0 c_24), if_pos c_46]) (hP) dX7_attribute_69
          · skip
            refine lv_iload_n hx hb dX7_attribute_49 rfl (lv_at hl 4 rfl) ?_
            refine lv_iconst (v := 4) hx hb dX7_attribute_50 (by decide) ?_
            refine lv_icmp_ge (tgt := 67) hx hb dX7_attribute_51 (by decide) (fun c_51 => ?_) (fun c_51 => ?_)
            · skip
              refine lv_bipush (v := -2) hx hb dX7_attribute_67 (by decide) ?_
              exact greti hx hb hr hlocks rfl hAe hS (⟨-2, (n, mf, bd, zN, ub, cs, mu, mn, la, fq, rq, r)⟩) (rfl) (by unfold cAttribute; rw [if_neg c_1, if_pos (bI_n0 c_24), if_neg c_46, if_pos c_51]) (hP) dX7_attribute_69
            · skip
              have hwx := nat_lt (w := 4) (by decide) c_46 c_51
              refine lv_iload_n hx hb dX7_attribute_54 rfl (lv_at hl 5 rfl) ?_
              refine lv_iload hx hb dX7_attribute_55 (lv_at hl 0 rfl) ?_
              refine lv_ineg hx hb dX7_attribute_57 ?_
              refine lv_icmp_lt (tgt := 67) hx hb dX7_attribute_58 (by decide) (fun c_58 => ?_) (fun c_58 => ?_)
              · skip
                refine lv_bipush (v := -2) hx hb dX7_attribute_67 (by decide) ?_
                exact greti hx hb hr hlocks rfl hAe hS (⟨-2, (n, mf, bd, zN, ub, cs, mu, mn, la, fq, rq, r)⟩) (rfl) (by unfold cAttribute; rw [if_neg c_1, if_pos (bI_n0 c_24), if_neg c_46, if_neg c_51, if_pos c_58]) (hP) dX7_attribute_69
              · skip
                refine lv_iload_n hx hb dX7_attribute_61 rfl (lv_at hl 5 rfl) ?_
                refine lv_iload hx hb dX7_attribute_62 (lv_at hl 0 rfl) ?_
                refine lv_icmp_le (tgt := 70) hx hb dX7_attribute_64 (by decide) (fun c_64 => ?_) (fun c_64 => ?_)
                · skip
                  refine lv_aload_n hx hb dX7_attribute_70 rfl (lv_at hl 2 rfl) ?_
                  refine va_get (D := G.1) (ci := 9) (v := .ref (a 1)) (C := RX7) (T := TX7) (N := 7) hx hb hts iX7_attribute_X7 hown hK hP 0 rfl rfl 0 (by decide) (hts _ fX7_attribute_2) (fun _ h9 => h9) rfl dX7_attribute_71 ?_
                  refine cnV (nw := 25) (ci := 8) (T0 := TX6) (N := 6) (As := []) (rest := []) ⟨hx, hb, hml, hown, hts⟩ (c_X6_outdate l G (a 1) (a 2) (a 9) (a 15) (a 18) (nI zN) (bI ub)) (cwV 0 hts gX7_attribute_X6_outdate rfl rfl rfl ⟨rfl, hd_X6_outdate⟩ ⟨Nat.le_of_ble_eq_true rfl, Nat.le_of_ble_eq_true rfl⟩) hKK hP hD hS [1] [0, 2, 3, 4, 5, 6, 7, 8, 9, 10, 11, 12, 13, 14, 15, 16, 17, 18, 19, 20, 21, 22, 23, 24] (fun _ => [(oX7 (a 0) (a 1) (a 2) (a 9) (a 15) (a 19) (a 21) (a 23)), (oX6 (a 1) (a 2) (a 9) (a 15) (a 18) (nI zN) 0), (oX5 (a 2) (nI n) (a 3) (a 4) (a 5) (a 6) (a 7) (a 8) bd), (cI G (a 3) 15 (r 3)), (cI G (a 4) 15 (r 4)), (cI G (a 5) 15 (r 5)), (cI G (a 6) 15 (r 6)), (cI G (a 7) 15 (r 7)), (cI G (a 8) 15 (r 8)), (oX1 (a 9) (nI mf) (a 10) (a 11) (a 12) (a 13) (a 14)), (cI G (a 10) 40 (r 10)), (cI G (a 11) 40 (r 11)), (cI G (a 12) 40 (r 12)), (cI G (a 13) 40 (r 13)), (cI G (a 14) 40 (r 14)), (oX4 (a 15) (a 16) (a 17)), (cI G (a 16) 60 (r 16)), (cI G (a 17) 4 (r 17)), (cI G (a 18) 8192 (r 18)), (oX0 (a 19) (nI cs) mu mn (a 20)), (cI G (a 20) 14 (r 20)), (oX2 (a 21) la (nI fq) (a 22)), (cI G (a 22) 200 (r 22)), (oX3 (a 23) (nI rq) (a 24)), (cI G (a 24) 14 (r 24))]) [some (oX7 (a 0) (a 1) (a 2) (a 9) (a 15) (a 19) (a 21) (a 23)), some (oX5 (a 2) (nI n) (a 3) (a 4) (a 5) (a 6) (a 7) (a 8) bd), some (cI G (a 3) 15 (r 3)), some (cI G (a 4) 15 (r 4)), some (cI G (a 5) 15 (r 5)), some (cI G (a 6) 15 (r 6)), some (cI G (a 7) 15 (r 7)), some (cI G (a 8) 15 (r 8)), some (oX1 (a 9) (nI mf) (a 10) (a 11) (a 12) (a 13) (a 14)), some (cI G (a 10) 40 (r 10)), some (cI G (a 11) 40 (r 11)), some (cI G (a 12) 40 (r 12)), some (cI G (a 13) 40 (r 13)), some (cI G (a 14) 40 (r 14)), some (oX4 (a 15) (a 16) (a 17)), some (cI G (a 16) 60 (r 16)), some (cI G (a 17) 4 (r 17)), some (cI G (a 18) 8192 (r 18)), some (oX0 (a 19) (nI cs) mu mn (a 20)), some (cI G (a 20) 14 (r 20)), some (oX2 (a 21) la (nI fq) (a 22)), some (cI G (a 22) 200 (r 22)), some (oX3 (a 23) (nI rq) (a 24)), some (cI G (a 24) 14 (r 24))] [a 0, a 1, a 2, a 3, a 4, a 5, a 6, a 7, a 8, a 9, a 10, a 11, a 12, a 13, a 14, a 15, a 16, a 17, a 18, a 19, a 20, a 21, a 22, a 23, a 24] rfl (by decide) (by decide) rfl rfl rfl hl.1 rfl (Nat.le_of_ble_eq_true rfl) dX7_attribute_74 ⟨Nat.zero_le _, Nat.zero_le _⟩ (fun _ => rfl) (fun _ => rfl) rfl (fun _ => rfl) rfl (fun _ => rfl) (fun _ H locs _ hP hD hS => ?_)
                  refine lv_iload hx hb dX7_attribute_77 (lv_at hl 1 rfl) ?_
                  refine lv_if_eq (tgt := 94) hx hb dX7_attribute_79 (by decide) (fun c_79 => ?_) (fun c_79 => ?_)
                  · skip
                    refine lv_aload_n hx hb dX7_attribute_94 rfl (lv_at hl 2 rfl) ?_
                    refine va_get (D := G.1) (ci := 9) (v := .ref (a 15)) (C := RX7) (T := TX7) (N := 7) hx hb hts iX7_attribute_X7 hown hK hP 0 rfl rfl 3 (by decide) (hts _ fX7_attribute_3) (fun _ h9 => h9) rfl dX7_attribute_95 ?_
                    refine lv_iload_n hx hb dX7_attribute_98 rfl (lv_at hl 3 rfl) ?_
                    refine stI (y := nI x.toNatClampNeg) (hfx.1) ?_
                    refine lv_iload_n hx hb dX7_attribute_99 rfl (lv_at hl 4 rfl) ?_
                    refine stI (y := nI wh.toNatClampNeg) (hwx.1) ?_
                    refine lv_iload_n hx hb dX7_attribute_100 rfl (lv_at hl 5 rfl) ?_
                    refine cnV (nw := 25) (ci := 6) (T0 := TX4) (N := 2) (As := [.int (nI x.toNatClampNeg), .int (nI wh.toNatClampNeg), .int v]) (rest := []) ⟨hx, hb, hml, hown, hts⟩ (c_X4_set l G (a 15) (a 16) (a 17) (r 16) x.toNatClampNeg wh.toNatClampNeg v (by omega) (hwx.2)) (cwV 3 hts gX7_attribute_X4_set rfl rfl rfl ⟨rfl, hd_X4_set⟩ ⟨Nat.le_of_ble_eq_true rfl, Nat.le_of_ble_eq_true rfl⟩) hKK hP hD hS [15, 16] [0, 1, 2, 3, 4, 5, 6, 7, 8, 9, 10, 11, 12, 13, 14, 17, 18, 19, 20, 21, 22, 23, 24] (fun _ => [(oX7 (a 0) (a 1) (a 2) (a 9) (a 15) (a 19) (a 21) (a 23)), (oX6 (a 1) (a 2) (a 9) (a 15) (a 18) (nI zN) 0), (oX5 (a 2) (nI n) (a 3) (a 4) (a 5) (a 6) (a 7) (a 8) bd), (cI G (a 3) 15 (r 3)), (cI G (a 4) 15 (r 4)), (cI G (a 5) 15 (r 5)), (cI G (a 6) 15 (r 6)), (cI G (a 7) 15 (r 7)), (cI G (a 8) 15 (r 8)), (oX1 (a 9) (nI mf) (a 10) (a 11) (a 12) (a 13) (a 14)), (cI G (a 10) 40 (r 10)), (cI G (a 11) 40 (r 11)), (cI G (a 12) 40 (r 12)), (cI G (a 13) 40 (r 13)), (cI G (a 14) 40 (r 14)), (oX4 (a 15) (a 16) (a 17)), (cI G (a 16) 60 (upd (r 16) (wh.toNatClampNeg * 15 + x.toNatClampNeg) v)), (cI G (a 17) 4 (r 17)), (cI G (a 18) 8192 (r 18)), (oX0 (a 19) (nI cs) mu mn (a 20)), (cI G (a 20) 14 (r 20)), (oX2 (a 21) la (nI fq) (a 22)), (cI G (a 22) 200 (r 22)), (oX3 (a 23) (nI rq) (a 24)), (cI G (a 24) 14 (r 24))]) [some (oX7 (a 0) (a 1) (a 2) (a 9) (a 15) (a 19) (a 21) (a 23)), some (oX6 (a 1) (a 2) (a 9) (a 15) (a 18) (nI zN) 0), some (oX5 (a 2) (nI n) (a 3) (a 4) (a 5) (a 6) (a 7) (a 8) bd), some (cI G (a 3) 15 (r 3)), some (cI G (a 4) 15 (r 4)), some (cI G (a 5) 15 (r 5)), some (cI G (a 6) 15 (r 6)), some (cI G (a 7) 15 (r 7)), some (cI G (a 8) 15 (r 8)), some (oX1 (a 9) (nI mf) (a 10) (a 11) (a 12) (a 13) (a 14)), some (cI G (a 10) 40 (r 10)), some (cI G (a 11) 40 (r 11)), some (cI G (a 12) 40 (r 12)), some (cI G (a 13) 40 (r 13)), some (cI G (a 14) 40 (r 14)), some (cI G (a 17) 4 (r 17)), some (cI G (a 18) 8192 (r 18)), some (oX0 (a 19) (nI cs) mu mn (a 20)), some (cI G (a 20) 14 (r 20)), some (oX2 (a 21) la (nI fq) (a 22)), some (cI G (a 22) 200 (r 22)), some (oX3 (a 23) (nI rq) (a 24)), some (cI G (a 24) 14 (r 24))] [a 0, a 1, a 2, a 3, a 4, a 5, a 6, a 7, a 8, a 9, a 10, a 11, a 12, a 13, a 14, a 15, a 16, a 17, a 18, a 19, a 20, a 21, a 22, a 23, a 24] rfl (by decide) (by decide) rfl rfl rfl hl.1 rfl (Nat.le_of_ble_eq_true rfl) dX7_attribute_101 ⟨Nat.zero_le _, Nat.zero_le _⟩ (fun _ => rfl) (fun _ => rfl) rfl (fun _ => rfl) rfl (fun _ => rfl) (fun _ H locs _ hP hD hS => ?_)
                    refine lv_iconst (v := 1) hx hb dX7_attribute_104 (by decide) ?_
                    exact greti hx hb hr hlocks rfl hAe hS (⟨1, (n, mf, bd, zN, false, cs, mu, mn, la, fq, rq, upR r 16 (upd (r 16) (wh.toNatClampNeg * 15 + x.toNatClampNeg) v))⟩) (rfl) (by unfold cAttribute; rw [if_neg c_1, if_pos (bI_n0 c_24), if_neg c_46, if_neg c_51, if_neg c_58, if_pos c_64]) (hP) dX7_attribute_105
                  · exact absurd rfl c_79
                · skip
                  refine lv_bipush (v := -2) hx hb dX7_attribute_67 (by decide) ?_
                  exact greti hx hb hr hlocks rfl hAe hS (⟨-2, (n, mf, bd, zN, ub, cs, mu, mn, la, fq, rq, r)⟩) (rfl) (by unfold cAttribute; rw [if_neg c_1, if_pos (bI_n0 c_24), if_neg c_46, if_neg c_51, if_neg c_58, if_neg c_64]) (hP) dX7_attribute_69
        · exact absurd rfl c_31
      · skip
        refine lv_iconst (v := -1) hx hb dX7_attribute_27 (by decide) ?_
        exact greti hx hb hr hlocks rfl hAe hS (⟨-1, (n, mf, bd, zN, ub, cs, mu, mn, la, fq, rq, r)⟩) (rfl) (by unfold cAttribute; rw [if_neg c_1, if_neg (by rw [bI_0.mp c_24]; decide)]) (hP) dX7_attribute_28
  · skip
    refine lv_iconst (v := 1) hx hb dX7_attribute_4 (by decide) ?_
    refine lv_goto (tgt := 9) hx hb dX7_attribute_5 (by decide) ?_
    refine lv_istore (lv' := [(4, .int 1), (0, .ref (a 0)), (1, .int x), (2, .int wh), (3, .int v)]) hx hb dX7_attribute_9 hl (by decide) rfl (fun ls hl => ?_)
    refine lv_iload hx hb dX7_attribute_11 (lv_at hl 0 rfl) ?_
    refine lv_if_ne (tgt := 29) hx hb dX7_attribute_13 (by decide) (fun c_13 => ?_) (fun c_13 => ?_)
    · skip
      refine lv_iload hx hb dX7_attribute_29 (lv_at hl 0 rfl) ?_
      refine lv_if_eq (tgt := 40) hx hb dX7_attribute_31 (by decide) (fun c_31 => ?_) (fun c_31 => ?_)
      · exact absurd c_31 (by decide)
      · skip
        refine lv_sipush (v := 10000) hx hb dX7_attribute_34 (by decide) ?_
        refine lv_goto (tgt := 43) hx hb dX7_attribute_37 (by decide) ?_
        refine lv_istore (lv' := [(5, .int 10000), (4, .int 1), (0, .ref (a 0)), (1, .int x), (2, .int wh), (3, .int v)]) hx hb dX7_attribute_43 hl (by decide) rfl (fun ls hl => ?_)
        refine lv_iload_n hx hb dX7_attribute_45 rfl (lv_at hl 4 rfl) ?_
        refine lv_if_lt (tgt := 67) hx hb dX7_attribute_46 (by decide) (fun c_46 => ?_) (fun c_46 => ?_)
        · skip
          refine lv_bipush (v := -2) hx hb dX7_attribute_67 (by decide) ?_
          exact greti hx hb hr hlocks rfl hAe hS (⟨-2, (n, mf, bd, zN, ub, cs, mu, mn, la, fq, rq, r)⟩) (rfl) (by unfold cAttribute; rw [if_pos c_1, if_pos c_46]) (hP) dX7_attribute_69
        · skip
          refine lv_iload_n hx hb dX7_attribute_49 rfl (lv_at hl 4 rfl) ?_
          refine lv_iconst (v := 4) hx hb dX7_attribute_50 (by decide) ?_
          refine lv_icmp_ge (tgt := 67) hx hb dX7_attribute_51 (by decide) (fun c_51 => ?_) (fun c_51 => ?_)
          · skip
            refine lv_bipush (v := -2) hx hb dX7_attribute_67 (by decide) ?_
            exact greti hx hb hr hlocks rfl hAe hS (⟨-2, (n, mf, bd, zN, ub, cs, mu, mn, la, fq, rq, r)⟩) (rfl) (by unfold cAttribute; rw [if_pos c_1, if_neg c_46, if_pos c_51]) (hP) dX7_attribute_69
          · skip
            have hwx := nat_lt (w := 4) (by decide) c_46 c_51
            refine lv_iload_n hx hb dX7_attribute_54 rfl (lv_at hl 5 rfl) ?_
            refine lv_iload hx hb dX7_attribute_55 (lv_at hl 0 rfl) ?_
            refine lv_ineg hx hb dX7_attribute_57 ?_
            refine lv_icmp_lt (tgt := 67) hx hb dX7_attribute_58 (by decide) (fun c_58 => ?_) (fun c_58 => ?_)
            · skip
              refine lv_bipush (v := -2) hx hb dX7_attribute_67 (by decide) ?_
              exact greti hx hb hr hlocks rfl hAe hS (⟨-2, (n, mf, bd, zN, ub, cs, mu, mn, la, fq, rq, r)⟩) (rfl) (by unfold cAttribute; rw [if_pos c_1, if_neg c_46, if_neg c_51, if_pos c_58]) (hP) dX7_attribute_69
            · skip
              refine lv_iload_n hx hb dX7_attribute_61 rfl (lv_at hl 5 rfl) ?_
              refine lv_iload hx hb dX7_attribute_62 (lv_at hl 0 rfl) ?_
              refine lv_icmp_le (tgt := 70) hx hb dX7_attribute_64 (by decide) (fun c_64 => ?_) (fun c_64 => ?_)
              · skip
                refine lv_aload_n hx hb dX7_attribute_70 rfl (lv_at hl 2 rfl) ?_
                refine va_get (D := G.1) (ci := 9) (v := .ref (a 1)) (C := RX7) (T := TX7) (N := 7) hx hb hts iX7_attribute_X7 hown hK hP 0 rfl rfl 0 (by decide) (hts _ fX7_attribute_2) (fun _ h9 => h9) rfl dX7_attribute_71 ?_
                refine cnV (nw := 25) (ci := 8) (T0 := TX6) (N := 6) (As := []) (rest := []) ⟨hx, hb, hml, hown, hts⟩ (c_X6_outdate l G (a 1) (a 2) (a 9) (a 15) (a 18) (nI zN) (bI ub)) (cwV 0 hts gX7_attribute_X6_outdate rfl rfl rfl ⟨rfl, hd_X6_outdate⟩ ⟨Nat.le_of_ble_eq_true rfl, Nat.le_of_ble_eq_true rfl⟩) hKK hP hD hS [1] [0, 2, 3, 4, 5, 6, 7, 8, 9, 10, 11, 12, 13, 14, 15, 16, 17, 18, 19, 20, 21, 22, 23, 24] (fun _ => [(oX7 (a 0) (a 1) (a 2) (a 9) (a 15) (a 19) (a 21) (a 23)), (oX6 (a 1) (a 2) (a 9) (a 15) (a 18) (nI zN) 0), (oX5 (a 2) (nI n) (a 3) (a 4) (a 5) (a 6) (a 7) (a 8) bd), (cI G (a 3) 15 (r 3)), (cI G (a 4) 15 (r 4)), (cI G (a 5) 15 (r 5)), (cI G (a 6) 15 (r 6)), (cI G (a 7) 15 (r 7)), (cI G (a 8) 15 (r 8)), (oX1 (a 9) (nI mf) (a 10) (a 11) (a 12) (a 13) (a 14)), (cI G (a 10) 40 (r 10)), (cI G (a 11) 40 (r 11)), (cI G (a 12) 40 (r 12)), (cI G (a 13) 40 (r 13)), (cI G (a 14) 40 (r 14)), (oX4 (a 15) (a 16) (a 17)), (cI G (a 16) 60 (r 16)), (cI G (a 17) 4 (r 17)), (cI G (a 18) 8192 (r 18)), (oX0 (a 19) (nI cs) mu mn (a 20)), (cI G (a 20) 14 (r 20)), (oX2 (a 21) la (nI fq) (a 22)), (cI G (a 22) 200 (r 22)), (oX3 (a 23) (nI rq) (a 24)), (cI G (a 24) 14 (r 24))]) [some (oX7 (a 0) (a 1) (a 2) (a 9) (a 15) (a 19) (a 21) (a 23)), some (oX5 (a 2) (nI n) (a 3) (a 4) (a 5) (a 6) (a 7) (a 8) bd), some (cI G (a 3) 15 (r 3)), some (cI G (a 4) 15 (r 4)), some (cI G (a 5) 15 (r 5)), some (cI G (a 6) 15 (r 6)), some (cI G (a 7) 15 (r 7)), some (cI G (a 8) 15 (r 8)), some (oX1 (a 9) (nI mf) (a 10) (a 11) (a 12) (a 13) (a 14)), some (cI G (a 10) 40 (r 10)), some (cI G (a 11) 40 (r 11)), some (cI G (a 12) 40 (r 12)), some (cI G (a 13) 40 (r 13)), some (cI G (a 14) 40 (r 14)), some (oX4 (a 15) (a 16) (a 17)), some (cI G (a 16) 60 (r 16)), some (cI G (a 17) 4 (r 17)), some (cI G (a 18) 8192 (r 18)), some (oX0 (a 19) (nI cs) mu mn (a 20)), some (cI G (a 20) 14 (r 20)), some (oX2 (a 21) la (nI fq) (a 22)), some (cI G (a 22) 200 (r 22)), some (oX3 (a 23) (nI rq) (a 24)), some (cI G (a 24) 14 (r 24))] [a 0, a 1, a 2, a 3, a 4, a 5, a 6, a 7, a 8, a 9, a 10, a 11, a 12, a 13, a 14, a 15, a 16, a 17, a 18, a 19, a 20, a 21, a 22, a 23, a 24] rfl (by decide) (by decide) rfl rfl rfl hl.1 rfl (Nat.le_of_ble_eq_true rfl) dX7_attribute_74 ⟨Nat.zero_le _, Nat.zero_le _⟩ (fun _ => rfl) (fun _ => rfl) rfl (fun _ => rfl) rfl (fun _ => rfl) (fun _ H locs _ hP hD hS => ?_)
                refine lv_iload hx hb dX7_attribute_77 (lv_at hl 1 rfl) ?_
                refine lv_if_eq (tgt := 94) hx hb dX7_attribute_79 (by decide) (fun c_79 => ?_) (fun c_79 => ?_)
                · exact absurd c_79 (by decide)
                · skip
                  refine lv_aload_n hx hb dX7_attribute_82 rfl (lv_at hl 2 rfl) ?_
                  refine va_get (D := G.1) (ci := 9) (v := .ref (a 15)) (C := RX7) (T := TX7) (N := 7) hx hb hts iX7_attribute_X7 hown hK hP 0 rfl rfl 3 (by decide) (hts _ fX7_attribute_3) (fun _ h9 => h9) rfl dX7_attribute_83 ?_
                  refine lv_iload_n hx hb dX7_attribute_86 rfl (lv_at hl 4 rfl) ?_
                  refine stI (y := nI wh.toNatClampNeg) (hwx.1) ?_
                  refine lv_iload_n hx hb dX7_attribute_87 rfl (lv_at hl 5 rfl) ?_
                  refine cnV (nw := 25) (ci := 6) (T0 := TX4) (N := 2) (As := [.int (nI wh.toNatClampNeg), .int v]) (rest := []) ⟨hx, hb, hml, hown, hts⟩ (c_X4_limit l G (a 15) (a 16) (a 17) (r 17) wh.toNatClampNeg v (hwx.2)) (cwV 2 hts gX7_attribute_X4_limit rfl rfl rfl ⟨rfl, hd_X4_limit⟩ ⟨Nat.le_of_ble_eq_true rfl, Nat.le_of_ble_eq_true rfl⟩) hKK hP hD hS [15, 17] [0, 1, 2, 3, 4, 5, 6, 7, 8, 9, 10, 11, 12, 13, 14, 16, 18, 19, 20, 21, 22, 23, 24] (fun _ => [(oX7 (a 0) (a 1) (a 2) (a 9) (a 15) (a 19) (a 21) (a 23)), (oX6 (a 1) (a 2) (a 9) (a 15) (a 18) (nI zN) 0), (oX5 (a 2) (nI n) (a 3) (a 4) (a 5) (a 6) (a 7) (a 8) bd), (cI G (a 3) 15 (r 3)), (cI G (a 4) 15 (r 4)), (cI G (a 5) 15 (r 5)), (cI G (a 6) 15 (r 6)), (cI G (a 7) 15 (r 7)), (cI G (a 8) 15 (r 8)), (oX1 (a 9) (nI mf) (a 10) (a 11) (a 12) (a 13) (a 14)), (cI G (a 10) 40 (r 10)), (cI G (a 11) 40 (r 11)), (cI G (a 12) 40 (r 12)), (cI G (a 13) 40 (r 13)), (cI G (a 14) 40 (r 14)), (oX4 (a 15) (a 16) (a 17)), (cI G (a 16) 60 (r 16)), (cI G (a 17) 4 (upd (r 17) wh.toNatClampNeg v)), (cI G (a 18) 8192 (r 18)), (oX0 (a 19) (nI cs) mu mn (a 20)), (cI G (a 20) 14 (r 20)), (oX2 (a 21) la (nI fq) (a 22)), (cI G (a 22) 200 (r 22)), (oX3 (a 23) (nI rq) (a 24)), (cI G (a 24) 14 (r 24))]) [some (oX7 (a 0) (a 1) (a 2) (a 9) (a 15) (a 19) (a 21) (a 23)), some (oX6 (a 1) (a 2) (a 9) (a 15) (a 18) (nI zN) 0), some (oX5 (a 2) (nI n) (a 3) (a 4) (a 5) (a 6) (a 7) (a 8) bd), some (cI G (a 3) 15 (r 3)), some (cI G (a 4) 15 (r 4)), some (cI G (a 5) 15 (r 5)), some (cI G (a 6) 15 (r 6)), some (cI G (a 7) 15 (r 7)), some (cI G (a 8) 15 (r 8)), some (oX1 (a 9) (nI mf) (a 10) (a 11) (a 12) (a 13) (a 14)), some (cI G (a 10) 40 (r 10)), some (cI G (a 11) 40 (r 11)), some (cI G (a 12) 40 (r 12)), some (cI G (a 13) 40 (r 13)), some (cI G (a 14) 40 (r 14)), some (cI G (a 16) 60 (r 16)), some (cI G (a 18) 8192 (r 18)), some (oX0 (a 19) (nI cs) mu mn (a 20)), some (cI G (a 20) 14 (r 20)), some (oX2 (a 21) la (nI fq) (a 22)), some (cI G (a 22) 200 (r 22)), some (oX3 (a 23) (nI rq) (a 24)), some (cI G (a 24) 14 (r 24))] [a 0, a 1, a 2, a 3, a 4, a 5, a 6, a 7, a 8, a 9, a 10, a 11, a 12, a 13, a 14, a 15, a 16, a 17, a 18, a 19, a 20, a 21, a 22, a 23, a 24] rfl (by decide) (by decide) rfl rfl rfl hl.1 rfl (Nat.le_of_ble_eq_true rfl) dX7_attribute_88 ⟨Nat.zero_le _, Nat.zero_le _⟩ (fun _ => rfl) (fun _ => rfl) rfl (fun _ => rfl) rfl (fun _ => rfl) (fun _ H locs _ hP hD hS => ?_)
                  refine lv_goto (tgt := 104) hx hb dX7_attribute_91 (by decide) ?_
                  refine lv_iconst (v := 1) hx hb dX7_attribute_104 (by decide) ?_
                  exact greti hx hb hr hlocks rfl hAe hS (⟨1, (n, mf, bd, zN, false, cs, mu, mn, la, fq, rq, upR r 17 (upd (r 17) wh.toNatClampNeg v))⟩) (rfl) (by unfold cAttribute; rw [if_pos c_1, if_neg c_46, if_neg c_51, if_neg c_58, if_pos c_64]) (hP) dX7_attribute_105
              · skip
                refine lv_bipush (v := -2) hx hb dX7_attribute_67 (by decide) ?_
                exact greti hx hb hr hlocks rfl hAe hS (⟨-2, (n, mf, bd, zN, ub, cs, mu, mn, la, fq, rq, r)⟩) (rfl) (by unfold cAttribute; rw [if_pos c_1, if_neg c_46, if_neg c_51, if_neg c_58, if_neg c_64]) (hP) dX7_attribute_69
    · exact absurd c_13 (by decide)

theorem iX7_chosen_X7 : ∀ w ∈ u_ws RX7 TX7 7, w ∈ wsX7_chosen := by decide +kernel
theorem fX7_chosen_1 : Cond.fieldLink RX7 41 "FeatureSolve" "found" "LFeatureSolve$Found;" ∈ wsX7_chosen := by decide +kernel
theorem iX7_chosen_X2 : ∀ w ∈ u_ws RX2 TX2 3, w ∈ wsX7_chosen := by decide +kernel
theorem fX7_chosen_3 : Cond.fieldLink RX7 128 "FeatureSolve$Found" "last" "I" ∈ wsX7_chosen := by decide +kernel
set_option maxHeartbeats 4000000 in
set_option maxRecDepth 100000 in
/-- chosen -/
theorem c_X7_chosen (l : Launch) (G : GG) (a : Nat → Nat) (n mf : Nat) (bd : Int32) (zN : Nat) (ub : Bool) (cs : Nat) (mu mn la : Int32) (fq rq : Nat) (r : Nat → Nat → Int32) (x : Int32) : Met l yX7_chosen wsX7_chosen (rmK 1) (va_Pc [.ref (a 0), .int x] (PM G [(oX7 (a 0) (a 1) (a 2) (a 9) (a 15) (a 19) (a 21) (a 23)), (oX6 (a 1) (a 2) (a 9) (a 15) (a 18) (nI zN) (bI ub)), (oX5 (a 2) (nI n) (a 3) (a 4) (a 5) (a 6) (a 7) (a 8) bd), (cI G (a 3) 15 (r 3)), (cI G (a 4) 15 (r 4)), (cI G (a 5) 15 (r 5)), (cI G (a 6) 15 (r 6)), (cI G (a 7) 15 (r 7)), (cI G (a 8) 15 (r 8)), (oX1 (a 9) (nI mf) (a 10) (a 11) (a 12) (a 13) (a 14)), (cI G (a 10) 40 (r 10)), (cI G (a 11) 40 (r 11)), (cI G (a 12) 40 (r 12)), (cI G (a 13) 40 (r 13)), (cI G (a 14) 40 (r 14)), (oX4 (a 15) (a 16) (a 17)), (cI G (a 16) 60 (r 16)), (cI G (a 17) 4 (r 17)), (cI G (a 18) 8192 (r 18)), (oX0 (a 19) (nI cs) mu mn (a 20)), (cI G (a 20) 14 (r 20)), (oX2 (a 21) la (nI fq) (a 22)), (cI G (a 22) 200 (r 22)), (oX3 (a 23) (nI rq) (a 24)), (cI G (a 24) 14 (r 24))])) (QG (S := Int32 × CS) G [(oX7 (a 0) (a 1) (a 2) (a 9) (a 15) (a 19) (a 21) (a 23)), (oX6 (a 1) (a 2) (a 9) (a 15) (a 18) (nI zN) (bI ub)), (oX5 (a 2) (nI n) (a 3) (a 4) (a 5) (a 6) (a 7) (a 8) bd), (cI G (a 3) 15 (r 3)), (cI G (a 4) 15 (r 4)), (cI G (a 5) 15 (r 5)), (cI G (a 6) 15 (r 6)), (cI G (a 7) 15 (r 7)), (cI G (a 8) 15 (r 8)), (oX1 (a 9) (nI mf) (a 10) (a 11) (a 12) (a 13) (a 14)), (cI G (a 10) 40 (r 10)), (cI G (a 11) 40 (r 11)), (cI G (a 12) 40 (r 12)), (cI G (a 13) 40 (r 13)), (cI G (a 14) 40 (r 14)), (oX4 (a 15) (a 16) (a 17)), (cI G (a 16) 60 (r 16)), (cI G (a 17) 4 (r 17)), (cI G (a 18) 8192 (r 18)), (oX0 (a 19) (nI cs) mu mn (a 20)), (cI G (a 20) 14 (r 20)), (oX2 (a 21) la (nI fq) (a 22)), (cI G (a 22) 200 (r 22)), (oX3 (a 23) (nI rq) (a 24)), (cI G (a 24) 14 (r 24))] (fun u => u = (bI (decide (¬ la &&& bitI x = 0)), (n, mf, bd, zN, ub, cs, mu, mn, la, fq, rq, r))) (fun u => some (.int u.1)) (fun u => cW G a u.2)) 0 0 (adr [(oX7 (a 0) (a 1) (a 2) (a 9) (a 15) (a 19) (a 21) (a 23)), (oX6 (a 1) (a 2) (a 9) (a 15) (a 18) (nI zN) (bI ub)), (oX5 (a 2) (nI n) (a 3) (a 4) (a 5) (a 6) (a 7) (a 8) bd), (cI G (a 3) 15 (r 3)), (cI G (a 4) 15 (r 4)), (cI G (a 5) 15 (r 5)), (cI G (a 6) 15 (r 6)), (cI G (a 7) 15 (r 7)), (cI G (a 8) 15 (r 8)), (oX1 (a 9) (nI mf) (a 10) (a 11) (a 12) (a 13) (a 14)), (cI G (a 10) 40 (r 10)), (cI G (a 11) 40 (r 11)), (cI G (a 12) 40 (r 12)), (cI G (a 13) 40 (r 13)), (cI G (a 14) 40 (r 14)), (oX4 (a 15) (a 16) (a 17)), (cI G (a 16) 60 (r 16)), (cI G (a 17) 4 (r 17)), (cI G (a 18) 8192 (r 18)), (oX0 (a 19) (nI cs) mu mn (a 20)), (cI G (a 20) 14 (r 20)), (oX2 (a 21) la (nI fq) (a 22)), (cI G (a 22) 200 (r 22)), (oX3 (a 23) (nI rq) (a 24)), (cI G (a 24) 14 (r 24))]) := by
  refine Met.ofW (cc := cX7_chosen) (maxL := 2) (ret := (some .boolean)) (by decide) rfl ?_
  intro p e s m args below meth c s₁ B hml hv
  obtain ⟨rfl, hP, hD0, hKK⟩ := hv
  have hx := B.exec
  have hb := B.bytes
  have hr := B.returns
  have hts := atoms_spec (ws := wsX7_chosen) B.pre
  have hown : s.vm.findClass RX7 = some m.cls := findClass_of_methodNamed B.named
  have hlocks := B.notSynchronized
  have hK := hKK.1
  generalize hAe : adr [(oX7 (a 0) (a 1) (a 2) (a 9) (a 15) (a 19) (a 21) (a 23)), (oX6 (a 1) (a 2) (a 9) (a 15) (a 18) (nI zN) (bI ub)), (oX5 (a 2) (nI n) (a 3) (a 4) (a 5) (a 6) (a 7) (a 8) bd), (cI G (a 3) 15 (r 3)), (cI G (a 4) 15 (r 4)), (cI G (a 5) 15 (r 5)), (cI G (a 6) 15 (r 6)), (cI G (a 7) 15 (r 7)), (cI G (a 8) 15 (r 8)), (oX1 (a 9) (nI mf) (a 10) (a 11) (a 12) (a 13) (a 14)), (cI G (a 10) 40 (r 10)), (cI G (a 11) 40 (r 11)), (cI G (a 12) 40 (r 12)), (cI G (a 13) 40 (r 13)), (cI G (a 14) 40 (r 14)), (oX4 (a 15) (a 16) (a 17)), (cI G (a 16) 60 (r 16)), (cI G (a 17) 4 (r 17)), (cI G (a 18) 8192 (r 18)), (oX0 (a 19) (nI cs) mu mn (a 20)), (cI G (a 20) 14 (r 20)), (oX2 (a 21) la (nI fq) (a 22)), (cI G (a 22) 200 (r 22)), (oX3 (a 23) (nI rq) (a 24)), (cI G (a 24) 14 (r 24))] = A
  have hD : va_D A [(oX7 (a 0) (a 1) (a 2) (a 9) (a 15) (a 19) (a 21) (a 23)), (oX6 (a 1) (a 2) (a 9) (a 15) (a 18) (nI zN) (bI ub)), (oX5 (a 2) (nI n) (a 3) (a 4) (a 5) (a 6) (a 7) (a 8) bd), (cI G (a 3) 15 (r 3)), (cI G (a 4) 15 (r 4)), (cI G (a 5) 15 (r 5)), (cI G (a 6) 15 (r 6)), (cI G (a 7) 15 (r 7)), (cI G (a 8) 15 (r 8)), (oX1 (a 9) (nI mf) (a 10) (a 11) (a 12) (a 13) (a 14)), (cI G (a 10) 40 (r 10)), (cI G (a 11) 40 (r 11)), (cI G (a 12) 40 (r 12)), (cI G (a 13) 40 (r 13)), (cI G (a 14) 40 (r 14)), (oX4 (a 15) (a 16) (a 17)), (cI G (a 16) 60 (r 16)), (cI G (a 17) 4 (r 17)), (cI G (a 18) 8192 (r 18)), (oX0 (a 19) (nI cs) mu mn (a 20)), (cI G (a 20) 14 (r 20)), (oX2 (a 21) la (nI fq) (a 22)), (cI G (a 22) 200 (r 22)), (oX3 (a 23) (nI rq) (a 24)), (cI G (a 24) 14 (r 24))] := by rw [← hAe]; exact hD0.own
  have hS : va_S A s.heap s.heap [] := va_S.rf
  have hP : va_P G.1 vwCl [(oX7 (a 0) (a 1) (a 2) (a 9) (a 15) (a 19) (a 21) (a 23)), (oX6 (a 1) (a 2) (a 9) (a 15) (a 18) (nI zN) (bI ub)), (oX5 (a 2) (nI n) (a 3) (a 4) (a 5) (a 6) (a 7) (a 8) bd), (cI G (a 3) 15 (r 3)), (cI G (a 4) 15 (r 4)), (cI G (a 5) 15 (r 5)), (cI G (a 6) 15 (r 6)), (cI G (a 7) 15 (r 7)), (cI G (a 8) 15 (r 8)), (oX1 (a 9) (nI mf) (a 10) (a 11) (a 12) (a 13) (a 14)), (cI G (a 10) 40 (r 10)), (cI G (a 11) 40 (r 11)), (cI G (a 12) 40 (r 12)), (cI G (a 13) 40 (r 13)), (cI G (a 14) 40 (r 14)), (oX4 (a 15) (a 16) (a 17)), (cI G (a 16) 60 (r 16)), (cI G (a 17) 4 (r 17)), (cI G (a 18) 8192 (r 18)), (oX0 (a 19) (nI cs) mu mn (a 20)), (cI G (a 20) 14 (r 20)), (oX2 (a 21) la (nI fq) (a 22)), (cI G (a 22) 200 (r 22)), (oX3 (a 23) (nI rq) (a 24)), (cI G (a 24) 14 (r 24))] s.heap := hP
  have hl := lv_entry ([.ref (a 0), .int x]) (n := 2) (Nat.le_of_ble_eq_true rfl)
  rw [lg_entry_eq]
  generalize (lg_sl ([.ref (a 0), .int x]) ++ List.replicate (2 - (lg_sl ([.ref (a 0), .int x])).length) Slot.unset).toArray = ls at hl ⊢
  have hl : lv_has ls 2 [(0, .ref (a 0)), (1, .int x)] := hl
  refine lv_aload_n hx hb dX7_chosen_0 rfl (lv_at hl 0 rfl) ?_
  refine va_get (D := G.1) (ci := 9) (v := .ref (a 21)) (C := RX7) (T := TX7) (N := 7) hx hb hts iX7_chosen_X7 hown hK hP 0 rfl rfl 5 (by decide) (hts _ fX7_chosen_1) (fun _ h9 => h9) rfl dX7_chosen_1 ?_
  refine va_get (D := G.1) (ci := 4) (v := .int la) (C := RX2) (T := TX2) (N := 3) hx hb hts iX7_chosen_X2 hown hK hP 21 rfl rfl 0 (by decide) (hts _ fX7_chosen_3) (fun _ h9 => h9) rfl dX7_chosen_4 ?_
  refine lv_iload_n hx hb dX7_chosen_7 rfl (lv_at hl 1 rfl) ?_
  refine cpS (As := [.int x]) (rest := [.int la]) ⟨hx, hb, hml, hown, hts⟩ (c_X7_bit l G x) (va_cwS 1 hts gX7_chosen_X7_bit rfl rfl rfl hd_X7_bit ⟨Nat.le_of_ble_eq_true rfl, Nat.le_of_ble_eq_true rfl⟩) hKK hP [] rfl rfl hl.1 rfl (Nat.le_of_ble_eq_true rfl) dX7_chosen_8 ⟨Nat.zero_le _, Nat.zero_le _⟩ ?_
  refine lv_iand hx hb dX7_chosen_11 ?_
  refine lv_if_eq (tgt := 19) hx hb dX7_chosen_12 (by decide) (fun c_12 => ?_) (fun c_12 => ?_)
  · skip
    refine lv_iconst (v := 0) hx hb dX7_chosen_19 (by decide) ?_
    exact greti hx hb hr hlocks rfl hAe hS (⟨0, (n, mf, bd, zN, ub, cs, mu, mn, la, fq, rq, r)⟩) (rfl) (by rw [decide_eq_false (fun z => z c_12)]; rfl) (hP) dX7_chosen_20
  · skip
    refine lv_iconst (v := 1) hx hb dX7_chosen_15 (by decide) ?_
    refine lv_goto (tgt := 20) hx hb dX7_chosen_16 (by decide) ?_
    exact greti hx hb hr hlocks rfl hAe hS (⟨1, (n, mf, bd, zN, ub, cs, mu, mn, la, fq, rq, r)⟩) (rfl) (by rw [decide_eq_true c_12]; rfl) (hP) dX7_chosen_20

theorem iX7_why_X7 : ∀ w ∈ u_ws RX7 TX7 7, w ∈ wsX7_why := by decide +kernel
theorem fX7_why_1 : Cond.fieldLink RX7 48 "FeatureSolve" "reason" "LFeatureSolve$Reason;" ∈ wsX7_why := by decide +kernel
theorem hd_X3_get : yX3_get.cls ≠ "java/lang/invoke/MethodHandle" ∧ yX3_get.cls ≠ "java/lang/invoke/VarHandle" ∧ (parseMethodDescriptor yX3_get.desc).map (fun d => d.parameters.length) = some 1 := by decide +kernel
set_option maxHeartbeats 4000000 in
set_option maxRecDepth 100000 in
/-- why -/
theorem c_X7_why (l : Launch) (G : GG) (a : Nat → Nat) (n mf : Nat) (bd : Int32) (zN : Nat) (ub : Bool) (cs : Nat) (mu mn la : Int32) (fq rq : Nat) (r : Nat → Nat → Int32) (i : Int32) (hq : rq ≤ 14) : Met l yX7_why wsX7_why (rmK 2) (va_Pc [.ref (a 0), .int i] (PM G [(oX7 (a 0) (a 1) (a 2) (a 9) (a 15) (a 19) (a 21) (a 23)), (oX6 (a 1) (a 2) (a 9) (a 15) (a 18) (nI zN) (bI ub)), (oX5 (a 2) (nI n) (a 3) (a 4) (a 5) (a 6) (a 7) (a 8) bd), (cI G (a 3) 15 (r 3)), (cI G (a 4) 15 (r 4)), (cI G (a 5) 15 (r 5)), (cI G (a 6) 15 (r 6)), (cI G (a 7) 15 (r 7)), (cI G (a 8) 15 (r 8)), (oX1 (a 9) (nI mf) (a 10) (a 11) (a 12) (a 13) (a 14)), (cI G (a 10) 40 (r 10)), (cI G (a 11) 40 (r 11)), (cI G (a 12) 40 (r 12)), (cI G (a 13) 40 (r 13)), (cI G (a 14) 40 (r 14)), (oX4 (a 15) (a 16) (a 17)), (cI G (a 16) 60 (r 16)), (cI G (a 17) 4 (r 17)), (cI G (a 18) 8192 (r 18)), (oX0 (a 19) (nI cs) mu mn (a 20)), (cI G (a 20) 14 (r 20)), (oX2 (a 21) la (nI fq) (a 22)), (cI G (a 22) 200 (r 22)), (oX3 (a 23) (nI rq) (a 24)), (cI G (a 24) 14 (r 24))])) (QG (S := Int32 × CS) G [(oX7 (a 0) (a 1) (a 2) (a 9) (a 15) (a 19) (a 21) (a 23)), (oX6 (a 1) (a 2) (a 9) (a 15) (a 18) (nI zN) (bI ub)), (oX5 (a 2) (nI n) (a 3) (a 4) (a 5) (a 6) (a 7) (a 8) bd), (cI G (a 3) 15 (r 3)), (cI G (a 4) 15 (r 4)), (cI G (a 5) 15 (r 5)), (cI G (a 6) 15 (r 6)), (cI G (a 7) 15 (r 7)), (cI G (a 8) 15 (r 8)), (oX1 (a 9) (nI mf) (a 10) (a 11) (a 12) (a 13) (a 14)), (cI G (a 10) 40 (r 10)), (cI G (a 11) 40 (r 11)), (cI G (a 12) 40 (r 12)), (cI G (a 13) 40 (r 13)), (cI G (a 14) 40 (r 14)), (oX4 (a 15) (a 16) (a 17)), (cI G (a 16) 60 (r 16)), (cI G (a 17) 4 (r 17)), (cI G (a 18) 8192 (r 18)), (oX0 (a 19) (nI cs) mu mn (a 20)), (cI G (a 20) 14 (r 20)), (oX2 (a 21) la (nI fq) (a 22)), (cI G (a 22) 200 (r 22)), (oX3 (a 23) (nI rq) (a 24)), (cI G (a 24) 14 (r 24))] (fun u => u = (if i < 0 then 0 else if nI rq ≤ i then 0 else r 24 i.toNatClampNeg, (n, mf, bd, zN, ub, cs, mu, mn, la, fq, rq, r))) (fun u => some (.int u.1)) (fun u => cW G a u.2)) 0 0 (adr [(oX7 (a 0) (a 1) (a 2) (a 9) (a 15) (a 19) (a 21) (a 23)), (oX6 (a 1) (a 2) (a 9) (a 15) (a 18) (nI zN) (bI ub)), (oX5 (a 2) (nI n) (a 3) (a 4) (a 5) (a 6) (a 7) (a 8) bd), (cI G (a 3) 15 (r 3)), (cI G (a 4) 15 (r 4)), (cI G (a 5) 15 (r 5)), (cI G (a 6) 15 (r 6)), (cI G (a 7) 15 (r 7)), (cI G (a 8) 15 (r 8)), (oX1 (a 9) (nI mf) (a 10) (a 11) (a 12) (a 13) (a 14)), (cI G (a 10) 40 (r 10)), (cI G (a 11) 40 (r 11)), (cI G (a 12) 40 (r 12)), (cI G (a 13) 40 (r 13)), (cI G (a 14) 40 (r 14)), (oX4 (a 15) (a 16) (a 17)), (cI G (a 16) 60 (r 16)), (cI G (a 17) 4 (r 17)), (cI G (a 18) 8192 (r 18)), (oX0 (a 19) (nI cs) mu mn (a 20)), (cI G (a 20) 14 (r 20)), (oX2 (a 21) la (nI fq) (a 22)), (cI G (a 22) 200 (r 22)), (oX3 (a 23) (nI rq) (a 24)), (cI G (a 24) 14 (r 24))]) := by
  refine Met.ofW (cc := cX7_why) (maxL := 2) (ret := (some .int)) (by decide) rfl ?_
  intro p e s m args below meth c s₁ B hml hv
  obtain ⟨rfl, hP, hD0, hKK⟩ := hv
  have hx := B.exec
  have hb := B.bytes
  have hr := B.returns
  have hts := atoms_spec (ws := wsX7_why) B.pre
  have hown : s.vm.findClass RX7 = some m.cls := findClass_of_methodNamed B.named
  have hlocks := B.notSynchronized
  have hK := hKK.1
  generalize hAe : adr [(oX7 (a 0) (a 1) (a 2) (a 9) (a 15) (a 19) (a 21) (a 23)), (oX6 (a 1) (a 2) (a 9) (a 15) (a 18) (nI zN) (bI ub)), (oX5 (a 2) (nI n) (a 3) (a 4) (a 5) (a 6) (a 7) (a 8) bd), (cI G (a 3) 15 (r 3)), (cI G (a 4) 15 (r 4)), (cI G (a 5) 15 (r 5)), (cI G (a 6) 15 (r 6)), (cI G (a 7) 15 (r 7)), (cI G (a 8) 15 (r 8)), (oX1 (a 9) (nI mf) (a 10) (a 11) (a 12) (a 13) (a 14)), (cI G (a 10) 40 (r 10)), (cI G (a 11) 40 (r 11)), (cI G (a 12) 40 (r 12)), (cI G (a 13) 40 (r 13)), (cI G (a 14) 40 (r 14)), (oX4 (a 15) (a 16) (a 17)), (cI G (a 16) 60 (r 16)), (cI G (a 17) 4 (r 17)), (cI G (a 18) 8192 (r 18)), (oX0 (a 19) (nI cs) mu mn (a 20)), (cI G (a 20) 14 (r 20)), (oX2 (a 21) la (nI fq) (a 22)), (cI G (a 22) 200 (r 22)), (oX3 (a 23) (nI rq) (a 24)), (cI G (a 24) 14 (r 24))] = A
  have hD : va_D A [(oX7 (a 0) (a 1) (a 2) (a 9) (a 15) (a 19) (a 21) (a 23)), (oX6 (a 1) (a 2) (a 9) (a 15) (a 18) (nI zN) (bI ub)), (oX5 (a 2) (nI n) (a 3) (a 4) (a 5) (a 6) (a 7) (a 8) bd), (cI G (a 3) 15 (r 3)), (cI G (a 4) 15 (r 4)), (cI G (a 5) 15 (r 5)), (cI G (a 6) 15 (r 6)), (cI G (a 7) 15 (r 7)), (cI G (a 8) 15 (r 8)), (oX1 (a 9) (nI mf) (a 10) (a 11) (a 12) (a 13) (a 14)), (cI G (a 10) 40 (r 10)), (cI G (a 11) 40 (r 11)), (cI G (a 12) 40 (r 12)), (cI G (a 13) 40 (r 13)), (cI G (a 14) 40 (r 14)), (oX4 (a 15) (a 16) (a 17)), (cI G (a 16) 60 (r 16)), (cI G (a 17) 4 (r 17)), (cI G (a 18) 8192 (r 18)), (oX0 (a 19) (nI cs) mu mn (a 20)), (cI G (a 20) 14 (r 20)), (oX2 (a 21) la (nI fq) (a 22)), (cI G (a 22) 200 (r 22)), (oX3 (a 23) (nI rq) (a 24)), (cI G (a 24) 14 (r 24))] := by rw [← hAe]; exact hD0.own
  have hS : va_S A s.heap s.heap [] := va_S.rf
  have hP : va_P G.1 vwCl [(oX7 (a 0) (a 1) (a 2) (a 9) (a 15) (a 19) (a 21) (a 23)), (oX6 (a 1) (a 2) (a 9) (a 15) (a 18) (nI zN) (bI ub)), (oX5 (a 2) (nI n) (a 3) (a 4) (a 5) (a 6) (a 7) (a 8) bd), (cI G (a 3) 15 (r 3)), (cI G (a 4) 15 (r 4)), (cI G (a 5) 15 (r 5)), (cI G (a 6) 15 (r 6)), (cI G (a 7) 15 (r 7)), (cI G (a 8) 15 (r 8)), (oX1 (a 9) (nI mf) (a 10) (a 11) (a 12) (a 13) (a 14)), (cI G (a 10) 40 (r 10)), (cI G (a 11) 40 (r 11)), (cI G (a 12) 40 (r 12)), (cI G (a 13) 40 (r 13)), (cI G (a 14) 40 (r 14)), (oX4 (a 15) (a 16) (a 17)), (cI G (a 16) 60 (r 16)), (cI G (a 17) 4 (r 17)), (cI G (a 18) 8192 (r 18)), (oX0 (a 19) (nI cs) mu mn (a 20)), (cI G (a 20) 14 (r 20)), (oX2 (a 21) la (nI fq) (a 22)), (cI G (a 22) 200 (r 22)), (oX3 (a 23) (nI rq) (a 24)), (cI G (a 24) 14 (r 24))] s.heap := hP
  have hl := lv_entry ([.ref (a 0), .int i]) (n := 2) (Nat.le_of_ble_eq_true rfl)
  rw [lg_entry_eq]
  generalize (lg_sl ([.ref (a 0), .int i]) ++ List.replicate (2 - (lg_sl ([.ref (a 0), .int i])).length) Slot.unset).toArray = ls at hl ⊢
  have hl : lv_has ls 2 [(0, .ref (a 0)), (1, .int i)] := hl
  refine lv_aload_n hx hb dX7_why_0 rfl (lv_at hl 0 rfl) ?_
  refine va_get (D := G.1) (ci := 9) (v := .ref (a 23)) (C := RX7) (T := TX7) (N := 7) hx hb hts iX7_why_X7 hown hK hP 0 rfl rfl 6 (by decide) (hts _ fX7_why_1) (fun _ h9 => h9) rfl dX7_why_1 ?_
  refine lv_iload_n hx hb dX7_why_4 rfl (lv_at hl 1 rfl) ?_
  refine cpV (ci := 5) (T0 := TX3) (N := 2) (As := [.int i]) (rest := []) ⟨hx, hb, hml, hown, hts⟩ (c_X3_get l G (a 23) (nI rq) (a 24) (r 24) i rq rfl (hq)) (cwV 1 hts gX7_why_X3_get rfl rfl rfl ⟨rfl, hd_X3_get⟩ ⟨Nat.le_of_ble_eq_true rfl, Nat.le_of_ble_eq_true rfl⟩) hKK hP [23, 24] rfl rfl rfl rfl hl.1 rfl (Nat.le_of_ble_eq_true rfl) dX7_why_5 ⟨Nat.zero_le _, Nat.zero_le _⟩ ?_
  exact greti hx hb hr hlocks rfl hAe hS (⟨if i < 0 then 0 else if nI rq ≤ i then 0 else r 24 i.toNatClampNeg, (n, mf, bd, zN, ub, cs, mu, mn, la, fq, rq, r)⟩) (rfl) (rfl) (hP) dX7_why_8

theorem iX7_differ_X7 : ∀ w ∈ u_ws RX7 TX7 7, w ∈ wsX7_differ := by decide +kernel
theorem fX7_differ_1 : Cond.fieldLink RX7 41 "FeatureSolve" "found" "LFeatureSolve$Found;" ∈ wsX7_differ := by decide +kernel
theorem hd_X2_has : yX2_has.cls ≠ "java/lang/invoke/MethodHandle" ∧ yX2_has.cls ≠ "java/lang/invoke/VarHandle" ∧ (parseMethodDescriptor yX2_has.desc).map (fun d => d.parameters.length) = some 1 := by decide +kernel
theorem hd_X2_get : yX2_get.cls ≠ "java/lang/invoke/MethodHandle" ∧ yX2_get.cls ≠ "java/lang/invoke/VarHandle" ∧ (parseMethodDescriptor yX2_get.desc).map (fun d => d.parameters.length) = some 1 := by decide +kernel
set_option maxHeartbeats 4000000 in
set_option maxRecDepth 100000 in
/-- differ -/
theorem c_X7_differ (l : Launch) (G : GG) (a : Nat → Nat) (n mf : Nat) (bd : Int32) (zN : Nat) (ub : Bool) (cs : Nat) (mu mn la : Int32) (fq rq : Nat) (r : Nat → Nat → Int32) (x y : Int32) (hf : fq ≤ 200) : Met l yX7_differ wsX7_differ (rmK 2) (va_Pc [.ref (a 0), .int x, .int y] (PM G [(oX7 (a 0) (a 1) (a 2) (a 9) (a 15) (a 19) (a 21) (a 23)), (oX6 (a 1) (a 2) (a 9) (a 15) (a 18) (nI zN) (bI ub)), (oX5 (a 2) (nI n) (a 3) (a 4) (a 5) (a 6) (a 7) (a 8) bd), (cI G (a 3) 15 (r 3)), (cI G (a 4) 15 (r 4)), (cI G (a 5) 15 (r 5)), (cI G (a 6) 15 (r 6)), (cI G (a 7) 15 (r 7)), (cI G (a 8) 15 (r 8)), (oX1 (a 9) (nI mf) (a 10) (a 11) (a 12) (a 13) (a 14)), (cI G (a 10) 40 (r 10)), (cI G (a 11) 40 (r 11)), (cI G (a 12) 40 (r 12)), (cI G (a 13) 40 (r 13)), (cI G (a 14) 40 (r 14)), (oX4 (a 15) (a 16) (a 17)), (cI G (a 16) 60 (r 16)), (cI G (a 17) 4 (r 17)), (cI G (a 18) 8192 (r 18)), (oX0 (a 19) (nI cs) mu mn (a 20)), (cI G (a 20) 14 (r 20)), (oX2 (a 21) la (nI fq) (a 22)), (cI G (a 22) 200 (r 22)), (oX3 (a 23) (nI rq) (a 24)), (cI G (a 24) 14 (r 24))])) (QG (S := Int32 × CS) G [(oX7 (a 0) (a 1) (a 2) (a 9) (a 15) (a 19) (a 21) (a 23)), (oX6 (a 1) (a 2) (a 9) (a 15) (a 18) (nI zN) (bI ub)), (oX5 (a 2) (nI n) (a 3) (a 4) (a 5) (a 6) (a 7) (a 8) bd), (cI G (a 3) 15 (r 3)), (cI G (a 4) 15 (r 4)), (cI G (a 5) 15 (r 5)), (cI G (a 6) 15 (r 6)), (cI G (a 7) 15 (r 7)), (cI G (a 8) 15 (r 8)), (oX1 (a 9) (nI mf) (a 10) (a 11) (a 12) (a 13) (a 14)), (cI G (a 10) 40 (r 10)), (cI G (a 11) 40 (r 11)), (cI G (a 12) 40 (r 12)), (cI G (a 13) 40 (r 13)), (cI G (a 14) 40 (r 14)), (oX4 (a 15) (a 16) (a 17)), (cI G (a 16) 60 (r 16)), (cI G (a 17) 4 (r 17)), (cI G (a 18) 8192 (r 18)), (oX0 (a 19) (nI cs) mu mn (a 20)), (cI G (a 20) 14 (r 20)), (oX2 (a 21) la (nI fq) (a 22)), (cI G (a 22) 200 (r 22)), (oX3 (a 23) (nI rq) (a 24)), (cI G (a 24) 14 (r 24))] (fun u => u = (cDiffer fq r x y, (n, mf, bd, zN, ub, cs, mu, mn, la, fq, rq, r))) (fun u => some (.int u.1)) (fun u => cW G a u.2)) 0 0 (adr [(oX7 (a 0) (a 1) (a 2) (a 9) (a 15) (a 19) (a 21) (a 23)), (oX6 (a 1) (a 2) (a 9) (a 15) (a 18) (nI zN) (bI ub)), (oX5 (a 2) (nI n) (a 3) (a 4) (a 5) (a 6) (a 7) (a 8) bd), (cI G (a 3) 15 (r 3)), (cI G (a 4) 15 (r 4)), (cI G (a 5) 15 (r 5)), (cI G (a 6) 15 (r 6)), (cI G (a 7) 15 (r 7)), (cI G (a 8) 15 (r 8)), (oX1 (a 9) (nI mf) (a 10) (a 11) (a 12) (a 13) (a 14)), (cI G (a 10) 40 (r 10)), (cI G (a 11) 40 (r 11)), (cI G (a 12) 40 (r 12)), (cI G (a 13) 40 (r 13)), (cI G (a 14) 40 (r 14)), (oX4 (a 15) (a 16) (a 17)), (cI G (a 16) 60 (r 16)), (cI G (a 17) 4 (r 17)), (cI G (a 18) 8192 (r 18)), (oX0 (a 19) (nI cs) mu mn (a 20)), (cI G (a 20) 14 (r 20)), (oX2 (a 21) la (nI fq) (a 22)), (cI G (a 22) 200 (r 22)), (oX3 (a 23) (nI rq) (a 24)), (cI G (a 24) 14 (r 24))]) := by
  refine Met.ofW (cc := cX7_differ) (maxL := 3) (ret := (some .int)) (by decide) rfl ?_
  intro p e s m args below meth c s₁ B hml hv
  obtain ⟨rfl, hP, hD0, hKK⟩ := hv
  have hx := B.exec
  have hb := B.bytes
  have hr := B.returns
  have hts := atoms_spec (ws := wsX7_differ) B.pre
  have hown : s.vm.findClass RX7 = some m.cls := findClass_of_methodNamed B.named
  have hlocks := B.notSynchronized
  have hK := hKK.1
  generalize hAe : adr [(oX7 (a 0) (a 1) (a 2) (a 9) (a 15) (a 19) (a 21) (a 23)), (oX6 (a 1) (a 2) (a 9) (a 15) (a 18) (nI zN) (bI ub)), (oX5 (a 2) (nI n) (a 3) (a 4) (a 5) (a 6) (a 7) (a 8) bd), (cI G (a 3) 15 (r 3)), (cI G (a 4) 15 (r 4)), (cI G (a 5) 15 (r 5)), (cI G (a 6) 15 (r 6)), (cI G (a 7) 15 (r 7)), (cI G (a 8) 15 (r 8)), (oX1 (a 9) (nI mf) (a 10) (a 11) (a 12) (a 13) (a 14)), (cI G (a 10) 40 (r 10)), (cI G (a 11) 40 (r 11)), (cI G (a 12) 40 (r 12)), (cI G (a 13) 40 (r 13)), (cI G (a 14) 40 (r 14)), (oX4 (a 15) (a 16) (a 17)), (cI G (a 16) 60 (r 16)), (cI G (a 17) 4 (r 17)), (cI G (a 18) 8192 (r 18)), (oX0 (a 19) (nI cs) mu mn (a 20)), (cI G (a 20) 14 (r 20)), (oX2 (a 21) la (nI fq) (a 22)), (cI G (a 22) 200 (r 22)), (oX3 (a 23) (nI rq) (a 24)), (cI G (a 24) 14 (r 24))] = A
  have hD : va_D A [(oX7 (a 0) (a 1) (a 2) (a 9) (a 15) (a 19) (a 21) (a 23)), (oX6 (a 1) (a 2) (a 9) (a 15) (a 18) (nI zN) (bI ub)), (oX5 (a 2) (nI n) (a 3) (a 4) (a 5) (a 6) (a 7) (a 8) bd), (cI G (a 3) 15 (r 3)), (cI G (a 4) 15 (r 4)), (cI G (a 5) 15 (r 5)), (cI G (a 6) 15 (r 6)), (cI G (a 7) 15 (r 7)), (cI G (a 8) 15 (r 8)), (oX1 (a 9) (nI mf) (a 10) (a 11) (a 12) (a 13) (a 14)), (cI G (a 10) 40 (r 10)), (cI G (a 11) 40 (r 11)), (cI G (a 12) 40 (r 12)), (cI G (a 13) 40 (r 13)), (cI G (a 14) 40 (r 14)), (oX4 (a 15) (a 16) (a 17)), (cI G (a 16) 60 (r 16)), (cI G (a 17) 4 (r 17)), (cI G (a 18) 8192 (r 18)), (oX0 (a 19) (nI cs) mu mn (a 20)), (cI G (a 20) 14 (r 20)), (oX2 (a 21) la (nI fq) (a 22)), (cI G (a 22) 200 (r 22)), (oX3 (a 23) (nI rq) (a 24)), (cI G (a 24) 14 (r 24))] := by rw [← hAe]; exact hD0.own
  have hS : va_S A s.heap s.heap [] := va_S.rf
  have hP : va_P G.1 vwCl [(oX7 (a 0) (a 1) (a 2) (a 9) (a 15) (a 19) (a 21) (a 23)), (oX6 (a 1) (a 2) (a 9) (a 15) (a 18) (nI zN) (bI ub)), (oX5 (a 2) (nI n) (a 3) (a 4) (a 5) (a 6) (a 7) (a 8) bd), (cI G (a 3) 15 (r 3)), (cI G (a 4) 15 (r 4)), (cI G (a 5) 15 (r 5)), (cI G (a 6) 15 (r 6)), (cI G (a 7) 15 (r 7)), (cI G (a 8) 15 (r 8)), (oX1 (a 9) (nI mf) (a 10) (a 11) (a 12) (a 13) (a 14)), (cI G (a 10) 40 (r 10)), (cI G (a 11) 40 (r 11)), (cI G (a 12) 40 (r 12)), (cI G (a 13) 40 (r 13)), (cI G (a 14) 40 (r 14)), (oX4 (a 15) (a 16) (a 17)), (cI G (a 16) 60 (r 16)), (cI G (a 17) 4 (r 17)), (cI G (a 18) 8192 (r 18)), (oX0 (a 19) (nI cs) mu mn (a 20)), (cI G (a 20) 14 (r 20)), (oX2 (a 21) la (nI fq) (a 22)), (cI G (a 22) 200 (r 22)), (oX3 (a 23) (nI rq) (a 24)), (cI G (a 24) 14 (r 24))] s.heap := hP
  have hl := lv_entry ([.ref (a 0), .int x, .int y]) (n := 3) (Nat.le_of_ble_eq_true rfl)
  rw [lg_entry_eq]
  generalize (lg_sl ([.ref (a 0), .int x, .int y]) ++ List.replicate (3 - (lg_sl ([.ref (a 0), .int x, .int y])).length) Slot.unset).toArray = ls at hl ⊢
  have hl : lv_has ls 3 [(0, .ref (a 0)), (1, .int x), (2, .int y)] := hl
  refine lv_aload_n hx hb dX7_differ_0 rfl (lv_at hl 0 rfl) ?_
  refine va_get (D := G.1) (ci := 9) (v := .ref (a 21)) (C := RX7) (T := TX7) (N := 7) hx hb hts iX7_differ_X7 hown hK hP 0 rfl rfl 5 (by decide) (hts _ fX7_differ_1) (fun _ h9 => h9) rfl dX7_differ_1 ?_
  refine lv_iload_n hx hb dX7_differ_4 rfl (lv_at hl 1 rfl) ?_
  refine cpV (ci := 4) (T0 := TX2) (N := 3) (As := [.int x]) (rest := []) ⟨hx, hb, hml, hown, hts⟩ (c_X2_has l G (a 21) la (nI fq) (a 22) x) (cwV 1 hts gX7_differ_X2_has rfl rfl rfl ⟨rfl, hd_X2_has⟩ ⟨Nat.le_of_ble_eq_true rfl, Nat.le_of_ble_eq_true rfl⟩) hKK hP [21] rfl rfl rfl rfl hl.1 rfl (Nat.le_of_ble_eq_true rfl) dX7_differ_5 ⟨Nat.zero_le _, Nat.zero_le _⟩ ?_
  refine lv_if_eq (tgt := 22) hx hb dX7_differ_8 (by decide) (fun c_8 => ?_) (fun c_8 => ?_)
  · skip
    refine lv_iconst (v := -1) hx hb dX7_differ_22 (by decide) ?_
    exact greti hx hb hr hlocks rfl hAe hS (⟨-1, (n, mf, bd, zN, ub, cs, mu, mn, la, fq, rq, r)⟩) (rfl) (by unfold cDiffer; rw [if_neg (by rw [bI_0.mp c_8]; decide)]) (hP) dX7_differ_23
  · skip
    refine lv_aload_n hx hb dX7_differ_11 rfl (lv_at hl 0 rfl) ?_
    refine va_get (D := G.1) (ci := 9) (v := .ref (a 21)) (C := RX7) (T := TX7) (N := 7) hx hb hts iX7_differ_X7 hown hK hP 0 rfl rfl 5 (by decide) (hts _ fX7_differ_1) (fun _ h9 => h9) rfl dX7_differ_12 ?_
    refine lv_iload_n hx hb dX7_differ_15 rfl (lv_at hl 2 rfl) ?_
    refine cpV (ci := 4) (T0 := TX2) (N := 3) (As := [.int y]) (rest := []) ⟨hx, hb, hml, hown, hts⟩ (c_X2_has l G (a 21) la (nI fq) (a 22) y) (cwV 1 hts gX7_differ_X2_has rfl rfl rfl ⟨rfl, hd_X2_has⟩ ⟨Nat.le_of_ble_eq_true rfl, Nat.le_of_ble_eq_true rfl⟩) hKK hP [21] rfl rfl rfl rfl hl.1 rfl (Nat.le_of_ble_eq_true rfl) dX7_differ_16 ⟨Nat.zero_le _, Nat.zero_le _⟩ ?_
    refine lv_if_ne (tgt := 24) hx hb dX7_differ_19 (by decide) (fun c_19 => ?_) (fun c_19 => ?_)
    · skip
      have hix := hasB_nat (w := fq) (by omega) (bI_n0 c_8)
      have hiy := hasB_nat (w := fq) (by omega) (bI_n0 c_19)
      refine lv_aload_n hx hb dX7_differ_24 rfl (lv_at hl 0 rfl) ?_
      refine va_get (D := G.1) (ci := 9) (v := .ref (a 21)) (C := RX7) (T := TX7) (N := 7) hx hb hts iX7_differ_X7 hown hK hP 0 rfl rfl 5 (by decide) (hts _ fX7_differ_1) (fun _ h9 => h9) rfl dX7_differ_25 ?_
      refine lv_iload_n hx hb dX7_differ_28 rfl (lv_at hl 1 rfl) ?_
      refine cpV (ci := 4) (T0 := TX2) (N := 3) (As := [.int x]) (rest := []) ⟨hx, hb, hml, hown, hts⟩ (c_X2_get l G (a 21) la (nI fq) (a 22) (r 22) x (x.toNatClampNeg - 1) (hix.1) (by omega)) (cwV 1 hts gX7_differ_X2_get rfl rfl rfl ⟨rfl, hd_X2_get⟩ ⟨Nat.le_of_ble_eq_true rfl, Nat.le_of_ble_eq_true rfl⟩) hKK hP [21, 22] rfl rfl rfl rfl hl.1 rfl (Nat.le_of_ble_eq_true rfl) dX7_differ_29 ⟨Nat.zero_le _, Nat.zero_le _⟩ ?_
      refine lv_aload_n hx hb dX7_differ_32 rfl (lv_at hl 0 rfl) ?_
      refine va_get (D := G.1) (ci := 9) (v := .ref (a 21)) (C := RX7) (T := TX7) (N := 7) hx hb hts iX7_differ_X7 hown hK hP 0 rfl rfl 5 (by decide) (hts _ fX7_differ_1) (fun _ h9 => h9) rfl dX7_differ_33 ?_
      refine lv_iload_n hx hb dX7_differ_36 rfl (lv_at hl 2 rfl) ?_
      refine cpV (ci := 4) (T0 := TX2) (N := 3) (As := [.int y]) (rest := [.int ((r 22) (x.toNatClampNeg - 1))]) ⟨hx, hb, hml, hown, hts⟩ (c_X2_get l G (a 21) la (nI fq) (a 22) (r 22) y (y.toNatClampNeg - 1) (hiy.1) (by omega)) (cwV 1 hts gX7_differ_X2_get rfl rfl rfl ⟨rfl, hd_X2_get⟩ ⟨Nat.le_of_ble_eq_true rfl, Nat.le_of_ble_eq_true rfl⟩) hKK hP [21, 22] rfl rfl rfl rfl hl.1 rfl (Nat.le_of_ble_eq_true rfl) dX7_differ_37 ⟨Nat.zero_le _, Nat.zero_le _⟩ ?_
      refine lv_ixor hx hb dX7_differ_40 ?_
      refine cpS (As := [.int (((r 22) (x.toNatClampNeg - 1)) ^^^ ((r 22) (y.toNatClampNeg - 1)))]) (rest := []) ⟨hx, hb, hml, hown, hts⟩ (c_J6_bitCount_0f7a4 l G (((r 22) (x.toNatClampNeg - 1)) ^^^ ((r 22) (y.toNatClampNeg - 1)))) (va_cwS 1 hts gX7_differ_J6_bitCount_0f7a4 rfl rfl rfl hd_J6_bitCount_0f7a4 ⟨Nat.le_of_ble_eq_true rfl, Nat.le_of_ble_eq_true rfl⟩) hKK hP [] rfl rfl hl.1 rfl (Nat.le_of_ble_eq_true rfl) dX7_differ_41 ⟨Nat.zero_le _, Nat.zero_le _⟩ ?_
      exact greti hx hb hr hlocks rfl hAe hS (⟨bcI (r 22 (x.toNatClampNeg - 1) ^^^ r 22 (y.toNatClampNeg - 1)), (n, mf, bd, zN, ub, cs, mu, mn, la, fq, rq, r)⟩) (rfl) (by unfold cDiffer; rw [if_pos (bI_n0 c_8), if_pos (bI_n0 c_19)]) (hP) dX7_differ_44
    · skip
      refine lv_iconst (v := -1) hx hb dX7_differ_22 (by decide) ?_
      exact greti hx hb hr hlocks rfl hAe hS (⟨-1, (n, mf, bd, zN, ub, cs, mu, mn, la, fq, rq, r)⟩) (rfl) (by unfold cDiffer; rw [if_pos (bI_n0 c_8), if_neg (by rw [bI_0.mp c_19]; decide)]) (hP) dX7_differ_23

theorem iX7_count_X7 : ∀ w ∈ u_ws RX7 TX7 7, w ∈ wsX7_count := by decide +kernel
theorem fX7_count_1 : Cond.fieldLink RX7 20 "FeatureSolve" "tree" "LFeatureSolve$Tree;" ∈ wsX7_count := by decide +kernel
theorem iX7_count_X5 : ∀ w ∈ u_ws RX5 TX5 8, w ∈ wsX7_count := by decide +kernel
theorem fX7_count_3 : Cond.fieldLink RX7 58 "FeatureSolve$Tree" "size" "I" ∈ wsX7_count := by decide +kernel
theorem fX7_count_4 : Cond.fieldLink RX7 10 "FeatureSolve" "variants" "LFeatureSolve$Variants;" ∈ wsX7_count := by decide +kernel
theorem fX7_count_5 : Cond.fieldLink RX7 34 "FeatureSolve" "choices" "LFeatureSolve$Choices;" ∈ wsX7_count := by decide +kernel
theorem iX7_count_X0 : ∀ w ∈ u_ws RX0 TX0 4, w ∈ wsX7_count := by decide +kernel
theorem fX7_count_7 : Cond.fieldLink RX7 107 "FeatureSolve$Choices" "must" "I" ∈ wsX7_count := by decide +kernel
theorem fX7_count_8 : Cond.fieldLink RX7 110 "FeatureSolve$Choices" "mustNot" "I" ∈ wsX7_count := by decide +kernel
theorem hd_X6_number : yX6_number.cls ≠ "java/lang/invoke/MethodHandle" ∧ yX6_number.cls ≠ "java/lang/invoke/VarHandle" ∧ (parseMethodDescriptor yX6_number.desc).map (fun d => d.parameters.length) = some 2 := by decide +kernel
theorem fX7_count_9 : Cond.constantLong RX7 140 (-1) ∈ wsX7_count := by decide +kernel
theorem fX7_count_10 : Cond.constantLong RX7 138 (-2) ∈ wsX7_count := by decide +kernel
set_option maxHeartbeats 4000000 in
set_option maxRecDepth 100000 in
/-- count -/
theorem c_X7_count (l : Launch) (G : GG) (a : Nat → Nat) (n mf : Nat) (bd : Int32) (zN : Nat) (ub : Bool) (cs : Nat) (mu mn la : Int32) (fq rq : Nat) (r : Nat → Nat → Int32) (st : Int64) (hu : upOk r bd n mf zN ub (r 18)) : Met l yX7_count wsX7_count (rmK 5) (va_Pc [.ref (a 0), .long st] (PM G [(oX7 (a 0) (a 1) (a 2) (a 9) (a 15) (a 19) (a 21) (a 23)), (oX6 (a 1) (a 2) (a 9) (a 15) (a 18) (nI zN) (bI ub)), (oX5 (a 2) (nI n) (a 3) (a 4) (a 5) (a 6) (a 7) (a 8) bd), (cI G (a 3) 15 (r 3)), (cI G (a 4) 15 (r 4)), (cI G (a 5) 15 (r 5)), (cI G (a 6) 15 (r 6)), (cI G (a 7) 15 (r 7)), (cI G (a 8) 15 (r 8)), (oX1 (a 9) (nI mf) (a 10) (a 11) (a 12) (a 13) (a 14)), (cI G (a 10) 40 (r 10)), (cI G (a 11) 40 (r 11)), (cI G (a 12) 40 (r 12)), (cI G (a 13) 40 (r 13)), (cI G (a 14) 40 (r 14)), (oX4 (a 15) (a 16) (a 17)), (cI G (a 16) 60 (r 16)), (cI G (a 17) 4 (r 17)), (cI G (a 18) 8192 (r 18)), (oX0 (a 19) (nI cs) mu mn (a 20)), (cI G (a 20) 14 (r 20)), (oX2 (a 21) la (nI fq) (a 22)), (cI G (a 22) 200 (r 22)), (oX3 (a 23) (nI rq) (a 24)), (cI G (a 24) 14 (r 24))])) (QG (S := Int64 × CS) G [(oX7 (a 0) (a 1) (a 2) (a 9) (a 15) (a 19) (a 21) (a 23)), (oX6 (a 1) (a 2) (a 9) (a 15) (a 18) (nI zN) (bI ub)), (oX5 (a 2) (nI n) (a 3) (a 4) (a 5) (a 6) (a 7) (a 8) bd), (cI G (a 3) 15 (r 3)), (cI G (a 4) 15 (r 4)), (cI G (a 5) 15 (r 5)), (cI G (a 6) 15 (r 6)), (cI G (a 7) 15 (r 7)), (cI G (a 8) 15 (r 8)), (oX1 (a 9) (nI mf) (a 10) (a 11) (a 12) (a 13) (a 14)), (cI G (a 10) 40 (r 10)), (cI G (a 11) 40 (r 11)), (cI G (a 12) 40 (r 12)), (cI G (a 13) 40 (r 13)), (cI G (a 14) 40 (r 14)), (oX4 (a 15) (a 16) (a 17)), (cI G (a 16) 60 (r 16)), (cI G (a 17) 4 (r 17)), (cI G (a 18) 8192 (r 18)), (oX0 (a 19) (nI cs) mu mn (a 20)), (cI G (a 20) 14 (r 20)), (oX2 (a 21) la (nI fq) (a 22)), (cI G (a 22) 200 (r 22)), (oX3 (a 23) (nI rq) (a 24)), (cI G (a 24) 14 (r 24))] (fun u => cCount n mf bd zN ub cs mu mn la fq rq r st u) (fun u => some (.long u.1)) (fun u => cW G a u.2)) 0 0 (adr [(oX7 (a 0) (a 1) (a 2) (a 9) (a 15) (a 19) (a 21) (a 23)), (oX6 (a 1) (a 2) (a 9) (a 15) (a 18) (nI zN) (bI ub)), (oX5 (a 2) (nI n) (a 3) (a 4) (a 5) (a 6) (a 7) (a 8) bd), (cI G (a 3) 15 (r 3)), (cI G (a 4) 15 (r 4)), (cI G (a 5) 15 (r 5)), (cI G (a 6) 15 (r 6)), (cI G (a 7) 15 (r 7)), (cI G (a 8) 15 (r 8)), (oX1 (a 9) (nI mf) (a 10) (a 11) (a 12) (a 13) (a 14)), (cI G (a 10) 40 (r 10)), (cI G (a 11) 40 (r 11)), (cI G (a 12) 40 (r 12)), (cI G (a 13) 40 (r 13)), (cI G (a 14) 40 (r 14)), (oX4 (a 15) (a 16) (a 17)), (cI G (a 16) 60 (r 16)), (cI G (a 17) 4 (r 17)), (cI G (a 18) 8192 (r 18)), (oX0 (a 19) (nI cs) mu mn (a 20)), (cI G (a 20) 14 (r 20)), (oX2 (a 21) la (nI fq) (a 22)), (cI G (a 22) 200 (r 22)), (oX3 (a 23) (nI rq) (a 24)), (cI G (a 24) 14 (r 24))]) := by
  refine Met.ofW (cc := cX7_count) (maxL := 3) (ret := (some .long)) (by decide) rfl ?_
  intro p e s m args below meth c s₁ B hml hv
  obtain ⟨rfl, hP, hD0, hKK⟩ := hv
  have hx := B.exec
  have hb := B.bytes
  have hr := B.returns
  have hts := atoms_spec (ws := wsX7_count) B.pre
  have hown : s.vm.findClass RX7 = some m.cls := findClass_of_methodNamed B.named
  have hlocks := B.notSynchronized
  have hK := hKK.1
  generalize hAe : adr [(oX7 (a 0) (a 1) (a 2) (a 9) (a 15) (a 19) (a 21) (a 23)), (oX6 (a 1) (a 2) (a 9) (a 15) (a 18) (nI zN) (bI ub)), (oX5 (a 2) (nI n) (a 3) (a 4) (a 5) (a 6) (a 7) (a 8) bd), (cI G (a 3) 15 (r 3)), (cI G (a 4) 15 (r 4)), (cI G (a 5) 15 (r 5)), (cI G (a 6) 15 (r 6)), (cI G (a 7) 15 (r 7)), (cI G (a 8) 15 (r 8)), (oX1 (a 9) (nI mf) (a 10) (a 11) (a 12) (a 13) (a 14)), (cI G (a 10) 40 (r 10)), (cI G (a 11) 40 (r 11)), (cI G (a 12) 40 (r 12)), (cI G (a 13) 40 (r 13)), (cI G (a 14) 40 (r 14)), (oX4 (a 15) (a 16) (a 17)), (cI G (a 16) 60 (r 16)), (cI G (a 17) 4 (r 17)), (cI G (a 18) 8192 (r 18)), (oX0 (a 19) (nI cs) mu mn (a 20)), (cI G (a 20) 14 (r 20)), (oX2 (a 21) la (nI fq) (a 22)), (cI G (a 22) 200 (r 22)), (oX3 (a 23) (nI rq) (a 24)), (cI G (a 24) 14 (r 24))] = A
  have hD : va_D A [(oX7 (a 0) (a 1) (a 2) (a 9) (a 15) (a 19) (a 21) (a 23)), (oX6 (a 1) (a 2) (a 9) (a 15) (a 18) (nI zN) (bI ub)), (oX5 (a 2) (nI n) (a 3) (a 4) (a 5) (a 6) (a 7) (a 8) bd), (cI G (a 3) 15 (r 3)), (cI G (a 4) 15 (r 4)), (cI G (a 5) 15 (r 5)), (cI G (a 6) 15 (r 6)), (cI G (a 7) 15 (r 7)), (cI G (a 8) 15 (r 8)), (oX1 (a 9) (nI mf) (a 10) (a 11) (a 12) (a 13) (a 14)), (cI G (a 10) 40 (r 10)), (cI G (a 11) 40 (r 11)), (cI G (a 12) 40 (r 12)), (cI G (a 13) 40 (r 13)), (cI G (a 14) 40 (r 14)), (oX4 (a 15) (a 16) (a 17)), (cI G (a 16) 60 (r 16)), (cI G (a 17) 4 (r 17)), (cI G (a 18) 8192 (r 18)), (oX0 (a 19) (nI cs) mu mn (a 20)), (cI G (a 20) 14 (r 20)), (oX2 (a 21) la (nI fq) (a 22)), (cI G (a 22) 200 (r 22)), (oX3 (a 23) (nI rq) (a 24)), (cI G (a 24) 14 (r 24))] := by rw [← hAe]; exact hD0.own
  have hS : va_S A s.heap s.heap [] := va_S.rf
  have hP : va_P G.1 vwCl [(oX7 (a 0) (a 1) (a 2) (a 9) (a 15) (a 19) (a 21) (a 23)), (oX6 (a 1) (a 2) (a 9) (a 15) (a 18) (nI zN) (bI ub)), (oX5 (a 2) (nI n) (a 3) (a 4) (a 5) (a 6) (a 7) (a 8) bd), (cI G (a 3) 15 (r 3)), (cI G (a 4) 15 (r 4)), (cI G (a 5) 15 (r 5)), (cI G (a 6) 15 (r 6)), (cI G (a 7) 15 (r 7)), (cI G (a 8) 15 (r 8)), (oX1 (a 9) (nI mf) (a 10) (a 11) (a 12) (a 13) (a 14)), (cI G (a 10) 40 (r 10)), (cI G (a 11) 40 (r 11)), (cI G (a 12) 40 (r 12)), (cI G (a 13) 40 (r 13)), (cI G (a 14) 40 (r 14)), (oX4 (a 15) (a 16) (a 17)), (cI G (a 16) 60 (r 16)), (cI G (a 17) 4 (r 17)), (cI G (a 18) 8192 (r 18)), (oX0 (a 19) (nI cs) mu mn (a 20)), (cI G (a 20) 14 (r 20)), (oX2 (a 21) la (nI fq) (a 22)), (cI G (a 22) 200 (r 22)), (oX3 (a 23) (nI rq) (a 24)), (cI G (a 24) 14 (r 24))] s.heap := hP
  have hl := lv_entry ([.ref (a 0), .long st]) (n := 3) (Nat.le_of_ble_eq_true rfl)
  rw [lg_entry_eq]
  generalize (lg_sl ([.ref (a 0), .long st]) ++ List.replicate (3 - (lg_sl ([.ref (a 0), .long st])).length) Slot.unset).toArray = ls at hl ⊢
  have hl : lv_has ls 3 [(0, .ref (a 0)), (1, .long st)] := hl
  refine lv_lload_n hx hb dX7_count_0 rfl (lv_at hl 1 rfl) ?_
  refine lv_lconst (v := 0) hx hb dX7_count_1 (by decide) ?_
  refine W.lcmp hx hb dX7_count_2 ?_
  refine lv_if_ge (tgt := 10) hx hb dX7_count_3 (by decide) (fun c_3 => ?_) (fun c_3 => ?_)
  · skip
    refine lv_lconst (v := 1) hx hb dX7_count_10 (by decide) ?_
    refine lv_aload_n hx hb dX7_count_11 rfl (lv_at hl 0 rfl) ?_
    refine va_get (D := G.1) (ci := 9) (v := .ref (a 2)) (C := RX7) (T := TX7) (N := 7) hx hb hts iX7_count_X7 hown hK hP 0 rfl rfl 1 (by decide) (hts _ fX7_count_1) (fun _ h9 => h9) rfl dX7_count_12 ?_
    refine va_get (D := G.1) (ci := 7) (v := .int (nI n)) (C := RX5) (T := TX5) (N := 8) hx hb hts iX7_count_X5 hown hK hP 2 rfl rfl 0 (by decide) (hts _ fX7_count_3) (fun _ h9 => h9) rfl dX7_count_15 ?_
    refine lv_lshl (v := (1 : Int64) <<< (((nI n) : Int32).toInt64 &&& 63)) hx hb dX7_count_18 rfl ?_
    refine lv_lload_n hx hb dX7_count_19 rfl (lv_at hl 1 rfl) ?_
    refine W.lcmp hx hb dX7_count_20 ?_
    refine lv_if_le (tgt := 28) hx hb dX7_count_21 (by decide) (fun c_21 => ?_) (fun c_21 => ?_)
    · skip
      refine lv_aload_n hx hb dX7_count_28 rfl (lv_at hl 0 rfl) ?_
      refine va_get (D := G.1) (ci := 9) (v := .ref (a 1)) (C := RX7) (T := TX7) (N := 7) hx hb hts iX7_count_X7 hown hK hP 0 rfl rfl 0 (by decide) (hts _ fX7_count_4) (fun _ h9 => h9) rfl dX7_count_29 ?_
      refine lv_aload_n hx hb dX7_count_32 rfl (lv_at hl 0 rfl) ?_
      refine va_get (D := G.1) (ci := 9) (v := .ref (a 19)) (C := RX7) (T := TX7) (N := 7) hx hb hts iX7_count_X7 hown hK hP 0 rfl rfl 4 (by decide) (hts _ fX7_count_5) (fun _ h9 => h9) rfl dX7_count_33 ?_
      refine va_get (D := G.1) (ci := 2) (v := .int mu) (C := RX0) (T := TX0) (N := 4) hx hb hts iX7_count_X0 hown hK hP 19 rfl rfl 1 (by decide) (hts _ fX7_count_7) (fun _ h9 => h9) rfl dX7_count_36 ?_
      refine lv_aload_n hx hb dX7_count_39 rfl (lv_at hl 0 rfl) ?_
      refine va_get (D := G.1) (ci := 9) (v := .ref (a 19)) (C := RX7) (T := TX7) (N := 7) hx hb hts iX7_count_X7 hown hK hP 0 rfl rfl 4 (by decide) (hts _ fX7_count_5) (fun _ h9 => h9) rfl dX7_count_40 ?_
      refine va_get (D := G.1) (ci := 2) (v := .int mn) (C := RX0) (T := TX0) (N := 4) hx hb hts iX7_count_X0 hown hK hP 19 rfl rfl 2 (by decide) (hts _ fX7_count_8) (fun _ h9 => h9) rfl dX7_count_43 ?_
      refine cnV (nw := 25) (ci := 8) (T0 := TX6) (N := 6) (As := [.int mu, .int mn]) (rest := []) ⟨hx, hb, hml, hown, hts⟩ (c_X6_number l G a r n mf bd zN ub (r 18) mu mn (hu)) (cwV 2 hts gX7_count_X6_number rfl rfl rfl ⟨rfl, hd_X6_number⟩ ⟨Nat.le_of_ble_eq_true rfl, Nat.le_of_ble_eq_true rfl⟩) hKK hP hD hS [1, 2, 3, 5, 6, 7, 8, 9, 10, 11, 12, 13, 14, 15, 16, 17, 18] [0, 4, 19, 20, 21, 22, 23, 24] (fun gu => [(oX7 (a 0) (a 1) (a 2) (a 9) (a 15) (a 19) (a 21) (a 23)), (oX6 (a 1) (a 2) (a 9) (a 15) (a 18) (nI (vLL r bd n mf).length) 1), (oX5 (a 2) (nI n) (a 3) (a 4) (a 5) (a 6) (a 7) (a 8) bd), (cI G (a 3) 15 (r 3)), (cI G (a 4) 15 (r 4)), (cI G (a 5) 15 (r 5)), (cI G (a 6) 15 (r 6)), (cI G (a 7) 15 (r 7)), (cI G (a 8) 15 (r 8)), (oX1 (a 9) (nI mf) (a 10) (a 11) (a 12) (a 13) (a 14)), (cI G (a 10) 40 (r 10)), (cI G (a 11) 40 (r 11)), (cI G (a 12) 40 (r 12)), (cI G (a 13) 40 (r 13)), (cI G (a 14) 40 (r 14)), (oX4 (a 15) (a 16) (a 17)), (cI G (a 16) 60 (r 16)), (cI G (a 17) 4 (r 17)), (cI G (a 18) 8192 gu), (oX0 (a 19) (nI cs) mu mn (a 20)), (cI G (a 20) 14 (r 20)), (oX2 (a 21) la (nI fq) (a 22)), (cI G (a 22) 200 (r 22)), (oX3 (a 23) (nI rq) (a 24)), (cI G (a 24) 14 (r 24))]) [some (oX7 (a 0) (a 1) (a 2) (a 9) (a 15) (a 19) (a 21) (a 23)), some (cI G (a 4) 15 (r 4)), some (oX0 (a 19) (nI cs) mu mn (a 20)), some (cI G (a 20) 14 (r 20)), some (oX2 (a 21) la (nI fq) (a 22)), some (cI G (a 22) 200 (r 22)), some (oX3 (a 23) (nI rq) (a 24)), some (cI G (a 24) 14 (r 24))] [a 0, a 1, a 2, a 3, a 4, a 5, a 6, a 7, a 8, a 9, a 10, a 11, a 12, a 13, a 14, a 15, a 16, a 17, a 18, a 19, a 20, a 21, a 22, a 23, a 24] rfl (by decide) (by decide) rfl rfl rfl hl.1 rfl (Nat.le_of_ble_eq_true rfl) dX7_count_46 ⟨Nat.zero_le _, Nat.zero_le _⟩ (fun _ => rfl) (fun _ => rfl) rfl (fun _ => rfl) rfl (fun _ => rfl) (fun gu H locs hgu hP hD hS => ?_)
      refine lv_i2l (v := ((nI ((vLL r bd n mf).filter (fun v => fitsB v mu mn)).length) : Int32).toInt64) hx hb dX7_count_49 (rfl) ?_
      exact gretl hx hb hr hlocks hAe hS (⟨(nI ((vLL r bd n mf).filter (fun v => fitsB v mu mn)).length).toInt64, (n, mf, bd, (vLL r bd n mf).length, true, cs, mu, mn, la, fq, rq, upR r 18 gu)⟩) (rfl) (by unfold cCount; rw [if_pos c_3, if_pos c_21]; exact ⟨gu, hgu, rfl⟩) (hP) dX7_count_50
    · skip
      refine lv_ldc2 hx hb hown (hts _ fX7_count_9) dX7_count_24 ?_
      exact gretl hx hb hr hlocks hAe hS (⟨-1, (n, mf, bd, zN, ub, cs, mu, mn, la, fq, rq, r)⟩) (rfl) (by unfold cCount; rw [if_pos c_3, if_neg c_21]) (hP) dX7_count_27
  · skip
    refine lv_ldc2 hx hb hown (hts _ fX7_count_10) dX7_count_6 ?_
    exact gretl hx hb hr hlocks hAe hS (⟨-2, (n, mf, bd, zN, ub, cs, mu, mn, la, fq, rq, r)⟩) (rfl) (by unfold cCount; rw [if_neg c_3]) (hP) dX7_count_9

theorem iX7_choose_X7 : ∀ w ∈ u_ws RX7 TX7 7, w ∈ wsX7_choose := by decide +kernel
theorem fX7_choose_1 : Cond.fieldLink RX7 20 "FeatureSolve" "tree" "LFeatureSolve$Tree;" ∈ wsX7_choose := by decide +kernel
theorem fX7_choose_2 : Cond.fieldLink RX7 34 "FeatureSolve" "choices" "LFeatureSolve$Choices;" ∈ wsX7_choose := by decide +kernel
theorem hd_X0_tell : yX0_tell.cls ≠ "java/lang/invoke/MethodHandle" ∧ yX0_tell.cls ≠ "java/lang/invoke/VarHandle" ∧ (parseMethodDescriptor yX0_tell.desc).map (fun d => d.parameters.length) = some 2 := by decide +kernel
theorem iX7_choose_X0 : ∀ w ∈ u_ws RX0 TX0 4, w ∈ wsX7_choose := by decide +kernel
theorem fX7_choose_4 : Cond.fieldLink RX7 106 "FeatureSolve$Choices" "size" "I" ∈ wsX7_choose := by decide +kernel
set_option maxHeartbeats 4000000 in
set_option maxRecDepth 100000 in
/-- choose -/
theorem c_X7_choose (l : Launch) (G : GG) (a : Nat → Nat) (n mf : Nat) (bd : Int32) (zN : Nat) (ub : Bool) (L : List Int32) (mu mn la : Int32) (fq rq : Nat) (r : Nat → Nat → Int32) (x : Int32) (on : Bool) (hL : L.length ≤ 14) (hr0 : rowIs (r 20) L) (hcap : hasSignedB (nI n) x = true → 0 ≤ x → (L.filter (dropB x)).length < 14) : Met l yX7_choose wsX7_choose (rmK 3) (va_Pc [.ref (a 0), .int x, .int (bI on)] (PM G [(oX7 (a 0) (a 1) (a 2) (a 9) (a 15) (a 19) (a 21) (a 23)), (oX6 (a 1) (a 2) (a 9) (a 15) (a 18) (nI zN) (bI ub)), (oX5 (a 2) (nI n) (a 3) (a 4) (a 5) (a 6) (a 7) (a 8) bd), (cI G (a 3) 15 (r 3)), (cI G (a 4) 15 (r 4)), (cI G (a 5) 15 (r 5)), (cI G (a 6) 15 (r 6)), (cI G (a 7) 15 (r 7)), (cI G (a 8) 15 (r 8)), (oX1 (a 9) (nI mf) (a 10) (a 11) (a 12) (a 13) (a 14)), (cI G (a 10) 40 (r 10)), (cI G (a 11) 40 (r 11)), (cI G (a 12) 40 (r 12)), (cI G (a 13) 40 (r 13)), (cI G (a 14) 40 (r 14)), (oX4 (a 15) (a 16) (a 17)), (cI G (a 16) 60 (r 16)), (cI G (a 17) 4 (r 17)), (cI G (a 18) 8192 (r 18)), (oX0 (a 19) (nI L.length) mu mn (a 20)), (cI G (a 20) 14 (r 20)), (oX2 (a 21) la (nI fq) (a 22)), (cI G (a 22) 200 (r 22)), (oX3 (a 23) (nI rq) (a 24)), (cI G (a 24) 14 (r 24))])) (QG (S := Int32 × CS) G [(oX7 (a 0) (a 1) (a 2) (a 9) (a 15) (a 19) (a 21) (a 23)), (oX6 (a 1) (a 2) (a 9) (a 15) (a 18) (nI zN) (bI ub)), (oX5 (a 2) (nI n) (a 3) (a 4) (a 5) (a 6) (a 7) (a 8) bd), (cI G (a 3) 15 (r 3)), (cI G (a 4) 15 (r 4)), (cI G (a 5) 15 (r 5)), (cI G (a 6) 15 (r 6)), (cI G (a 7) 15 (r 7)), (cI G (a 8) 15 (r 8)), (oX1 (a 9) (nI mf) (a 10) (a 11) (a 12) (a 13) (a 14)), (cI G (a 10) 40 (r 10)), (cI G (a 11) 40 (r 11)), (cI G (a 12) 40 (r 12)), (cI G (a 13) 40 (r 13)), (cI G (a 14) 40 (r 14)), (oX4 (a 15) (a 16) (a 17)), (cI G (a 16) 60 (r 16)), (cI G (a 17) 4 (r 17)), (cI G (a 18) 8192 (r 18)), (oX0 (a 19) (nI L.length) mu mn (a 20)), (cI G (a 20) 14 (r 20)), (oX2 (a 21) la (nI fq) (a 22)), (cI G (a 22) 200 (r 22)), (oX3 (a 23) (nI rq) (a 24)), (cI G (a 24) 14 (r 24))] (fun u => cChoose n mf bd zN ub L mu mn la fq rq r x on u) (fun u => some (.int u.1)) (fun u => cW G a u.2)) 0 0 (adr [(oX7 (a 0) (a 1) (a 2) (a 9) (a 15) (a 19) (a 21) (a 23)), (oX6 (a 1) (a 2) (a 9) (a 15) (a 18) (nI zN) (bI ub)), (oX5 (a 2) (nI n) (a 3) (a 4) (a 5) (a 6) (a 7) (a 8) bd), (cI G (a 3) 15 (r 3)), (cI G (a 4) 15 (r 4)), (cI G (a 5) 15 (r 5)), (cI G (a 6) 15 (r 6)), (cI G (a 7) 15 (r 7)), (cI G (a 8) 15 (r 8)), (oX1 (a 9) (nI mf) (a 10) (a 11) (a 12) (a 13) (a 14)), (cI G (a 10) 40 (r 10)), (cI G (a 11) 40 (r 11)), (cI G (a 12) 40 (r 12)), (cI G (a 13) 40 (r 13)), (cI G (a 14) 40 (r 14)), (oX4 (a 15) (a 16) (a 17)), (cI G (a 16) 60 (r 16)), (cI G (a 17) 4 (r 17)), (cI G (a 18) 8192 (r 18)), (oX0 (a 19) (nI L.length) mu mn (a 20)), (cI G (a 20) 14 (r 20)), (oX2 (a 21) la (nI fq) (a 22)), (cI G (a 22) 200 (r 22)), (oX3 (a 23) (nI rq) (a 24)), (cI G (a 24) 14 (r 24))]) := by
  refine Met.ofW (cc := cX7_choose) (maxL := 3) (ret := (some .int)) (by decide) rfl ?_
  intro p e s m args below meth c s₁ B hml hv
  obtain ⟨rfl, hP, hD0, hKK⟩ := hv
  have hx := B.exec
  have hb := B.bytes
  have hr := B.returns
  have hts := atoms_spec (ws := wsX7_choose) B.pre
  have hown : s.vm.findClass RX7 = some m.cls := findClass_of_methodNamed B.named
  have hlocks := B.notSynchronized
  have hK := hKK.1
  generalize hAe : adr [(oX7 (a 0) (a 1) (a 2) (a 9) (a 15) (a 19) (a 21) (a 23)), (oX6 (a 1) (a 2) (a 9) (a 15) (a 18) (nI zN) (bI ub)), (oX5 (a 2) (nI n) (a 3) (a 4) (a 5) (a 6) (a 7) (a 8) bd), (cI G (a 3) 15 (r 3)), (cI G (a 4) 15 (r 4)), (cI G (a 5) 15 (r 5)), (cI G (a 6) 15 (r 6)), (cI G (a 7) 15 (r 7)), (cI G (a 8) 15 (r 8)), (oX1 (a 9) (nI mf) (a 10) (a 11) (a 12) (a 13) (a 14)), (cI G (a 10) 40 (r 10)), (cI G (a 11) 40 (r 11)), (cI G (a 12) 40 (r 12)), (cI G (a 13) 40 (r 13)), (cI G (a 14) 40 (r 14)), (oX4 (a 15) (a 16) (a 17)), (cI G (a 16) 60 (r 16)), (cI G (a 17) 4 (r 17)), (cI G (a 18) 8192 (r 18)), (oX0 (a 19) (nI L.length) mu mn (a 20)), (cI G (a 20) 14 (r 20)), (oX2 (a 21) la (nI fq) (a 22)), (cI G (a 22) 200 (r 22)), (oX3 (a 23) (nI rq) (a 24)), (cI G (a 24) 14 (r 24))] = A
  have hD : va_D A [(oX7 (a 0) (a 1) (a 2) (a 9) (a 15) (a 19) (a 21) (a 23)), (oX6 (a 1) (a 2) (a 9) (a 15) (a 18) (nI zN) (bI ub)), (oX5 (a 2) (nI n) (a 3) (a 4) (a 5) (a 6) (a 7) (a 8) bd), (cI G (a 3) 15 (r 3)), (cI G (a 4) 15 (r 4)), (cI G (a 5) 15 (r 5)), (cI G (a 6) 15 (r 6)), (cI G (a 7) 15 (r 7)), (cI G (a 8) 15 (r 8)), (oX1 (a 9) (nI mf) (a 10) (a 11) (a 12) (a 13) (a 14)), (cI G (a 10) 40 (r 10)), (cI G (a 11) 40 (r 11)), (cI G (a 12) 40 (r 12)), (cI G (a 13) 40 (r 13)), (cI G (a 14) 40 (r 14)), (oX4 (a 15) (a 16) (a 17)), (cI G (a 16) 60 (r 16)), (cI G (a 17) 4 (r 17)), (cI G (a 18) 8192 (r 18)), (oX0 (a 19) (nI L.length) mu mn (a 20)), (cI G (a 20) 14 (r 20)), (oX2 (a 21) la (nI fq) (a 22)), (cI G (a 22) 200 (r 22)), (oX3 (a 23) (nI rq) (a 24)), (cI G (a 24) 14 (r 24))] := by rw [← hAe]; exact hD0.own
  have hS : va_S A s.heap s.heap [] := va_S.rf
  have hP : va_P G.1 vwCl [(oX7 (a 0) (a 1) (a 2) (a 9) (a 15) (a 19) (a 21) (a 23)), (oX6 (a 1) (a 2) (a 9) (a 15) (a 18) (nI zN) (bI ub)), (oX5 (a 2) (nI n) (a 3) (a 4) (a 5) (a 6) (a 7) (a 8) bd), (cI G (a 3) 15 (r 3)), (cI G (a 4) 15 (r 4)), (cI G (a 5) 15 (r 5)), (cI G (a 6) 15 (r 6)), (cI G (a 7) 15 (r 7)), (cI G (a 8) 15 (r 8)), (oX1 (a 9) (nI mf) (a 10) (a 11) (a 12) (a 13) (a 14)), (cI G (a 10) 40 (r 10)), (cI G (a 11) 40 (r 11)), (cI G (a 12) 40 (r 12)), (cI G (a 13) 40 (r 13)), (cI G (a 14) 40 (r 14)), (oX4 (a 15) (a 16) (a 17)), (cI G (a 16) 60 (r 16)), (cI G (a 17) 4 (r 17)), (cI G (a 18) 8192 (r 18)), (oX0 (a 19) (nI L.length) mu mn (a 20)), (cI G (a 20) 14 (r 20)), (oX2 (a 21) la (nI fq) (a 22)), (cI G (a 22) 200 (r 22)), (oX3 (a 23) (nI rq) (a 24)), (cI G (a 24) 14 (r 24))] s.heap := hP
  have hl := lv_entry ([.ref (a 0), .int x, .int (bI on)]) (n := 3) (Nat.le_of_ble_eq_true rfl)
  rw [lg_entry_eq]
  generalize (lg_sl ([.ref (a 0), .int x, .int (bI on)]) ++ List.replicate (3 - (lg_sl ([.ref (a 0), .int x, .int (bI on)])).length) Slot.unset).toArray = ls at hl ⊢
  have hl : lv_has ls 3 [(0, .ref (a 0)), (1, .int x), (2, .int (bI on))] := hl
  refine lv_aload_n hx hb dX7_choose_0 rfl (lv_at hl 0 rfl) ?_
  refine va_get (D := G.1) (ci := 9) (v := .ref (a 2)) (C := RX7) (T := TX7) (N := 7) hx hb hts iX7_choose_X7 hown hK hP 0 rfl rfl 1 (by decide) (hts _ fX7_choose_1) (fun _ h9 => h9) rfl dX7_choose_1 ?_
  refine lv_iload_n hx hb dX7_choose_4 rfl (lv_at hl 1 rfl) ?_
  refine cpV (ci := 7) (T0 := TX5) (N := 8) (As := [.int x]) (rest := []) ⟨hx, hb, hml, hown, hts⟩ (c_X5_hasSigned l G (a 2) (nI n) (a 3) (a 4) (a 5) (a 6) (a 7) (a 8) bd x) (cwV 1 hts gX7_choose_X5_hasSigned rfl rfl rfl ⟨rfl, hd_X5_hasSigned⟩ ⟨Nat.le_of_ble_eq_true rfl, Nat.le_of_ble_eq_true rfl⟩) hKK hP [2] rfl rfl rfl rfl hl.1 rfl (Nat.le_of_ble_eq_true rfl) dX7_choose_5 ⟨Nat.zero_le _, Nat.zero_le _⟩ ?_
  refine lv_if_ne (tgt := 13) hx hb dX7_choose_8 (by decide) (fun c_8 => ?_) (fun c_8 => ?_)
  · skip
    refine lv_iload_n hx hb dX7_choose_13 rfl (lv_at hl 1 rfl) ?_
    refine lv_if_ge (tgt := 29) hx hb dX7_choose_14 (by decide) (fun c_14 => ?_) (fun c_14 => ?_)
    · skip
      refine lv_aload_n hx hb dX7_choose_29 rfl (lv_at hl 0 rfl) ?_
      refine va_get (D := G.1) (ci := 9) (v := .ref (a 19)) (C := RX7) (T := TX7) (N := 7) hx hb hts iX7_choose_X7 hown hK hP 0 rfl rfl 4 (by decide) (hts _ fX7_choose_2) (fun _ h9 => h9) rfl dX7_choose_30 ?_
      refine lv_iload_n hx hb dX7_choose_33 rfl (lv_at hl 1 rfl) ?_
      refine lv_iload_n hx hb dX7_choose_34 rfl (lv_at hl 2 rfl) ?_
      refine cnV (nw := 25) (ci := 2) (T0 := TX0) (N := 4) (As := [.int x, .int (bI on)]) (rest := []) ⟨hx, hb, hml, hown, hts⟩ (c_X0_tell l G (a 19) mu mn (a 20) (r 20) L x on hL hr0 (hcap (bI_n0 c_8) c_14)) (cwV 2 hts gX7_choose_X0_tell rfl rfl rfl ⟨rfl, hd_X0_tell⟩ ⟨Nat.le_of_ble_eq_true rfl, Nat.le_of_ble_eq_true rfl⟩) hKK hP hD hS [19, 20] [0, 1, 2, 3, 4, 5, 6, 7, 8, 9, 10, 11, 12, 13, 14, 15, 16, 17, 18, 21, 22, 23, 24] (fun gd => [(oX7 (a 0) (a 1) (a 2) (a 9) (a 15) (a 19) (a 21) (a 23)), (oX6 (a 1) (a 2) (a 9) (a 15) (a 18) (nI zN) (bI ub)), (oX5 (a 2) (nI n) (a 3) (a 4) (a 5) (a 6) (a 7) (a 8) bd), (cI G (a 3) 15 (r 3)), (cI G (a 4) 15 (r 4)), (cI G (a 5) 15 (r 5)), (cI G (a 6) 15 (r 6)), (cI G (a 7) 15 (r 7)), (cI G (a 8) 15 (r 8)), (oX1 (a 9) (nI mf) (a 10) (a 11) (a 12) (a 13) (a 14)), (cI G (a 10) 40 (r 10)), (cI G (a 11) 40 (r 11)), (cI G (a 12) 40 (r 12)), (cI G (a 13) 40 (r 13)), (cI G (a 14) 40 (r 14)), (oX4 (a 15) (a 16) (a 17)), (cI G (a 16) 60 (r 16)), (cI G (a 17) 4 (r 17)), (cI G (a 18) 8192 (r 18)), (oX0 (a 19) (nI ((L.filter (dropB x)).length + 1)) (mu &&& (bitI x ^^^ -1) ||| if on then bitI x else 0) (mn &&& (bitI x ^^^ -1) ||| if on then 0 else bitI x) (a 20)), (cI G (a 20) 14 gd), (oX2 (a 21) la (nI fq) (a 22)), (cI G (a 22) 200 (r 22)), (oX3 (a 23) (nI rq) (a 24)), (cI G (a 24) 14 (r 24))]) [some (oX7 (a 0) (a 1) (a 2) (a 9) (a 15) (a 19) (a 21) (a 23)), some (oX6 (a 1) (a 2) (a 9) (a 15) (a 18) (nI zN) (bI ub)), some (oX5 (a 2) (nI n) (a 3) (a 4) (a 5) (a 6) (a 7) (a 8) bd), some (cI G (a 3) 15 (r 3)), some (cI G (a 4) 15 (r 4)), some (cI G (a 5) 15 (r 5)), some (cI G (a 6) 15 (r 6)), some (cI G (a 7) 15 (r 7)), some (cI G (a 8) 15 (r 8)), some (oX1 (a 9) (nI mf) (a 10) (a 11) (a 12) (a 13) (a 14)), some (cI G (a 10) 40 (r 10)), some (cI G (a 11) 40 (r 11)), some (cI G (a 12) 40 (r 12)), some (cI G (a 13) 40 (r 13)), some (cI G (a 14) 40 (r 14)), some (oX4 (a 15) (a 16) (a 17)), some (cI G (a 16) 60 (r 16)), some (cI G (a 17) 4 (r 17)), some (cI G (a 18) 8192 (r 18)), some (oX2 (a 21) la (nI fq) (a 22)), some (cI G (a 22) 200 (r 22)), some (oX3 (a 23) (nI rq) (a 24)), some (cI G (a 24) 14 (r 24))] [a 0, a 1, a 2, a 3, a 4, a 5, a 6, a 7, a 8, a 9, a 10, a 11, a 12, a 13, a 14, a 15, a 16, a 17, a 18, a 19, a 20, a 21, a 22, a 23, a 24] rfl (by decide) (by decide) rfl rfl rfl hl.1 rfl (Nat.le_of_ble_eq_true rfl) dX7_choose_35 ⟨Nat.zero_le _, Nat.zero_le _⟩ (fun _ => rfl) (fun _ => rfl) rfl (fun _ => rfl) rfl (fun _ => rfl) (fun gd H locs hgd hP hD hS => ?_)
      refine lv_aload_n hx hb dX7_choose_38 rfl (lv_at hl 0 rfl) ?_
      refine va_get (D := G.1) (ci := 9) (v := .ref (a 19)) (C := RX7) (T := TX7) (N := 7) hx hb hts iX7_choose_X7 hown hK hP 0 rfl rfl 4 (by decide) (hts _ fX7_choose_2) (fun _ h9 => h9) rfl dX7_choose_39 ?_
      refine va_get (D := G.1) (ci := 2) (v := .int (nI ((L.filter (dropB x)).length + 1))) (C := RX0) (T := TX0) (N := 4) hx hb hts iX7_choose_X0 hown hK hP 19 rfl rfl 0 (by decide) (hts _ fX7_choose_4) (fun _ h9 => h9) rfl dX7_choose_42 ?_
      exact greti hx hb hr hlocks rfl hAe hS (⟨nI ((L.filter (dropB x)).length + 1), (n, mf, bd, zN, ub, (L.filter (dropB x)).length + 1, mu &&& (bitI x ^^^ -1) ||| (if on then bitI x else 0), mn &&& (bitI x ^^^ -1) ||| (if on then 0 else bitI x), la, fq, rq, upR r 20 gd)⟩) (rfl) (by unfold cChoose cNew cMu cMn; rw [if_pos (bI_n0 c_8), if_pos c_14, if_pos c_14, if_pos c_14]; exact ⟨gd, hgd, by first | rfl | (rw [List.length_append]; rfl)⟩) (hP) dX7_choose_45
    · skip
      refine lv_aload_n hx hb dX7_choose_17 rfl (lv_at hl 0 rfl) ?_
      refine va_get (D := G.1) (ci := 9) (v := .ref (a 19)) (C := RX7) (T := TX7) (N := 7) hx hb hts iX7_choose_X7 hown hK hP 0 rfl rfl 4 (by decide) (hts _ fX7_choose_2) (fun _ h9 => h9) rfl dX7_choose_18 ?_
      refine lv_iload_n hx hb dX7_choose_21 rfl (lv_at hl 1 rfl) ?_
      refine lv_ineg hx hb dX7_choose_22 ?_
      refine cnV (nw := 25) (ci := 2) (T0 := TX0) (N := 4) (As := [.int (-x)]) (rest := []) ⟨hx, hb, hml, hown, hts⟩ (c_X0_drop l G (a 19) mu mn (a 20) (r 20) L (-x) hL hr0) (cwV 1 hts gX7_choose_X0_drop rfl rfl rfl ⟨rfl, hd_X0_drop⟩ ⟨Nat.le_of_ble_eq_true rfl, Nat.le_of_ble_eq_true rfl⟩) hKK hP hD hS [19, 20] [0, 1, 2, 3, 4, 5, 6, 7, 8, 9, 10, 11, 12, 13, 14, 15, 16, 17, 18, 21, 22, 23, 24] (fun gd => [(oX7 (a 0) (a 1) (a 2) (a 9) (a 15) (a 19) (a 21) (a 23)), (oX6 (a 1) (a 2) (a 9) (a 15) (a 18) (nI zN) (bI ub)), (oX5 (a 2) (nI n) (a 3) (a 4) (a 5) (a 6) (a 7) (a 8) bd), (cI G (a 3) 15 (r 3)), (cI G (a 4) 15 (r 4)), (cI G (a 5) 15 (r 5)), (cI G (a 6) 15 (r 6)), (cI G (a 7) 15 (r 7)), (cI G (a 8) 15 (r 8)), (oX1 (a 9) (nI mf) (a 10) (a 11) (a 12) (a 13) (a 14)), (cI G (a 10) 40 (r 10)), (cI G (a 11) 40 (r 11)), (cI G (a 12) 40 (r 12)), (cI G (a 13) 40 (r 13)), (cI G (a 14) 40 (r 14)), (oX4 (a 15) (a 16) (a 17)), (cI G (a 16) 60 (r 16)), (cI G (a 17) 4 (r 17)), (cI G (a 18) 8192 (r 18)), (oX0 (a 19) (nI (L.filter (dropB (-x))).length) (mu &&& (bitI (-x) ^^^ -1)) (mn &&& (bitI (-x) ^^^ -1)) (a 20)), (cI G (a 20) 14 gd), (oX2 (a 21) la (nI fq) (a 22)), (cI G (a 22) 200 (r 22)), (oX3 (a 23) (nI rq) (a 24)), (cI G (a 24) 14 (r 24))]) [some (oX7 (a 0) (a 1) (a 2) (a 9) (a 15) (a 19) (a 21) (a 23)), some (oX6 (a 1) (a 2) (a 9) (a 15) (a 18) (nI zN) (bI ub)), some (oX5 (a 2) (nI n) (a 3) (a 4) (a 5) (a 6) (a 7) (a 8) bd), some (cI G (a 3) 15 (r 3)), some (cI G (a 4) 15 (r 4)), some (cI G (a 5) 15 (r 5)), some (cI G (a 6) 15 (r 6)), some (cI G (a 7) 15 (r 7)), some (cI G (a 8) 15 (r 8)), some (oX1 (a 9) (nI mf) (a 10) (a 11) (a 12) (a 13) (a 14)), some (cI G (a 10) 40 (r 10)), some (cI G (a 11) 40 (r 11)), some (cI G (a 12) 40 (r 12)), some (cI G (a 13) 40 (r 13)), some (cI G (a 14) 40 (r 14)), some (oX4 (a 15) (a 16) (a 17)), some (cI G (a 16) 60 (r 16)), some (cI G (a 17) 4 (r 17)), some (cI G (a 18) 8192 (r 18)), some (oX2 (a 21) la (nI fq) (a 22)), some (cI G (a 22) 200 (r 22)), some (oX3 (a 23) (nI rq) (a 24)), some (cI G (a 24) 14 (r 24))] [a 0, a 1, a 2, a 3, a 4, a 5, a 6, a 7, a 8, a 9, a 10, a 11, a 12, a 13, a 14, a 15, a 16, a 17, a 18, a 19, a 20, a 21, a 22, a 23, a 24] rfl (by decide) (by decide) rfl rfl rfl hl.1 rfl (Nat.le_of_ble_eq_true rfl) dX7_choose_23 ⟨Nat.zero_le _, Nat.zero_le _⟩ (fun _ => rfl) (fun _ => rfl) rfl (fun _ => rfl) rfl (fun _ => rfl) (fun gd H locs hgd hP hD hS => ?_)
      refine lv_goto (tgt := 38) hx hb dX7_choose_26 (by decide) ?_
      refine lv_aload_n hx hb dX7_choose_38 rfl (lv_at hl 0 rfl) ?_
      refine va_get (D := G.1) (ci := 9) (v := .ref (a 19)) (C := RX7) (T := TX7) (N := 7) hx hb hts iX7_choose_X7 hown hK hP 0 rfl rfl 4 (by decide) (hts _ fX7_choose_2) (fun _ h9 => h9) rfl dX7_choose_39 ?_
      refine va_get (D := G.1) (ci := 2) (v := .int (nI (L.filter (dropB (-x))).length)) (C := RX0) (T := TX0) (N := 4) hx hb hts iX7_choose_X0 hown hK hP 19 rfl rfl 0 (by decide) (hts _ fX7_choose_4) (fun _ h9 => h9) rfl dX7_choose_42 ?_
      exact greti hx hb hr hlocks rfl hAe hS (⟨nI (L.filter (dropB (-x))).length, (n, mf, bd, zN, ub, (L.filter (dropB (-x))).length, mu &&& (bitI (-x) ^^^ -1), mn &&& (bitI (-x) ^^^ -1), la, fq, rq, upR r 20 gd)⟩) (rfl) (by unfold cChoose cNew cMu cMn; rw [if_pos (bI_n0 c_8), if_neg c_14, if_neg c_14, if_neg c_14]; exact ⟨gd, hgd, by first | rfl | (rw [List.length_append]; rfl)⟩) (hP) dX7_choose_45
  · skip
    refine lv_iconst (v := -1) hx hb dX7_choose_11 (by decide) ?_
    exact greti hx hb hr hlocks rfl hAe hS (⟨-1, (n, mf, bd, zN, ub, L.length, mu, mn, la, fq, rq, r)⟩) (rfl) (by unfold cChoose; rw [if_neg (by rw [bI_0.mp c_8]; decide)]) (hP) dX7_choose_12

theorem iX7_forced_X7 : ∀ w ∈ u_ws RX7 TX7 7, w ∈ wsX7_forced := by decide +kernel
theorem fX7_forced_1 : Cond.fieldLink RX7 20 "FeatureSolve" "tree" "LFeatureSolve$Tree;" ∈ wsX7_forced := by decide +kernel
theorem iX7_forced_X5 : ∀ w ∈ u_ws RX5 TX5 8, w ∈ wsX7_forced := by decide +kernel
theorem fX7_forced_3 : Cond.fieldLink RX7 58 "FeatureSolve$Tree" "size" "I" ∈ wsX7_forced := by decide +kernel
set_option maxHeartbeats 4000000 in
set_option maxRecDepth 100000 in
/-- forced -/
theorem c_X7_forced (l : Launch) (G : GG) (a : Nat → Nat) (n : Nat) (bd al so x i : Int32) (hn : n ≤ 14) : Met l yX7_forced wsX7_forced (rmK 1) (va_Pc [.ref (a 0), .int al, .int so, .int x, .int i] (PS G [(oX7 (a 0) (a 1) (a 2) (a 9) (a 15) (a 19) (a 21) (a 23)), (oX5 (a 2) (nI n) (a 3) (a 4) (a 5) (a 6) (a 7) (a 8) bd)])) (QcRead (cForcedV n al so x i)) 0 0 (fun _ => False) := by
  refine Met.ofW (cc := cX7_forced) (maxL := 9) (ret := (some .int)) (by decide) rfl ?_
  intro p e s m args below meth c s₁ B hml hv
  obtain ⟨rfl, hP, hKK⟩ := hv
  have hx := B.exec
  have hb := B.bytes
  have hr := B.returns
  have hts := atoms_spec (ws := wsX7_forced) B.pre
  have hown : s.vm.findClass RX7 = some m.cls := findClass_of_methodNamed B.named
  have hlocks := B.notSynchronized
  have hK := hKK.1
  have hl := lv_entry ([.ref (a 0), .int al, .int so, .int x, .int i]) (n := 9) (Nat.le_of_ble_eq_true rfl)
  rw [lg_entry_eq]
  generalize (lg_sl ([.ref (a 0), .int al, .int so, .int x, .int i]) ++ List.replicate (9 - (lg_sl ([.ref (a 0), .int al, .int so, .int x, .int i])).length) Slot.unset).toArray = ls at hl ⊢
  have hl : lv_has ls 9 [(0, .ref (a 0)), (1, .int al), (2, .int so), (3, .int x), (4, .int i)] := hl
  refine lv_iconst (v := 0) hx hb dX7_forced_0 (by decide) ?_
  refine lv_istore (lv' := [(5, .int 0), (0, .ref (a 0)), (1, .int al), (2, .int so), (3, .int x), (4, .int i)]) hx hb dX7_forced_1 hl (by decide) rfl (fun ls hl => ?_)
  refine lv_iconst (v := 1) hx hb dX7_forced_3 (by decide) ?_
  refine lv_istore (lv' := [(6, .int 1), (5, .int 0), (0, .ref (a 0)), (1, .int al), (2, .int so), (3, .int x), (4, .int i)]) hx hb dX7_forced_4 hl (by decide) rfl (fun ls hl => ?_)
  refine loopJ (nL := 9) (I := fun (gx : Nat) => gx ≤ n ∧ cForcedV n al so x i = nthI (cHit al so x) (cVal al) i (n - gx) gx) (μ := fun (gx : Nat) => n - gx) (lv := fun (gx : Nat) => [(0, .ref (a 0)), (1, .int al), (2, .int so), (3, .int x), (4, .int i), (5, .int (nI (cntU (cHit al so x) gx))), (6, .int (nI (gx + 1)))]) (pc' := 6) (fun xv9 hI ih_6 ls hl => ?_) 0 (⟨Nat.zero_le _, rfl⟩) ls (lv_sub hl [2, 3, 4, 5, 6, 1, 0] rfl)
  obtain ⟨gx, rfl⟩ : ∃ y, y = xv9 := ⟨_, rfl⟩
  have hI : gx ≤ n ∧ cForcedV n al so x i = nthI (cHit al so x) (cVal al) i (n - gx) gx := hI
  have hl : lv_has ls 9 [(0, .ref (a 0)), (1, .int al), (2, .int so), (3, .int x), (4, .int i), (5, .int (nI (cntU (cHit al so x) gx))), (6, .int (nI (gx + 1)))] := hl
  have hI1 := hI.1
  refine lv_iload hx hb dX7_forced_6 (lv_at hl 6 rfl) ?_
  refine lv_aload_n hx hb dX7_forced_8 rfl (lv_at hl 0 rfl) ?_
  refine va_get (D := G.1) (ci := 9) (v := .ref (a 2)) (C := RX7) (T := TX7) (N := 7) hx hb hts iX7_forced_X7 hown hK hP 0 rfl rfl 1 (by decide) (hts _ fX7_forced_1) (fun _ h9 => h9) rfl dX7_forced_9 ?_
  refine va_get (D := G.1) (ci := 7) (v := .int (nI n)) (C := RX5) (T := TX5) (N := 8) hx hb hts iX7_forced_X5 hown hK hP 1 rfl rfl 0 (by decide) (hts _ fX7_forced_3) (fun _ h9 => h9) rfl dX7_forced_12 ?_
  refine lv_icmp_gt (tgt := 98) hx hb dX7_forced_15 (by decide) (fun c_15 => ?_) (fun c_15 => ?_)
  · skip
    have hg : gx = n := by have := (nI_ltI (a := n) (b := gx + 1) (by omega) (by omega)).mp c_15; omega
    refine lv_iconst (v := 0) hx hb dX7_forced_98 (by decide) ?_
    exact pret hx hb hr hlocks rfl (by rw [hI.2, hg, Nat.sub_self]; rfl) dX7_forced_99
  · skip
    have hg : gx < n := by have := mt (nI_ltI (a := n) (b := gx + 1) (by omega) (by omega)).mpr c_15; omega
    refine cutJ (nL := 9) (lv := [(0, .ref (a 0)), (1, .int al), (2, .int so), (3, .int x), (4, .int i), (5, .int (nI (cntU (cHit al so x) gx))), (6, .int (nI (gx + 1)))]) (pc' := 33) (st' := [.int (bI (decide (¬ al &&& bitI (nI (gx + 1)) = 0)))]) (fun ls hl => ?_) (fun hJ_33 => ?_)
    · skip
      refine lv_istore (lv' := [(7, .int (bI (decide (¬ al &&& bitI (nI (gx + 1)) = 0)))), (0, .ref (a 0)), (1, .int al), (2, .int so), (3, .int x), (4, .int i), (5, .int (nI (cntU (cHit al so x) gx))), (6, .int (nI (gx + 1)))]) hx hb dX7_forced_33 hl (by decide) rfl (fun ls hl => ?_)
      refine cutJ (nL := 9) (lv := [(7, .int (bI (decide (¬ al &&& bitI (nI (gx + 1)) = 0)))), (0, .ref (a 0)), (1, .int al), (2, .int so), (3, .int x), (4, .int i), (5, .int (nI (cntU (cHit al so x) gx))), (6, .int (nI (gx + 1)))]) (pc' := 50) (st' := [.int (bI (decide (so &&& bitI (nI (gx + 1)) = 0)))]) (fun ls hl => ?_) (fun hJ_50 => ?_)
      · skip
        refine lv_istore (lv' := [(8, .int (bI (decide (so &&& bitI (nI (gx + 1)) = 0)))), (7, .int (bI (decide (¬ al &&& bitI (nI (gx + 1)) = 0)))), (0, .ref (a 0)), (1, .int al), (2, .int so), (3, .int x), (4, .int i), (5, .int (nI (cntU (cHit al so x) gx))), (6, .int (nI (gx + 1)))]) hx hb dX7_forced_50 hl (by decide) rfl (fun ls hl => ?_)
        refine lv_iload hx hb dX7_forced_52 (lv_at hl 8 rfl) ?_
        refine lv_iload_n hx hb dX7_forced_54 rfl (lv_at hl 5 rfl) ?_
        refine lv_icmp_eq (tgt := 92) hx hb dX7_forced_55 (by decide) (fun c_55 => ?_) (fun c_55 => ?_)
        · skip
          have hhit : (cHit al so x) (gx + 1) = false := if_pos c_55
          refine lv_iinc (v := nI (gx + 1 + 1)) (lv' := [(6, .int (nI (gx + 1 + 1))), (8, .int (bI (decide (so &&& bitI (nI (gx + 1)) = 0)))), (7, .int (bI (decide (¬ al &&& bitI (nI (gx + 1)) = 0)))), (0, .ref (a 0)), (1, .int al), (2, .int so), (3, .int x), (4, .int i), (5, .int (nI (cntU (cHit al so x) gx)))]) hx hb dX7_forced_92 hl (k := 8) rfl (nI_1 (gx + 1)) (by decide) rfl (fun ls hl => ?_)
          refine lv_goto (tgt := 6) hx hb dX7_forced_95 (by decide) ?_
          exact ih_6 (gx + 1) (⟨hg, by rw [hI.2, nthI_no (by omega) hhit, show n - gx - 1 = n - (gx + 1) by omega]⟩) (by show n - (gx + 1) < n - gx; omega) ls (lv_sub hl [3, 4, 5, 6, 7, 8, 0] (by show ([(0, .ref (a 0)), (1, .int al), (2, .int so), (3, .int x), (4, .int i), (5, .int (nI (cntU (cHit al so x) gx))), (6, .int (nI (gx + 1 + 1)))] : List (Nat × Value)) = [(0, .ref (a 0)), (1, .int al), (2, .int so), (3, .int x), (4, .int i), (5, .int (nI (cntU (cHit al so x) (gx + 1)))), (6, .int (nI ((gx + 1) + 1)))]; rw [cntU_f hhit]))
        · skip
          refine lv_iload hx hb dX7_forced_58 (lv_at hl 1 rfl) ?_
          refine lv_if_ne (tgt := 68) hx hb dX7_forced_60 (by decide) (fun c_60 => ?_) (fun c_60 => ?_)
          · skip
            have h25 : ¬ al &&& bitI (nI (gx + 1)) = 0 := of_decide_eq_true (bI_n0 c_60)
            have hhit : (cHit al so x) (gx + 1) = true := by unfold cHit; rw [if_neg c_55, if_neg h25]
            have hv9 : (cVal al) (gx + 1) = nI (gx + 1) := if_neg h25
            refine lv_iload hx hb dX7_forced_68 (lv_at hl 7 rfl) ?_
            refine lv_iload hx hb dX7_forced_70 (lv_at hl 6 rfl) ?_
            refine lv_icmp_ne (tgt := 89) hx hb dX7_forced_72 (by decide) (fun c_72 => ?_) (fun c_72 => ?_)
            · skip
              refine lv_iinc (v := nI (cntU (cHit al so x) gx + 1)) (lv' := [(5, .int (nI (cntU (cHit al so x) gx + 1))), (8, .int (bI (decide (so &&& bitI (nI (gx + 1)) = 0)))), (7, .int (bI (decide (¬ al &&& bitI (nI (gx + 1)) = 0)))), (0, .ref (a 0)), (1, .int al), (2, .int so), (3, .int x), (4, .int i), (6, .int (nI (gx + 1)))]) hx hb dX7_forced_89 hl (k := 7) rfl (nI_1 _) (by decide) rfl (fun ls hl => ?_)
              refine lv_iinc (v := nI (gx + 1 + 1)) (lv' := [(6, .int (nI (gx + 1 + 1))), (5, .int (nI (cntU (cHit al so x) gx + 1))), (8, .int (bI (decide (so &&& bitI (nI (gx + 1)) = 0)))), (7, .int (bI (decide (¬ al &&& bitI (nI (gx + 1)) = 0)))), (0, .ref (a 0)), (1, .int al), (2, .int so), (3, .int x), (4, .int i)]) hx hb dX7_forced_92 hl (k := 8) rfl (nI_1 (gx + 1)) (by decide) rfl (fun ls hl => ?_)
              refine lv_goto (tgt := 6) hx hb dX7_forced_95 (by decide) ?_
              exact ih_6 (gx + 1) (⟨hg, by rw [hI.2, nthI_ne (by omega) hhit c_72, show n - gx - 1 = n - (gx + 1) by omega]⟩) (by show n - (gx + 1) < n - gx; omega) ls (lv_sub hl [4, 5, 6, 7, 8, 1, 0] (by show ([(0, .ref (a 0)), (1, .int al), (2, .int so), (3, .int x), (4, .int i), (5, .int (nI (cntU (cHit al so x) gx + 1))), (6, .int (nI (gx + 1 + 1)))] : List (Nat × Value)) = [(0, .ref (a 0)), (1, .int al), (2, .int so), (3, .int x), (4, .int i), (5, .int (nI (cntU (cHit al so x) (gx + 1)))), (6, .int (nI ((gx + 1) + 1)))]; rw [cntU_t hhit]))
            · skip
              refine lv_iload hx hb dX7_forced_75 (lv_at hl 1 rfl) ?_
              refine lv_if_eq (tgt := 85) hx hb dX7_forced_77 (by decide) (fun c_77 => ?_) (fun c_77 => ?_)
              · exact absurd c_77 c_60
              · skip
                refine lv_iload hx hb dX7_forced_80 (lv_at hl 8 rfl) ?_
                refine lv_goto (tgt := 88) hx hb dX7_forced_82 (by decide) ?_
                exact pret hx hb hr hlocks rfl (by rw [hI.2, nthI_eq (by omega) hhit c_72, hv9]) dX7_forced_88
          · skip
            have h25 : al &&& bitI (nI (gx + 1)) = 0 := Classical.not_not.mp (of_decide_eq_false (bI_0.mp c_60))
            have hv9 : (cVal al) (gx + 1) = -nI (gx + 1) := if_pos h25
            refine lv_iload hx hb dX7_forced_63 (lv_at hl 0 rfl) ?_
            refine lv_if_eq (tgt := 92) hx hb dX7_forced_65 (by decide) (fun c_65 => ?_) (fun c_65 => ?_)
            · skip
              have hhit : (cHit al so x) (gx + 1) = false := by unfold cHit; rw [if_neg c_55, if_pos h25]; exact bI_0.mp c_65
              refine lv_iinc (v := nI (gx + 1 + 1)) (lv' := [(6, .int (nI (gx + 1 + 1))), (8, .int (bI (decide (so &&& bitI (nI (gx + 1)) = 0)))), (7, .int (bI (decide (¬ al &&& bitI (nI (gx + 1)) = 0)))), (0, .ref (a 0)), (1, .int al), (2, .int so), (3, .int x), (4, .int i), (5, .int (nI (cntU (cHit al so x) gx)))]) hx hb dX7_forced_92 hl (k := 8) rfl (nI_1 (gx + 1)) (by decide) rfl (fun ls hl => ?_)
              refine lv_goto (tgt := 6) hx hb dX7_forced_95 (by decide) ?_
              exact ih_6 (gx + 1) (⟨hg, by rw [hI.2, nthI_no (by omega) hhit, show n - gx - 1 = n - (gx + 1) by omega]⟩) (by show n - (gx + 1) < n - gx; omega) ls (lv_sub hl [3, 4, 5, 6, 7, 8, 0] (by show ([(0, .ref (a 0)), (1, .int al), (2, .int so), (3, .int x), (4, .int i), (5, .int (nI (cntU (cHit al so x) gx))), (6, .int (nI (gx + 1 + 1)))] : List (Nat × Value)) = [(0, .ref (a 0)), (1, .int al), (2, .int so), (3, .int x), (4, .int i), (5, .int (nI (cntU (cHit al so x) (gx + 1)))), (6, .int (nI ((gx + 1) + 1)))]; rw [cntU_f hhit]))
            · skip
              have hhit : (cHit al so x) (gx + 1) = true := by unfold cHit; rw [if_neg c_55, if_pos h25]; exact bI_n0 c_65
              refine lv_iload hx hb dX7_forced_68 (lv_at hl 7 rfl) ?_
              refine lv_iload hx hb dX7_forced_70 (lv_at hl 6 rfl) ?_
              refine lv_icmp_ne (tgt := 89) hx hb dX7_forced_72 (by decide) (fun c_72 => ?_) (fun c_72 => ?_)
              · skip
                refine lv_iinc (v := nI (cntU (cHit al so x) gx + 1)) (lv' := [(5, .int (nI (cntU (cHit al so x) gx + 1))), (8, .int (bI (decide (so &&& bitI (nI (gx + 1)) = 0)))), (7, .int (bI (decide (¬ al &&& bitI (nI (gx + 1)) = 0)))), (0, .ref (a 0)), (1, .int al), (2, .int so), (3, .int x), (4, .int i), (6, .int (nI (gx + 1)))]) hx hb dX7_forced_89 hl (k := 7) rfl (nI_1 _) (by decide) rfl (fun ls hl => ?_)
                refine lv_iinc (v := nI (gx + 1 + 1)) (lv' := [(6, .int (nI (gx + 1 + 1))), (5, .int (nI (cntU (cHit al so x) gx + 1))), (8, .int (bI (decide (so &&& bitI (nI (gx + 1)) = 0)))), (7, .int (bI (decide (¬ al &&& bitI (nI (gx + 1)) = 0)))), (0, .ref (a 0)), (1, .int al), (2, .int so), (3, .int x), (4, .int i)]) hx hb dX7_forced_92 hl (k := 8) rfl (nI_1 (gx + 1)) (by decide) rfl (fun ls hl => ?_)
                refine lv_goto (tgt := 6) hx hb dX7_forced_95 (by decide) ?_
                exact ih_6 (gx + 1) (⟨hg, by rw [hI.2, nthI_ne (by omega) hhit c_72, show n - gx - 1 = n - (gx + 1) by omega]⟩) (by show n - (gx + 1) < n - gx; omega) ls (lv_sub hl [4, 5, 6, 7, 8, 1, 0] (by show ([(0, .ref (a 0)), (1, .int al), (2, .int so), (3, .int x), (4, .int i), (5, .int (nI (cntU (cHit al so x) gx + 1))), (6, .int (nI (gx + 1 + 1)))] : List (Nat × Value)) = [(0, .ref (a 0)), (1, .int al), (2, .int so), (3, .int x), (4, .int i), (5, .int (nI (cntU (cHit al so x) (gx + 1)))), (6, .int (nI ((gx + 1) + 1)))]; rw [cntU_t hhit]))
              · skip
                refine lv_iload hx hb dX7_forced_75 (lv_at hl 1 rfl) ?_
                refine lv_if_eq (tgt := 85) hx hb dX7_forced_77 (by decide) (fun c_77 => ?_) (fun c_77 => ?_)
                · skip
                  refine lv_iload hx hb dX7_forced_85 (lv_at hl 8 rfl) ?_
                  refine lv_ineg hx hb dX7_forced_87 ?_
                  exact pret hx hb hr hlocks rfl (by rw [hI.2, nthI_eq (by omega) hhit c_72, hv9]) dX7_forced_88
                · exact absurd c_60 c_77
      · skip
        refine lv_iload_n hx hb dX7_forced_35 rfl (lv_at hl 3 rfl) ?_
        refine lv_iload hx hb dX7_forced_36 (lv_at hl 7 rfl) ?_
        refine cpS (As := [.int (nI (gx + 1))]) (rest := [.int so]) ⟨hx, hb, hml, hown, hts⟩ (c_X7_bit l G (nI (gx + 1))) (va_cwS 1 hts gX7_forced_X7_bit rfl rfl rfl hd_X7_bit ⟨Nat.le_of_ble_eq_true rfl, Nat.le_of_ble_eq_true rfl⟩) hKK hP [] rfl rfl hl.1 rfl (Nat.le_of_ble_eq_true rfl) dX7_forced_38 ⟨Nat.zero_le _, Nat.zero_le _⟩ ?_
        refine lv_iand hx hb dX7_forced_41 ?_
        refine lv_if_ne (tgt := 49) hx hb dX7_forced_42 (by decide) (fun c_42 => ?_) (fun c_42 => ?_)
        · skip
          refine lv_iconst (v := 0) hx hb dX7_forced_49 (by decide) ?_
          refine stI (y := (bI (decide (so &&& bitI (nI (gx + 1)) = 0)))) (bI_no _ decide_eq_true_iff c_42) ?_
          exact hJ_50 ls (lv_sub hl [0, 1, 2, 3, 4, 5, 6, 7] rfl)
        · skip
          refine lv_iconst (v := 1) hx hb dX7_forced_45 (by decide) ?_
          refine lv_goto (tgt := 50) hx hb dX7_forced_46 (by decide) ?_
          refine stI (y := (bI (decide (so &&& bitI (nI (gx + 1)) = 0)))) (bI_of _ decide_eq_true_iff c_42) ?_
          exact hJ_50 ls (lv_sub hl [0, 1, 2, 3, 4, 5, 6, 7] rfl)
    · skip
      refine lv_iload_n hx hb dX7_forced_18 rfl (lv_at hl 1 rfl) ?_
      refine lv_iload hx hb dX7_forced_19 (lv_at hl 6 rfl) ?_
      refine cpS (As := [.int (nI (gx + 1))]) (rest := [.int al]) ⟨hx, hb, hml, hown, hts⟩ (c_X7_bit l G (nI (gx + 1))) (va_cwS 1 hts gX7_forced_X7_bit rfl rfl rfl hd_X7_bit ⟨Nat.le_of_ble_eq_true rfl, Nat.le_of_ble_eq_true rfl⟩) hKK hP [] rfl rfl hl.1 rfl (Nat.le_of_ble_eq_true rfl) dX7_forced_21 ⟨Nat.zero_le _, Nat.zero_le _⟩ ?_
      refine lv_iand hx hb dX7_forced_24 ?_
      refine lv_if_eq (tgt := 32) hx hb dX7_forced_25 (by decide) (fun c_25 => ?_) (fun c_25 => ?_)
      · skip
        refine lv_iconst (v := 0) hx hb dX7_forced_32 (by decide) ?_
        refine stI (y := (bI (decide (¬ al &&& bitI (nI (gx + 1)) = 0)))) (bI_no _ decide_eq_true_iff (fun z => z c_25)) ?_
        exact hJ_33 ls (lv_sub hl [0, 1, 2, 3, 4, 5, 6] rfl)
      · skip
        refine lv_iconst (v := 1) hx hb dX7_forced_28 (by decide) ?_
        refine lv_goto (tgt := 33) hx hb dX7_forced_29 (by decide) ?_
        refine stI (y := (bI (decide (¬ al &&& bitI (nI (gx + 1)) = 0)))) (bI_of _ decide_eq_true_iff c_25) ?_
        exact hJ_33 ls (lv_sub hl [0, 1, 2, 3, 4, 5, 6] rfl)

theorem iX7_forces_X7 : ∀ w ∈ u_ws RX7 TX7 7, w ∈ wsX7_forces := by decide +kernel
theorem fX7_forces_1 : Cond.fieldLink RX7 20 "FeatureSolve" "tree" "LFeatureSolve$Tree;" ∈ wsX7_forces := by decide +kernel
theorem fX7_forces_2 : Cond.fieldLink RX7 34 "FeatureSolve" "choices" "LFeatureSolve$Choices;" ∈ wsX7_forces := by decide +kernel
theorem iX7_forces_X0 : ∀ w ∈ u_ws RX0 TX0 4, w ∈ wsX7_forces := by decide +kernel
theorem fX7_forces_4 : Cond.fieldLink RX7 107 "FeatureSolve$Choices" "must" "I" ∈ wsX7_forces := by decide +kernel
theorem fX7_forces_5 : Cond.fieldLink RX7 10 "FeatureSolve" "variants" "LFeatureSolve$Variants;" ∈ wsX7_forces := by decide +kernel
theorem fX7_forces_6 : Cond.fieldLink RX7 110 "FeatureSolve$Choices" "mustNot" "I" ∈ wsX7_forces := by decide +kernel
theorem hd_X6_first : yX6_first.cls ≠ "java/lang/invoke/MethodHandle" ∧ yX6_first.cls ≠ "java/lang/invoke/VarHandle" ∧ (parseMethodDescriptor yX6_first.desc).map (fun d => d.parameters.length) = some 2 := by decide +kernel
theorem hd_X6_inAll : yX6_inAll.cls ≠ "java/lang/invoke/MethodHandle" ∧ yX6_inAll.cls ≠ "java/lang/invoke/VarHandle" ∧ (parseMethodDescriptor yX6_inAll.desc).map (fun d => d.parameters.length) = some 2 := by decide +kernel
theorem hd_X6_inSome : yX6_inSome.cls ≠ "java/lang/invoke/MethodHandle" ∧ yX6_inSome.cls ≠ "java/lang/invoke/VarHandle" ∧ (parseMethodDescriptor yX6_inSome.desc).map (fun d => d.parameters.length) = some 2 := by decide +kernel
theorem hd_X7_forced : yX7_forced.cls ≠ "java/lang/invoke/MethodHandle" ∧ yX7_forced.cls ≠ "java/lang/invoke/VarHandle" ∧ (parseMethodDescriptor yX7_forced.desc).map (fun d => d.parameters.length) = some 4 := by decide +kernel
set_option maxHeartbeats 4000000 in
set_option maxRecDepth 100000 in
/-- forces -/
theorem c_X7_forces (l : Launch) (G : GG) (a : Nat → Nat) (n mf : Nat) (bd : Int32) (zN : Nat) (ub : Bool) (cs : Nat) (mu mn la : Int32) (fq rq : Nat) (r : Nat → Nat → Int32) (x i : Int32) (hu : upOk r bd n mf zN ub (r 18)) : Met l yX7_forces wsX7_forces (rmK 5) (va_Pc [.ref (a 0), .int x, .int i] (PM G [(oX7 (a 0) (a 1) (a 2) (a 9) (a 15) (a 19) (a 21) (a 23)), (oX6 (a 1) (a 2) (a 9) (a 15) (a 18) (nI zN) (bI ub)), (oX5 (a 2) (nI n) (a 3) (a 4) (a 5) (a 6) (a 7) (a 8) bd), (cI G (a 3) 15 (r 3)), (cI G (a 4) 15 (r 4)), (cI G (a 5) 15 (r 5)), (cI G (a 6) 15 (r 6)), (cI G (a 7) 15 (r 7)), (cI G (a 8) 15 (r 8)), (oX1 (a 9) (nI mf) (a 10) (a 11) (a 12) (a 13) (a 14)), (cI G (a 10) 40 (r 10)), (cI G (a 11) 40 (r 11)), (cI G (a 12) 40 (r 12)), (cI G (a 13) 40 (r 13)), (cI G (a 14) 40 (r 14)), (oX4 (a 15) (a 16) (a 17)), (cI G (a 16) 60 (r 16)), (cI G (a 17) 4 (r 17)), (cI G (a 18) 8192 (r 18)), (oX0 (a 19) (nI cs) mu mn (a 20)), (cI G (a 20) 14 (r 20)), (oX2 (a 21) la (nI fq) (a 22)), (cI G (a 22) 200 (r 22)), (oX3 (a 23) (nI rq) (a 24)), (cI G (a 24) 14 (r 24))])) (QG (S := Int32 × CS) G [(oX7 (a 0) (a 1) (a 2) (a 9) (a 15) (a 19) (a 21) (a 23)), (oX6 (a 1) (a 2) (a 9) (a 15) (a 18) (nI zN) (bI ub)), (oX5 (a 2) (nI n) (a 3) (a 4) (a 5) (a 6) (a 7) (a 8) bd), (cI G (a 3) 15 (r 3)), (cI G (a 4) 15 (r 4)), (cI G (a 5) 15 (r 5)), (cI G (a 6) 15 (r 6)), (cI G (a 7) 15 (r 7)), (cI G (a 8) 15 (r 8)), (oX1 (a 9) (nI mf) (a 10) (a 11) (a 12) (a 13) (a 14)), (cI G (a 10) 40 (r 10)), (cI G (a 11) 40 (r 11)), (cI G (a 12) 40 (r 12)), (cI G (a 13) 40 (r 13)), (cI G (a 14) 40 (r 14)), (oX4 (a 15) (a 16) (a 17)), (cI G (a 16) 60 (r 16)), (cI G (a 17) 4 (r 17)), (cI G (a 18) 8192 (r 18)), (oX0 (a 19) (nI cs) mu mn (a 20)), (cI G (a 20) 14 (r 20)), (oX2 (a 21) la (nI fq) (a 22)), (cI G (a 22) 200 (r 22)), (oX3 (a 23) (nI rq) (a 24)), (cI G (a 24) 14 (r 24))] (fun u => cForces n mf bd zN ub cs mu mn la fq rq r x i u) (fun u => some (.int u.1)) (fun u => cW G a u.2)) 0 0 (adr [(oX7 (a 0) (a 1) (a 2) (a 9) (a 15) (a 19) (a 21) (a 23)), (oX6 (a 1) (a 2) (a 9) (a 15) (a 18) (nI zN) (bI ub)), (oX5 (a 2) (nI n) (a 3) (a 4) (a 5) (a 6) (a 7) (a 8) bd), (cI G (a 3) 15 (r 3)), (cI G (a 4) 15 (r 4)), (cI G (a 5) 15 (r 5)), (cI G (a 6) 15 (r 6)), (cI G (a 7) 15 (r 7)), (cI G (a 8) 15 (r 8)), (oX1 (a 9) (nI mf) (a 10) (a 11) (a 12) (a 13) (a 14)), (cI G (a 10) 40 (r 10)), (cI G (a 11) 40 (r 11)), (cI G (a 12) 40 (r 12)), (cI G (a 13) 40 (r 13)), (cI G (a 14) 40 (r 14)), (oX4 (a 15) (a 16) (a 17)), (cI G (a 16) 60 (r 16)), (cI G (a 17) 4 (r 17)), (cI G (a 18) 8192 (r 18)), (oX0 (a 19) (nI cs) mu mn (a 20)), (cI G (a 20) 14 (r 20)), (oX2 (a 21) la (nI fq) (a 22)), (cI G (a 22) 200 (r 22)), (oX3 (a 23) (nI rq) (a 24)), (cI G (a 24) 14 (r 24))]) := by
  refine Met.ofW (cc := cX7_forces) (maxL := 6) (ret := (some .int)) (by decide) rfl ?_
  intro p e s m args below meth c s₁ B hml hv
  obtain ⟨rfl, hP, hD0, hKK⟩ := hv
  have hx := B.exec
  have hb := B.bytes
  have hr := B.returns
  have hts := atoms_spec (ws := wsX7_forces) B.pre
  have hown : s.vm.findClass RX7 = some m.cls := findClass_of_methodNamed B.named
  have hlocks := B.notSynchronized
  have hK := hKK.1
  generalize hAe : adr [(oX7 (a 0) (a 1) (a 2) (a 9) (a 15) (a 19) (a 21) (a 23)), (oX6 (a 1) (a 2) (a 9) (a 15) (a 18) (nI zN) (bI ub)), (oX5 (a 2) (nI n) (a 3) (a 4) (a 5) (a 6) (a 7) (a 8) bd), (cI G (a 3) 15 (r 3)), (cI G (a 4) 15 (r 4)), (cI G (a 5) 15 (r 5)), (cI G (a 6) 15 (r 6)), (cI G (a 7) 15 (r 7)), (cI G (a 8) 15 (r 8)), (oX1 (a 9) (nI mf) (a 10) (a 11) (a 12) (a 13) (a 14)), (cI G (a 10) 40 (r 10)), (cI G (a 11) 40 (r 11)), (cI G (a 12) 40 (r 12)), (cI G (a 13) 40 (r 13)), (cI G (a 14) 40 (r 14)), (oX4 (a 15) (a 16) (a 17)), (cI G (a 16) 60 (r 16)), (cI G (a 17) 4 (r 17)), (cI G (a 18) 8192 (r 18)), (oX0 (a 19) (nI cs) mu mn (a 20)), (cI G (a 20) 14 (r 20)), (oX2 (a 21) la (nI fq) (a 22)), (cI G (a 22) 200 (r 22)), (oX3 (a 23) (nI rq) (a 24)), (cI G (a 24) 14 (r 24))] = A
  have hD : va_D A [(oX7 (a 0) (a 1) (a 2) (a 9) (a 15) (a 19) (a 21) (a 23)), (oX6 (a 1) (a 2) (a 9) (a 15) (a 18) (nI zN) (bI ub)), (oX5 (a 2) (nI n) (a 3) (a 4) (a 5) (a 6) (a 7) (a 8) bd), (cI G (a 3) 15 (r 3)), (cI G (a 4) 15 (r 4)), (cI G (a 5) 15 (r 5)), (cI G (a 6) 15 (r 6)), (cI G (a 7) 15 (r 7)), (cI G (a 8) 15 (r 8)), (oX1 (a 9) (nI mf) (a 10) (a 11) (a 12) (a 13) (a 14)), (cI G (a 10) 40 (r 10)), (cI G (a 11) 40 (r 11)), (cI G (a 12) 40 (r 12)), (cI G (a 13) 40 (r 13)), (cI G (a 14) 40 (r 14)), (oX4 (a 15) (a 16) (a 17)), (cI G (a 16) 60 (r 16)), (cI G (a 17) 4 (r 17)), (cI G (a 18) 8192 (r 18)), (oX0 (a 19) (nI cs) mu mn (a 20)), (cI G (a 20) 14 (r 20)), (oX2 (a 21) la (nI fq) (a 22)), (cI G (a 22) 200 (r 22)), (oX3 (a 23) (nI rq) (a 24)), (cI G (a 24) 14 (r 24))] := by rw [← hAe]; exact hD0.own
  have hS : va_S A s.heap s.heap [] := va_S.rf
  have hP : va_P G.1 vwCl [(oX7 (a 0) (a 1) (a 2) (a 9) (a 15) (a 19) (a 21) (a 23)), (oX6 (a 1) (a 2) (a 9) (a 15) (a 18) (nI zN) (bI ub)), (oX5 (a 2) (nI n) (a 3) (a 4) (a 5) (a 6) (a 7) (a 8) bd), (cI G (a 3) 15 (r 3)), (cI G (a 4) 15 (r 4)), (cI G (a 5) 15 (r 5)), (cI G (a 6) 15 (r 6)), (cI G (a 7) 15 (r 7)), (cI G (a 8) 15 (r 8)), (oX1 (a 9) (nI mf) (a 10) (a 11) (a 12) (a 13) (a 14)), (cI G (a 10) 40 (r 10)), (cI G (a 11) 40 (r 11)), (cI G (a 12) 40 (r 12)), (cI G (a 13) 40 (r 13)), (cI G (a 14) 40 (r 14)), (oX4 (a 15) (a 16) (a 17)), (cI G (a 16) 60 (r 16)), (cI G (a 17) 4 (r 17)), (cI G (a 18) 8192 (r 18)), (oX0 (a 19) (nI cs) mu mn (a 20)), (cI G (a 20) 14 (r 20)), (oX2 (a 21) la (nI fq) (a 22)), (cI G (a 22) 200 (r 22)), (oX3 (a 23) (nI rq) (a 24)), (cI G (a 24) 14 (r 24))] s.heap := hP
  have hl := lv_entry ([.ref (a 0), .int x, .int i]) (n := 6) (Nat.le_of_ble_eq_true rfl)
  rw [lg_entry_eq]
  generalize (lg_sl ([.ref (a 0), .int x, .int i]) ++ List.replicate (6 - (lg_sl ([.ref (a 0), .int x, .int i])).length) Slot.unset).toArray = ls at hl ⊢
  have hl : lv_has ls 6 [(0, .ref (a 0)), (1, .int x), (2, .int i)] := hl
  have hn := hu.1
  refine lv_aload_n hx hb dX7_forces_0 rfl (lv_at hl 0 rfl) ?_
  refine va_get (D := G.1) (ci := 9) (v := .ref (a 2)) (C := RX7) (T := TX7) (N := 7) hx hb hts iX7_forces_X7 hown hK hP 0 rfl rfl 1 (by decide) (hts _ fX7_forces_1) (fun _ h9 => h9) rfl dX7_forces_1 ?_
  refine lv_iload_n hx hb dX7_forces_4 rfl (lv_at hl 1 rfl) ?_
  refine cpV (ci := 7) (T0 := TX5) (N := 8) (As := [.int x]) (rest := []) ⟨hx, hb, hml, hown, hts⟩ (c_X5_has l G (a 2) (nI n) (a 3) (a 4) (a 5) (a 6) (a 7) (a 8) bd x) (cwV 1 hts gX7_forces_X5_has rfl rfl rfl ⟨rfl, hd_X5_has⟩ ⟨Nat.le_of_ble_eq_true rfl, Nat.le_of_ble_eq_true rfl⟩) hKK hP [2] rfl rfl rfl rfl hl.1 rfl (Nat.le_of_ble_eq_true rfl) dX7_forces_5 ⟨Nat.zero_le _, Nat.zero_le _⟩ ?_
  refine lv_if_ne (tgt := 13) hx hb dX7_forces_8 (by decide) (fun c_8 => ?_) (fun c_8 => ?_)
  · skip
    refine lv_aload_n hx hb dX7_forces_13 rfl (lv_at hl 0 rfl) ?_
    refine va_get (D := G.1) (ci := 9) (v := .ref (a 19)) (C := RX7) (T := TX7) (N := 7) hx hb hts iX7_forces_X7 hown hK hP 0 rfl rfl 4 (by decide) (hts _ fX7_forces_2) (fun _ h9 => h9) rfl dX7_forces_14 ?_
    refine va_get (D := G.1) (ci := 2) (v := .int mu) (C := RX0) (T := TX0) (N := 4) hx hb hts iX7_forces_X0 hown hK hP 19 rfl rfl 1 (by decide) (hts _ fX7_forces_4) (fun _ h9 => h9) rfl dX7_forces_17 ?_
    refine lv_iload_n hx hb dX7_forces_20 rfl (lv_at hl 1 rfl) ?_
    refine cpS (As := [.int x]) (rest := [.int mu]) ⟨hx, hb, hml, hown, hts⟩ (c_X7_bit l G x) (va_cwS 1 hts gX7_forces_X7_bit rfl rfl rfl hd_X7_bit ⟨Nat.le_of_ble_eq_true rfl, Nat.le_of_ble_eq_true rfl⟩) hKK hP [] rfl rfl hl.1 rfl (Nat.le_of_ble_eq_true rfl) dX7_forces_21 ⟨Nat.zero_le _, Nat.zero_le _⟩ ?_
    refine lv_ior hx hb dX7_forces_24 ?_
    refine lv_istore_n (lv' := [(3, .int (mu ||| (bitI x))), (0, .ref (a 0)), (1, .int x), (2, .int i)]) hx hb dX7_forces_25 rfl hl (by decide) rfl (fun ls hl => ?_)
    refine lv_aload_n hx hb dX7_forces_26 rfl (lv_at hl 1 rfl) ?_
    refine va_get (D := G.1) (ci := 9) (v := .ref (a 1)) (C := RX7) (T := TX7) (N := 7) hx hb hts iX7_forces_X7 hown hK hP 0 rfl rfl 0 (by decide) (hts _ fX7_forces_5) (fun _ h9 => h9) rfl dX7_forces_27 ?_
    refine lv_iload_n hx hb dX7_forces_30 rfl (lv_at hl 0 rfl) ?_
    refine lv_aload_n hx hb dX7_forces_31 rfl (lv_at hl 1 rfl) ?_
    refine va_get (D := G.1) (ci := 9) (v := .ref (a 19)) (C := RX7) (T := TX7) (N := 7) hx hb hts iX7_forces_X7 hown hK hP 0 rfl rfl 4 (by decide) (hts _ fX7_forces_2) (fun _ h9 => h9) rfl dX7_forces_32 ?_
    refine va_get (D := G.1) (ci := 2) (v := .int mn) (C := RX0) (T := TX0) (N := 4) hx hb hts iX7_forces_X0 hown hK hP 19 rfl rfl 2 (by decide) (hts _ fX7_forces_6) (fun _ h9 => h9) rfl dX7_forces_35 ?_
    refine cnV (nw := 25) (ci := 8) (T0 := TX6) (N := 6) (As := [.int (mu ||| (bitI x)), .int mn]) (rest := []) ⟨hx, hb, hml, hown, hts⟩ (c_X6_first l G a r n mf bd zN ub (r 18) (mu ||| (bitI x)) mn (hu)) (cwV 2 hts gX7_forces_X6_first rfl rfl rfl ⟨rfl, hd_X6_first⟩ ⟨Nat.le_of_ble_eq_true rfl, Nat.le_of_ble_eq_true rfl⟩) hKK hP hD hS [1, 2, 3, 5, 6, 7, 8, 9, 10, 11, 12, 13, 14, 15, 16, 17, 18] [0, 4, 19, 20, 21, 22, 23, 24] (fun gu => [(oX7 (a 0) (a 1) (a 2) (a 9) (a 15) (a 19) (a 21) (a 23)), (oX6 (a 1) (a 2) (a 9) (a 15) (a 18) (nI (vLL r bd n mf).length) 1), (oX5 (a 2) (nI n) (a 3) (a 4) (a 5) (a 6) (a 7) (a 8) bd), (cI G (a 3) 15 (r 3)), (cI G (a 4) 15 (r 4)), (cI G (a 5) 15 (r 5)), (cI G (a 6) 15 (r 6)), (cI G (a 7) 15 (r 7)), (cI G (a 8) 15 (r 8)), (oX1 (a 9) (nI mf) (a 10) (a 11) (a 12) (a 13) (a 14)), (cI G (a 10) 40 (r 10)), (cI G (a 11) 40 (r 11)), (cI G (a 12) 40 (r 12)), (cI G (a 13) 40 (r 13)), (cI G (a 14) 40 (r 14)), (oX4 (a 15) (a 16) (a 17)), (cI G (a 16) 60 (r 16)), (cI G (a 17) 4 (r 17)), (cI G (a 18) 8192 gu), (oX0 (a 19) (nI cs) mu mn (a 20)), (cI G (a 20) 14 (r 20)), (oX2 (a 21) la (nI fq) (a 22)), (cI G (a 22) 200 (r 22)), (oX3 (a 23) (nI rq) (a 24)), (cI G (a 24) 14 (r 24))]) [some (oX7 (a 0) (a 1) (a 2) (a 9) (a 15) (a 19) (a 21) (a 23)), some (cI G (a 4) 15 (r 4)), some (oX0 (a 19) (nI cs) mu mn (a 20)), some (cI G (a 20) 14 (r 20)), some (oX2 (a 21) la (nI fq) (a 22)), some (cI G (a 22) 200 (r 22)), some (oX3 (a 23) (nI rq) (a 24)), some (cI G (a 24) 14 (r 24))] [a 0, a 1, a 2, a 3, a 4, a 5, a 6, a 7, a 8, a 9, a 10, a 11, a 12, a 13, a 14, a 15, a 16, a 17, a 18, a 19, a 20, a 21, a 22, a 23, a 24] rfl (by decide) (by decide) rfl rfl rfl hl.1 rfl (Nat.le_of_ble_eq_true rfl) dX7_forces_38 ⟨Nat.zero_le _, Nat.zero_le _⟩ (fun _ => rfl) (fun _ => rfl) rfl (fun _ => rfl) rfl (fun _ => rfl) (fun gu H locs hgu hP hD hS => ?_)
    refine lv_iconst (v := -1) hx hb dX7_forces_41 (by decide) ?_
    refine lv_icmp_ne (tgt := 47) hx hb dX7_forces_42 (by decide) (fun c_42 => ?_) (fun c_42 => ?_)
    · skip
      refine lv_aload_n hx hb dX7_forces_47 rfl (lv_at hl 1 rfl) ?_
      refine va_get (D := G.1) (ci := 9) (v := .ref (a 1)) (C := RX7) (T := TX7) (N := 7) hx hb hts iX7_forces_X7 hown hK hP 0 rfl rfl 0 (by decide) (hts _ fX7_forces_5) (fun _ h9 => h9) rfl dX7_forces_48 ?_
      refine lv_iload_n hx hb dX7_forces_51 rfl (lv_at hl 0 rfl) ?_
      refine lv_aload_n hx hb dX7_forces_52 rfl (lv_at hl 1 rfl) ?_
      refine va_get (D := G.1) (ci := 9) (v := .ref (a 19)) (C := RX7) (T := TX7) (N := 7) hx hb hts iX7_forces_X7 hown hK hP 0 rfl rfl 4 (by decide) (hts _ fX7_forces_2) (fun _ h9 => h9) rfl dX7_forces_53 ?_
      refine va_get (D := G.1) (ci := 2) (v := .int mn) (C := RX0) (T := TX0) (N := 4) hx hb hts iX7_forces_X0 hown hK hP 19 rfl rfl 2 (by decide) (hts _ fX7_forces_6) (fun _ h9 => h9) rfl dX7_forces_56 ?_
      refine cnV (nw := 25) (ci := 8) (T0 := TX6) (N := 6) (As := [.int (mu ||| (bitI x)), .int mn]) (rest := []) ⟨hx, hb, hml, hown, hts⟩ (c_X6_inAll l G a r n mf bd ((vLL r bd n mf).length) true gu (mu ||| (bitI x)) mn (upOk_aft hu hgu)) (cwV 2 hts gX7_forces_X6_inAll rfl rfl rfl ⟨rfl, hd_X6_inAll⟩ ⟨Nat.le_of_ble_eq_true rfl, Nat.le_of_ble_eq_true rfl⟩) hKK hP hD hS [1, 2, 3, 5, 6, 7, 8, 9, 10, 11, 12, 13, 14, 15, 16, 17, 18] [0, 4, 19, 20, 21, 22, 23, 24] (fun g2 => [(oX7 (a 0) (a 1) (a 2) (a 9) (a 15) (a 19) (a 21) (a 23)), (oX6 (a 1) (a 2) (a 9) (a 15) (a 18) (nI (vLL r bd n mf).length) 1), (oX5 (a 2) (nI n) (a 3) (a 4) (a 5) (a 6) (a 7) (a 8) bd), (cI G (a 3) 15 (r 3)), (cI G (a 4) 15 (r 4)), (cI G (a 5) 15 (r 5)), (cI G (a 6) 15 (r 6)), (cI G (a 7) 15 (r 7)), (cI G (a 8) 15 (r 8)), (oX1 (a 9) (nI mf) (a 10) (a 11) (a 12) (a 13) (a 14)), (cI G (a 10) 40 (r 10)), (cI G (a 11) 40 (r 11)), (cI G (a 12) 40 (r 12)), (cI G (a 13) 40 (r 13)), (cI G (a 14) 40 (r 14)), (oX4 (a 15) (a 16) (a 17)), (cI G (a 16) 60 (r 16)), (cI G (a 17) 4 (r 17)), (cI G (a 18) 8192 g2), (oX0 (a 19) (nI cs) mu mn (a 20)), (cI G (a 20) 14 (r 20)), (oX2 (a 21) la (nI fq) (a 22)), (cI G (a 22) 200 (r 22)), (oX3 (a 23) (nI rq) (a 24)), (cI G (a 24) 14 (r 24))]) [some (oX7 (a 0) (a 1) (a 2) (a 9) (a 15) (a 19) (a 21) (a 23)), some (cI G (a 4) 15 (r 4)), some (oX0 (a 19) (nI cs) mu mn (a 20)), some (cI G (a 20) 14 (r 20)), some (oX2 (a 21) la (nI fq) (a 22)), some (cI G (a 22) 200 (r 22)), some (oX3 (a 23) (nI rq) (a 24)), some (cI G (a 24) 14 (r 24))] [a 0, a 1, a 2, a 3, a 4, a 5, a 6, a 7, a 8, a 9, a 10, a 11, a 12, a 13, a 14, a 15, a 16, a 17, a 18, a 19, a 20, a 21, a 22, a 23, a 24] rfl (by decide) (by decide) rfl rfl rfl hl.1 rfl (Nat.le_of_ble_eq_true rfl) dX7_forces_59 ⟨Nat.zero_le _, Nat.zero_le _⟩ (fun _ => rfl) (fun _ => rfl) rfl (fun _ => rfl) rfl (fun _ => rfl) (fun g2 H locs hg2 hP hD hS => ?_)
      refine lv_istore (lv' := [(4, .int (foldP (fun v => fitsB v (mu ||| (bitI x)) mn) (fun x y => x &&& y) (-1) (vLL r bd n mf) (vLL r bd n mf).length)), (3, .int (mu ||| (bitI x))), (0, .ref (a 0)), (1, .int x), (2, .int i)]) hx hb dX7_forces_62 hl (by decide) rfl (fun ls hl => ?_)
      refine lv_aload_n hx hb dX7_forces_64 rfl (lv_at hl 2 rfl) ?_
      refine va_get (D := G.1) (ci := 9) (v := .ref (a 1)) (C := RX7) (T := TX7) (N := 7) hx hb hts iX7_forces_X7 hown hK hP 0 rfl rfl 0 (by decide) (hts _ fX7_forces_5) (fun _ h9 => h9) rfl dX7_forces_65 ?_
      refine lv_iload_n hx hb dX7_forces_68 rfl (lv_at hl 1 rfl) ?_
      refine lv_aload_n hx hb dX7_forces_69 rfl (lv_at hl 2 rfl) ?_
      refine va_get (D := G.1) (ci := 9) (v := .ref (a 19)) (C := RX7) (T := TX7) (N := 7) hx hb hts iX7_forces_X7 hown hK hP 0 rfl rfl 4 (by decide) (hts _ fX7_forces_2) (fun _ h9 => h9) rfl dX7_forces_70 ?_
      refine va_get (D := G.1) (ci := 2) (v := .int mn) (C := RX0) (T := TX0) (N := 4) hx hb hts iX7_forces_X0 hown hK hP 19 rfl rfl 2 (by decide) (hts _ fX7_forces_6) (fun _ h9 => h9) rfl dX7_forces_73 ?_
      refine cnV (nw := 25) (ci := 8) (T0 := TX6) (N := 6) (As := [.int (mu ||| (bitI x)), .int mn]) (rest := []) ⟨hx, hb, hml, hown, hts⟩ (c_X6_inSome l G a r n mf bd ((vLL r bd n mf).length) true g2 (mu ||| (bitI x)) mn (upOk_aft hu hg2)) (cwV 2 hts gX7_forces_X6_inSome rfl rfl rfl ⟨rfl, hd_X6_inSome⟩ ⟨Nat.le_of_ble_eq_true rfl, Nat.le_of_ble_eq_true rfl⟩) hKK hP hD hS [1, 2, 3, 5, 6, 7, 8, 9, 10, 11, 12, 13, 14, 15, 16, 17, 18] [0, 4, 19, 20, 21, 22, 23, 24] (fun g3 => [(oX7 (a 0) (a 1) (a 2) (a 9) (a 15) (a 19) (a 21) (a 23)), (oX6 (a 1) (a 2) (a 9) (a 15) (a 18) (nI (vLL r bd n mf).length) 1), (oX5 (a 2) (nI n) (a 3) (a 4) (a 5) (a 6) (a 7) (a 8) bd), (cI G (a 3) 15 (r 3)), (cI G (a 4) 15 (r 4)), (cI G (a 5) 15 (r 5)), (cI G (a 6) 15 (r 6)), (cI G (a 7) 15 (r 7)), (cI G (a 8) 15 (r 8)), (oX1 (a 9) (nI mf) (a 10) (a 11) (a 12) (a 13) (a 14)), (cI G (a 10) 40 (r 10)), (cI G (a 11) 40 (r 11)), (cI G (a 12) 40 (r 12)), (cI G (a 13) 40 (r 13)), (cI G (a 14) 40 (r 14)), (oX4 (a 15) (a 16) (a 17)), (cI G (a 16) 60 (r 16)), (cI G (a 17) 4 (r 17)), (cI G (a 18) 8192 g3), (oX0 (a 19) (nI cs) mu mn (a 20)), (cI G (a 20) 14 (r 20)), (oX2 (a 21) la (nI fq) (a 22)), (cI G (a 22) 200 (r 22)), (oX3 (a 23) (nI rq) (a 24)), (cI G (a 24) 14 (r 24))]) [some (oX7 (a 0) (a 1) (a 2) (a 9) (a 15) (a 19) (a 21) (a 23)), some (cI G (a 4) 15 (r 4)), some (oX0 (a 19) (nI cs) mu mn (a 20)), some (cI G (a 20) 14 (r 20)), some (oX2 (a 21) la (nI fq) (a 22)), some (cI G (a 22) 200 (r 22)), some (oX3 (a 23) (nI rq) (a 24)), some (cI G (a 24) 14 (r 24))] [a 0, a 1, a 2, a 3, a 4, a 5, a 6, a 7, a 8, a 9, a 10, a 11, a 12, a 13, a 14, a 15, a 16, a 17, a 18, a 19, a 20, a 21, a 22, a 23, a 24] rfl (by decide) (by decide) rfl rfl rfl hl.1 rfl (Nat.le_of_ble_eq_true rfl) dX7_forces_76 ⟨Nat.zero_le _, Nat.zero_le _⟩ (fun _ => rfl) (fun _ => rfl) rfl (fun _ => rfl) rfl (fun _ => rfl) (fun g3 H locs hg3 hP hD hS => ?_)
      refine lv_istore (lv' := [(5, .int (foldP (fun v => fitsB v (mu ||| (bitI x)) mn) (fun x y => x ||| y) 0 (vLL r bd n mf) (vLL r bd n mf).length)), (4, .int (foldP (fun v => fitsB v (mu ||| (bitI x)) mn) (fun x y => x &&& y) (-1) (vLL r bd n mf) (vLL r bd n mf).length)), (3, .int (mu ||| (bitI x))), (0, .ref (a 0)), (1, .int x), (2, .int i)]) hx hb dX7_forces_79 hl (by decide) rfl (fun ls hl => ?_)
      refine lv_aload_n hx hb dX7_forces_81 rfl (lv_at hl 3 rfl) ?_
      refine lv_iload hx hb dX7_forces_82 (lv_at hl 1 rfl) ?_
      refine lv_iload hx hb dX7_forces_84 (lv_at hl 0 rfl) ?_
      refine lv_iload_n hx hb dX7_forces_86 rfl (lv_at hl 4 rfl) ?_
      refine lv_iload_n hx hb dX7_forces_87 rfl (lv_at hl 5 rfl) ?_
      refine cpV (ci := 9) (T0 := TX7) (N := 7) (As := [.int (foldP (fun v => fitsB v (mu ||| (bitI x)) mn) (fun x y => x &&& y) (-1) (vLL r bd n mf) (vLL r bd n mf).length), .int (foldP (fun v => fitsB v (mu ||| (bitI x)) mn) (fun x y => x ||| y) 0 (vLL r bd n mf) (vLL r bd n mf).length), .int x, .int i]) (rest := []) ⟨hx, hb, hml, hown, hts⟩ (c_X7_forced l G a n bd (foldP (fun v => fitsB v (mu ||| (bitI x)) mn) (fun x y => x &&& y) (-1) (vLL r bd n mf) (vLL r bd n mf).length) (foldP (fun v => fitsB v (mu ||| (bitI x)) mn) (fun x y => x ||| y) 0 (vLL r bd n mf) (vLL r bd n mf).length) x i hn) (cwV 4 hts gX7_forces_X7_forced rfl rfl rfl ⟨rfl, hd_X7_forced⟩ ⟨Nat.le_of_ble_eq_true rfl, Nat.le_of_ble_eq_true rfl⟩) hKK hP [0, 2] rfl rfl rfl rfl hl.1 rfl (Nat.le_of_ble_eq_true rfl) dX7_forces_88 ⟨Nat.zero_le _, Nat.zero_le _⟩ ?_
      exact greti hx hb hr hlocks rfl hAe hS (⟨cForcedV n (foldP (fun v => fitsB v (mu ||| bitI x) mn) (fun x y => x &&& y) (-1) (vLL r bd n mf) (vLL r bd n mf).length) (foldP (fun v => fitsB v (mu ||| bitI x) mn) (fun x y => x ||| y) 0 (vLL r bd n mf) (vLL r bd n mf).length) x i, (n, mf, bd, (vLL r bd n mf).length, true, cs, mu, mn, la, fq, rq, upR r 18 g3)⟩) (rfl) (by unfold cForces; rw [if_pos (bI_n0 c_8)]; exact ⟨g3, hg3, by unfold cForcesV; rw [if_neg c_42]⟩) (hP) dX7_forces_91
    · skip
      refine lv_iconst (v := 0) hx hb dX7_forces_45 (by decide) ?_
      exact greti hx hb hr hlocks rfl hAe hS (⟨0, (n, mf, bd, (vLL r bd n mf).length, true, cs, mu, mn, la, fq, rq, upR r 18 gu)⟩) (rfl) (by unfold cForces; rw [if_pos (bI_n0 c_8)]; exact ⟨gu, hgu, by unfold cForcesV; rw [if_pos c_42]⟩) (hP) dX7_forces_46
  · skip
    refine lv_iconst (v := -1) hx hb dX7_forces_11 (by decide) ?_
    exact greti hx hb hr hlocks rfl hAe hS (⟨-1, (n, mf, bd, zN, ub, cs, mu, mn, la, fq, rq, r)⟩) (rfl) (by unfold cForces; rw [if_neg (by rw [bI_0.mp c_8]; decide)]) (hP) dX7_forces_12

theorem iX7_explain_X7 : ∀ w ∈ u_ws RX7 TX7 7, w ∈ wsX7_explain := by decide +kernel
theorem fX7_explain_1 : Cond.fieldLink RX7 34 "FeatureSolve" "choices" "LFeatureSolve$Choices;" ∈ wsX7_explain := by decide +kernel
theorem iX7_explain_X0 : ∀ w ∈ u_ws RX0 TX0 4, w ∈ wsX7_explain := by decide +kernel
theorem fX7_explain_3 : Cond.fieldLink RX7 107 "FeatureSolve$Choices" "must" "I" ∈ wsX7_explain := by decide +kernel
theorem fX7_explain_4 : Cond.fieldLink RX7 110 "FeatureSolve$Choices" "mustNot" "I" ∈ wsX7_explain := by decide +kernel
theorem fX7_explain_5 : Cond.fieldLink RX7 106 "FeatureSolve$Choices" "size" "I" ∈ wsX7_explain := by decide +kernel
theorem hd_X0_get : yX0_get.cls ≠ "java/lang/invoke/MethodHandle" ∧ yX0_get.cls ≠ "java/lang/invoke/VarHandle" ∧ (parseMethodDescriptor yX0_get.desc).map (fun d => d.parameters.length) = some 1 := by decide +kernel
theorem fX7_explain_6 : Cond.fieldLink RX7 10 "FeatureSolve" "variants" "LFeatureSolve$Variants;" ∈ wsX7_explain := by decide +kernel
theorem fX7_explain_7 : Cond.fieldLink RX7 48 "FeatureSolve" "reason" "LFeatureSolve$Reason;" ∈ wsX7_explain := by decide +kernel
theorem hd_X3_add : yX3_add.cls ≠ "java/lang/invoke/MethodHandle" ∧ yX3_add.cls ≠ "java/lang/invoke/VarHandle" ∧ (parseMethodDescriptor yX3_add.desc).map (fun d => d.parameters.length) = some 1 := by decide +kernel
set_option maxHeartbeats 4000000 in
set_option maxRecDepth 100000 in
/-- explain -/
theorem c_X7_explain (l : Launch) (G : GG) (a : Nat → Nat) (n mf : Nat) (bd : Int32) (cs : Nat) (mu mn la : Int32) (fq : Nat) (r : Nat → Nat → Int32) (ro : Nat → Int32) (hc : cs ≤ 14) (hu : upOk r bd n mf ((vLL r bd n mf).length) true ro) : Met l yX7_explain wsX7_explain (rmK 5) (va_Pc [.ref (a 0)] (PM G [(oX7 (a 0) (a 1) (a 2) (a 9) (a 15) (a 19) (a 21) (a 23)), (oX6 (a 1) (a 2) (a 9) (a 15) (a 18) (nI (vLL r bd n mf).length) 1), (oX5 (a 2) (nI n) (a 3) (a 4) (a 5) (a 6) (a 7) (a 8) bd), (cI G (a 3) 15 (r 3)), (cI G (a 4) 15 (r 4)), (cI G (a 5) 15 (r 5)), (cI G (a 6) 15 (r 6)), (cI G (a 7) 15 (r 7)), (cI G (a 8) 15 (r 8)), (oX1 (a 9) (nI mf) (a 10) (a 11) (a 12) (a 13) (a 14)), (cI G (a 10) 40 (r 10)), (cI G (a 11) 40 (r 11)), (cI G (a 12) 40 (r 12)), (cI G (a 13) 40 (r 13)), (cI G (a 14) 40 (r 14)), (oX4 (a 15) (a 16) (a 17)), (cI G (a 16) 60 (r 16)), (cI G (a 17) 4 (r 17)), (cI G (a 18) 8192 ro), (oX0 (a 19) (nI cs) mu mn (a 20)), (cI G (a 20) 14 (r 20)), (oX2 (a 21) la (nI fq) (a 22)), (cI G (a 22) 200 (r 22)), (oX3 (a 23) 0 (a 24)), (cI G (a 24) 14 (r 24))])) (QG (S := (Nat → Int32) × (Nat → Int32)) G [(oX7 (a 0) (a 1) (a 2) (a 9) (a 15) (a 19) (a 21) (a 23)), (oX6 (a 1) (a 2) (a 9) (a 15) (a 18) (nI (vLL r bd n mf).length) 1), (oX5 (a 2) (nI n) (a 3) (a 4) (a 5) (a 6) (a 7) (a 8) bd), (cI G (a 3) 15 (r 3)), (cI G (a 4) 15 (r 4)), (cI G (a 5) 15 (r 5)), (cI G (a 6) 15 (r 6)), (cI G (a 7) 15 (r 7)), (cI G (a 8) 15 (r 8)), (oX1 (a 9) (nI mf) (a 10) (a 11) (a 12) (a 13) (a 14)), (cI G (a 10) 40 (r 10)), (cI G (a 11) 40 (r 11)), (cI G (a 12) 40 (r 12)), (cI G (a 13) 40 (r 13)), (cI G (a 14) 40 (r 14)), (oX4 (a 15) (a 16) (a 17)), (cI G (a 16) 60 (r 16)), (cI G (a 17) 4 (r 17)), (cI G (a 18) 8192 ro), (oX0 (a 19) (nI cs) mu mn (a 20)), (cI G (a 20) 14 (r 20)), (oX2 (a 21) la (nI fq) (a 22)), (cI G (a 22) 200 (r 22)), (oX3 (a 23) 0 (a 24)), (cI G (a 24) 14 (r 24))] (fun u => rowIs u.1 (vLL r bd n mf) ∧ rowIs u.2 (exM (cFnd n mf bd r) (r 20) mu mn cs).2.2) (fun u => none) (fun u => [(oX7 (a 0) (a 1) (a 2) (a 9) (a 15) (a 19) (a 21) (a 23)), (oX6 (a 1) (a 2) (a 9) (a 15) (a 18) (nI (vLL r bd n mf).length) 1), (oX5 (a 2) (nI n) (a 3) (a 4) (a 5) (a 6) (a 7) (a 8) bd), (cI G (a 3) 15 (r 3)), (cI G (a 4) 15 (r 4)), (cI G (a 5) 15 (r 5)), (cI G (a 6) 15 (r 6)), (cI G (a 7) 15 (r 7)), (cI G (a 8) 15 (r 8)), (oX1 (a 9) (nI mf) (a 10) (a 11) (a 12) (a 13) (a 14)), (cI G (a 10) 40 (r 10)), (cI G (a 11) 40 (r 11)), (cI G (a 12) 40 (r 12)), (cI G (a 13) 40 (r 13)), (cI G (a 14) 40 (r 14)), (oX4 (a 15) (a 16) (a 17)), (cI G (a 16) 60 (r 16)), (cI G (a 17) 4 (r 17)), (cI G (a 18) 8192 u.1), (oX0 (a 19) (nI cs) mu mn (a 20)), (cI G (a 20) 14 (r 20)), (oX2 (a 21) la (nI fq) (a 22)), (cI G (a 22) 200 (r 22)), (oX3 (a 23) (nI (exM (cFnd n mf bd r) (r 20) mu mn cs).2.2.length) (a 24)), (cI G (a 24) 14 u.2)])) 0 0 (adr [(oX7 (a 0) (a 1) (a 2) (a 9) (a 15) (a 19) (a 21) (a 23)), (oX6 (a 1) (a 2) (a 9) (a 15) (a 18) (nI (vLL r bd n mf).length) 1), (oX5 (a 2) (nI n) (a 3) (a 4) (a 5) (a 6) (a 7) (a 8) bd), (cI G (a 3) 15 (r 3)), (cI G (a 4) 15 (r 4)), (cI G (a 5) 15 (r 5)), (cI G (a 6) 15 (r 6)), (cI G (a 7) 15 (r 7)), (cI G (a 8) 15 (r 8)), (oX1 (a 9) (nI mf) (a 10) (a 11) (a 12) (a 13) (a 14)), (cI G (a 10) 40 (r 10)), (cI G (a 11) 40 (r 11)), (cI G (a 12) 40 (r 12)), (cI G (a 13) 40 (r 13)), (cI G (a 14) 40 (r 14)), (oX4 (a 15) (a 16) (a 17)), (cI G (a 16) 60 (r 16)), (cI G (a 17) 4 (r 17)), (cI G (a 18) 8192 ro), (oX0 (a 19) (nI cs) mu mn (a 20)), (cI G (a 20) 14 (r 20)), (oX2 (a 21) la (nI fq) (a 22)), (cI G (a 22) 200 (r 22)), (oX3 (a 23) 0 (a 24)), (cI G (a 24) 14 (r 24))]) := by
  refine Met.ofW (cc := cX7_explain) (maxL := 7) (ret := none) (by decide) rfl ?_
  intro p e s m args below meth c s₁ B hml hv
  obtain ⟨rfl, hP, hD0, hKK⟩ := hv
  have hx := B.exec
  have hb := B.bytes
  have hr := B.returns
  have hts := atoms_spec (ws := wsX7_explain) B.pre
  have hown : s.vm.findClass RX7 = some m.cls := findClass_of_methodNamed B.named
  have hlocks := B.notSynchronized
  have hK := hKK.1
  generalize hAe : adr [(oX7 (a 0) (a 1) (a 2) (a 9) (a 15) (a 19) (a 21) (a 23)), (oX6 (a 1) (a 2) (a 9) (a 15) (a 18) (nI (vLL r bd n mf).length) 1), (oX5 (a 2) (nI n) (a 3) (a 4) (a 5) (a 6) (a 7) (a 8) bd), (cI G (a 3) 15 (r 3)), (cI G (a 4) 15 (r 4)), (cI G (a 5) 15 (r 5)), (cI G (a 6) 15 (r 6)), (cI G (a 7) 15 (r 7)), (cI G (a 8) 15 (r 8)), (oX1 (a 9) (nI mf) (a 10) (a 11) (a 12) (a 13) (a 14)), (cI G (a 10) 40 (r 10)), (cI G (a 11) 40 (r 11)), (cI G (a 12) 40 (r 12)), (cI G (a 13) 40 (r 13)), (cI G (a 14) 40 (r 14)), (oX4 (a 15) (a 16) (a 17)), (cI G (a 16) 60 (r 16)), (cI G (a 17) 4 (r 17)), (cI G (a 18) 8192 ro), (oX0 (a 19) (nI cs) mu mn (a 20)), (cI G (a 20) 14 (r 20)), (oX2 (a 21) la (nI fq) (a 22)), (cI G (a 22) 200 (r 22)), (oX3 (a 23) 0 (a 24)), (cI G (a 24) 14 (r 24))] = A
  have hD : va_D A [(oX7 (a 0) (a 1) (a 2) (a 9) (a 15) (a 19) (a 21) (a 23)), (oX6 (a 1) (a 2) (a 9) (a 15) (a 18) (nI (vLL r bd n mf).length) 1), (oX5 (a 2) (nI n) (a 3) (a 4) (a 5) (a 6) (a 7) (a 8) bd), (cI G (a 3) 15 (r 3)), (cI G (a 4) 15 (r 4)), (cI G (a 5) 15 (r 5)), (cI G (a 6) 15 (r 6)), (cI G (a 7) 15 (r 7)), (cI G (a 8) 15 (r 8)), (oX1 (a 9) (nI mf) (a 10) (a 11) (a 12) (a 13) (a 14)), (cI G (a 10) 40 (r 10)), (cI G (a 11) 40 (r 11)), (cI G (a 12) 40 (r 12)), (cI G (a 13) 40 (r 13)), (cI G (a 14) 40 (r 14)), (oX4 (a 15) (a 16) (a 17)), (cI G (a 16) 60 (r 16)), (cI G (a 17) 4 (r 17)), (cI G (a 18) 8192 ro), (oX0 (a 19) (nI cs) mu mn (a 20)), (cI G (a 20) 14 (r 20)), (oX2 (a 21) la (nI fq) (a 22)), (cI G (a 22) 200 (r 22)), (oX3 (a 23) 0 (a 24)), (cI G (a 24) 14 (r 24))] := by rw [← hAe]; exact hD0.own
  have hS : va_S A s.heap s.heap [] := va_S.rf
  have hP : va_P G.1 vwCl [(oX7 (a 0) (a 1) (a 2) (a 9) (a 15) (a 19) (a 21) (a 23)), (oX6 (a 1) (a 2) (a 9) (a 15) (a 18) (nI (vLL r bd n mf).length) 1), (oX5 (a 2) (nI n) (a 3) (a 4) (a 5) (a 6) (a 7) (a 8) bd), (cI G (a 3) 15 (r 3)), (cI G (a 4) 15 (r 4)), (cI G (a 5) 15 (r 5)), (cI G (a 6) 15 (r 6)), (cI G (a 7) 15 (r 7)), (cI G (a 8) 15 (r 8)), (oX1 (a 9) (nI mf) (a 10) (a 11) (a 12) (a 13) (a 14)), (cI G (a 10) 40 (r 10)), (cI G (a 11) 40 (r 11)), (cI G (a 12) 40 (r 12)), (cI G (a 13) 40 (r 13)), (cI G (a 14) 40 (r 14)), (oX4 (a 15) (a 16) (a 17)), (cI G (a 16) 60 (r 16)), (cI G (a 17) 4 (r 17)), (cI G (a 18) 8192 ro), (oX0 (a 19) (nI cs) mu mn (a 20)), (cI G (a 20) 14 (r 20)), (oX2 (a 21) la (nI fq) (a 22)), (cI G (a 22) 200 (r 22)), (oX3 (a 23) 0 (a 24)), (cI G (a 24) 14 (r 24))] s.heap := hP
  have hl := lv_entry ([.ref (a 0)]) (n := 7) (Nat.le_of_ble_eq_true rfl)
  rw [lg_entry_eq]
  generalize (lg_sl ([.ref (a 0)]) ++ List.replicate (7 - (lg_sl ([.ref (a 0)])).length) Slot.unset).toArray = ls at hl ⊢
  have hl : lv_has ls 7 [(0, .ref (a 0))] := hl
  refine lv_aload_n hx hb dX7_explain_0 rfl (lv_at hl 0 rfl) ?_
  refine va_get (D := G.1) (ci := 9) (v := .ref (a 19)) (C := RX7) (T := TX7) (N := 7) hx hb hts iX7_explain_X7 hown hK hP 0 rfl rfl 4 (by decide) (hts _ fX7_explain_1) (fun _ h9 => h9) rfl dX7_explain_1 ?_
  refine va_get (D := G.1) (ci := 2) (v := .int mu) (C := RX0) (T := TX0) (N := 4) hx hb hts iX7_explain_X0 hown hK hP 19 rfl rfl 1 (by decide) (hts _ fX7_explain_3) (fun _ h9 => h9) rfl dX7_explain_4 ?_
  refine lv_istore_n (lv' := [(1, .int mu), (0, .ref (a 0))]) hx hb dX7_explain_7 rfl hl (by decide) rfl (fun ls hl => ?_)
  refine lv_aload_n hx hb dX7_explain_8 rfl (lv_at hl 1 rfl) ?_
  refine va_get (D := G.1) (ci := 9) (v := .ref (a 19)) (C := RX7) (T := TX7) (N := 7) hx hb hts iX7_explain_X7 hown hK hP 0 rfl rfl 4 (by decide) (hts _ fX7_explain_1) (fun _ h9 => h9) rfl dX7_explain_9 ?_
  refine va_get (D := G.1) (ci := 2) (v := .int mn) (C := RX0) (T := TX0) (N := 4) hx hb hts iX7_explain_X0 hown hK hP 19 rfl rfl 2 (by decide) (hts _ fX7_explain_4) (fun _ h9 => h9) rfl dX7_explain_12 ?_
  refine lv_istore_n (lv' := [(2, .int mn), (1, .int mu), (0, .ref (a 0))]) hx hb dX7_explain_15 rfl hl (by decide) rfl (fun ls hl => ?_)
  refine lv_iconst (v := 0) hx hb dX7_explain_16 (by decide) ?_
  refine lv_istore_n (lv' := [(3, .int 0), (2, .int mn), (1, .int mu), (0, .ref (a 0))]) hx hb dX7_explain_17 rfl hl (by decide) rfl (fun ls hl => ?_)
  refine loopH (nL := 7) (I := fun (xv9 : Nat × (Nat → Int32) × (Nat → Int32)) => (fun (jx : Nat) (gx : Nat → Int32) (wx : Nat → Int32) => jx ≤ cs ∧ rowIs gx (vLL r bd n mf) ∧ rowIs wx (exM (cFnd n mf bd r) (r 20) mu mn jx).2.2) xv9.1 xv9.2.1 xv9.2.2) (μ := fun (xv9 : Nat × (Nat → Int32) × (Nat → Int32)) => (fun (jx : Nat) (gx : Nat → Int32) (wx : Nat → Int32) => cs - jx) xv9.1 xv9.2.1 xv9.2.2) (lv := fun (xv9 : Nat × (Nat → Int32) × (Nat → Int32)) => (fun (jx : Nat) (gx : Nat → Int32) (wx : Nat → Int32) => [(0, .ref (a 0)), (1, .int ((exM (cFnd n mf bd r) (r 20) mu mn jx).1)), (2, .int ((exM (cFnd n mf bd r) (r 20) mu mn jx).2.1)), (3, .int (nI jx))]) xv9.1 xv9.2.1 xv9.2.2) (wj := fun (xv9 : Nat × (Nat → Int32) × (Nat → Int32)) => (fun (jx : Nat) (gx : Nat → Int32) (wx : Nat → Int32) => [(oX7 (a 0) (a 1) (a 2) (a 9) (a 15) (a 19) (a 21) (a 23)), (oX6 (a 1) (a 2) (a 9) (a 15) (a 18) (nI (vLL r bd n mf).length) 1), (oX5 (a 2) (nI n) (a 3) (a 4) (a 5) (a 6) (a 7) (a 8) bd), (cI G (a 3) 15 (r 3)), (cI G (a 4) 15 (r 4)), (cI G (a 5) 15 (r 5)), (cI G (a 6) 15 (r 6)), (cI G (a 7) 15 (r 7)), (cI G (a 8) 15 (r 8)), (oX1 (a 9) (nI mf) (a 10) (a 11) (a 12) (a 13) (a 14)), (cI G (a 10) 40 (r 10)), (cI G (a 11) 40 (r 11)), (cI G (a 12) 40 (r 12)), (cI G (a 13) 40 (r 13)), (cI G (a 14) 40 (r 14)), (oX4 (a 15) (a 16) (a 17)), (cI G (a 16) 60 (r 16)), (cI G (a 17) 4 (r 17)), (cI G (a 18) 8192 gx), (oX0 (a 19) (nI cs) mu mn (a 20)), (cI G (a 20) 14 (r 20)), (oX2 (a 21) la (nI fq) (a 22)), (cI G (a 22) 200 (r 22)), (oX3 (a 23) (nI (exM (cFnd n mf bd r) (r 20) mu mn jx).2.2.length) (a 24)), (cI G (a 24) 14 wx)]) xv9.1 xv9.2.1 xv9.2.2) (pc' := 18) (fun xv9 hI ih_18 H locs ls hP hD hS hl => ?_) (⟨0, ro, r 24⟩) (⟨Nat.zero_le _, (hu.2.2.2.2 rfl).1, fun k hk => absurd hk (Nat.not_lt_zero _)⟩) _ _ ls (hP) (hD) hS (lv_sub hl [3, 2, 1, 0] rfl)
  obtain ⟨jx, gx, wx⟩ := xv9
  have hI : jx ≤ cs ∧ rowIs gx (vLL r bd n mf) ∧ rowIs wx (exM (cFnd n mf bd r) (r 20) mu mn jx).2.2 := hI
  have hl : lv_has ls 7 [(0, .ref (a 0)), (1, .int ((exM (cFnd n mf bd r) (r 20) mu mn jx).1)), (2, .int ((exM (cFnd n mf bd r) (r 20) mu mn jx).2.1)), (3, .int (nI jx))] := hl
  have hPD : PD G A [(oX7 (a 0) (a 1) (a 2) (a 9) (a 15) (a 19) (a 21) (a 23)), (oX6 (a 1) (a 2) (a 9) (a 15) (a 18) (nI (vLL r bd n mf).length) 1), (oX5 (a 2) (nI n) (a 3) (a 4) (a 5) (a 6) (a 7) (a 8) bd), (cI G (a 3) 15 (r 3)), (cI G (a 4) 15 (r 4)), (cI G (a 5) 15 (r 5)), (cI G (a 6) 15 (r 6)), (cI G (a 7) 15 (r 7)), (cI G (a 8) 15 (r 8)), (oX1 (a 9) (nI mf) (a 10) (a 11) (a 12) (a 13) (a 14)), (cI G (a 10) 40 (r 10)), (cI G (a 11) 40 (r 11)), (cI G (a 12) 40 (r 12)), (cI G (a 13) 40 (r 13)), (cI G (a 14) 40 (r 14)), (oX4 (a 15) (a 16) (a 17)), (cI G (a 16) 60 (r 16)), (cI G (a 17) 4 (r 17)), (cI G (a 18) 8192 gx), (oX0 (a 19) (nI cs) mu mn (a 20)), (cI G (a 20) 14 (r 20)), (oX2 (a 21) la (nI fq) (a 22)), (cI G (a 22) 200 (r 22)), (oX3 (a 23) (nI (exM (cFnd n mf bd r) (r 20) mu mn jx).2.2.length) (a 24)), (cI G (a 24) 14 wx)] H := ⟨hP, hD⟩
  have hP := hPD.1
  have hD := hPD.2
  clear hPD
  have hI1 := hI.1
  have hlx := exM_len (cFnd n mf bd r) (r 20) mu mn jx
  have hu1 := upOk_aft hu hI.2.1
  refine lv_iload_n hx hb dX7_explain_18 rfl (lv_at hl 3 rfl) ?_
  refine lv_aload_n hx hb dX7_explain_19 rfl (lv_at hl 0 rfl) ?_
  refine va_get (D := G.1) (ci := 9) (v := .ref (a 19)) (C := RX7) (T := TX7) (N := 7) hx hb hts iX7_explain_X7 hown hK hP 0 rfl rfl 4 (by decide) (hts _ fX7_explain_1) (fun _ h9 => h9) rfl dX7_explain_20 ?_
  refine va_get (D := G.1) (ci := 2) (v := .int (nI cs)) (C := RX0) (T := TX0) (N := 4) hx hb hts iX7_explain_X0 hown hK hP 19 rfl rfl 0 (by decide) (hts _ fX7_explain_5) (fun _ h9 => h9) rfl dX7_explain_23 ?_
  refine lv_icmp_ge (tgt := 101) hx hb dX7_explain_26 (by decide) (fun c_26 => ?_) (fun c_26 => ?_)
  · skip
    have hj : jx = cs := by have := (nI_leI (a := cs) (b := jx) (by omega) (by omega)).mp c_26; omega
    exact gretv hx hb hr hlocks hAe hS (⟨gx, wx⟩) (rfl) (⟨hI.2.1, by rw [← hj]; exact hI.2.2⟩) (by have h9 := hP; rw [hj] at h9; exact h9) dX7_explain_101
  · skip
    have hj : jx < cs := Nat.lt_of_not_le (fun z => c_26 ((nI_leI (a := cs) (b := jx) (by omega) (by omega)).mpr z))
    refine lv_aload_n hx hb dX7_explain_29 rfl (lv_at hl 0 rfl) ?_
    refine va_get (D := G.1) (ci := 9) (v := .ref (a 19)) (C := RX7) (T := TX7) (N := 7) hx hb hts iX7_explain_X7 hown hK hP 0 rfl rfl 4 (by decide) (hts _ fX7_explain_1) (fun _ h9 => h9) rfl dX7_explain_30 ?_
    refine lv_iload_n hx hb dX7_explain_33 rfl (lv_at hl 3 rfl) ?_
    refine cpV (ci := 2) (T0 := TX0) (N := 4) (As := [.int (nI jx)]) (rest := []) ⟨hx, hb, hml, hown, hts⟩ (c_X0_get l G (a 19) (nI cs) mu mn (a 20) (r 20) jx (by omega)) (cwV 1 hts gX7_explain_X0_get rfl rfl rfl ⟨rfl, hd_X0_get⟩ ⟨Nat.le_of_ble_eq_true rfl, Nat.le_of_ble_eq_true rfl⟩) hKK hP [19, 20] rfl rfl rfl rfl hl.1 rfl (Nat.le_of_ble_eq_true rfl) dX7_explain_34 ⟨Nat.zero_le _, Nat.zero_le _⟩ ?_
    refine lv_istore (lv' := [(4, .int ((r 20) jx)), (0, .ref (a 0)), (1, .int ((exM (cFnd n mf bd r) (r 20) mu mn jx).1)), (2, .int ((exM (cFnd n mf bd r) (r 20) mu mn jx).2.1)), (3, .int (nI jx))]) hx hb dX7_explain_37 hl (by decide) rfl (fun ls hl => ?_)
    refine lv_iload_n hx hb dX7_explain_39 rfl (lv_at hl 2 rfl) ?_
    refine lv_iload hx hb dX7_explain_40 (lv_at hl 0 rfl) ?_
    refine cpS (As := [.int ((r 20) jx)]) (rest := [.int ((exM (cFnd n mf bd r) (r 20) mu mn jx).1)]) ⟨hx, hb, hml, hown, hts⟩ (c_X7_bit l G ((r 20) jx)) (va_cwS 1 hts gX7_explain_X7_bit rfl rfl rfl hd_X7_bit ⟨Nat.le_of_ble_eq_true rfl, Nat.le_of_ble_eq_true rfl⟩) hKK hP [] rfl rfl hl.1 rfl (Nat.le_of_ble_eq_true rfl) dX7_explain_42 ⟨Nat.zero_le _, Nat.zero_le _⟩ ?_
    refine lv_iconst (v := -1) hx hb dX7_explain_45 (by decide) ?_
    refine lv_ixor hx hb dX7_explain_46 ?_
    refine lv_iand hx hb dX7_explain_47 ?_
    refine lv_istore (lv' := [(5, .int (((exM (cFnd n mf bd r) (r 20) mu mn jx).1) &&& ((bitI ((r 20) jx)) ^^^ (-1)))), (4, .int ((r 20) jx)), (0, .ref (a 0)), (1, .int ((exM (cFnd n mf bd r) (r 20) mu mn jx).1)), (2, .int ((exM (cFnd n mf bd r) (r 20) mu mn jx).2.1)), (3, .int (nI jx))]) hx hb dX7_explain_48 hl (by decide) rfl (fun ls hl => ?_)
    refine lv_iload_n hx hb dX7_explain_50 rfl (lv_at hl 4 rfl) ?_
    refine lv_iload hx hb dX7_explain_51 (lv_at hl 1 rfl) ?_
    refine lv_ineg hx hb dX7_explain_53 ?_
    refine cpS (As := [.int (-((r 20) jx))]) (rest := [.int ((exM (cFnd n mf bd r) (r 20) mu mn jx).2.1)]) ⟨hx, hb, hml, hown, hts⟩ (c_X7_bit l G (-((r 20) jx))) (va_cwS 1 hts gX7_explain_X7_bit rfl rfl rfl hd_X7_bit ⟨Nat.le_of_ble_eq_true rfl, Nat.le_of_ble_eq_true rfl⟩) hKK hP [] rfl rfl hl.1 rfl (Nat.le_of_ble_eq_true rfl) dX7_explain_54 ⟨Nat.zero_le _, Nat.zero_le _⟩ ?_
    refine lv_iconst (v := -1) hx hb dX7_explain_57 (by decide) ?_
    refine lv_ixor hx hb dX7_explain_58 ?_
    refine lv_iand hx hb dX7_explain_59 ?_
    refine lv_istore (lv' := [(6, .int (((exM (cFnd n mf bd r) (r 20) mu mn jx).2.1) &&& ((bitI (-((r 20) jx))) ^^^ (-1)))), (5, .int (((exM (cFnd n mf bd r) (r 20) mu mn jx).1) &&& ((bitI ((r 20) jx)) ^^^ (-1)))), (4, .int ((r 20) jx)), (0, .ref (a 0)), (1, .int ((exM (cFnd n mf bd r) (r 20) mu mn jx).1)), (2, .int ((exM (cFnd n mf bd r) (r 20) mu mn jx).2.1)), (3, .int (nI jx))]) hx hb dX7_explain_60 hl (by decide) rfl (fun ls hl => ?_)
    refine lv_aload_n hx hb dX7_explain_62 rfl (lv_at hl 3 rfl) ?_
    refine va_get (D := G.1) (ci := 9) (v := .ref (a 1)) (C := RX7) (T := TX7) (N := 7) hx hb hts iX7_explain_X7 hown hK hP 0 rfl rfl 0 (by decide) (hts _ fX7_explain_6) (fun _ h9 => h9) rfl dX7_explain_63 ?_
    refine lv_iload hx hb dX7_explain_66 (lv_at hl 1 rfl) ?_
    refine lv_iload hx hb dX7_explain_68 (lv_at hl 0 rfl) ?_
    refine cnV (nw := 25) (ci := 8) (T0 := TX6) (N := 6) (As := [.int (((exM (cFnd n mf bd r) (r 20) mu mn jx).1) &&& ((bitI ((r 20) jx)) ^^^ (-1))), .int (((exM (cFnd n mf bd r) (r 20) mu mn jx).2.1) &&& ((bitI (-((r 20) jx))) ^^^ (-1)))]) (rest := []) ⟨hx, hb, hml, hown, hts⟩ (c_X6_first l G a r n mf bd ((vLL r bd n mf).length) true gx (((exM (cFnd n mf bd r) (r 20) mu mn jx).1) &&& ((bitI ((r 20) jx)) ^^^ (-1))) (((exM (cFnd n mf bd r) (r 20) mu mn jx).2.1) &&& ((bitI (-((r 20) jx))) ^^^ (-1))) (hu1)) (cwV 2 hts gX7_explain_X6_first rfl rfl rfl ⟨rfl, hd_X6_first⟩ ⟨Nat.le_of_ble_eq_true rfl, Nat.le_of_ble_eq_true rfl⟩) hKK hP hD hS [1, 2, 3, 5, 6, 7, 8, 9, 10, 11, 12, 13, 14, 15, 16, 17, 18] [0, 4, 19, 20, 21, 22, 23, 24] (fun gu => [(oX7 (a 0) (a 1) (a 2) (a 9) (a 15) (a 19) (a 21) (a 23)), (oX6 (a 1) (a 2) (a 9) (a 15) (a 18) (nI (vLL r bd n mf).length) 1), (oX5 (a 2) (nI n) (a 3) (a 4) (a 5) (a 6) (a 7) (a 8) bd), (cI G (a 3) 15 (r 3)), (cI G (a 4) 15 (r 4)), (cI G (a 5) 15 (r 5)), (cI G (a 6) 15 (r 6)), (cI G (a 7) 15 (r 7)), (cI G (a 8) 15 (r 8)), (oX1 (a 9) (nI mf) (a 10) (a 11) (a 12) (a 13) (a 14)), (cI G (a 10) 40 (r 10)), (cI G (a 11) 40 (r 11)), (cI G (a 12) 40 (r 12)), (cI G (a 13) 40 (r 13)), (cI G (a 14) 40 (r 14)), (oX4 (a 15) (a 16) (a 17)), (cI G (a 16) 60 (r 16)), (cI G (a 17) 4 (r 17)), (cI G (a 18) 8192 gu), (oX0 (a 19) (nI cs) mu mn (a 20)), (cI G (a 20) 14 (r 20)), (oX2 (a 21) la (nI fq) (a 22)), (cI G (a 22) 200 (r 22)), (oX3 (a 23) (nI (exM (cFnd n mf bd r) (r 20) mu mn jx).2.2.length) (a 24)), (cI G (a 24) 14 wx)]) [some (oX7 (a 0) (a 1) (a 2) (a 9) (a 15) (a 19) (a 21) (a 23)), some (cI G (a 4) 15 (r 4)), some (oX0 (a 19) (nI cs) mu mn (a 20)), some (cI G (a 20) 14 (r 20)), some (oX2 (a 21) la (nI fq) (a 22)), some (cI G (a 22) 200 (r 22)), some (oX3 (a 23) (nI (exM (cFnd n mf bd r) (r 20) mu mn jx).2.2.length) (a 24)), some (cI G (a 24) 14 wx)] [a 0, a 1, a 2, a 3, a 4, a 5, a 6, a 7, a 8, a 9, a 10, a 11, a 12, a 13, a 14, a 15, a 16, a 17, a 18, a 19, a 20, a 21, a 22, a 23, a 24] rfl (by decide) (by decide) rfl rfl rfl hl.1 rfl (Nat.le_of_ble_eq_true rfl) dX7_explain_70 ⟨Nat.zero_le _, Nat.zero_le _⟩ (fun _ => rfl) (fun _ => rfl) rfl (fun _ => rfl) rfl (fun _ => rfl) (fun gu H locs hgu hP hD hS => ?_)
    refine lv_iconst (v := -1) hx hb dX7_explain_73 (by decide) ?_
    refine lv_icmp_ne (tgt := 86) hx hb dX7_explain_74 (by decide) (fun c_74 => ?_) (fun c_74 => ?_)
    · skip
      refine lv_aload_n hx hb dX7_explain_86 rfl (lv_at hl 3 rfl) ?_
      refine va_get (D := G.1) (ci := 9) (v := .ref (a 23)) (C := RX7) (T := TX7) (N := 7) hx hb hts iX7_explain_X7 hown hK hP 0 rfl rfl 6 (by decide) (hts _ fX7_explain_7) (fun _ h9 => h9) rfl dX7_explain_87 ?_
      refine lv_iload hx hb dX7_explain_90 (lv_at hl 2 rfl) ?_
      refine cnV (nw := 25) (ci := 5) (T0 := TX3) (N := 2) (As := [.int ((r 20) jx)]) (rest := []) ⟨hx, hb, hml, hown, hts⟩ (c_X3_add l G (a 23) ((exM (cFnd n mf bd r) (r 20) mu mn jx).2.2.length) (a 24) wx ((r 20) jx) (by omega)) (cwV 1 hts gX7_explain_X3_add rfl rfl rfl ⟨rfl, hd_X3_add⟩ ⟨Nat.le_of_ble_eq_true rfl, Nat.le_of_ble_eq_true rfl⟩) hKK hP hD hS [23, 24] [0, 1, 2, 3, 4, 5, 6, 7, 8, 9, 10, 11, 12, 13, 14, 15, 16, 17, 18, 19, 20, 21, 22] (fun _ => [(oX7 (a 0) (a 1) (a 2) (a 9) (a 15) (a 19) (a 21) (a 23)), (oX6 (a 1) (a 2) (a 9) (a 15) (a 18) (nI (vLL r bd n mf).length) 1), (oX5 (a 2) (nI n) (a 3) (a 4) (a 5) (a 6) (a 7) (a 8) bd), (cI G (a 3) 15 (r 3)), (cI G (a 4) 15 (r 4)), (cI G (a 5) 15 (r 5)), (cI G (a 6) 15 (r 6)), (cI G (a 7) 15 (r 7)), (cI G (a 8) 15 (r 8)), (oX1 (a 9) (nI mf) (a 10) (a 11) (a 12) (a 13) (a 14)), (cI G (a 10) 40 (r 10)), (cI G (a 11) 40 (r 11)), (cI G (a 12) 40 (r 12)), (cI G (a 13) 40 (r 13)), (cI G (a 14) 40 (r 14)), (oX4 (a 15) (a 16) (a 17)), (cI G (a 16) 60 (r 16)), (cI G (a 17) 4 (r 17)), (cI G (a 18) 8192 gu), (oX0 (a 19) (nI cs) mu mn (a 20)), (cI G (a 20) 14 (r 20)), (oX2 (a 21) la (nI fq) (a 22)), (cI G (a 22) 200 (r 22)), (oX3 (a 23) (nI (((exM (cFnd n mf bd r) (r 20) mu mn jx).2.2.length) + 1)) (a 24)), (cI G (a 24) 14 (upd wx ((exM (cFnd n mf bd r) (r 20) mu mn jx).2.2.length) ((r 20) jx)))]) [some (oX7 (a 0) (a 1) (a 2) (a 9) (a 15) (a 19) (a 21) (a 23)), some (oX6 (a 1) (a 2) (a 9) (a 15) (a 18) (nI (vLL r bd n mf).length) 1), some (oX5 (a 2) (nI n) (a 3) (a 4) (a 5) (a 6) (a 7) (a 8) bd), some (cI G (a 3) 15 (r 3)), some (cI G (a 4) 15 (r 4)), some (cI G (a 5) 15 (r 5)), some (cI G (a 6) 15 (r 6)), some (cI G (a 7) 15 (r 7)), some (cI G (a 8) 15 (r 8)), some (oX1 (a 9) (nI mf) (a 10) (a 11) (a 12) (a 13) (a 14)), some (cI G (a 10) 40 (r 10)), some (cI G (a 11) 40 (r 11)), some (cI G (a 12) 40 (r 12)), some (cI G (a 13) 40 (r 13)), some (cI G (a 14) 40 (r 14)), some (oX4 (a 15) (a 16) (a 17)), some (cI G (a 16) 60 (r 16)), some (cI G (a 17) 4 (r 17)), some (cI G (a 18) 8192 gu), some (oX0 (a 19) (nI cs) mu mn (a 20)), some (cI G (a 20) 14 (r 20)), some (oX2 (a 21) la (nI fq) (a 22)), some (cI G (a 22) 200 (r 22))] [a 0, a 1, a 2, a 3, a 4, a 5, a 6, a 7, a 8, a 9, a 10, a 11, a 12, a 13, a 14, a 15, a 16, a 17, a 18, a 19, a 20, a 21, a 22, a 23, a 24] rfl (by decide) (by decide) rfl rfl rfl hl.1 rfl (Nat.le_of_ble_eq_true rfl) dX7_explain_92 ⟨Nat.zero_le _, Nat.zero_le _⟩ (fun _ => rfl) (fun _ => rfl) rfl (fun _ => rfl) rfl (fun _ => rfl) (fun _ H locs _ hP hD hS => ?_)
      refine lv_iinc (v := nI (jx + 1)) (lv' := [(3, .int (nI (jx + 1))), (6, .int (((exM (cFnd n mf bd r) (r 20) mu mn jx).2.1) &&& ((bitI (-((r 20) jx))) ^^^ (-1)))), (5, .int (((exM (cFnd n mf bd r) (r 20) mu mn jx).1) &&& ((bitI ((r 20) jx)) ^^^ (-1)))), (4, .int ((r 20) jx)), (0, .ref (a 0)), (1, .int ((exM (cFnd n mf bd r) (r 20) mu mn jx).1)), (2, .int ((exM (cFnd n mf bd r) (r 20) mu mn jx).2.1))]) hx hb dX7_explain_95 hl (k := 6) rfl (nI_1 jx) (by decide) rfl (fun ls hl => ?_)
      refine lv_goto (tgt := 18) hx hb dX7_explain_98 (by decide) ?_
      have he := exM_f (F := cFnd n mf bd r) (td := r 20) (mu := mu) (mn := mn) (k := jx) c_74
      have he2 : (exM (cFnd n mf bd r) (r 20) mu mn (jx + 1)).2.2.length = (exM (cFnd n mf bd r) (r 20) mu mn jx).2.2.length + 1 := by rw [he]; exact List.length_append
      rw [← he2] at hP hD
      exact ih_18 (⟨jx + 1, gu, upd wx (exM (cFnd n mf bd r) (r 20) mu mn jx).2.2.length (r 20 jx)⟩) (⟨hj, hgu, by rw [he]; exact rowIs_app hI.2.2⟩) (by show cs - (jx + 1) < cs - jx; omega) _ _ ls (hP) (hD) hS (lv_sub hl [4, 5, 6, 0] (by show ([(0, .ref (a 0)), (1, .int ((exM (cFnd n mf bd r) (r 20) mu mn jx).1)), (2, .int ((exM (cFnd n mf bd r) (r 20) mu mn jx).2.1)), (3, .int (nI (jx + 1)))] : List (Nat × Value)) = [(0, .ref (a 0)), (1, .int ((exM (cFnd n mf bd r) (r 20) mu mn (jx + 1)).1)), (2, .int ((exM (cFnd n mf bd r) (r 20) mu mn (jx + 1)).2.1)), (3, .int (nI (jx + 1)))]; rw [he]))
    · skip
      refine lv_iload hx hb dX7_explain_77 (lv_at hl 1 rfl) ?_
      refine lv_istore_n (lv' := [(1, .int (((exM (cFnd n mf bd r) (r 20) mu mn jx).1) &&& ((bitI ((r 20) jx)) ^^^ (-1)))), (6, .int (((exM (cFnd n mf bd r) (r 20) mu mn jx).2.1) &&& ((bitI (-((r 20) jx))) ^^^ (-1)))), (5, .int (((exM (cFnd n mf bd r) (r 20) mu mn jx).1) &&& ((bitI ((r 20) jx)) ^^^ (-1)))), (4, .int ((r 20) jx)), (0, .ref (a 0)), (2, .int ((exM (cFnd n mf bd r) (r 20) mu mn jx).2.1)), (3, .int (nI jx))]) hx hb dX7_explain_79 rfl hl (by decide) rfl (fun ls hl => ?_)
      refine lv_iload hx hb dX7_explain_80 (lv_at hl 1 rfl) ?_
      refine lv_istore_n (lv' := [(2, .int (((exM (cFnd n mf bd r) (r 20) mu mn jx).2.1) &&& ((bitI (-((r 20) jx))) ^^^ (-1)))), (1, .int (((exM (cFnd n mf bd r) (r 20) mu mn jx).1) &&& ((bitI ((r 20) jx)) ^^^ (-1)))), (6, .int (((exM (cFnd n mf bd r) (r 20) mu mn jx).2.1) &&& ((bitI (-((r 20) jx))) ^^^ (-1)))), (5, .int (((exM (cFnd n mf bd r) (r 20) mu mn jx).1) &&& ((bitI ((r 20) jx)) ^^^ (-1)))), (4, .int ((r 20) jx)), (0, .ref (a 0)), (3, .int (nI jx))]) hx hb dX7_explain_82 rfl hl (by decide) rfl (fun ls hl => ?_)
      refine lv_goto (tgt := 95) hx hb dX7_explain_83 (by decide) ?_
      refine lv_iinc (v := nI (jx + 1)) (lv' := [(3, .int (nI (jx + 1))), (2, .int (((exM (cFnd n mf bd r) (r 20) mu mn jx).2.1) &&& ((bitI (-((r 20) jx))) ^^^ (-1)))), (1, .int (((exM (cFnd n mf bd r) (r 20) mu mn jx).1) &&& ((bitI ((r 20) jx)) ^^^ (-1)))), (6, .int (((exM (cFnd n mf bd r) (r 20) mu mn jx).2.1) &&& ((bitI (-((r 20) jx))) ^^^ (-1)))), (5, .int (((exM (cFnd n mf bd r) (r 20) mu mn jx).1) &&& ((bitI ((r 20) jx)) ^^^ (-1)))), (4, .int ((r 20) jx)), (0, .ref (a 0))]) hx hb dX7_explain_95 hl (k := 6) rfl (nI_1 jx) (by decide) rfl (fun ls hl => ?_)
      refine lv_goto (tgt := 18) hx hb dX7_explain_98 (by decide) ?_
      have he := exM_t (F := cFnd n mf bd r) (td := r 20) (mu := mu) (mn := mn) (k := jx) c_74
      have he2 : (exM (cFnd n mf bd r) (r 20) mu mn (jx + 1)).2.2 = (exM (cFnd n mf bd r) (r 20) mu mn jx).2.2 := by rw [he]
      rw [← he2] at hP hD
      exact ih_18 (⟨jx + 1, gu, wx⟩) (⟨hj, hgu, by rw [he2]; exact hI.2.2⟩) (by show cs - (jx + 1) < cs - jx; omega) _ _ ls (hP) (hD) hS (lv_sub hl [6, 2, 1, 0] (by show ([(0, .ref (a 0)), (1, .int (((exM (cFnd n mf bd r) (r 20) mu mn jx).1) &&& ((bitI ((r 20) jx)) ^^^ (-1)))), (2, .int (((exM (cFnd n mf bd r) (r 20) mu mn jx).2.1) &&& ((bitI (-((r 20) jx))) ^^^ (-1)))), (3, .int (nI (jx + 1)))] : List (Nat × Value)) = [(0, .ref (a 0)), (1, .int ((exM (cFnd n mf bd r) (r 20) mu mn (jx + 1)).1)), (2, .int ((exM (cFnd n mf bd r) (r 20) mu mn (jx + 1)).2.1)), (3, .int (nI (jx + 1)))]; rw [he]))

theorem iX7_solve_X7 : ∀ w ∈ u_ws RX7 TX7 7, w ∈ wsX7_solve := by decide +kernel
theorem fX7_solve_1 : Cond.fieldLink RX7 10 "FeatureSolve" "variants" "LFeatureSolve$Variants;" ∈ wsX7_solve := by decide +kernel
theorem fX7_solve_2 : Cond.fieldLink RX7 34 "FeatureSolve" "choices" "LFeatureSolve$Choices;" ∈ wsX7_solve := by decide +kernel
theorem iX7_solve_X0 : ∀ w ∈ u_ws RX0 TX0 4, w ∈ wsX7_solve := by decide +kernel
theorem fX7_solve_4 : Cond.fieldLink RX7 107 "FeatureSolve$Choices" "must" "I" ∈ wsX7_solve := by decide +kernel
theorem fX7_solve_5 : Cond.fieldLink RX7 110 "FeatureSolve$Choices" "mustNot" "I" ∈ wsX7_solve := by decide +kernel
theorem fX7_solve_6 : Cond.fieldLink RX7 48 "FeatureSolve" "reason" "LFeatureSolve$Reason;" ∈ wsX7_solve := by decide +kernel
theorem hd_X3_clear : yX3_clear.cls ≠ "java/lang/invoke/MethodHandle" ∧ yX3_clear.cls ≠ "java/lang/invoke/VarHandle" ∧ (parseMethodDescriptor yX3_clear.desc).map (fun d => d.parameters.length) = some 0 := by decide +kernel
theorem fX7_solve_7 : Cond.fieldLink RX7 41 "FeatureSolve" "found" "LFeatureSolve$Found;" ∈ wsX7_solve := by decide +kernel
theorem hd_X2_keep : yX2_keep.cls ≠ "java/lang/invoke/MethodHandle" ∧ yX2_keep.cls ≠ "java/lang/invoke/VarHandle" ∧ (parseMethodDescriptor yX2_keep.desc).map (fun d => d.parameters.length) = some 1 := by decide +kernel
theorem hd_X2_keepNone : yX2_keepNone.cls ≠ "java/lang/invoke/MethodHandle" ∧ yX2_keepNone.cls ≠ "java/lang/invoke/VarHandle" ∧ (parseMethodDescriptor yX2_keepNone.desc).map (fun d => d.parameters.length) = some 0 := by decide +kernel
theorem hd_X7_explain : yX7_explain.cls ≠ "java/lang/invoke/MethodHandle" ∧ yX7_explain.cls ≠ "java/lang/invoke/VarHandle" ∧ (parseMethodDescriptor yX7_explain.desc).map (fun d => d.parameters.length) = some 0 := by decide +kernel
set_option maxHeartbeats 4000000 in
set_option maxRecDepth 100000 in
/-- solve -/
theorem c_X7_solve (l : Launch) (G : GG) (a : Nat → Nat) (n mf : Nat) (bd : Int32) (zN : Nat) (ub : Bool) (cs : Nat) (mu mn la : Int32) (fq rq : Nat) (r : Nat → Nat → Int32) (hc : cs ≤ 14) (hf : fq ≤ 200) (hu : upOk r bd n mf zN ub (r 18)) : Met l yX7_solve wsX7_solve (rmK 6) (va_Pc [.ref (a 0)] (PM G [(oX7 (a 0) (a 1) (a 2) (a 9) (a 15) (a 19) (a 21) (a 23)), (oX6 (a 1) (a 2) (a 9) (a 15) (a 18) (nI zN) (bI ub)), (oX5 (a 2) (nI n) (a 3) (a 4) (a 5) (a 6) (a 7) (a 8) bd), (cI G (a 3) 15 (r 3)), (cI G (a 4) 15 (r 4)), (cI G (a 5) 15 (r 5)), (cI G (a 6) 15 (r 6)), (cI G (a 7) 15 (r 7)), (cI G (a 8) 15 (r 8)), (oX1 (a 9) (nI mf) (a 10) (a 11) (a 12) (a 13) (a 14)), (cI G (a 10) 40 (r 10)), (cI G (a 11) 40 (r 11)), (cI G (a 12) 40 (r 12)), (cI G (a 13) 40 (r 13)), (cI G (a 14) 40 (r 14)), (oX4 (a 15) (a 16) (a 17)), (cI G (a 16) 60 (r 16)), (cI G (a 17) 4 (r 17)), (cI G (a 18) 8192 (r 18)), (oX0 (a 19) (nI cs) mu mn (a 20)), (cI G (a 20) 14 (r 20)), (oX2 (a 21) la (nI fq) (a 22)), (cI G (a 22) 200 (r 22)), (oX3 (a 23) (nI rq) (a 24)), (cI G (a 24) 14 (r 24))])) (QG (S := Int32 × CS) G [(oX7 (a 0) (a 1) (a 2) (a 9) (a 15) (a 19) (a 21) (a 23)), (oX6 (a 1) (a 2) (a 9) (a 15) (a 18) (nI zN) (bI ub)), (oX5 (a 2) (nI n) (a 3) (a 4) (a 5) (a 6) (a 7) (a 8) bd), (cI G (a 3) 15 (r 3)), (cI G (a 4) 15 (r 4)), (cI G (a 5) 15 (r 5)), (cI G (a 6) 15 (r 6)), (cI G (a 7) 15 (r 7)), (cI G (a 8) 15 (r 8)), (oX1 (a 9) (nI mf) (a 10) (a 11) (a 12) (a 13) (a 14)), (cI G (a 10) 40 (r 10)), (cI G (a 11) 40 (r 11)), (cI G (a 12) 40 (r 12)), (cI G (a 13) 40 (r 13)), (cI G (a 14) 40 (r 14)), (oX4 (a 15) (a 16) (a 17)), (cI G (a 16) 60 (r 16)), (cI G (a 17) 4 (r 17)), (cI G (a 18) 8192 (r 18)), (oX0 (a 19) (nI cs) mu mn (a 20)), (cI G (a 20) 14 (r 20)), (oX2 (a 21) la (nI fq) (a 22)), (cI G (a 22) 200 (r 22)), (oX3 (a 23) (nI rq) (a 24)), (cI G (a 24) 14 (r 24))] (fun u => cSolve n mf bd zN ub cs mu mn la fq rq r u) (fun u => some (.int u.1)) (fun u => cW G a u.2)) 0 0 (adr [(oX7 (a 0) (a 1) (a 2) (a 9) (a 15) (a 19) (a 21) (a 23)), (oX6 (a 1) (a 2) (a 9) (a 15) (a 18) (nI zN) (bI ub)), (oX5 (a 2) (nI n) (a 3) (a 4) (a 5) (a 6) (a 7) (a 8) bd), (cI G (a 3) 15 (r 3)), (cI G (a 4) 15 (r 4)), (cI G (a 5) 15 (r 5)), (cI G (a 6) 15 (r 6)), (cI G (a 7) 15 (r 7)), (cI G (a 8) 15 (r 8)), (oX1 (a 9) (nI mf) (a 10) (a 11) (a 12) (a 13) (a 14)), (cI G (a 10) 40 (r 10)), (cI G (a 11) 40 (r 11)), (cI G (a 12) 40 (r 12)), (cI G (a 13) 40 (r 13)), (cI G (a 14) 40 (r 14)), (oX4 (a 15) (a 16) (a 17)), (cI G (a 16) 60 (r 16)), (cI G (a 17) 4 (r 17)), (cI G (a 18) 8192 (r 18)), (oX0 (a 19) (nI cs) mu mn (a 20)), (cI G (a 20) 14 (r 20)), (oX2 (a 21) la (nI fq) (a 22)), (cI G (a 22) 200 (r 22)), (oX3 (a 23) (nI rq) (a 24)), (cI G (a 24) 14 (r 24))]) := by
  refine Met.ofW (cc := cX7_solve) (maxL := 2) (ret := (some .int)) (by decide) rfl ?_
  intro p e s m args below meth c s₁ B hml hv
  obtain ⟨rfl, hP, hD0, hKK⟩ := hv
  have hx := B.exec
  have hb := B.bytes
  have hr := B.returns
  have hts := atoms_spec (ws := wsX7_solve) B.pre
  have hown : s.vm.findClass RX7 = some m.cls := findClass_of_methodNamed B.named
  have hlocks := B.notSynchronized
  have hK := hKK.1
  generalize hAe : adr [(oX7 (a 0) (a 1) (a 2) (a 9) (a 15) (a 19) (a 21) (a 23)), (oX6 (a 1) (a 2) (a 9) (a 15) (a 18) (nI zN) (bI ub)), (oX5 (a 2) (nI n) (a 3) (a 4) (a 5) (a 6) (a 7) (a 8) bd), (cI G (a 3) 15 (r 3)), (cI G (a 4) 15 (r 4)), (cI G (a 5) 15 (r 5)), (cI G (a 6) 15 (r 6)), (cI G (a 7) 15 (r 7)), (cI G (a 8) 15 (r 8)), (oX1 (a 9) (nI mf) (a 10) (a 11) (a 12) (a 13) (a 14)), (cI G (a 10) 40 (r 10)), (cI G (a 11) 40 (r 11)), (cI G (a 12) 40 (r 12)), (cI G (a 13) 40 (r 13)), (cI G (a 14) 40 (r 14)), (oX4 (a 15) (a 16) (a 17)), (cI G (a 16) 60 (r 16)), (cI G (a 17) 4 (r 17)), (cI G (a 18) 8192 (r 18)), (oX0 (a 19) (nI cs) mu mn (a 20)), (cI G (a 20) 14 (r 20)), (oX2 (a 21) la (nI fq) (a 22)), (cI G (a 22) 200 (r 22)), (oX3 (a 23) (nI rq) (a 24)), (cI G (a 24) 14 (r 24))] = A
  have hD : va_D A [(oX7 (a 0) (a 1) (a 2) (a 9) (a 15) (a 19) (a 21) (a 23)), (oX6 (a 1) (a 2) (a 9) (a 15) (a 18) (nI zN) (bI ub)), (oX5 (a 2) (nI n) (a 3) (a 4) (a 5) (a 6) (a 7) (a 8) bd), (cI G (a 3) 15 (r 3)), (cI G (a 4) 15 (r 4)), (cI G (a 5) 15 (r 5)), (cI G (a 6) 15 (r 6)), (cI G (a 7) 15 (r 7)), (cI G (a 8) 15 (r 8)), (oX1 (a 9) (nI mf) (a 10) (a 11) (a 12) (a 13) (a 14)), (cI G (a 10) 40 (r 10)), (cI G (a 11) 40 (r 11)), (cI G (a 12) 40 (r 12)), (cI G (a 13) 40 (r 13)), (cI G (a 14) 40 (r 14)), (oX4 (a 15) (a 16) (a 17)), (cI G (a 16) 60 (r 16)), (cI G (a 17) 4 (r 17)), (cI G (a 18) 8192 (r 18)), (oX0 (a 19) (nI cs) mu mn (a 20)), (cI G (a 20) 14 (r 20)), (oX2 (a 21) la (nI fq) (a 22)), (cI G (a 22) 200 (r 22)), (oX3 (a 23) (nI rq) (a 24)), (cI G (a 24) 14 (r 24))] := by rw [← hAe]; exact hD0.own
  have hS : va_S A s.heap s.heap [] := va_S.rf
  have hP : va_P G.1 vwCl [(oX7 (a 0) (a 1) (a 2) (a 9) (a 15) (a 19) (a 21) (a 23)), (oX6 (a 1) (a 2) (a 9) (a 15) (a 18) (nI zN) (bI ub)), (oX5 (a 2) (nI n) (a 3) (a 4) (a 5) (a 6) (a 7) (a 8) bd), (cI G (a 3) 15 (r 3)), (cI G (a 4) 15 (r 4)), (cI G (a 5) 15 (r 5)), (cI G (a 6) 15 (r 6)), (cI G (a 7) 15 (r 7)), (cI G (a 8) 15 (r 8)), (oX1 (a 9) (nI mf) (a 10) (a 11) (a 12) (a 13) (a 14)), (cI G (a 10) 40 (r 10)), (cI G (a 11) 40 (r 11)), (cI G (a 12) 40 (r 12)), (cI G (a 13) 40 (r 13)), (cI G (a 14) 40 (r 14)), (oX4 (a 15) (a 16) (a 17)), (cI G (a 16) 60 (r 16)), (cI G (a 17) 4 (r 17)), (cI G (a 18) 8192 (r 18)), (oX0 (a 19) (nI cs) mu mn (a 20)), (cI G (a 20) 14 (r 20)), (oX2 (a 21) la (nI fq) (a 22)), (cI G (a 22) 200 (r 22)), (oX3 (a 23) (nI rq) (a 24)), (cI G (a 24) 14 (r 24))] s.heap := hP
  have hl := lv_entry ([.ref (a 0)]) (n := 2) (Nat.le_of_ble_eq_true rfl)
  rw [lg_entry_eq]
  generalize (lg_sl ([.ref (a 0)]) ++ List.replicate (2 - (lg_sl ([.ref (a 0)])).length) Slot.unset).toArray = ls at hl ⊢
  have hl : lv_has ls 2 [(0, .ref (a 0))] := hl
  refine lv_aload_n hx hb dX7_solve_0 rfl (lv_at hl 0 rfl) ?_
  refine va_get (D := G.1) (ci := 9) (v := .ref (a 1)) (C := RX7) (T := TX7) (N := 7) hx hb hts iX7_solve_X7 hown hK hP 0 rfl rfl 0 (by decide) (hts _ fX7_solve_1) (fun _ h9 => h9) rfl dX7_solve_1 ?_
  refine lv_aload_n hx hb dX7_solve_4 rfl (lv_at hl 0 rfl) ?_
  refine va_get (D := G.1) (ci := 9) (v := .ref (a 19)) (C := RX7) (T := TX7) (N := 7) hx hb hts iX7_solve_X7 hown hK hP 0 rfl rfl 4 (by decide) (hts _ fX7_solve_2) (fun _ h9 => h9) rfl dX7_solve_5 ?_
  refine va_get (D := G.1) (ci := 2) (v := .int mu) (C := RX0) (T := TX0) (N := 4) hx hb hts iX7_solve_X0 hown hK hP 19 rfl rfl 1 (by decide) (hts _ fX7_solve_4) (fun _ h9 => h9) rfl dX7_solve_8 ?_
  refine lv_aload_n hx hb dX7_solve_11 rfl (lv_at hl 0 rfl) ?_
  refine va_get (D := G.1) (ci := 9) (v := .ref (a 19)) (C := RX7) (T := TX7) (N := 7) hx hb hts iX7_solve_X7 hown hK hP 0 rfl rfl 4 (by decide) (hts _ fX7_solve_2) (fun _ h9 => h9) rfl dX7_solve_12 ?_
  refine va_get (D := G.1) (ci := 2) (v := .int mn) (C := RX0) (T := TX0) (N := 4) hx hb hts iX7_solve_X0 hown hK hP 19 rfl rfl 2 (by decide) (hts _ fX7_solve_5) (fun _ h9 => h9) rfl dX7_solve_15 ?_
  refine cnV (nw := 25) (ci := 8) (T0 := TX6) (N := 6) (As := [.int mu, .int mn]) (rest := []) ⟨hx, hb, hml, hown, hts⟩ (c_X6_first l G a r n mf bd zN ub (r 18) mu mn (hu)) (cwV 2 hts gX7_solve_X6_first rfl rfl rfl ⟨rfl, hd_X6_first⟩ ⟨Nat.le_of_ble_eq_true rfl, Nat.le_of_ble_eq_true rfl⟩) hKK hP hD hS [1, 2, 3, 5, 6, 7, 8, 9, 10, 11, 12, 13, 14, 15, 16, 17, 18] [0, 4, 19, 20, 21, 22, 23, 24] (fun gu => [(oX7 (a 0) (a 1) (a 2) (a 9) (a 15) (a 19) (a 21) (a 23)), (oX6 (a 1) (a 2) (a 9) (a 15) (a 18) (nI (vLL r bd n mf).length) 1), (oX5 (a 2) (nI n) (a 3) (a 4) (a 5) (a 6) (a 7) (a 8) bd), (cI G (a 3) 15 (r 3)), (cI G (a 4) 15 (r 4)), (cI G (a 5) 15 (r 5)), (cI G (a 6) 15 (r 6)), (cI G (a 7) 15 (r 7)), (cI G (a 8) 15 (r 8)), (oX1 (a 9) (nI mf) (a 10) (a 11) (a 12) (a 13) (a 14)), (cI G (a 10) 40 (r 10)), (cI G (a 11) 40 (r 11)), (cI G (a 12) 40 (r 12)), (cI G (a 13) 40 (r 13)), (cI G (a 14) 40 (r 14)), (oX4 (a 15) (a 16) (a 17)), (cI G (a 16) 60 (r 16)), (cI G (a 17) 4 (r 17)), (cI G (a 18) 8192 gu), (oX0 (a 19) (nI cs) mu mn (a 20)), (cI G (a 20) 14 (r 20)), (oX2 (a 21) la (nI fq) (a 22)), (cI G (a 22) 200 (r 22)), (oX3 (a 23) (nI rq) (a 24)), (cI G (a 24) 14 (r 24))]) [some (oX7 (a 0) (a 1) (a 2) (a 9) (a 15) (a 19) (a 21) (a 23)), some (cI G (a 4) 15 (r 4)), some (oX0 (a 19) (nI cs) mu mn (a 20)), some (cI G (a 20) 14 (r 20)), some (oX2 (a 21) la (nI fq) (a 22)), some (cI G (a 22) 200 (r 22)), some (oX3 (a 23) (nI rq) (a 24)), some (cI G (a 24) 14 (r 24))] [a 0, a 1, a 2, a 3, a 4, a 5, a 6, a 7, a 8, a 9, a 10, a 11, a 12, a 13, a 14, a 15, a 16, a 17, a 18, a 19, a 20, a 21, a 22, a 23, a 24] rfl (by decide) (by decide) rfl rfl rfl hl.1 rfl (Nat.le_of_ble_eq_true rfl) dX7_solve_18 ⟨Nat.zero_le _, Nat.zero_le _⟩ (fun _ => rfl) (fun _ => rfl) rfl (fun _ => rfl) rfl (fun _ => rfl) (fun gu H locs hgu hP hD hS => ?_)
  refine lv_istore_n (lv' := [(1, .int (fnd (fun v => fitsB v mu mn) (vLL r bd n mf))), (0, .ref (a 0))]) hx hb dX7_solve_21 rfl hl (by decide) rfl (fun ls hl => ?_)
  refine lv_aload_n hx hb dX7_solve_22 rfl (lv_at hl 1 rfl) ?_
  refine va_get (D := G.1) (ci := 9) (v := .ref (a 23)) (C := RX7) (T := TX7) (N := 7) hx hb hts iX7_solve_X7 hown hK hP 0 rfl rfl 6 (by decide) (hts _ fX7_solve_6) (fun _ h9 => h9) rfl dX7_solve_23 ?_
  refine cnV (nw := 25) (ci := 5) (T0 := TX3) (N := 2) (As := []) (rest := []) ⟨hx, hb, hml, hown, hts⟩ (c_X3_clear l G (a 23) (nI rq) (a 24)) (cwV 0 hts gX7_solve_X3_clear rfl rfl rfl ⟨rfl, hd_X3_clear⟩ ⟨Nat.le_of_ble_eq_true rfl, Nat.le_of_ble_eq_true rfl⟩) hKK hP hD hS [23] [0, 1, 2, 3, 4, 5, 6, 7, 8, 9, 10, 11, 12, 13, 14, 15, 16, 17, 18, 19, 20, 21, 22, 24] (fun _ => [(oX7 (a 0) (a 1) (a 2) (a 9) (a 15) (a 19) (a 21) (a 23)), (oX6 (a 1) (a 2) (a 9) (a 15) (a 18) (nI (vLL r bd n mf).length) 1), (oX5 (a 2) (nI n) (a 3) (a 4) (a 5) (a 6) (a 7) (a 8) bd), (cI G (a 3) 15 (r 3)), (cI G (a 4) 15 (r 4)), (cI G (a 5) 15 (r 5)), (cI G (a 6) 15 (r 6)), (cI G (a 7) 15 (r 7)), (cI G (a 8) 15 (r 8)), (oX1 (a 9) (nI mf) (a 10) (a 11) (a 12) (a 13) (a 14)), (cI G (a 10) 40 (r 10)), (cI G (a 11) 40 (r 11)), (cI G (a 12) 40 (r 12)), (cI G (a 13) 40 (r 13)), (cI G (a 14) 40 (r 14)), (oX4 (a 15) (a 16) (a 17)), (cI G (a 16) 60 (r 16)), (cI G (a 17) 4 (r 17)), (cI G (a 18) 8192 gu), (oX0 (a 19) (nI cs) mu mn (a 20)), (cI G (a 20) 14 (r 20)), (oX2 (a 21) la (nI fq) (a 22)), (cI G (a 22) 200 (r 22)), (oX3 (a 23) 0 (a 24)), (cI G (a 24) 14 (r 24))]) [some (oX7 (a 0) (a 1) (a 2) (a 9) (a 15) (a 19) (a 21) (a 23)), some (oX6 (a 1) (a 2) (a 9) (a 15) (a 18) (nI (vLL r bd n mf).length) 1), some (oX5 (a 2) (nI n) (a 3) (a 4) (a 5) (a 6) (a 7) (a 8) bd), some (cI G (a 3) 15 (r 3)), some (cI G (a 4) 15 (r 4)), some (cI G (a 5) 15 (r 5)), some (cI G (a 6) 15 (r 6)), some (cI G (a 7) 15 (r 7)), some (cI G (a 8) 15 (r 8)), some (oX1 (a 9) (nI mf) (a 10) (a 11) (a 12) (a 13) (a 14)), some (cI G (a 10) 40 (r 10)), some (cI G (a 11) 40 (r 11)), some (cI G (a 12) 40 (r 12)), some (cI G (a 13) 40 (r 13)), some (cI G (a 14) 40 (r 14)), some (oX4 (a 15) (a 16) (a 17)), some (cI G (a 16) 60 (r 16)), some (cI G (a 17) 4 (r 17)), some (cI G (a 18) 8192 gu), some (oX0 (a 19) (nI cs) mu mn (a 20)), some (cI G (a 20) 14 (r 20)), some (oX2 (a 21) la (nI fq) (a 22)), some (cI G (a 22) 200 (r 22)), some (cI G (a 24) 14 (r 24))] [a 0, a 1, a 2, a 3, a 4, a 5, a 6, a 7, a 8, a 9, a 10, a 11, a 12, a 13, a 14, a 15, a 16, a 17, a 18, a 19, a 20, a 21, a 22, a 23, a 24] rfl (by decide) (by decide) rfl rfl rfl hl.1 rfl (Nat.le_of_ble_eq_true rfl) dX7_solve_26 ⟨Nat.zero_le _, Nat.zero_le _⟩ (fun _ => rfl) (fun _ => rfl) rfl (fun _ => rfl) rfl (fun _ => rfl) (fun _ H locs _ hP hD hS => ?_)
  refine lv_iload_n hx hb dX7_solve_29 rfl (lv_at hl 0 rfl) ?_
  refine lv_iconst (v := -1) hx hb dX7_solve_30 (by decide) ?_
  refine lv_icmp_ne (tgt := 47) hx hb dX7_solve_31 (by decide) (fun c_31 => ?_) (fun c_31 => ?_)
  · skip
    refine lv_aload_n hx hb dX7_solve_47 rfl (lv_at hl 1 rfl) ?_
    refine va_get (D := G.1) (ci := 9) (v := .ref (a 21)) (C := RX7) (T := TX7) (N := 7) hx hb hts iX7_solve_X7 hown hK hP 0 rfl rfl 5 (by decide) (hts _ fX7_solve_7) (fun _ h9 => h9) rfl dX7_solve_48 ?_
    refine lv_iload_n hx hb dX7_solve_51 rfl (lv_at hl 0 rfl) ?_
    refine cnV (nw := 25) (ci := 4) (T0 := TX2) (N := 3) (As := [.int (fnd (fun v => fitsB v mu mn) (vLL r bd n mf))]) (rest := []) ⟨hx, hb, hml, hown, hts⟩ (c_X2_keep l G (a 21) la fq (a 22) (r 22) (fnd (fun v => fitsB v mu mn) (vLL r bd n mf)) (hf)) (cwV 1 hts gX7_solve_X2_keep rfl rfl rfl ⟨rfl, hd_X2_keep⟩ ⟨Nat.le_of_ble_eq_true rfl, Nat.le_of_ble_eq_true rfl⟩) hKK hP hD hS [21, 22] [0, 1, 2, 3, 4, 5, 6, 7, 8, 9, 10, 11, 12, 13, 14, 15, 16, 17, 18, 19, 20, 23, 24] (fun _ => [(oX7 (a 0) (a 1) (a 2) (a 9) (a 15) (a 19) (a 21) (a 23)), (oX6 (a 1) (a 2) (a 9) (a 15) (a 18) (nI (vLL r bd n mf).length) 1), (oX5 (a 2) (nI n) (a 3) (a 4) (a 5) (a 6) (a 7) (a 8) bd), (cI G (a 3) 15 (r 3)), (cI G (a 4) 15 (r 4)), (cI G (a 5) 15 (r 5)), (cI G (a 6) 15 (r 6)), (cI G (a 7) 15 (r 7)), (cI G (a 8) 15 (r 8)), (oX1 (a 9) (nI mf) (a 10) (a 11) (a 12) (a 13) (a 14)), (cI G (a 10) 40 (r 10)), (cI G (a 11) 40 (r 11)), (cI G (a 12) 40 (r 12)), (cI G (a 13) 40 (r 13)), (cI G (a 14) 40 (r 14)), (oX4 (a 15) (a 16) (a 17)), (cI G (a 16) 60 (r 16)), (cI G (a 17) 4 (r 17)), (cI G (a 18) 8192 gu), (oX0 (a 19) (nI cs) mu mn (a 20)), (cI G (a 20) 14 (r 20)), (oX2 (a 21) (fnd (fun v => fitsB v mu mn) (vLL r bd n mf)) (if fq < 200 then nI (fq + 1) else nI fq) (a 22)), (cI G (a 22) 200 (if fq < 200 then upd (r 22) fq (fnd (fun v => fitsB v mu mn) (vLL r bd n mf)) else (r 22))), (oX3 (a 23) 0 (a 24)), (cI G (a 24) 14 (r 24))]) [some (oX7 (a 0) (a 1) (a 2) (a 9) (a 15) (a 19) (a 21) (a 23)), some (oX6 (a 1) (a 2) (a 9) (a 15) (a 18) (nI (vLL r bd n mf).length) 1), some (oX5 (a 2) (nI n) (a 3) (a 4) (a 5) (a 6) (a 7) (a 8) bd), some (cI G (a 3) 15 (r 3)), some (cI G (a 4) 15 (r 4)), some (cI G (a 5) 15 (r 5)), some (cI G (a 6) 15 (r 6)), some (cI G (a 7) 15 (r 7)), some (cI G (a 8) 15 (r 8)), some (oX1 (a 9) (nI mf) (a 10) (a 11) (a 12) (a 13) (a 14)), some (cI G (a 10) 40 (r 10)), some (cI G (a 11) 40 (r 11)), some (cI G (a 12) 40 (r 12)), some (cI G (a 13) 40 (r 13)), some (cI G (a 14) 40 (r 14)), some (oX4 (a 15) (a 16) (a 17)), some (cI G (a 16) 60 (r 16)), some (cI G (a 17) 4 (r 17)), some (cI G (a 18) 8192 gu), some (oX0 (a 19) (nI cs) mu mn (a 20)), some (cI G (a 20) 14 (r 20)), some (oX3 (a 23) 0 (a 24)), some (cI G (a 24) 14 (r 24))] [a 0, a 1, a 2, a 3, a 4, a 5, a 6, a 7, a 8, a 9, a 10, a 11, a 12, a 13, a 14, a 15, a 16, a 17, a 18, a 19, a 20, a 21, a 22, a 23, a 24] rfl (by decide) (by decide) rfl rfl rfl hl.1 rfl (Nat.le_of_ble_eq_true rfl) dX7_solve_52 ⟨Nat.zero_le _, Nat.zero_le _⟩ (fun _ => rfl) (fun _ => rfl) rfl (fun _ => rfl) rfl (fun _ => rfl) (fun _ H locs _ hP hD hS => ?_)
    refine lv_iconst (v := 1) hx hb dX7_solve_55 (by decide) ?_
    exact greti hx hb hr hlocks rfl hAe hS (⟨1, (n, mf, bd, (vLL r bd n mf).length, true, cs, mu, mn, fnd (fun v => fitsB v mu mn) (vLL r bd n mf), if fq < 200 then fq + 1 else fq, 0, upR (upR r 18 gu) 22 (if fq < 200 then upd (r 22) fq (fnd (fun v => fitsB v mu mn) (vLL r bd n mf)) else r 22))⟩) (rfl) (by unfold cSolve; rw [if_neg c_31]; exact ⟨gu, hgu, rfl⟩) (by have h9 := hP; rw [← nI_ite] at h9; exact h9) dX7_solve_56
  · skip
    refine lv_aload_n hx hb dX7_solve_34 rfl (lv_at hl 1 rfl) ?_
    refine va_get (D := G.1) (ci := 9) (v := .ref (a 21)) (C := RX7) (T := TX7) (N := 7) hx hb hts iX7_solve_X7 hown hK hP 0 rfl rfl 5 (by decide) (hts _ fX7_solve_7) (fun _ h9 => h9) rfl dX7_solve_35 ?_
    refine cnV (nw := 25) (ci := 4) (T0 := TX2) (N := 3) (As := []) (rest := []) ⟨hx, hb, hml, hown, hts⟩ (c_X2_keepNone l G (a 21) la (nI fq) (a 22)) (cwV 0 hts gX7_solve_X2_keepNone rfl rfl rfl ⟨rfl, hd_X2_keepNone⟩ ⟨Nat.le_of_ble_eq_true rfl, Nat.le_of_ble_eq_true rfl⟩) hKK hP hD hS [21] [0, 1, 2, 3, 4, 5, 6, 7, 8, 9, 10, 11, 12, 13, 14, 15, 16, 17, 18, 19, 20, 22, 23, 24] (fun _ => [(oX7 (a 0) (a 1) (a 2) (a 9) (a 15) (a 19) (a 21) (a 23)), (oX6 (a 1) (a 2) (a 9) (a 15) (a 18) (nI (vLL r bd n mf).length) 1), (oX5 (a 2) (nI n) (a 3) (a 4) (a 5) (a 6) (a 7) (a 8) bd), (cI G (a 3) 15 (r 3)), (cI G (a 4) 15 (r 4)), (cI G (a 5) 15 (r 5)), (cI G (a 6) 15 (r 6)), (cI G (a 7) 15 (r 7)), (cI G (a 8) 15 (r 8)), (oX1 (a 9) (nI mf) (a 10) (a 11) (a 12) (a 13) (a 14)), (cI G (a 10) 40 (r 10)), (cI G (a 11) 40 (r 11)), (cI G (a 12) 40 (r 12)), (cI G (a 13) 40 (r 13)), (cI G (a 14) 40 (r 14)), (oX4 (a 15) (a 16) (a 17)), (cI G (a 16) 60 (r 16)), (cI G (a 17) 4 (r 17)), (cI G (a 18) 8192 gu), (oX0 (a 19) (nI cs) mu mn (a 20)), (cI G (a 20) 14 (r 20)), (oX2 (a 21) 0 (nI fq) (a 22)), (cI G (a 22) 200 (r 22)), (oX3 (a 23) 0 (a 24)), (cI G (a 24) 14 (r 24))]) [some (oX7 (a 0) (a 1) (a 2) (a 9) (a 15) (a 19) (a 21) (a 23)), some (oX6 (a 1) (a 2) (a 9) (a 15) (a 18) (nI (vLL r bd n mf).length) 1), some (oX5 (a 2) (nI n) (a 3) (a 4) (a 5) (a 6) (a 7) (a 8) bd), some (cI G (a 3) 15 (r 3)), some (cI G (a 4) 15 (r 4)), some (cI G (a 5) 15 (r 5)), some (cI G (a 6) 15 (r 6)), some (cI G (a 7) 15 (r 7)), some (cI G (a 8) 15 (r 8)), some (oX1 (a 9) (nI mf) (a 10) (a 11) (a 12) (a 13) (a 14)), some (cI G (a 10) 40 (r 10)), some (cI G (a 11) 40 (r 11)), some (cI G (a 12) 40 (r 12)), some (cI G (a 13) 40 (r 13)), some (cI G (a 14) 40 (r 14)), some (oX4 (a 15) (a 16) (a 17)), some (cI G (a 16) 60 (r 16)), some (cI G (a 17) 4 (r 17)), some (cI G (a 18) 8192 gu), some (oX0 (a 19) (nI cs) mu mn (a 20)), some (cI G (a 20) 14 (r 20)), some (cI G (a 22) 200 (r 22)), some (oX3 (a 23) 0 (a 24)), some (cI G (a 24) 14 (r 24))] [a 0, a 1, a 2, a 3, a 4, a 5, a 6, a 7, a 8, a 9, a 10, a 11, a 12, a 13, a 14, a 15, a 16, a 17, a 18, a 19, a 20, a 21, a 22, a 23, a 24] rfl (by decide) (by decide) rfl rfl rfl hl.1 rfl (Nat.le_of_ble_eq_true rfl) dX7_solve_38 ⟨Nat.zero_le _, Nat.zero_le _⟩ (fun _ => rfl) (fun _ => rfl) rfl (fun _ => rfl) rfl (fun _ => rfl) (fun _ H locs _ hP hD hS => ?_)
    refine lv_aload_n hx hb dX7_solve_41 rfl (lv_at hl 1 rfl) ?_
    refine cnV (nw := 25) (ci := 9) (T0 := TX7) (N := 7) (As := []) (rest := []) ⟨hx, hb, hml, hown, hts⟩ (c_X7_explain l G a n mf bd cs mu mn 0 fq r gu hc (upOk_aft hu hgu)) (cwV 0 hts gX7_solve_X7_explain rfl rfl rfl ⟨rfl, hd_X7_explain⟩ ⟨Nat.le_of_ble_eq_true rfl, Nat.le_of_ble_eq_true rfl⟩) hKK hP hD hS [0, 1, 2, 3, 4, 5, 6, 7, 8, 9, 10, 11, 12, 13, 14, 15, 16, 17, 18, 19, 20, 21, 22, 23, 24] [] (fun gx => [(oX7 (a 0) (a 1) (a 2) (a 9) (a 15) (a 19) (a 21) (a 23)), (oX6 (a 1) (a 2) (a 9) (a 15) (a 18) (nI (vLL r bd n mf).length) 1), (oX5 (a 2) (nI n) (a 3) (a 4) (a 5) (a 6) (a 7) (a 8) bd), (cI G (a 3) 15 (r 3)), (cI G (a 4) 15 (r 4)), (cI G (a 5) 15 (r 5)), (cI G (a 6) 15 (r 6)), (cI G (a 7) 15 (r 7)), (cI G (a 8) 15 (r 8)), (oX1 (a 9) (nI mf) (a 10) (a 11) (a 12) (a 13) (a 14)), (cI G (a 10) 40 (r 10)), (cI G (a 11) 40 (r 11)), (cI G (a 12) 40 (r 12)), (cI G (a 13) 40 (r 13)), (cI G (a 14) 40 (r 14)), (oX4 (a 15) (a 16) (a 17)), (cI G (a 16) 60 (r 16)), (cI G (a 17) 4 (r 17)), (cI G (a 18) 8192 gx.1), (oX0 (a 19) (nI cs) mu mn (a 20)), (cI G (a 20) 14 (r 20)), (oX2 (a 21) 0 (nI fq) (a 22)), (cI G (a 22) 200 (r 22)), (oX3 (a 23) (nI (exM (cFnd n mf bd r) (r 20) mu mn cs).2.2.length) (a 24)), (cI G (a 24) 14 gx.2)]) [] [a 0, a 1, a 2, a 3, a 4, a 5, a 6, a 7, a 8, a 9, a 10, a 11, a 12, a 13, a 14, a 15, a 16, a 17, a 18, a 19, a 20, a 21, a 22, a 23, a 24] rfl (by decide) (by decide) rfl rfl rfl hl.1 rfl (Nat.le_of_ble_eq_true rfl) dX7_solve_42 ⟨Nat.zero_le _, Nat.zero_le _⟩ (fun _ => rfl) (fun _ => rfl) rfl (fun _ => rfl) rfl (fun _ => rfl) (fun gx H locs hgx hP hD hS => ?_)
    refine lv_iconst (v := 0) hx hb dX7_solve_45 (by decide) ?_
    exact greti hx hb hr hlocks rfl hAe hS (⟨0, (n, mf, bd, (vLL r bd n mf).length, true, cs, mu, mn, 0, fq, (exM (cFnd n mf bd r) (r 20) mu mn cs).2.2.length, upR (upR r 18 gx.1) 24 gx.2)⟩) (rfl) (by unfold cSolve; rw [if_pos c_31]; exact ⟨gx.1, gx.2, hgx.1, hgx.2, rfl⟩) (hP) dX7_solve_46
