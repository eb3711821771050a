theorem iX2_keep_X2 : ∀ w ∈ u_ws RX2 TX2 3, w ∈ wsX2_keep := by decide +kernel
theorem fX2_keep_1 : Cond.fieldLink RX2 15 "FeatureSolve$Found" "last" "I" ∈ wsX2_keep := by decide +kernel
theorem fX2_keep_2 : Cond.fieldLink RX2 19 "FeatureSolve$Found" "size" "I" ∈ wsX2_keep := by decide +kernel
theorem fX2_keep_3 : Cond.fieldLink RX2 9 "FeatureSolve$Found" "kept" "[I" ∈ wsX2_keep := by decide +kernel
theorem hd_X7_put : yX7_put.cls ≠ "java/lang/invoke/MethodHandle" ∧ yX7_put.cls ≠ "java/lang/invoke/VarHandle" ∧ (parseMethodDescriptor yX7_put.desc).map (fun d => d.parameters.length) = some 3 := by decide +kernel
theorem fX2_keep_4 : Cond.initialized RX7 ∈ wsX2_keep := by decide +kernel
theorem fX2_keep_5 : Cond.static yX7_put ∈ wsX2_keep := by decide +kernel
set_option maxHeartbeats 4000000 in
set_option maxRecDepth 100000 in
/-- Found.keep(v) -/
theorem c_X2_keep (l : Launch) (G : GG) (h : Nat) (la : Int32) (q k1 : Nat) (kp : Nat → Int32) (v : Int32) (hq : q ≤ 200) : Met l yX2_keep wsX2_keep (rmK 1) (va_Pc [.ref h, .int v] (PM G [(oX2 h la (nI q) k1), (cI G k1 200 kp)])) (QG (S := Unit) G [(oX2 h la (nI q) k1), (cI G k1 200 kp)] (fun u => True) (fun u => none) (fun u => [(oX2 h v (if q < 200 then nI (q + 1) else nI q) k1), (cI G k1 200 (if q < 200 then upd kp q v else kp))])) 0 0 (adr [(oX2 h la (nI q) k1), (cI G k1 200 kp)]) := by
  refine Met.ofW (cc := cX2_keep) (maxL := 2) (ret := none) (by decide) rfl ?_
  intro p e s m args below meth c s₁ B hml hv
  obtain ⟨rfl, hP, hD0, hKK⟩ := hv
  have hx := B.exec
  have hb := B.bytes
  have hr := B.returns
  have hts := atoms_spec (ws := wsX2_keep) B.pre
  have hown : s.vm.findClass RX2 = some m.cls := findClass_of_methodNamed B.named
  have hlocks := B.notSynchronized
  have hK := hKK.1
  generalize hAe : adr [(oX2 h la (nI q) k1), (cI G k1 200 kp)] = A
  have hD : va_D A [(oX2 h la (nI q) k1), (cI G k1 200 kp)] := by rw [← hAe]; exact hD0.own
  have hS : va_S A s.heap s.heap [] := va_S.rf
  have hP : va_P G.1 vwCl [(oX2 h la (nI q) k1), (cI G k1 200 kp)] s.heap := hP
  have hl := lv_entry ([.ref h, .int v]) (n := 2) (Nat.le_of_ble_eq_true rfl)
  rw [lg_entry_eq]
  generalize (lg_sl ([.ref h, .int v]) ++ List.replicate (2 - (lg_sl ([.ref h, .int v])).length) Slot.unset).toArray = ls at hl ⊢
  have hl : lv_has ls 2 [(0, .ref h), (1, .int v)] := hl
  refine lv_aload_n hx hb dX2_keep_0 rfl (lv_at hl 0 rfl) ?_
  refine lv_iload_n hx hb dX2_keep_1 rfl (lv_at hl 1 rfl) ?_
  refine va_put (D := G.1) (ci := 4) (v := .int v) (ty := .int) (C := RX2) (T := TX2) (N := 3) hx hb hts iX2_keep_X2 tyX2 tyX2_ok nmX2 hown hK hP hD hS 0 rfl rfl 0 (by decide) (hts _ fX2_keep_1) (fun _ h9 => h9) rfl (by decide +kernel) rfl rfl (Nat.le_of_ble_eq_true rfl) dX2_keep_2 (fun H locs hP hD hS => ?_)
  have hPD : PD G A [(oX2 h v (nI q) k1), (cI G k1 200 kp)] H := ⟨hP, hD⟩
  have hP := hPD.1
  have hD := hPD.2
  clear hPD
  refine lv_aload_n hx hb dX2_keep_5 rfl (lv_at hl 0 rfl) ?_
  refine va_get (D := G.1) (ci := 4) (v := .int (nI q)) (C := RX2) (T := TX2) (N := 3) hx hb hts iX2_keep_X2 hown hK hP 0 rfl rfl 1 (by decide) (hts _ fX2_keep_2) (fun _ h9 => h9) rfl dX2_keep_6 ?_
  refine lv_sipush (v := 200) hx hb dX2_keep_9 (by decide) ?_
  refine lv_icmp_ge (tgt := 37) hx hb dX2_keep_12 (by decide) (fun c_12 => ?_) (fun c_12 => ?_)
  · skip
    have h20 : ¬ q < 200 := Nat.not_lt.mpr ((nI_leI (a := 200) (by decide) (by omega)).mp c_12)
    exact gretv hx hb hr hlocks hAe hS (()) (rfl) (trivial) (by simp only [if_neg h20]; exact hP) dX2_keep_37
  · skip
    have h20 : q < 200 := Nat.lt_of_not_le (fun z => c_12 ((nI_leI (a := 200) (by decide) (by omega)).mpr z))
    refine lv_aload_n hx hb dX2_keep_15 rfl (lv_at hl 0 rfl) ?_
    refine va_get (D := G.1) (ci := 4) (v := .ref k1) (C := RX2) (T := TX2) (N := 3) hx hb hts iX2_keep_X2 hown hK hP 0 rfl rfl 2 (by decide) (hts _ fX2_keep_3) (fun _ h9 => h9) rfl dX2_keep_16 ?_
    refine lv_aload_n hx hb dX2_keep_19 rfl (lv_at hl 0 rfl) ?_
    refine va_get (D := G.1) (ci := 4) (v := .int (nI q)) (C := RX2) (T := TX2) (N := 3) hx hb hts iX2_keep_X2 hown hK hP 0 rfl rfl 1 (by decide) (hts _ fX2_keep_2) (fun _ h9 => h9) rfl dX2_keep_20 ?_
    refine lv_iload_n hx hb dX2_keep_23 rfl (lv_at hl 1 rfl) ?_
    refine cnN (nw := 2) (As := [.ref k1, .int (nI q), .int v]) (rest := []) ⟨hx, hb, hml, hown, hts⟩ (c_X7_putk l G k1 200 kp (nI q) v q (rfl) (by omega) (by decide)) ⟨va_cnB (own := RX2) (host := RX7) (index := 22) (y := yX7_put) 3 hts gX2_keep_X7_put_n22 rfl rfl rfl (hKK.2.nth 23 (q := (RX2, 22, yX7_put)) rfl) (hts _ fX2_keep_4) hd_X7_put ⟨Nat.le_of_ble_eq_true rfl, Nat.le_of_ble_eq_true rfl⟩, (hts _ fX2_keep_5), trivial⟩ hKK hP hD hS [1] [0] (fun _ => [(oX2 h v (nI q) k1), (cI G k1 200 (upd kp q v))]) [some (oX2 h v (nI q) k1)] [h, k1] rfl (by decide) (by decide) rfl hl.1 rfl (Nat.le_of_ble_eq_true rfl) dX2_keep_24 ⟨Nat.zero_le _, Nat.zero_le _⟩ (fun _ => rfl) (fun _ => rfl) rfl (fun _ => rfl) rfl (fun _ => rfl) (fun _ H locs _ hP hD hS => ?_)
    refine lv_aload_n hx hb dX2_keep_27 rfl (lv_at hl 0 rfl) ?_
    refine lv_dup hx hb dX2_keep_28 rfl ?_
    refine va_get (D := G.1) (ci := 4) (v := .int (nI q)) (C := RX2) (T := TX2) (N := 3) hx hb hts iX2_keep_X2 hown hK hP 0 rfl rfl 1 (by decide) (hts _ fX2_keep_2) (fun _ h9 => h9) rfl dX2_keep_29 ?_
    refine lv_iconst (v := 1) hx hb dX2_keep_32 (by decide) ?_
    refine lv_iadd hx hb dX2_keep_33 ?_
    refine stI (y := nI (q + 1)) (nI_1 q) ?_
    refine va_put (D := G.1) (ci := 4) (v := .int (nI (q + 1))) (ty := .int) (C := RX2) (T := TX2) (N := 3) hx hb hts iX2_keep_X2 tyX2 tyX2_ok nmX2 hown hK hP hD hS 0 rfl rfl 1 (by decide) (hts _ fX2_keep_2) (fun _ h9 => h9) rfl (by decide +kernel) rfl rfl (Nat.le_of_ble_eq_true rfl) dX2_keep_34 (fun H locs hP hD hS => ?_)
    have hPD : PD G A [(oX2 h v (nI (q + 1)) k1), (cI G k1 200 (upd kp q v))] H := ⟨hP, hD⟩
    have hP := hPD.1
    have hD := hPD.2
    clear hPD
    exact gretv hx hb hr hlocks hAe hS (()) (rfl) (trivial) (by simp only [if_pos h20]; exact hP) dX2_keep_37

theorem iX2_keepNone_X2 : ∀ w ∈ u_ws RX2 TX2 3, w ∈ wsX2_keepNone := by decide +kernel
theorem fX2_keepNone_1 : Cond.fieldLink RX2 15 "FeatureSolve$Found" "last" "I" ∈ wsX2_keepNone := by decide +kernel
set_option maxHeartbeats 4000000 in
set_option maxRecDepth 100000 in
/-- Found.keepNone() -/
theorem c_X2_keepNone (l : Launch) (G : GG) (h : Nat) (la z : Int32) (k1 : Nat) : Met l yX2_keepNone wsX2_keepNone (rmK 0) (va_Pc [.ref h] (PM G [(oX2 h la z k1)])) (QG (S := Unit) G [(oX2 h la z k1)] (fun u => True) (fun u => none) (fun u => [(oX2 h 0 z k1)])) 0 0 (adr [(oX2 h la z k1)]) := by
  refine Met.ofW (cc := cX2_keepNone) (maxL := 1) (ret := none) (by decide) rfl ?_
  intro p e s m args below meth c s₁ B hml hv
  obtain ⟨rfl, hP, hD0, hKK⟩ := hv
  have hx := B.exec
  have hb := B.bytes
  have hr := B.returns
  have hts := atoms_spec (ws := wsX2_keepNone) B.pre
  have hown : s.vm.findClass RX2 = some m.cls := findClass_of_methodNamed B.named
  have hlocks := B.notSynchronized
  have hK := hKK.1
  generalize hAe : adr [(oX2 h la z k1)] = A
  have hD : va_D A [(oX2 h la z k1)] := by rw [← hAe]; exact hD0.own
  have hS : va_S A s.heap s.heap [] := va_S.rf
  have hP : va_P G.1 vwCl [(oX2 h la z k1)] s.heap := hP
  have hl := lv_entry ([.ref h]) (n := 1) (Nat.le_of_ble_eq_true rfl)
  rw [lg_entry_eq]
  generalize (lg_sl ([.ref h]) ++ List.replicate (1 - (lg_sl ([.ref h])).length) Slot.unset).toArray = ls at hl ⊢
  have hl : lv_has ls 1 [(0, .ref h)] := hl
  refine lv_aload_n hx hb dX2_keepNone_0 rfl (lv_at hl 0 rfl) ?_
  refine lv_iconst (v := 0) hx hb dX2_keepNone_1 (by decide) ?_
  refine va_put (D := G.1) (ci := 4) (v := .int 0) (ty := .int) (C := RX2) (T := TX2) (N := 3) hx hb hts iX2_keepNone_X2 tyX2 tyX2_ok nmX2 hown hK hP hD hS 0 rfl rfl 0 (by decide) (hts _ fX2_keepNone_1) (fun _ h9 => h9) rfl (by decide +kernel) rfl rfl (Nat.le_of_ble_eq_true rfl) dX2_keepNone_2 (fun H locs hP hD hS => ?_)
  have hPD : PD G A [(oX2 h 0 z k1)] H := ⟨hP, hD⟩
  have hP := hPD.1
  have hD := hPD.2
  clear hPD
  exact gretv hx hb hr hlocks hAe hS (()) (rfl) (trivial) (hP) dX2_keepNone_5

theorem iX3_clear_X3 : ∀ w ∈ u_ws RX3 TX3 2, w ∈ wsX3_clear := by decide +kernel
theorem fX3_clear_1 : Cond.fieldLink RX3 15 "FeatureSolve$Reason" "size" "I" ∈ wsX3_clear := by decide +kernel
set_option maxHeartbeats 4000000 in
set_option maxRecDepth 100000 in
/-- Reason.clear() -/
theorem c_X3_clear (l : Launch) (G : GG) (h : Nat) (z : Int32) (k1 : Nat) : Met l yX3_clear wsX3_clear (rmK 0) (va_Pc [.ref h] (PM G [(oX3 h z k1)])) (QG (S := Unit) G [(oX3 h z k1)] (fun u => True) (fun u => none) (fun u => [(oX3 h 0 k1)])) 0 0 (adr [(oX3 h z k1)]) := by
  refine Met.ofW (cc := cX3_clear) (maxL := 1) (ret := none) (by decide) rfl ?_
  intro p e s m args below meth c s₁ B hml hv
  obtain ⟨rfl, hP, hD0, hKK⟩ := hv
  have hx := B.exec
  have hb := B.bytes
  have hr := B.returns
  have hts := atoms_spec (ws := wsX3_clear) B.pre
  have hown : s.vm.findClass RX3 = some m.cls := findClass_of_methodNamed B.named
  have hlocks := B.notSynchronized
  have hK := hKK.1
  generalize hAe : adr [(oX3 h z k1)] = A
  have hD : va_D A [(oX3 h z k1)] := by rw [← hAe]; exact hD0.own
  have hS : va_S A s.heap s.heap [] := va_S.rf
  have hP : va_P G.1 vwCl [(oX3 h z k1)] s.heap := hP
  have hl := lv_entry ([.ref h]) (n := 1) (Nat.le_of_ble_eq_true rfl)
  rw [lg_entry_eq]
  generalize (lg_sl ([.ref h]) ++ List.replicate (1 - (lg_sl ([.ref h])).length) Slot.unset).toArray = ls at hl ⊢
  have hl : lv_has ls 1 [(0, .ref h)] := hl
  refine lv_aload_n hx hb dX3_clear_0 rfl (lv_at hl 0 rfl) ?_
  refine lv_iconst (v := 0) hx hb dX3_clear_1 (by decide) ?_
  refine va_put (D := G.1) (ci := 5) (v := .int 0) (ty := .int) (C := RX3) (T := TX3) (N := 2) hx hb hts iX3_clear_X3 tyX3 tyX3_ok nmX3 hown hK hP hD hS 0 rfl rfl 0 (by decide) (hts _ fX3_clear_1) (fun _ h9 => h9) rfl (by decide +kernel) rfl rfl (Nat.le_of_ble_eq_true rfl) dX3_clear_2 (fun H locs hP hD hS => ?_)
  have hPD : PD G A [(oX3 h 0 k1)] H := ⟨hP, hD⟩
  have hP := hPD.1
  have hD := hPD.2
  clear hPD
  exact gretv hx hb hr hlocks hAe hS (()) (rfl) (trivial) (hP) dX3_clear_5

theorem iX3_add_X3 : ∀ w ∈ u_ws RX3 TX3 2, w ∈ wsX3_add := by decide +kernel
theorem fX3_add_1 : Cond.fieldLink RX3 9 "FeatureSolve$Reason" "left" "[I" ∈ wsX3_add := by decide +kernel
theorem fX3_add_2 : Cond.fieldLink RX3 15 "FeatureSolve$Reason" "size" "I" ∈ wsX3_add := by decide +kernel
theorem fX3_add_3 : Cond.initialized RX7 ∈ wsX3_add := by decide +kernel
theorem fX3_add_4 : Cond.static yX7_put ∈ wsX3_add := by decide +kernel
set_option maxHeartbeats 4000000 in
set_option maxRecDepth 100000 in
/-- Reason.add(v) -/
theorem c_X3_add (l : Launch) (G : GG) (h q k1 : Nat) (lf : Nat → Int32) (v : Int32) (hq : q < 14) : Met l yX3_add wsX3_add (rmK 1) (va_Pc [.ref h, .int v] (PM G [(oX3 h (nI q) k1), (cI G k1 14 lf)])) (QG (S := Unit) G [(oX3 h (nI q) k1), (cI G k1 14 lf)] (fun u => True) (fun u => none) (fun u => [(oX3 h (nI (q + 1)) k1), (cI G k1 14 (upd lf q v))])) 0 0 (adr [(oX3 h (nI q) k1), (cI G k1 14 lf)]) := by
  refine Met.ofW (cc := cX3_add) (maxL := 2) (ret := none) (by decide) rfl ?_
  intro p e s m args below meth c s₁ B hml hv
  obtain ⟨rfl, hP, hD0, hKK⟩ := hv
  have hx := B.exec
  have hb := B.bytes
  have hr := B.returns
  have hts := atoms_spec (ws := wsX3_add) B.pre
  have hown : s.vm.findClass RX3 = some m.cls := findClass_of_methodNamed B.named
  have hlocks := B.notSynchronized
  have hK := hKK.1
  generalize hAe : adr [(oX3 h (nI q) k1), (cI G k1 14 lf)] = A
  have hD : va_D A [(oX3 h (nI q) k1), (cI G k1 14 lf)] := by rw [← hAe]; exact hD0.own
  have hS : va_S A s.heap s.heap [] := va_S.rf
  have hP : va_P G.1 vwCl [(oX3 h (nI q) k1), (cI G k1 14 lf)] s.heap := hP
  have hl := lv_entry ([.ref h, .int v]) (n := 2) (Nat.le_of_ble_eq_true rfl)
  rw [lg_entry_eq]
  generalize (lg_sl ([.ref h, .int v]) ++ List.replicate (2 - (lg_sl ([.ref h, .int v])).length) Slot.unset).toArray = ls at hl ⊢
  have hl : lv_has ls 2 [(0, .ref h), (1, .int v)] := hl
  refine lv_aload_n hx hb dX3_add_0 rfl (lv_at hl 0 rfl) ?_
  refine va_get (D := G.1) (ci := 5) (v := .ref k1) (C := RX3) (T := TX3) (N := 2) hx hb hts iX3_add_X3 hown hK hP 0 rfl rfl 1 (by decide) (hts _ fX3_add_1) (fun _ h9 => h9) rfl dX3_add_1 ?_
  refine lv_aload_n hx hb dX3_add_4 rfl (lv_at hl 0 rfl) ?_
  refine va_get (D := G.1) (ci := 5) (v := .int (nI q)) (C := RX3) (T := TX3) (N := 2) hx hb hts iX3_add_X3 hown hK hP 0 rfl rfl 0 (by decide) (hts _ fX3_add_2) (fun _ h9 => h9) rfl dX3_add_5 ?_
  refine lv_iload_n hx hb dX3_add_8 rfl (lv_at hl 1 rfl) ?_
  refine cnN (nw := 2) (As := [.ref k1, .int (nI q), .int v]) (rest := []) ⟨hx, hb, hml, hown, hts⟩ (c_X7_putk l G k1 14 lf (nI q) v q (rfl) (by omega) (by decide)) ⟨va_cnB (own := RX3) (host := RX7) (index := 19) (y := yX7_put) 3 hts gX3_add_X7_put_n19 rfl rfl rfl (hKK.2.nth 22 (q := (RX3, 19, yX7_put)) rfl) (hts _ fX3_add_3) hd_X7_put ⟨Nat.le_of_ble_eq_true rfl, Nat.le_of_ble_eq_true rfl⟩, (hts _ fX3_add_4), trivial⟩ hKK hP hD hS [1] [0] (fun _ => [(oX3 h (nI q) k1), (cI G k1 14 (upd lf q v))]) [some (oX3 h (nI q) k1)] [h, k1] rfl (by decide) (by decide) rfl hl.1 rfl (Nat.le_of_ble_eq_true rfl) dX3_add_9 ⟨Nat.zero_le _, Nat.zero_le _⟩ (fun _ => rfl) (fun _ => rfl) rfl (fun _ => rfl) rfl (fun _ => rfl) (fun _ H locs _ hP hD hS => ?_)
  refine lv_aload_n hx hb dX3_add_12 rfl (lv_at hl 0 rfl) ?_
  refine lv_dup hx hb dX3_add_13 rfl ?_
  refine va_get (D := G.1) (ci := 5) (v := .int (nI q)) (C := RX3) (T := TX3) (N := 2) hx hb hts iX3_add_X3 hown hK hP 0 rfl rfl 0 (by decide) (hts _ fX3_add_2) (fun _ h9 => h9) rfl dX3_add_14 ?_
  refine lv_iconst (v := 1) hx hb dX3_add_17 (by decide) ?_
  refine lv_iadd hx hb dX3_add_18 ?_
  refine stI (y := nI (q + 1)) (nI_1 q) ?_
  refine va_put (D := G.1) (ci := 5) (v := .int (nI (q + 1))) (ty := .int) (C := RX3) (T := TX3) (N := 2) hx hb hts iX3_add_X3 tyX3 tyX3_ok nmX3 hown hK hP hD hS 0 rfl rfl 0 (by decide) (hts _ fX3_add_2) (fun _ h9 => h9) rfl (by decide +kernel) rfl rfl (Nat.le_of_ble_eq_true rfl) dX3_add_19 (fun H locs hP hD hS => ?_)
  have hPD : PD G A [(oX3 h (nI (q + 1)) k1), (cI G k1 14 (upd lf q v))] H := ⟨hP, hD⟩
  have hP := hPD.1
  have hD := hPD.2
  clear hPD
  exact gretv hx hb hr hlocks hAe hS (()) (rfl) (trivial) (hP) dX3_add_22

theorem iX4_set_X4 : ∀ w ∈ u_ws RX4 TX4 2, w ∈ wsX4_set := by decide +kernel
theorem fX4_set_1 : Cond.fieldLink RX4 11 "FeatureSolve$Sums" "values" "[I" ∈ wsX4_set := by decide +kernel
theorem fX4_set_2 : Cond.initialized RX7 ∈ wsX4_set := by decide +kernel
theorem fX4_set_3 : Cond.static yX7_put ∈ wsX4_set := by decide +kernel
set_option maxHeartbeats 4000000 in
set_option maxRecDepth 100000 in
/-- Sums.set(f, what, v) -/
theorem c_X4_set (l : Launch) (G : GG) (h k1 k2 : Nat) (vl : Nat → Int32) (f wh : Nat) (v : Int32) (hf : f < 15) (hw : wh < 4) : Met l yX4_set wsX4_set (rmK 1) (va_Pc [.ref h, .int (nI f), .int (nI wh), .int v] (PM G [(oX4 h k1 k2), (cI G k1 60 vl)])) (QG (S := Unit) G [(oX4 h k1 k2), (cI G k1 60 vl)] (fun u => True) (fun u => none) (fun u => [(oX4 h k1 k2), (cI G k1 60 (upd vl (wh * 15 + f) v))])) 0 0 (adr [(oX4 h k1 k2), (cI G k1 60 vl)]) := by
  refine Met.ofW (cc := cX4_set) (maxL := 4) (ret := none) (by decide) rfl ?_
  intro p e s m args below meth c s₁ B hml hv
  obtain ⟨rfl, hP, hD0, hKK⟩ := hv
  have hx := B.exec
  have hb := B.bytes
  have hr := B.returns
  have hts := atoms_spec (ws := wsX4_set) B.pre
  have hown : s.vm.findClass RX4 = some m.cls := findClass_of_methodNamed B.named
  have hlocks := B.notSynchronized
  have hK := hKK.1
  generalize hAe : adr [(oX4 h k1 k2), (cI G k1 60 vl)] = A
  have hD : va_D A [(oX4 h k1 k2), (cI G k1 60 vl)] := by rw [← hAe]; exact hD0.own
  have hS : va_S A s.heap s.heap [] := va_S.rf
  have hP : va_P G.1 vwCl [(oX4 h k1 k2), (cI G k1 60 vl)] s.heap := hP
  have hl := lv_entry ([.ref h, .int (nI f), .int (nI wh), .int v]) (n := 4) (Nat.le_of_ble_eq_true rfl)
  rw [lg_entry_eq]
  generalize (lg_sl ([.ref h, .int (nI f), .int (nI wh), .int v]) ++ List.replicate (4 - (lg_sl ([.ref h, .int (nI f), .int (nI wh), .int v])).length) Slot.unset).toArray = ls at hl ⊢
  have hl : lv_has ls 4 [(0, .ref h), (1, .int (nI f)), (2, .int (nI wh)), (3, .int v)] := hl
  refine lv_aload_n hx hb dX4_set_0 rfl (lv_at hl 0 rfl) ?_
  refine va_get (D := G.1) (ci := 6) (v := .ref k1) (C := RX4) (T := TX4) (N := 2) hx hb hts iX4_set_X4 hown hK hP 0 rfl rfl 0 (by decide) (hts _ fX4_set_1) (fun _ h9 => h9) rfl dX4_set_1 ?_
  refine lv_iload_n hx hb dX4_set_4 rfl (lv_at hl 2 rfl) ?_
  refine lv_bipush (v := 15) hx hb dX4_set_5 (by decide) ?_
  refine lv_imul hx hb dX4_set_7 ?_
  refine lv_iload_n hx hb dX4_set_8 rfl (lv_at hl 1 rfl) ?_
  refine lv_iadd hx hb dX4_set_9 ?_
  refine lv_iload_n hx hb dX4_set_10 rfl (lv_at hl 3 rfl) ?_
  refine cnN (nw := 2) (As := [.ref k1, .int (((nI wh) * 15) + (nI f)), .int v]) (rest := []) ⟨hx, hb, hml, hown, hts⟩ (c_X7_putk l G k1 60 vl (((nI wh) * 15) + (nI f)) v (wh * 15 + f) (by rw [show (15 : Int32) = nI 15 from rfl, pk_mul, nI_add]) (by omega) (by decide)) ⟨va_cnB (own := RX4) (host := RX7) (index := 18) (y := yX7_put) 3 hts gX4_set_X7_put_n18 rfl rfl rfl (hKK.2.nth 12 (q := (RX4, 18, yX7_put)) rfl) (hts _ fX4_set_2) hd_X7_put ⟨Nat.le_of_ble_eq_true rfl, Nat.le_of_ble_eq_true rfl⟩, (hts _ fX4_set_3), trivial⟩ hKK hP hD hS [1] [0] (fun _ => [(oX4 h k1 k2), (cI G k1 60 (upd vl (wh * 15 + f) v))]) [some (oX4 h k1 k2)] [h, k1] rfl (by decide) (by decide) rfl hl.1 rfl (Nat.le_of_ble_eq_true rfl) dX4_set_11 ⟨Nat.zero_le _, Nat.zero_le _⟩ (fun _ => rfl) (fun _ => rfl) rfl (fun _ => rfl) rfl (fun _ => rfl) (fun _ H locs _ hP hD hS => ?_)
  exact gretv hx hb hr hlocks hAe hS (()) (rfl) (trivial) (hP) dX4_set_14

theorem iX4_limit_X4 : ∀ w ∈ u_ws RX4 TX4 2, w ∈ wsX4_limit := by decide +kernel
theorem fX4_limit_1 : Cond.fieldLink RX4 15 "FeatureSolve$Sums" "limits" "[I" ∈ wsX4_limit := by decide +kernel
theorem fX4_limit_2 : Cond.initialized RX7 ∈ wsX4_limit := by decide +kernel
theorem fX4_limit_3 : Cond.static yX7_put ∈ wsX4_limit := by decide +kernel
set_option maxHeartbeats 4000000 in
set_option maxRecDepth 100000 in
/-- Sums.limit(what, v) -/
theorem c_X4_limit (l : Launch) (G : GG) (h k1 k2 : Nat) (lm : Nat → Int32) (wh : Nat) (v : Int32) (hw : wh < 4) : Met l yX4_limit wsX4_limit (rmK 1) (va_Pc [.ref h, .int (nI wh), .int v] (PM G [(oX4 h k1 k2), (cI G k2 4 lm)])) (QG (S := Unit) G [(oX4 h k1 k2), (cI G k2 4 lm)] (fun u => True) (fun u => none) (fun u => [(oX4 h k1 k2), (cI G k2 4 (upd lm wh v))])) 0 0 (adr [(oX4 h k1 k2), (cI G k2 4 lm)]) := by
  refine Met.ofW (cc := cX4_limit) (maxL := 3) (ret := none) (by decide) rfl ?_
  intro p e s m args below meth c s₁ B hml hv
  obtain ⟨rfl, hP, hD0, hKK⟩ := hv
  have hx := B.exec
  have hb := B.bytes
  have hr := B.returns
  have hts := atoms_spec (ws := wsX4_limit) B.pre
  have hown : s.vm.findClass RX4 = some m.cls := findClass_of_methodNamed B.named
  have hlocks := B.notSynchronized
  have hK := hKK.1
  generalize hAe : adr [(oX4 h k1 k2), (cI G k2 4 lm)] = A
  have hD : va_D A [(oX4 h k1 k2), (cI G k2 4 lm)] := by rw [← hAe]; exact hD0.own
  have hS : va_S A s.heap s.heap [] := va_S.rf
  have hP : va_P G.1 vwCl [(oX4 h k1 k2), (cI G k2 4 lm)] s.heap := hP
  have hl := lv_entry ([.ref h, .int (nI wh), .int v]) (n := 3) (Nat.le_of_ble_eq_true rfl)
  rw [lg_entry_eq]
  generalize (lg_sl ([.ref h, .int (nI wh), .int v]) ++ List.replicate (3 - (lg_sl ([.ref h, .int (nI wh), .int v])).length) Slot.unset).toArray = ls at hl ⊢
  have hl : lv_has ls 3 [(0, .ref h), (1, .int (nI wh)), (2, .int v)] := hl
  refine lv_aload_n hx hb dX4_limit_0 rfl (lv_at hl 0 rfl) ?_
  refine va_get (D := G.1) (ci := 6) (v := .ref k2) (C := RX4) (T := TX4) (N := 2) hx hb hts iX4_limit_X4 hown hK hP 0 rfl rfl 1 (by decide) (hts _ fX4_limit_1) (fun _ h9 => h9) rfl dX4_limit_1 ?_
  refine lv_iload_n hx hb dX4_limit_4 rfl (lv_at hl 1 rfl) ?_
  refine lv_iload_n hx hb dX4_limit_5 rfl (lv_at hl 2 rfl) ?_
  refine cnN (nw := 2) (As := [.ref k2, .int (nI wh), .int v]) (rest := []) ⟨hx, hb, hml, hown, hts⟩ (c_X7_putk l G k2 4 lm (nI wh) v wh (rfl) (by omega) (by decide)) ⟨va_cnB (own := RX4) (host := RX7) (index := 18) (y := yX7_put) 3 hts gX4_limit_X7_put_n18 rfl rfl rfl (hKK.2.nth 12 (q := (RX4, 18, yX7_put)) rfl) (hts _ fX4_limit_2) hd_X7_put ⟨Nat.le_of_ble_eq_true rfl, Nat.le_of_ble_eq_true rfl⟩, (hts _ fX4_limit_3), trivial⟩ hKK hP hD hS [1] [0] (fun _ => [(oX4 h k1 k2), (cI G k2 4 (upd lm wh v))]) [some (oX4 h k1 k2)] [h, k2] rfl (by decide) (by decide) rfl hl.1 rfl (Nat.le_of_ble_eq_true rfl) dX4_limit_6 ⟨Nat.zero_le _, Nat.zero_le _⟩ (fun _ => rfl) (fun _ => rfl) rfl (fun _ => rfl) rfl (fun _ => rfl) (fun _ H locs _ hP hD hS => ?_)
  exact gretv hx hb hr hlocks hAe hS (()) (rfl) (trivial) (hP) dX4_limit_9

theorem iX4_keeps_X4 : ∀ w ∈ u_ws RX4 TX4 2, w ∈ wsX4_keeps := by decide +kernel
theorem fX4_keeps_1 : Cond.fieldLink RX4 15 "FeatureSolve$Sums" "limits" "[I" ∈ wsX4_keeps := by decide +kernel
theorem fX4_keeps_2 : Cond.initialized RX7 ∈ wsX4_keeps := by decide +kernel
theorem fX4_keeps_3 : Cond.static yX7_at ∈ wsX4_keeps := by decide +kernel
theorem fX4_keeps_4 : Cond.static yX7_bit ∈ wsX4_keeps := by decide +kernel
theorem fX4_keeps_5 : Cond.fieldLink RX4 11 "FeatureSolve$Sums" "values" "[I" ∈ wsX4_keeps := by decide +kernel
set_option maxHeartbeats 4000000 in
set_option maxRecDepth 100000 in
/-- Sums.keeps(v) -/
theorem c_X4_keeps (l : Launch) (G : GG) (h k1 k2 : Nat) (vl lm : Nat → Int32) (v : Int32) : Met l yX4_keeps wsX4_keeps (rmK 1) (va_Pc [.ref h, .int v] (PS G [(oX4 h k1 k2), (cI G k1 60 vl), (cI G k2 4 lm)])) (QcRead (bI (sumsB lm vl v))) 0 0 (fun _ => False) := by
  refine Met.ofW (cc := cX4_keeps) (maxL := 6) (ret := (some .boolean)) (by decide) rfl ?_
  intro p e s m args below meth c s₁ B hml hv
  obtain ⟨rfl, hP, hKK⟩ := hv
  have hx := B.exec
  have hb := B.bytes
  have hr := B.returns
  have hts := atoms_spec (ws := wsX4_keeps) B.pre
  have hown : s.vm.findClass RX4 = some m.cls := findClass_of_methodNamed B.named
  have hlocks := B.notSynchronized
  have hK := hKK.1
  have hl := lv_entry ([.ref h, .int v]) (n := 6) (Nat.le_of_ble_eq_true rfl)
  rw [lg_entry_eq]
  generalize (lg_sl ([.ref h, .int v]) ++ List.replicate (6 - (lg_sl ([.ref h, .int v])).length) Slot.unset).toArray = ls at hl ⊢
  have hl : lv_has ls 6 [(0, .ref h), (1, .int v)] := hl
  refine lv_iconst (v := 0) hx hb dX4_keeps_0 (by decide) ?_
  refine lv_istore_n (lv' := [(2, .int 0), (0, .ref h), (1, .int v)]) hx hb dX4_keeps_1 rfl hl (by decide) rfl (fun ls hl => ?_)
  refine loopJ (nL := 6) (I := fun (kx : Nat) => kx ≤ 4 ∧ allZ (capB lm vl v) kx = true) (μ := fun (kx : Nat) => 4 - kx) (lv := fun (kx : Nat) => [(0, .ref h), (1, .int v), (2, .int (nI kx))]) (pc' := 2) (fun xv9 hI ih_2 ls hl => ?_) 0 (⟨by decide, rfl⟩) ls (lv_sub hl [1, 2, 0] rfl)
  obtain ⟨kx, rfl⟩ : ∃ y, y = xv9 := ⟨_, rfl⟩
  have hI : kx ≤ 4 ∧ allZ (capB lm vl v) kx = true := hI
  have hl : lv_has ls 6 [(0, .ref h), (1, .int v), (2, .int (nI kx))] := hl
  refine lv_iload_n hx hb dX4_keeps_2 rfl (lv_at hl 2 rfl) ?_
  refine lv_iconst (v := 4) hx hb dX4_keeps_3 (by decide) ?_
  refine lv_icmp_ge (tgt := 89) hx hb dX4_keeps_4 (by decide) (fun c_4 => ?_) (fun c_4 => ?_)
  · skip
    have hk4 : kx = 4 := Nat.le_antisymm hI.1 ((nI_leI (a := 4) (by decide) (by omega)).mp c_4)
    refine lv_iconst (v := 1) hx hb dX4_keeps_89 (by decide) ?_
    exact pret hx hb hr hlocks rfl (by rw [show sumsB lm vl v = allZ (capB lm vl v) 4 from rfl, ← hk4, hI.2]; rfl) dX4_keeps_90
  · skip
    have hk4 : kx < 4 := Nat.lt_of_not_le (fun z => c_4 ((nI_leI (a := 4) (by decide) (by omega)).mpr z))
    refine lv_aload_n hx hb dX4_keeps_7 rfl (lv_at hl 0 rfl) ?_
    refine va_get (D := G.1) (ci := 6) (v := .ref k2) (C := RX4) (T := TX4) (N := 2) hx hb hts iX4_keeps_X4 hown hK hP 0 rfl rfl 1 (by decide) (hts _ fX4_keeps_1) (fun _ h9 => h9) rfl dX4_keeps_8 ?_
    refine lv_iload_n hx hb dX4_keeps_11 rfl (lv_at hl 2 rfl) ?_
    refine cpN (As := [.ref k2, .int (nI kx)]) (rest := []) ⟨hx, hb, hml, hown, hts⟩ (c_X7_atk l G k2 4 lm (nI kx) kx (rfl) (by omega) (by decide)) ⟨va_cnB (own := RX4) (host := RX7) (index := 22) (y := yX7_at) 2 hts gX4_keeps_X7_at_n22 rfl rfl rfl (hKK.2.nth 20 (q := (RX4, 22, yX7_at)) rfl) (hts _ fX4_keeps_2) hd_X7_at ⟨Nat.le_of_ble_eq_true rfl, Nat.le_of_ble_eq_true rfl⟩, (hts _ fX4_keeps_3), trivial⟩ hKK hP [2] rfl rfl hl.1 rfl (Nat.le_of_ble_eq_true rfl) dX4_keeps_12 ⟨Nat.zero_le _, Nat.zero_le _⟩ ?_
    refine lv_istore_n (lv' := [(3, .int (lm kx)), (0, .ref h), (1, .int v), (2, .int (nI kx))]) hx hb dX4_keeps_15 rfl hl (by decide) rfl (fun ls hl => ?_)
    refine lv_iconst (v := 0) hx hb dX4_keeps_16 (by decide) ?_
    refine lv_istore (lv' := [(4, .int 0), (3, .int (lm kx)), (0, .ref h), (1, .int v), (2, .int (nI kx))]) hx hb dX4_keeps_17 hl (by decide) rfl (fun ls hl => ?_)
    refine lv_iconst (v := 1) hx hb dX4_keeps_19 (by decide) ?_
    refine lv_istore (lv' := [(5, .int 1), (4, .int 0), (3, .int (lm kx)), (0, .ref h), (1, .int v), (2, .int (nI kx))]) hx hb dX4_keeps_20 hl (by decide) rfl (fun ls hl => ?_)
    have hI0 := hI
    refine loopJ (nL := 6) (I := fun (jx : Nat) => jx ≤ 14 ∧ (lm kx = 14000 → jx = 0)) (μ := fun (jx : Nat) => 14 - jx) (lv := fun (jx : Nat) => [(0, .ref h), (1, .int v), (2, .int (nI kx)), (3, .int (lm kx)), (4, .int (sumT (gtm vl v kx) jx)), (5, .int (nI (jx + 1)))]) (pc' := 22) (fun xv9 hI ih_22 ls hl => ?_) 0 (⟨by decide, fun _ => rfl⟩) ls (lv_sub hl [3, 4, 5, 2, 1, 0] rfl)
    obtain ⟨jx, rfl⟩ : ∃ y, y = xv9 := ⟨_, rfl⟩
    have hI : jx ≤ 14 ∧ (lm kx = 14000 → jx = 0) := hI
    have hl : lv_has ls 6 [(0, .ref h), (1, .int v), (2, .int (nI kx)), (3, .int (lm kx)), (4, .int (sumT (gtm vl v kx) jx)), (5, .int (nI (jx + 1)))] := hl
    refine lv_iload hx hb dX4_keeps_22 (lv_at hl 5 rfl) ?_
    refine lv_bipush (v := 14) hx hb dX4_keeps_24 (by decide) ?_
    refine lv_icmp_gt (tgt := 75) hx hb dX4_keeps_26 (by decide) (fun c_26 => ?_) (fun c_26 => ?_)
    · skip
      have hj : jx = 14 := by have := (nI_ltI (a := 14) (by decide) (by omega)).mp c_26; omega
      have hlm : ¬ lm kx = 14000 := fun z => by have := hI.2 z; omega
      have hI := hI0
      refine lv_iload hx hb dX4_keeps_75 (lv_at hl 4 rfl) ?_
      refine lv_iload_n hx hb dX4_keeps_77 rfl (lv_at hl 3 rfl) ?_
      refine lv_icmp_le (tgt := 83) hx hb dX4_keeps_78 (by decide) (fun c_78 => ?_) (fun c_78 => ?_)
      · skip
        refine lv_iinc (v := nI (kx + 1)) (lv' := [(2, .int (nI (kx + 1))), (0, .ref h), (1, .int v), (3, .int (lm kx)), (4, .int (sumT (gtm vl v kx) jx)), (5, .int (nI (jx + 1)))]) hx hb dX4_keeps_83 hl (k := 2) rfl (nI_1 kx) (by decide) rfl (fun ls hl => ?_)
        refine lv_goto (tgt := 2) hx hb dX4_keeps_86 (by decide) ?_
        exact ih_2 (kx + 1) (⟨hk4, allZ_s hI.2 (by unfold capB; rw [if_neg hlm, ← hj]; exact decide_eq_true c_78)⟩) (by show 4 - (kx + 1) < 4 - kx; omega) ls (lv_sub hl [1, 2, 0] rfl)
      · skip
        refine lv_iconst (v := 0) hx hb dX4_keeps_81 (by decide) ?_
        exact pret hx hb hr hlocks rfl (by rw [show sumsB lm vl v = allZ (capB lm vl v) 4 from rfl, allZ_no (k := kx) (by unfold capB; rw [if_neg hlm, ← hj]; exact decide_eq_false c_78) 4 hk4]; rfl) dX4_keeps_82
    · skip
      have hj : jx < 14 := by have := mt (nI_ltI (a := 14) (b := jx + 1) (by decide) (by omega)).mpr c_26; omega
      refine lv_iload_n hx hb dX4_keeps_29 rfl (lv_at hl 3 rfl) ?_
      refine lv_sipush (v := 14000) hx hb dX4_keeps_30 (by decide) ?_
      refine lv_icmp_eq (tgt := 75) hx hb dX4_keeps_33 (by decide) (fun c_33 => ?_) (fun c_33 => ?_)
      · skip
        have hj0 := hI.2 c_33
        have hI := hI0
        refine lv_iload hx hb dX4_keeps_75 (lv_at hl 4 rfl) ?_
        refine lv_iload_n hx hb dX4_keeps_77 rfl (lv_at hl 3 rfl) ?_
        refine lv_icmp_le (tgt := 83) hx hb dX4_keeps_78 (by decide) (fun c_78 => ?_) (fun c_78 => ?_)
        · skip
          refine lv_iinc (v := nI (kx + 1)) (lv' := [(2, .int (nI (kx + 1))), (0, .ref h), (1, .int v), (3, .int (lm kx)), (4, .int (sumT (gtm vl v kx) jx)), (5, .int (nI (jx + 1)))]) hx hb dX4_keeps_83 hl (k := 2) rfl (nI_1 kx) (by decide) rfl (fun ls hl => ?_)
          refine lv_goto (tgt := 2) hx hb dX4_keeps_86 (by decide) ?_
          exact ih_2 (kx + 1) (⟨hk4, allZ_s hI.2 (by unfold capB; rw [if_pos c_33])⟩) (by show 4 - (kx + 1) < 4 - kx; omega) ls (lv_sub hl [1, 2, 0] rfl)
        · exact absurd (show sumT (gtm vl v kx) jx ≤ lm kx by rw [hj0, c_33]; exact (by decide : (0 : Int32) ≤ 14000)) c_78
      · skip
        refine cutJ (nL := 6) (lv := [(0, .ref h), (1, .int v), (2, .int (nI kx)), (3, .int (lm kx)), (4, .int (sumT (gtm vl v kx) jx)), (5, .int (nI (jx + 1)))]) (pc' := 66) (st' := [.int (gtm vl v kx (jx + 1)), .int (sumT (gtm vl v kx) jx)]) (fun ls hl => ?_) (fun hJ_66 => ?_)
        · skip
          refine lv_iadd hx hb dX4_keeps_66 ?_
          refine stI (y := sumT (gtm vl v kx) (jx + 1)) (rfl) ?_
          refine lv_istore (lv' := [(4, .int (sumT (gtm vl v kx) (jx + 1))), (0, .ref h), (1, .int v), (2, .int (nI kx)), (3, .int (lm kx)), (5, .int (nI (jx + 1)))]) hx hb dX4_keeps_67 hl (by decide) rfl (fun ls hl => ?_)
          refine lv_iinc (v := nI (jx + 1 + 1)) (lv' := [(5, .int (nI (jx + 1 + 1))), (4, .int (sumT (gtm vl v kx) (jx + 1))), (0, .ref h), (1, .int v), (2, .int (nI kx)), (3, .int (lm kx))]) hx hb dX4_keeps_69 hl (k := 5) rfl (nI_1 (jx + 1)) (by decide) rfl (fun ls hl => ?_)
          refine lv_goto (tgt := 22) hx hb dX4_keeps_72 (by decide) ?_
          exact ih_22 (jx + 1) (⟨by omega, fun z => absurd z c_33⟩) (by show 14 - (jx + 1) < 14 - jx; omega) ls (lv_sub hl [2, 3, 4, 5, 1, 0] rfl)
        · skip
          refine lv_iload hx hb dX4_keeps_36 (lv_at hl 4 rfl) ?_
          refine lv_iload_n hx hb dX4_keeps_38 rfl (lv_at hl 1 rfl) ?_
          refine lv_iload hx hb dX4_keeps_39 (lv_at hl 5 rfl) ?_
          refine cpN (As := [.int (nI (jx + 1))]) (rest := [.int v, .int (sumT (gtm vl v kx) jx)]) ⟨hx, hb, hml, hown, hts⟩ (c_X7_bit l G (nI (jx + 1))) ⟨va_cnB (own := RX4) (host := RX7) (index := 26) (y := yX7_bit) 1 hts gX4_keeps_X7_bit_n26 rfl rfl rfl (hKK.2.nth 21 (q := (RX4, 26, yX7_bit)) rfl) (hts _ fX4_keeps_2) hd_X7_bit ⟨Nat.le_of_ble_eq_true rfl, Nat.le_of_ble_eq_true rfl⟩, (hts _ fX4_keeps_4), trivial⟩ hKK hP [] rfl rfl hl.1 rfl (Nat.le_of_ble_eq_true rfl) dX4_keeps_41 ⟨Nat.zero_le _, Nat.zero_le _⟩ ?_
          refine lv_iand hx hb dX4_keeps_44 ?_
          refine lv_if_eq (tgt := 65) hx hb dX4_keeps_45 (by decide) (fun c_45 => ?_) (fun c_45 => ?_)
          · skip
            refine lv_iconst (v := 0) hx hb dX4_keeps_65 (by decide) ?_
            refine stI (y := (gtm vl v kx (jx + 1))) (by unfold gtm; rw [if_pos c_45]) ?_
            exact hJ_66 ls (lv_sub hl [0, 1, 2, 3, 4, 5] rfl)
          · skip
            refine lv_aload_n hx hb dX4_keeps_48 rfl (lv_at hl 0 rfl) ?_
            refine va_get (D := G.1) (ci := 6) (v := .ref k1) (C := RX4) (T := TX4) (N := 2) hx hb hts iX4_keeps_X4 hown hK hP 0 rfl rfl 0 (by decide) (hts _ fX4_keeps_5) (fun _ h9 => h9) rfl dX4_keeps_49 ?_
            refine lv_iload_n hx hb dX4_keeps_52 rfl (lv_at hl 2 rfl) ?_
            refine lv_bipush (v := 15) hx hb dX4_keeps_53 (by decide) ?_
            refine lv_imul hx hb dX4_keeps_55 ?_
            refine lv_iload hx hb dX4_keeps_56 (lv_at hl 5 rfl) ?_
            refine lv_iadd hx hb dX4_keeps_58 ?_
            refine cpN (As := [.ref k1, .int (((nI kx) * 15) + (nI (jx + 1)))]) (rest := [.int (sumT (gtm vl v kx) jx)]) ⟨hx, hb, hml, hown, hts⟩ (c_X7_atk l G k1 60 vl (((nI kx) * 15) + (nI (jx + 1))) (kx * 15 + (jx + 1)) (by rw [show (15 : Int32) = nI 15 from rfl, pk_mul, nI_add]) (by omega) (by decide)) ⟨va_cnB (own := RX4) (host := RX7) (index := 22) (y := yX7_at) 2 hts gX4_keeps_X7_at_n22 rfl rfl rfl (hKK.2.nth 20 (q := (RX4, 22, yX7_at)) rfl) (hts _ fX4_keeps_2) hd_X7_at ⟨Nat.le_of_ble_eq_true rfl, Nat.le_of_ble_eq_true rfl⟩, (hts _ fX4_keeps_3), trivial⟩ hKK hP [1] rfl rfl hl.1 rfl (Nat.le_of_ble_eq_true rfl) dX4_keeps_59 ⟨Nat.zero_le _, Nat.zero_le _⟩ ?_
            refine lv_goto (tgt := 66) hx hb dX4_keeps_62 (by decide) ?_
            refine stI (y := (gtm vl v kx (jx + 1))) (by unfold gtm; rw [if_neg c_45]) ?_
            exact hJ_66 ls (lv_sub hl [0, 1, 2, 3, 4, 5] rfl)

theorem iX5_keepsGroups_X5 : ∀ w ∈ u_ws RX5 TX5 8, w ∈ wsX5_keepsGroups := by decide +kernel
theorem fX5_keepsGroups_1 : Cond.fieldLink RX5 30 "FeatureSolve$Tree" "size" "I" ∈ wsX5_keepsGroups := by decide +kernel
theorem fX5_keepsGroups_2 : Cond.fieldLink RX5 21 "FeatureSolve$Tree" "groupedBits" "[I" ∈ wsX5_keepsGroups := by decide +kernel
theorem fX5_keepsGroups_3 : Cond.initialized RX7 ∈ wsX5_keepsGroups := by decide +kernel
theorem fX5_keepsGroups_4 : Cond.static yX7_at ∈ wsX5_keepsGroups := by decide +kernel
theorem hd_J6_bitCount_0f7a4 : yJ6_bitCount_0f7a4.cls ≠ "java/lang/invoke/MethodHandle" ∧ yJ6_bitCount_0f7a4.cls ≠ "java/lang/invoke/VarHandle" ∧ (parseMethodDescriptor yJ6_bitCount_0f7a4.desc).map (fun d => d.parameters.length) = some 1 := by decide +kernel
theorem fX5_keepsGroups_5 : Cond.fieldLink RX5 50 "FeatureSolve$Tree" "bounded" "I" ∈ wsX5_keepsGroups := by decide +kernel
theorem fX5_keepsGroups_6 : Cond.static yX7_bit ∈ wsX5_keepsGroups := by decide +kernel
theorem fX5_keepsGroups_7 : Cond.fieldLink RX5 24 "FeatureSolve$Tree" "least" "[I" ∈ wsX5_keepsGroups := by decide +kernel
theorem fX5_keepsGroups_8 : Cond.fieldLink RX5 27 "FeatureSolve$Tree" "most" "[I" ∈ wsX5_keepsGroups := by decide +kernel
set_option maxHeartbeats 4000000 in
set_option maxRecDepth 100000 in
/-- Tree.keepsGroups(v) -/
theorem c_X5_keepsGroups (l : Launch) (G : GG) (h n : Nat) (k1 k2 k3 k4 k5 k6 : Nat) (bd : Int32) (gb le mo : Nat → Int32) (v : Int32) (hn : n ≤ 14) : Met l yX5_keepsGroups wsX5_keepsGroups (rmK 1) (va_Pc [.ref h, .int v] (PS G [(oX5 h (nI n) k1 k2 k3 k4 k5 k6 bd), (cI G k4 15 gb), (cI G k5 15 le), (cI G k6 15 mo)])) (QcRead (bI (allU (grpB gb le mo bd v) n))) 0 0 (fun _ => False) := by
  refine Met.ofW (cc := cX5_keepsGroups) (maxL := 5) (ret := (some .boolean)) (by decide) rfl ?_
  intro p e s m args below meth c s₁ B hml hv
  obtain ⟨rfl, hP, hKK⟩ := hv
  have hx := B.exec
  have hb := B.bytes
  have hr := B.returns
  have hts := atoms_spec (ws := wsX5_keepsGroups) B.pre
  have hown : s.vm.findClass RX5 = some m.cls := findClass_of_methodNamed B.named
  have hlocks := B.notSynchronized
  have hK := hKK.1
  have hl := lv_entry ([.ref h, .int v]) (n := 5) (Nat.le_of_ble_eq_true rfl)
  rw [lg_entry_eq]
  generalize (lg_sl ([.ref h, .int v]) ++ List.replicate (5 - (lg_sl ([.ref h, .int v])).length) Slot.unset).toArray = ls at hl ⊢
  have hl : lv_has ls 5 [(0, .ref h), (1, .int v)] := hl
  refine lv_iconst (v := 1) hx hb dX5_keepsGroups_0 (by decide) ?_
  refine lv_istore_n (lv' := [(2, .int 1), (0, .ref h), (1, .int v)]) hx hb dX5_keepsGroups_1 rfl hl (by decide) rfl (fun ls hl => ?_)
  refine loopJ (nL := 5) (I := fun (jx : Nat) => jx ≤ n ∧ allU (grpB gb le mo bd v) jx = true) (μ := fun (jx : Nat) => n - jx) (lv := fun (jx : Nat) => [(0, .ref h), (1, .int v), (2, .int (nI (jx + 1)))]) (pc' := 2) (fun xv9 hI ih_2 ls hl => ?_) 0 (⟨Nat.zero_le _, rfl⟩) ls (lv_sub hl [1, 2, 0] rfl)
  obtain ⟨jx, rfl⟩ : ∃ y, y = xv9 := ⟨_, rfl⟩
  have hI : jx ≤ n ∧ allU (grpB gb le mo bd v) jx = true := hI
  have hl : lv_has ls 5 [(0, .ref h), (1, .int v), (2, .int (nI (jx + 1)))] := hl
  refine lv_iload_n hx hb dX5_keepsGroups_2 rfl (lv_at hl 2 rfl) ?_
  refine lv_aload_n hx hb dX5_keepsGroups_3 rfl (lv_at hl 0 rfl) ?_
  refine va_get (D := G.1) (ci := 7) (v := .int (nI n)) (C := RX5) (T := TX5) (N := 8) hx hb hts iX5_keepsGroups_X5 hown hK hP 0 rfl rfl 0 (by decide) (hts _ fX5_keepsGroups_1) (fun _ h9 => h9) rfl dX5_keepsGroups_4 ?_
  refine lv_icmp_gt (tgt := 82) hx hb dX5_keepsGroups_7 (by decide) (fun c_7 => ?_) (fun c_7 => ?_)
  · skip
    have hj : jx = n := by have := (nI_ltI (a := n) (b := jx + 1) (by omega) (by omega)).mp c_7; omega
    refine lv_iconst (v := 1) hx hb dX5_keepsGroups_82 (by decide) ?_
    exact pret hx hb hr hlocks rfl (by rw [← hj, hI.2]; rfl) dX5_keepsGroups_83
  · skip
    have hj : jx < n := by have := mt (nI_ltI (a := n) (b := jx + 1) (by omega) (by omega)).mpr c_7; omega
    refine lv_iload_n hx hb dX5_keepsGroups_10 rfl (lv_at hl 1 rfl) ?_
    refine lv_aload_n hx hb dX5_keepsGroups_11 rfl (lv_at hl 0 rfl) ?_
    refine va_get (D := G.1) (ci := 7) (v := .ref k4) (C := RX5) (T := TX5) (N := 8) hx hb hts iX5_keepsGroups_X5 hown hK hP 0 rfl rfl 4 (by decide) (hts _ fX5_keepsGroups_2) (fun _ h9 => h9) rfl dX5_keepsGroups_12 ?_
    refine lv_iload_n hx hb dX5_keepsGroups_15 rfl (lv_at hl 2 rfl) ?_
    refine cpN (As := [.ref k4, .int (nI (jx + 1))]) (rest := [.int v]) ⟨hx, hb, hml, hown, hts⟩ (c_X7_atk l G k4 15 gb (nI (jx + 1)) (jx + 1) (rfl) (by omega) (by decide)) ⟨va_cnB (own := RX5) (host := RX7) (index := 42) (y := yX7_at) 2 hts gX5_keepsGroups_X7_at_n42 rfl rfl rfl (hKK.2.nth 8 (q := (RX5, 42, yX7_at)) rfl) (hts _ fX5_keepsGroups_3) hd_X7_at ⟨Nat.le_of_ble_eq_true rfl, Nat.le_of_ble_eq_true rfl⟩, (hts _ fX5_keepsGroups_4), trivial⟩ hKK hP [1] rfl rfl hl.1 rfl (Nat.le_of_ble_eq_true rfl) dX5_keepsGroups_16 ⟨Nat.zero_le _, Nat.zero_le _⟩ ?_
    refine lv_iand hx hb dX5_keepsGroups_19 ?_
    refine cpS (As := [.int (v &&& (gb (jx + 1)))]) (rest := []) ⟨hx, hb, hml, hown, hts⟩ (c_J6_bitCount_0f7a4 l G (v &&& (gb (jx + 1)))) (va_cwS 1 hts gX5_keepsGroups_J6_bitCount_0f7a4 rfl rfl rfl hd_J6_bitCount_0f7a4 ⟨Nat.le_of_ble_eq_true rfl, Nat.le_of_ble_eq_true rfl⟩) hKK hP [] rfl rfl hl.1 rfl (Nat.le_of_ble_eq_true rfl) dX5_keepsGroups_20 ⟨Nat.zero_le _, Nat.zero_le _⟩ ?_
    refine lv_istore_n (lv' := [(3, .int (bcI (v &&& (gb (jx + 1))))), (0, .ref h), (1, .int v), (2, .int (nI (jx + 1)))]) hx hb dX5_keepsGroups_23 rfl hl (by decide) rfl (fun ls hl => ?_)
    refine lv_iload_n hx hb dX5_keepsGroups_24 rfl (lv_at hl 2 rfl) ?_
    refine lv_aload_n hx hb dX5_keepsGroups_25 rfl (lv_at hl 1 rfl) ?_
    refine va_get (D := G.1) (ci := 7) (v := .int bd) (C := RX5) (T := TX5) (N := 8) hx hb hts iX5_keepsGroups_X5 hown hK hP 0 rfl rfl 7 (by decide) (hts _ fX5_keepsGroups_5) (fun _ h9 => h9) rfl dX5_keepsGroups_26 ?_
    refine lv_iand hx hb dX5_keepsGroups_29 ?_
    refine lv_iload_n hx hb dX5_keepsGroups_30 rfl (lv_at hl 3 rfl) ?_
    refine cpN (As := [.int (nI (jx + 1))]) (rest := [.int (v &&& bd)]) ⟨hx, hb, hml, hown, hts⟩ (c_X7_bit l G (nI (jx + 1))) ⟨va_cnB (own := RX5) (host := RX7) (index := 46) (y := yX7_bit) 1 hts gX5_keepsGroups_X7_bit_n46 rfl rfl rfl (hKK.2.nth 9 (q := (RX5, 46, yX7_bit)) rfl) (hts _ fX5_keepsGroups_3) hd_X7_bit ⟨Nat.le_of_ble_eq_true rfl, Nat.le_of_ble_eq_true rfl⟩, (hts _ fX5_keepsGroups_6), trivial⟩ hKK hP [] rfl rfl hl.1 rfl (Nat.le_of_ble_eq_true rfl) dX5_keepsGroups_31 ⟨Nat.zero_le _, Nat.zero_le _⟩ ?_
    refine lv_iand hx hb dX5_keepsGroups_34 ?_
    refine lv_if_eq (tgt := 42) hx hb dX5_keepsGroups_35 (by decide) (fun c_35 => ?_) (fun c_35 => ?_)
    · skip
      refine lv_iconst (v := 0) hx hb dX5_keepsGroups_42 (by decide) ?_
      refine lv_istore (lv' := [(4, .int 0), (3, .int (bcI (v &&& (gb (jx + 1))))), (0, .ref h), (1, .int v), (2, .int (nI (jx + 1)))]) hx hb dX5_keepsGroups_43 hl (by decide) rfl (fun ls hl => ?_)
      refine lv_iload hx hb dX5_keepsGroups_45 (lv_at hl 0 rfl) ?_
      refine lv_if_eq (tgt := 76) hx hb dX5_keepsGroups_47 (by decide) (fun c_47 => ?_) (fun c_47 => ?_)
      · skip
        refine lv_iinc (v := nI (jx + 1 + 1)) (lv' := [(2, .int (nI (jx + 1 + 1))), (4, .int 0), (3, .int (bcI (v &&& (gb (jx + 1))))), (0, .ref h), (1, .int v)]) hx hb dX5_keepsGroups_76 hl (k := 4) rfl (nI_1 (jx + 1)) (by decide) rfl (fun ls hl => ?_)
        refine lv_goto (tgt := 2) hx hb dX5_keepsGroups_79 (by decide) ?_
        exact ih_2 (jx + 1) (⟨hj, allU_s hI.2 (by unfold grpB; rw [if_pos c_35])⟩) (by show n - (jx + 1) < n - jx; omega) ls (lv_sub hl [3, 4, 0] rfl)
      · exact absurd rfl c_47
    · skip
      refine lv_iconst (v := 1) hx hb dX5_keepsGroups_38 (by decide) ?_
      refine lv_goto (tgt := 43) hx hb dX5_keepsGroups_39 (by decide) ?_
      refine lv_istore (lv' := [(4, .int 1), (3, .int (bcI (v &&& (gb (jx + 1))))), (0, .ref h), (1, .int v), (2, .int (nI (jx + 1)))]) hx hb dX5_keepsGroups_43 hl (by decide) rfl (fun ls hl => ?_)
      refine lv_iload hx hb dX5_keepsGroups_45 (lv_at hl 0 rfl) ?_
      refine lv_if_eq (tgt := 76) hx hb dX5_keepsGroups_47 (by decide) (fun c_47 => ?_) (fun c_47 => ?_)
      · exact absurd c_47 (by decide)
      · skip
        refine lv_iload_n hx hb dX5_keepsGroups_50 rfl (lv_at hl 1 rfl) ?_
        refine lv_aload_n hx hb dX5_keepsGroups_51 rfl (lv_at hl 2 rfl) ?_
        refine va_get (D := G.1) (ci := 7) (v := .ref k5) (C := RX5) (T := TX5) (N := 8) hx hb hts iX5_keepsGroups_X5 hown hK hP 0 rfl rfl 5 (by decide) (hts _ fX5_keepsGroups_7) (fun _ h9 => h9) rfl dX5_keepsGroups_52 ?_
        refine lv_iload_n hx hb dX5_keepsGroups_55 rfl (lv_at hl 4 rfl) ?_
        refine cpN (As := [.ref k5, .int (nI (jx + 1))]) (rest := [.int (bcI (v &&& (gb (jx + 1))))]) ⟨hx, hb, hml, hown, hts⟩ (c_X7_atk l G k5 15 le (nI (jx + 1)) (jx + 1) (rfl) (by omega) (by decide)) ⟨va_cnB (own := RX5) (host := RX7) (index := 42) (y := yX7_at) 2 hts gX5_keepsGroups_X7_at_n42 rfl rfl rfl (hKK.2.nth 8 (q := (RX5, 42, yX7_at)) rfl) (hts _ fX5_keepsGroups_3) hd_X7_at ⟨Nat.le_of_ble_eq_true rfl, Nat.le_of_ble_eq_true rfl⟩, (hts _ fX5_keepsGroups_4), trivial⟩ hKK hP [2] rfl rfl hl.1 rfl (Nat.le_of_ble_eq_true rfl) dX5_keepsGroups_56 ⟨Nat.zero_le _, Nat.zero_le _⟩ ?_
        refine lv_icmp_lt (tgt := 74) hx hb dX5_keepsGroups_59 (by decide) (fun c_59 => ?_) (fun c_59 => ?_)
        · skip
          refine lv_iconst (v := 0) hx hb dX5_keepsGroups_74 (by decide) ?_
          exact pret hx hb hr hlocks rfl (by rw [allU_no (k := jx) (by unfold grpB; rw [if_neg c_35, if_pos c_59]) n hj]; rfl) dX5_keepsGroups_75
        · skip
          refine lv_iload_n hx hb dX5_keepsGroups_62 rfl (lv_at hl 1 rfl) ?_
          refine lv_aload_n hx hb dX5_keepsGroups_63 rfl (lv_at hl 2 rfl) ?_
          refine va_get (D := G.1) (ci := 7) (v := .ref k6) (C := RX5) (T := TX5) (N := 8) hx hb hts iX5_keepsGroups_X5 hown hK hP 0 rfl rfl 6 (by decide) (hts _ fX5_keepsGroups_8) (fun _ h9 => h9) rfl dX5_keepsGroups_64 ?_
          refine lv_iload_n hx hb dX5_keepsGroups_67 rfl (lv_at hl 4 rfl) ?_
          refine cpN (As := [.ref k6, .int (nI (jx + 1))]) (rest := [.int (bcI (v &&& (gb (jx + 1))))]) ⟨hx, hb, hml, hown, hts⟩ (c_X7_atk l G k6 15 mo (nI (jx + 1)) (jx + 1) (rfl) (by omega) (by decide)) ⟨va_cnB (own := RX5) (host := RX7) (index := 42) (y := yX7_at) 2 hts gX5_keepsGroups_X7_at_n42 rfl rfl rfl (hKK.2.nth 8 (q := (RX5, 42, yX7_at)) rfl) (hts _ fX5_keepsGroups_3) hd_X7_at ⟨Nat.le_of_ble_eq_true rfl, Nat.le_of_ble_eq_true rfl⟩, (hts _ fX5_keepsGroups_4), trivial⟩ hKK hP [3] rfl rfl hl.1 rfl (Nat.le_of_ble_eq_true rfl) dX5_keepsGroups_68 ⟨Nat.zero_le _, Nat.zero_le _⟩ ?_
          refine lv_icmp_le (tgt := 76) hx hb dX5_keepsGroups_71 (by decide) (fun c_71 => ?_) (fun c_71 => ?_)
          · skip
            refine lv_iinc (v := nI (jx + 1 + 1)) (lv' := [(2, .int (nI (jx + 1 + 1))), (4, .int 1), (3, .int (bcI (v &&& (gb (jx + 1))))), (0, .ref h), (1, .int v)]) hx hb dX5_keepsGroups_76 hl (k := 4) rfl (nI_1 (jx + 1)) (by decide) rfl (fun ls hl => ?_)
            refine lv_goto (tgt := 2) hx hb dX5_keepsGroups_79 (by decide) ?_
            exact ih_2 (jx + 1) (⟨hj, allU_s hI.2 (by unfold grpB; rw [if_neg c_35, if_neg c_59]; exact decide_eq_true c_71)⟩) (by show n - (jx + 1) < n - jx; omega) ls (lv_sub hl [3, 4, 0] rfl)
          · skip
            refine lv_iconst (v := 0) hx hb dX5_keepsGroups_74 (by decide) ?_
            exact pret hx hb hr hlocks rfl (by rw [allU_no (k := jx) (by unfold grpB; rw [if_neg c_35, if_neg c_59]; exact decide_eq_false c_71) n hj]; rfl) dX5_keepsGroups_75

theorem iX1_keeps_X1 : ∀ w ∈ u_ws RX1 TX1 6, w ∈ wsX1_keeps := by decide +kernel
theorem fX1_keeps_1 : Cond.fieldLink RX1 27 "FeatureSolve$Formulas" "size" "I" ∈ wsX1_keeps := by decide +kernel
theorem fX1_keeps_2 : Cond.fieldLink RX1 9 "FeatureSolve$Formulas" "ops" "[I" ∈ wsX1_keeps := by decide +kernel
theorem fX1_keeps_3 : Cond.initialized RX7 ∈ wsX1_keeps := by decide +kernel
theorem fX1_keeps_4 : Cond.static yX7_at ∈ wsX1_keeps := by decide +kernel
theorem fX1_keeps_5 : Cond.fieldLink RX1 21 "FeatureSolve$Formulas" "rightBits" "[I" ∈ wsX1_keeps := by decide +kernel
theorem fX1_keeps_6 : Cond.fieldLink RX1 24 "FeatureSolve$Formulas" "rightWants" "[I" ∈ wsX1_keeps := by decide +kernel
theorem fX1_keeps_7 : Cond.fieldLink RX1 15 "FeatureSolve$Formulas" "leftBits" "[I" ∈ wsX1_keeps := by decide +kernel
theorem fX1_keeps_8 : Cond.fieldLink RX1 18 "FeatureSolve$Formulas" "leftWants" "[I" ∈ wsX1_keeps := by decide +kernel
set_option maxHeartbeats 4000000 in
set_option maxRecDepth 100000 in
/-- Formulas.keeps(v) -/
theorem c_X1_keeps (l : Launch) (G : GG) (h q k1 k2 k3 k4 k5 : Nat) (op lb lw rb rw : Nat → Int32) (v : Int32) (hq : q ≤ 40) : Met l yX1_keeps wsX1_keeps (rmK 1) (va_Pc [.ref h, .int v] (PS G [(oX1 h (nI q) k1 k2 k3 k4 k5), (cI G k1 40 op), (cI G k2 40 lb), (cI G k3 40 lw), (cI G k4 40 rb), (cI G k5 40 rw)])) (QcRead (bI (allZ (frmB op lb lw rb rw v) q))) 0 0 (fun _ => False) := by
  refine Met.ofW (cc := cX1_keeps) (maxL := 5) (ret := (some .boolean)) (by decide) rfl ?_
  intro p e s m args below meth c s₁ B hml hv
  obtain ⟨rfl, hP, hKK⟩ := hv
  have hx := B.exec
  have hb := B.bytes
  have hr := B.returns
  have hts := atoms_spec (ws := wsX1_keeps) B.pre
  have hown : s.vm.findClass RX1 = some m.cls := findClass_of_methodNamed B.named
  have hlocks := B.notSynchronized
  have hK := hKK.1
  have hl := lv_entry ([.ref h, .int v]) (n := 5) (Nat.le_of_ble_eq_true rfl)
  rw [lg_entry_eq]
  generalize (lg_sl ([.ref h, .int v]) ++ List.replicate (5 - (lg_sl ([.ref h, .int v])).length) Slot.unset).toArray = ls at hl ⊢
  have hl : lv_has ls 5 [(0, .ref h), (1, .int v)] := hl
  refine lv_iconst (v := 0) hx hb dX1_keeps_0 (by decide) ?_
  refine lv_istore_n (lv' := [(2, .int 0), (0, .ref h), (1, .int v)]) hx hb dX1_keeps_1 rfl hl (by decide) rfl (fun ls hl => ?_)
  refine loopJ (nL := 5) (I := fun (jx : Nat) => jx ≤ q ∧ allZ (frmB op lb lw rb rw v) jx = true) (μ := fun (jx : Nat) => q - jx) (lv := fun (jx : Nat) => [(0, .ref h), (1, .int v), (2, .int (nI jx))]) (pc' := 2) (fun xv9 hI ih_2 ls hl => ?_) 0 (⟨Nat.zero_le _, rfl⟩) ls (lv_sub hl [1, 2, 0] rfl)
  obtain ⟨jx, rfl⟩ : ∃ y, y = xv9 := ⟨_, rfl⟩
  have hI : jx ≤ q ∧ allZ (frmB op lb lw rb rw v) jx = true := hI
  have hl : lv_has ls 5 [(0, .ref h), (1, .int v), (2, .int (nI jx))] := hl
  refine lv_iload_n hx hb dX1_keeps_2 rfl (lv_at hl 2 rfl) ?_
  refine lv_aload_n hx hb dX1_keeps_3 rfl (lv_at hl 0 rfl) ?_
  refine va_get (D := G.1) (ci := 3) (v := .int (nI q)) (C := RX1) (T := TX1) (N := 6) hx hb hts iX1_keeps_X1 hown hK hP 0 rfl rfl 0 (by decide) (hts _ fX1_keeps_1) (fun _ h9 => h9) rfl dX1_keeps_4 ?_
  refine lv_icmp_ge (tgt := 90) hx hb dX1_keeps_7 (by decide) (fun c_7 => ?_) (fun c_7 => ?_)
  · skip
    have hj : jx = q := by have := (nI_leI (a := q) (b := jx) (by omega) (by omega)).mp c_7; omega
    refine lv_iconst (v := 1) hx hb dX1_keeps_90 (by decide) ?_
    exact pret hx hb hr hlocks rfl (by rw [← hj, hI.2]; rfl) dX1_keeps_91
  · skip
    have hj : jx < q := by have := mt (nI_leI (a := q) (b := jx) (by omega) (by omega)).mpr c_7; omega
    refine cutJ (nL := 5) (lv := [(0, .ref h), (1, .int v), (2, .int (nI jx))]) (pc' := 36) (st' := [.int (bI (decide (v &&& lb jx = lw jx)))]) (fun ls hl => ?_) (fun hJ_36 => ?_)
    · skip
      refine lv_istore_n (lv' := [(3, .int (bI (decide (v &&& lb jx = lw jx)))), (0, .ref h), (1, .int v), (2, .int (nI jx))]) hx hb dX1_keeps_36 rfl hl (by decide) rfl (fun ls hl => ?_)
      refine cutJ (nL := 5) (lv := [(3, .int (bI (decide (v &&& lb jx = lw jx)))), (0, .ref h), (1, .int v), (2, .int (nI jx))]) (pc' := 63) (st' := [.int (bI (decide (v &&& rb jx = rw jx)))]) (fun ls hl => ?_) (fun hJ_63 => ?_)
      · skip
        refine lv_istore (lv' := [(4, .int (bI (decide (v &&& rb jx = rw jx)))), (3, .int (bI (decide (v &&& lb jx = lw jx)))), (0, .ref h), (1, .int v), (2, .int (nI jx))]) hx hb dX1_keeps_63 hl (by decide) rfl (fun ls hl => ?_)
        refine lv_aload_n hx hb dX1_keeps_65 rfl (lv_at hl 2 rfl) ?_
        refine va_get (D := G.1) (ci := 3) (v := .ref k1) (C := RX1) (T := TX1) (N := 6) hx hb hts iX1_keeps_X1 hown hK hP 0 rfl rfl 1 (by decide) (hts _ fX1_keeps_2) (fun _ h9 => h9) rfl dX1_keeps_66 ?_
        refine lv_iload_n hx hb dX1_keeps_69 rfl (lv_at hl 4 rfl) ?_
        refine cpN (As := [.ref k1, .int (nI jx)]) (rest := []) ⟨hx, hb, hml, hown, hts⟩ (c_X7_atk l G k1 40 op (nI jx) jx (rfl) (by omega) (by decide)) ⟨va_cnB (own := RX1) (host := RX7) (index := 42) (y := yX7_at) 2 hts gX1_keeps_X7_at_n42 rfl rfl rfl (hKK.2.nth 19 (q := (RX1, 42, yX7_at)) rfl) (hts _ fX1_keeps_3) hd_X7_at ⟨Nat.le_of_ble_eq_true rfl, Nat.le_of_ble_eq_true rfl⟩, (hts _ fX1_keeps_4), trivial⟩ hKK hP [1] rfl rfl hl.1 rfl (Nat.le_of_ble_eq_true rfl) dX1_keeps_70 ⟨Nat.zero_le _, Nat.zero_le _⟩ ?_
        refine lv_iload_n hx hb dX1_keeps_73 rfl (lv_at hl 1 rfl) ?_
        refine lv_iload hx hb dX1_keeps_74 (lv_at hl 0 rfl) ?_
        refine cpS (As := [.int (op jx), .int (bI (decide (v &&& lb jx = lw jx))), .int (bI (decide (v &&& rb jx = rw jx)))]) (rest := []) ⟨hx, hb, hml, hown, hts⟩ (c_X1_holds l G (op jx) (decide (v &&& lb jx = lw jx)) (decide (v &&& rb jx = rw jx))) (va_cwS 3 hts gX1_keeps_X1_holds rfl rfl rfl hd_X1_holds ⟨Nat.le_of_ble_eq_true rfl, Nat.le_of_ble_eq_true rfl⟩) hKK hP [] rfl rfl hl.1 rfl (Nat.le_of_ble_eq_true rfl) dX1_keeps_76 ⟨Nat.zero_le _, Nat.zero_le _⟩ ?_
        refine lv_if_ne (tgt := 84) hx hb dX1_keeps_79 (by decide) (fun c_79 => ?_) (fun c_79 => ?_)
        · skip
          refine lv_iinc (v := nI (jx + 1)) (lv' := [(2, .int (nI (jx + 1))), (4, .int (bI (decide (v &&& rb jx = rw jx)))), (3, .int (bI (decide (v &&& lb jx = lw jx)))), (0, .ref h), (1, .int v)]) hx hb dX1_keeps_84 hl (k := 4) rfl (nI_1 jx) (by decide) rfl (fun ls hl => ?_)
          refine lv_goto (tgt := 2) hx hb dX1_keeps_87 (by decide) ?_
          exact ih_2 (jx + 1) (⟨hj, allZ_s hI.2 (bI_n0 c_79)⟩) (by show q - (jx + 1) < q - jx; omega) ls (lv_sub hl [3, 4, 0] rfl)
        · skip
          refine lv_iconst (v := 0) hx hb dX1_keeps_82 (by decide) ?_
          exact pret hx hb hr hlocks rfl (by rw [allZ_no (k := jx) (bI_0.mp c_79) q hj]; rfl) dX1_keeps_83
      · skip
        refine lv_iload_n hx hb dX1_keeps_37 rfl (lv_at hl 2 rfl) ?_
        refine lv_aload_n hx hb dX1_keeps_38 rfl (lv_at hl 1 rfl) ?_
        refine va_get (D := G.1) (ci := 3) (v := .ref k4) (C := RX1) (T := TX1) (N := 6) hx hb hts iX1_keeps_X1 hown hK hP 0 rfl rfl 4 (by decide) (hts _ fX1_keeps_5) (fun _ h9 => h9) rfl dX1_keeps_39 ?_
        refine lv_iload_n hx hb dX1_keeps_42 rfl (lv_at hl 3 rfl) ?_
        refine cpN (As := [.ref k4, .int (nI jx)]) (rest := [.int v]) ⟨hx, hb, hml, hown, hts⟩ (c_X7_atk l G k4 40 rb (nI jx) jx (rfl) (by omega) (by decide)) ⟨va_cnB (own := RX1) (host := RX7) (index := 42) (y := yX7_at) 2 hts gX1_keeps_X7_at_n42 rfl rfl rfl (hKK.2.nth 19 (q := (RX1, 42, yX7_at)) rfl) (hts _ fX1_keeps_3) hd_X7_at ⟨Nat.le_of_ble_eq_true rfl, Nat.le_of_ble_eq_true rfl⟩, (hts _ fX1_keeps_4), trivial⟩ hKK hP [4] rfl rfl hl.1 rfl (Nat.le_of_ble_eq_true rfl) dX1_keeps_43 ⟨Nat.zero_le _, Nat.zero_le _⟩ ?_
        refine lv_iand hx hb dX1_keeps_46 ?_
        refine lv_aload_n hx hb dX1_keeps_47 rfl (lv_at hl 1 rfl) ?_
        refine va_get (D := G.1) (ci := 3) (v := .ref k5) (C := RX1) (T := TX1) (N := 6) hx hb hts iX1_keeps_X1 hown hK hP 0 rfl rfl 5 (by decide) (hts _ fX1_keeps_6) (fun _ h9 => h9) rfl dX1_keeps_48 ?_
        refine lv_iload_n hx hb dX1_keeps_51 rfl (lv_at hl 3 rfl) ?_
        refine cpN (As := [.ref k5, .int (nI jx)]) (rest := [.int (v &&& (rb jx))]) ⟨hx, hb, hml, hown, hts⟩ (c_X7_atk l G k5 40 rw (nI jx) jx (rfl) (by omega) (by decide)) ⟨va_cnB (own := RX1) (host := RX7) (index := 42) (y := yX7_at) 2 hts gX1_keeps_X7_at_n42 rfl rfl rfl (hKK.2.nth 19 (q := (RX1, 42, yX7_at)) rfl) (hts _ fX1_keeps_3) hd_X7_at ⟨Nat.le_of_ble_eq_true rfl, Nat.le_of_ble_eq_true rfl⟩, (hts _ fX1_keeps_4), trivial⟩ hKK hP [5] rfl rfl hl.1 rfl (Nat.le_of_ble_eq_true rfl) dX1_keeps_52 ⟨Nat.zero_le _, Nat.zero_le _⟩ ?_
        refine lv_icmp_ne (tgt := 62) hx hb dX1_keeps_55 (by decide) (fun c_55 => ?_) (fun c_55 => ?_)
        · skip
          refine lv_iconst (v := 0) hx hb dX1_keeps_62 (by decide) ?_
          refine stI (y := (bI (decide (v &&& rb jx = rw jx)))) (bI_no _ decide_eq_true_iff c_55) ?_
          exact hJ_63 ls (lv_sub hl [0, 1, 2, 3] rfl)
        · skip
          refine lv_iconst (v := 1) hx hb dX1_keeps_58 (by decide) ?_
          refine lv_goto (tgt := 63) hx hb dX1_keeps_59 (by decide) ?_
          refine stI (y := (bI (decide (v &&& rb jx = rw jx)))) (bI_of _ decide_eq_true_iff c_55) ?_
          exact hJ_63 ls (lv_sub hl [0, 1, 2, 3] rfl)
    · skip
      refine lv_iload_n hx hb dX1_keeps_10 rfl (lv_at hl 1 rfl) ?_
      refine lv_aload_n hx hb dX1_keeps_11 rfl (lv_at hl 0 rfl) ?_
      refine va_get (D := G.1) (ci := 3) (v := .ref k2) (C := RX1) (T := TX1) (N := 6) hx hb hts iX1_keeps_X1 hown hK hP 0 rfl rfl 2 (by decide) (hts _ fX1_keeps_7) (fun _ h9 => h9) rfl dX1_keeps_12 ?_
      refine lv_iload_n hx hb dX1_keeps_15 rfl (lv_at hl 2 rfl) ?_
      refine cpN (As := [.ref k2, .int (nI jx)]) (rest := [.int v]) ⟨hx, hb, hml, hown, hts⟩ (c_X7_atk l G k2 40 lb (nI jx) jx (rfl) (by omega) (by decide)) ⟨va_cnB (own := RX1) (host := RX7) (index := 42) (y := yX7_at) 2 hts gX1_keeps_X7_at_n42 rfl rfl rfl (hKK.2.nth 19 (q := (RX1, 42, yX7_at)) rfl) (hts _ fX1_keeps_3) hd_X7_at ⟨Nat.le_of_ble_eq_true rfl, Nat.le_of_ble_eq_true rfl⟩, (hts _ fX1_keeps_4), trivial⟩ hKK hP [2] rfl rfl hl.1 rfl (Nat.le_of_ble_eq_true rfl) dX1_keeps_16 ⟨Nat.zero_le _, Nat.zero_le _⟩ ?_
      refine lv_iand hx hb dX1_keeps_19 ?_
      refine lv_aload_n hx hb dX1_keeps_20 rfl (lv_at hl 0 rfl) ?_
      refine va_get (D := G.1) (ci := 3) (v := .ref k3) (C := RX1) (T := TX1) (N := 6) hx hb hts iX1_keeps_X1 hown hK hP 0 rfl rfl 3 (by decide) (hts _ fX1_keeps_8) (fun _ h9 => h9) rfl dX1_keeps_21 ?_
      refine lv_iload_n hx hb dX1_keeps_24 rfl (lv_at hl 2 rfl) ?_
      refine cpN (As := [.ref k3, .int (nI jx)]) (rest := [.int (v &&& (lb jx))]) ⟨hx, hb, hml, hown, hts⟩ (c_X7_atk l G k3 40 lw (nI jx) jx (rfl) (by omega) (by decide)) ⟨va_cnB (own := RX1) (host := RX7) (index := 42) (y := yX7_at) 2 hts gX1_keeps_X7_at_n42 rfl rfl rfl (hKK.2.nth 19 (q := (RX1, 42, yX7_at)) rfl) (hts _ fX1_keeps_3) hd_X7_at ⟨Nat.le_of_ble_eq_true rfl, Nat.le_of_ble_eq_true rfl⟩, (hts _ fX1_keeps_4), trivial⟩ hKK hP [3] rfl rfl hl.1 rfl (Nat.le_of_ble_eq_true rfl) dX1_keeps_25 ⟨Nat.zero_le _, Nat.zero_le _⟩ ?_
      refine lv_icmp_ne (tgt := 35) hx hb dX1_keeps_28 (by decide) (fun c_28 => ?_) (fun c_28 => ?_)
      · skip
        refine lv_iconst (v := 0) hx hb dX1_keeps_35 (by decide) ?_
        refine stI (y := (bI (decide (v &&& lb jx = lw jx)))) (bI_no _ decide_eq_true_iff c_28) ?_
        exact hJ_36 ls (lv_sub hl [0, 1, 2] rfl)
      · skip
        refine lv_iconst (v := 1) hx hb dX1_keeps_31 (by decide) ?_
        refine lv_goto (tgt := 36) hx hb dX1_keeps_32 (by decide) ?_
        refine stI (y := (bI (decide (v &&& lb jx = lw jx)))) (bI_of _ decide_eq_true_iff c_28) ?_
        exact hJ_36 ls (lv_sub hl [0, 1, 2] rfl)

theorem iX1_add_X1 : ∀ w ∈ u_ws RX1 TX1 6, w ∈ wsX1_add := by decide +kernel
theorem fX1_add_1 : Cond.fieldLink RX1 9 "FeatureSolve$Formulas" "ops" "[I" ∈ wsX1_add := by decide +kernel
theorem fX1_add_2 : Cond.fieldLink RX1 27 "FeatureSolve$Formulas" "size" "I" ∈ wsX1_add := by decide +kernel
theorem fX1_add_3 : Cond.initialized RX7 ∈ wsX1_add := by decide +kernel
theorem fX1_add_4 : Cond.static yX7_put ∈ wsX1_add := by decide +kernel
theorem fX1_add_5 : Cond.fieldLink RX1 15 "FeatureSolve$Formulas" "leftBits" "[I" ∈ wsX1_add := by decide +kernel
theorem fX1_add_6 : Cond.fieldLink RX1 18 "FeatureSolve$Formulas" "leftWants" "[I" ∈ wsX1_add := by decide +kernel
theorem fX1_add_7 : Cond.static yX7_bit ∈ wsX1_add := by decide +kernel
theorem fX1_add_8 : Cond.fieldLink RX1 21 "FeatureSolve$Formulas" "rightBits" "[I" ∈ wsX1_add := by decide +kernel
theorem fX1_add_9 : Cond.fieldLink RX1 24 "FeatureSolve$Formulas" "rightWants" "[I" ∈ wsX1_add := by decide +kernel
set_option maxHeartbeats 4000000 in
set_option maxRecDepth 100000 in
/-- Formulas.add(op, a, b) -/
theorem c_X1_add (l : Launch) (G : GG) (h q k1 k2 k3 k4 k5 : Nat) (op lb lw rb rw : Nat → Int32) (o x y : Int32) (hq : q < 40) : Met l yX1_add wsX1_add (rmK 2) (va_Pc [.ref h, .int o, .int x, .int y] (PM G [(oX1 h (nI q) k1 k2 k3 k4 k5), (cI G k1 40 op), (cI G k2 40 lb), (cI G k3 40 lw), (cI G k4 40 rb), (cI G k5 40 rw)])) (QG (S := Unit) G [(oX1 h (nI q) k1 k2 k3 k4 k5), (cI G k1 40 op), (cI G k2 40 lb), (cI G k3 40 lw), (cI G k4 40 rb), (cI G k5 40 rw)] (fun u => True) (fun u => some (.int (nI (q + 1)))) (fun u => [(oX1 h (nI (q + 1)) k1 k2 k3 k4 k5), (cI G k1 40 (upd op q o)), (cI G k2 40 (upd lb q (bitOfI x))), (cI G k3 40 (upd lw q (bitI x))), (cI G k4 40 (upd rb q (bitOfI y))), (cI G k5 40 (upd rw q (bitI y)))])) 0 0 (adr [(oX1 h (nI q) k1 k2 k3 k4 k5), (cI G k1 40 op), (cI G k2 40 lb), (cI G k3 40 lw), (cI G k4 40 rb), (cI G k5 40 rw)]) := by
  refine Met.ofW (cc := cX1_add) (maxL := 4) (ret := (some .int)) (by decide) rfl ?_
  intro p e s m args below meth c s₁ B hml hv
  obtain ⟨rfl, hP, hD0, hKK⟩ := hv
  have hx := B.exec
  have hb := B.bytes
  have hr := B.returns
  have hts := atoms_spec (ws := wsX1_add) B.pre
  have hown : s.vm.findClass RX1 = some m.cls := findClass_of_methodNamed B.named
  have hlocks := B.notSynchronized
  have hK := hKK.1
  generalize hAe : adr [(oX1 h (nI q) k1 k2 k3 k4 k5), (cI G k1 40 op), (cI G k2 40 lb), (cI G k3 40 lw), (cI G k4 40 rb), (cI G k5 40 rw)] = A
  have hD : va_D A [(oX1 h (nI q) k1 k2 k3 k4 k5), (cI G k1 40 op), (cI G k2 40 lb), (cI G k3 40 lw), (cI G k4 40 rb), (cI G k5 40 rw)] := by rw [← hAe]; exact hD0.own
  have hS : va_S A s.heap s.heap [] := va_S.rf
  have hP : va_P G.1 vwCl [(oX1 h (nI q) k1 k2 k3 k4 k5), (cI G k1 40 op), (cI G k2 40 lb), (cI G k3 40 lw), (cI G k4 40 rb), (cI G k5 40 rw)] s.heap := hP
  have hl := lv_entry ([.ref h, .int o, .int x, .int y]) (n := 4) (Nat.le_of_ble_eq_true rfl)
  rw [lg_entry_eq]
  generalize (lg_sl ([.ref h, .int o, .int x, .int y]) ++ List.replicate (4 - (lg_sl ([.ref h, .int o, .int x, .int y])).length) Slot.unset).toArray = ls at hl ⊢
  have hl : lv_has ls 4 [(0, .ref h), (1, .int o), (2, .int x), (3, .int y)] := hl
  refine lv_aload_n hx hb dX1_add_0 rfl (lv_at hl 0 rfl) ?_
  refine va_get (D := G.1) (ci := 3) (v := .ref k1) (C := RX1) (T := TX1) (N := 6) hx hb hts iX1_add_X1 hown hK hP 0 rfl rfl 1 (by decide) (hts _ fX1_add_1) (fun _ h9 => h9) rfl dX1_add_1 ?_
  refine lv_aload_n hx hb dX1_add_4 rfl (lv_at hl 0 rfl) ?_
  refine va_get (D := G.1) (ci := 3) (v := .int (nI q)) (C := RX1) (T := TX1) (N := 6) hx hb hts iX1_add_X1 hown hK hP 0 rfl rfl 0 (by decide) (hts _ fX1_add_2) (fun _ h9 => h9) rfl dX1_add_5 ?_
  refine lv_iload_n hx hb dX1_add_8 rfl (lv_at hl 1 rfl) ?_
  refine cnN (nw := 6) (As := [.ref k1, .int (nI q), .int o]) (rest := []) ⟨hx, hb, hml, hown, hts⟩ (c_X7_putk l G k1 40 op (nI q) o q (rfl) (by omega) (by decide)) ⟨va_cnB (own := RX1) (host := RX7) (index := 31) (y := yX7_put) 3 hts gX1_add_X7_put_n31 rfl rfl rfl (hKK.2.nth 11 (q := (RX1, 31, yX7_put)) rfl) (hts _ fX1_add_3) hd_X7_put ⟨Nat.le_of_ble_eq_true rfl, Nat.le_of_ble_eq_true rfl⟩, (hts _ fX1_add_4), trivial⟩ hKK hP hD hS [1] [0, 2, 3, 4, 5] (fun _ => [(oX1 h (nI q) k1 k2 k3 k4 k5), (cI G k1 40 (upd op q o)), (cI G k2 40 lb), (cI G k3 40 lw), (cI G k4 40 rb), (cI G k5 40 rw)]) [some (oX1 h (nI q) k1 k2 k3 k4 k5), some (cI G k2 40 lb), some (cI G k3 40 lw), some (cI G k4 40 rb), some (cI G k5 40 rw)] [h, k1, k2, k3, k4, k5] rfl (by decide) (by decide) rfl hl.1 rfl (Nat.le_of_ble_eq_true rfl) dX1_add_9 ⟨Nat.zero_le _, Nat.zero_le _⟩ (fun _ => rfl) (fun _ => rfl) rfl (fun _ => rfl) rfl (fun _ => rfl) (fun _ H locs _ hP hD hS => ?_)
  refine lv_aload_n hx hb dX1_add_12 rfl (lv_at hl 0 rfl) ?_
  refine va_get (D := G.1) (ci := 3) (v := .ref k2) (C := RX1) (T := TX1) (N := 6) hx hb hts iX1_add_X1 hown hK hP 0 rfl rfl 2 (by decide) (hts _ fX1_add_5) (fun _ h9 => h9) rfl dX1_add_13 ?_
  refine lv_aload_n hx hb dX1_add_16 rfl (lv_at hl 0 rfl) ?_
  refine va_get (D := G.1) (ci := 3) (v := .int (nI q)) (C := RX1) (T := TX1) (N := 6) hx hb hts iX1_add_X1 hown hK hP 0 rfl rfl 0 (by decide) (hts _ fX1_add_2) (fun _ h9 => h9) rfl dX1_add_17 ?_
  refine lv_iload_n hx hb dX1_add_20 rfl (lv_at hl 2 rfl) ?_
  refine cpS (As := [.int x]) (rest := [.int (nI q), .ref k2]) ⟨hx, hb, hml, hown, hts⟩ (c_X1_bitOf l G x) (va_cwS 1 hts gX1_add_X1_bitOf rfl rfl rfl hd_X1_bitOf ⟨Nat.le_of_ble_eq_true rfl, Nat.le_of_ble_eq_true rfl⟩) hKK hP [] rfl rfl hl.1 rfl (Nat.le_of_ble_eq_true rfl) dX1_add_21 ⟨Nat.zero_le _, Nat.zero_le _⟩ ?_
  refine cnN (nw := 6) (As := [.ref k2, .int (nI q), .int (bitOfI x)]) (rest := []) ⟨hx, hb, hml, hown, hts⟩ (c_X7_putk l G k2 40 lb (nI q) (bitOfI x) q (rfl) (by omega) (by decide)) ⟨va_cnB (own := RX1) (host := RX7) (index := 31) (y := yX7_put) 3 hts gX1_add_X7_put_n31 rfl rfl rfl (hKK.2.nth 11 (q := (RX1, 31, yX7_put)) rfl) (hts _ fX1_add_3) hd_X7_put ⟨Nat.le_of_ble_eq_true rfl, Nat.le_of_ble_eq_true rfl⟩, (hts _ fX1_add_4), trivial⟩ hKK hP hD hS [2] [0, 1, 3, 4, 5] (fun _ => [(oX1 h (nI q) k1 k2 k3 k4 k5), (cI G k1 40 (upd op q o)), (cI G k2 40 (upd lb q (bitOfI x))), (cI G k3 40 lw), (cI G k4 40 rb), (cI G k5 40 rw)]) [some (oX1 h (nI q) k1 k2 k3 k4 k5), some (cI G k1 40 (upd op q o)), some (cI G k3 40 lw), some (cI G k4 40 rb), some (cI G k5 40 rw)] [h, k1, k2, k3, k4, k5] rfl (by decide) (by decide) rfl hl.1 rfl (Nat.le_of_ble_eq_true rfl) dX1_add_24 ⟨Nat.zero_le _, Nat.zero_le _⟩ (fun _ => rfl) (fun _ => rfl) rfl (fun _ => rfl) rfl (fun _ => rfl) (fun _ H locs _ hP hD hS => ?_)
  refine lv_aload_n hx hb dX1_add_27 rfl (lv_at hl 0 rfl) ?_
  refine va_get (D := G.1) (ci := 3) (v := .ref k3) (C := RX1) (T := TX1) (N := 6) hx hb hts iX1_add_X1 hown hK hP 0 rfl rfl 3 (by decide) (hts _ fX1_add_6) (fun _ h9 => h9) rfl dX1_add_28 ?_
  refine lv_aload_n hx hb dX1_add_31 rfl (lv_at hl 0 rfl) ?_
  refine va_get (D := G.1) (ci := 3) (v := .int (nI q)) (C := RX1) (T := TX1) (N := 6) hx hb hts iX1_add_X1 hown hK hP 0 rfl rfl 0 (by decide) (hts _ fX1_add_2) (fun _ h9 => h9) rfl dX1_add_32 ?_
  refine lv_iload_n hx hb dX1_add_35 rfl (lv_at hl 2 rfl) ?_
  refine cpN (As := [.int x]) (rest := [.int (nI q), .ref k3]) ⟨hx, hb, hml, hown, hts⟩ (c_X7_bit l G x) ⟨va_cnB (own := RX1) (host := RX7) (index := 39) (y := yX7_bit) 1 hts gX1_add_X7_bit_n39 rfl rfl rfl (hKK.2.nth 10 (q := (RX1, 39, yX7_bit)) rfl) (hts _ fX1_add_3) hd_X7_bit ⟨Nat.le_of_ble_eq_true rfl, Nat.le_of_ble_eq_true rfl⟩, (hts _ fX1_add_7), trivial⟩ hKK hP [] rfl rfl hl.1 rfl (Nat.le_of_ble_eq_true rfl) dX1_add_36 ⟨Nat.zero_le _, Nat.zero_le _⟩ ?_
  refine cnN (nw := 6) (As := [.ref k3, .int (nI q), .int (bitI x)]) (rest := []) ⟨hx, hb, hml, hown, hts⟩ (c_X7_putk l G k3 40 lw (nI q) (bitI x) q (rfl) (by omega) (by decide)) ⟨va_cnB (own := RX1) (host := RX7) (index := 31) (y := yX7_put) 3 hts gX1_add_X7_put_n31 rfl rfl rfl (hKK.2.nth 11 (q := (RX1, 31, yX7_put)) rfl) (hts _ fX1_add_3) hd_X7_put ⟨Nat.le_of_ble_eq_true rfl, Nat.le_of_ble_eq_true rfl⟩, (hts _ fX1_add_4), trivial⟩ hKK hP hD hS [3] [0, 1, 2, 4, 5] (fun _ => [(oX1 h (nI q) k1 k2 k3 k4 k5), (cI G k1 40 (upd op q o)), (cI G k2 40 (upd lb q (bitOfI x))), (cI G k3 40 (upd lw q (bitI x))), (cI G k4 40 rb), (cI G k5 40 rw)]) [some (oX1 h (nI q) k1 k2 k3 k4 k5), some (cI G k1 40 (upd op q o)), some (cI G k2 40 (upd lb q (bitOfI x))), some (cI G k4 40 rb), some (cI G k5 40 rw)] [h, k1, k2, k3, k4, k5] rfl (by decide) (by decide) rfl hl.1 rfl (Nat.le_of_ble_eq_true rfl) dX1_add_39 ⟨Nat.zero_le _, Nat.zero_le _⟩ (fun _ => rfl) (fun _ => rfl) rfl (fun _ => rfl) rfl (fun _ => rfl) (fun _ H locs _ hP hD hS => ?_)
  refine lv_aload_n hx hb dX1_add_42 rfl (lv_at hl 0 rfl) ?_
  refine va_get (D := G.1) (ci := 3) (v := .ref k4) (C := RX1) (T := TX1) (N := 6) hx hb hts iX1_add_X1 hown hK hP 0 rfl rfl 4 (by decide) (hts _ fX1_add_8) (fun _ h9 => h9) rfl dX1_add_43 ?_
  refine lv_aload_n hx hb dX1_add_46 rfl (lv_at hl 0 rfl) ?_
  refine va_get (D := G.1) (ci := 3) (v := .int (nI q)) (C := RX1) (T := TX1) (N := 6) hx hb hts iX1_add_X1 hown hK hP 0 rfl rfl 0 (by decide) (hts _ fX1_add_2) (fun _ h9 => h9) rfl dX1_add_47 ?_
  refine lv_iload_n hx hb dX1_add_50 rfl (lv_at hl 3 rfl) ?_
  refine cpS (As := [.int y]) (rest := [.int (nI q), .ref k4]) ⟨hx, hb, hml, hown, hts⟩ (c_X1_bitOf l G y) (va_cwS 1 hts gX1_add_X1_bitOf rfl rfl rfl hd_X1_bitOf ⟨Nat.le_of_ble_eq_true rfl, Nat.le_of_ble_eq_true rfl⟩) hKK hP [] rfl rfl hl.1 rfl (Nat.le_of_ble_eq_true rfl) dX1_add_51 ⟨Nat.zero_le _, Nat.zero_le _⟩ ?_
  refine cnN (nw := 6) (As := [.ref k4, .int (nI q), .int (bitOfI y)]) (rest := []) ⟨hx, hb, hml, hown, hts⟩ (c_X7_putk l G k4 40 rb (nI q) (bitOfI y) q (rfl) (by omega) (by decide)) ⟨va_cnB (own := RX1) (host := RX7) (index := 31) (y := yX7_put) 3 hts gX1_add_X7_put_n31 rfl rfl rfl (hKK.2.nth 11 (q := (RX1, 31, yX7_put)) rfl) (hts _ fX1_add_3) hd_X7_put ⟨Nat.le_of_ble_eq_true rfl, Nat.le_of_ble_eq_true rfl⟩, (hts _ fX1_add_4), trivial⟩ hKK hP hD hS [4] [0, 1, 2, 3, 5] (fun _ => [(oX1 h (nI q) k1 k2 k3 k4 k5), (cI G k1 40 (upd op q o)), (cI G k2 40 (upd lb q (bitOfI x))), (cI G k3 40 (upd lw q (bitI x))), (cI G k4 40 (upd rb q (bitOfI y))), (cI G k5 40 rw)]) [some (oX1 h (nI q) k1 k2 k3 k4 k5), some (cI G k1 40 (upd op q o)), some (cI G k2 40 (upd lb q (bitOfI x))), some (cI G k3 40 (upd lw q (bitI x))), some (cI G k5 40 rw)] [h, k1, k2, k3, k4, k5] rfl (by decide) (by decide) rfl hl.1 rfl (Nat.le_of_ble_eq_true rfl) dX1_add_54 ⟨Nat.zero_le _, Nat.zero_le _⟩ (fun _ => rfl) (fun _ => rfl) rfl (fun _ => rfl) rfl (fun _ => rfl) (fun _ H locs _ hP hD hS => ?_)
  refine lv_aload_n hx hb dX1_add_57 rfl (lv_at hl 0 rfl) ?_
  refine va_get (D := G.1) (ci := 3) (v := .ref k5) (C := RX1) (T := TX1) (N := 6) hx hb hts iX1_add_X1 hown hK hP 0 rfl rfl 5 (by decide) (hts _ fX1_add_9) (fun _ h9 => h9) rfl dX1_add_58 ?_
  refine lv_aload_n hx hb dX1_add_61 rfl (lv_at hl 0 rfl) ?_
  refine va_get (D := G.1) (ci := 3) (v := .int (nI q)) (C := RX1) (T := TX1) (N := 6) hx hb hts iX1_add_X1 hown hK hP 0 rfl rfl 0 (by decide) (hts _ fX1_add_2) (fun _ h9 => h9) rfl dX1_add_62 ?_
  refine lv_iload_n hx hb dX1_add_65 rfl (lv_at hl 3 rfl) ?_
  refine cpN (As := [.int y]) (rest := [.int (nI q), .ref k5]) ⟨hx, hb, hml, hown, hts⟩ (c_X7_bit l G y) ⟨va_cnB (own := RX1) (host := RX7) (index := 39) (y := yX7_bit) 1 hts gX1_add_X7_bit_n39 rfl rfl rfl (hKK.2.nth 10 (q := (RX1, 39, yX7_bit)) rfl) (hts _ fX1_add_3) hd_X7_bit ⟨Nat.le_of_ble_eq_true rfl, Nat.le_of_ble_eq_true rfl⟩, (hts _ fX1_add_7), trivial⟩ hKK hP [] rfl rfl hl.1 rfl (Nat.le_of_ble_eq_true rfl) dX1_add_66 ⟨Nat.zero_le _, Nat.zero_le _⟩ ?_
  refine cnN (nw := 6) (As := [.ref k5, .int (nI q), .int (bitI y)]) (rest := []) ⟨hx, hb, hml, hown, hts⟩ (c_X7_putk l G k5 40 rw (nI q) (bitI y) q (rfl) (by omega) (by decide)) ⟨va_cnB (own := RX1) (host := RX7) (index := 31) (y := yX7_put) 3 hts gX1_add_X7_put_n31 rfl rfl rfl (hKK.2.nth 11 (q := (RX1, 31, yX7_put)) rfl) (hts _ fX1_add_3) hd_X7_put ⟨Nat.le_of_ble_eq_true rfl, Nat.le_of_ble_eq_true rfl⟩, (hts _ fX1_add_4), trivial⟩ hKK hP hD hS [5] [0, 1, 2, 3, 4] (fun _ => [(oX1 h (nI q) k1 k2 k3 k4 k5), (cI G k1 40 (upd op q o)), (cI G k2 40 (upd lb q (bitOfI x))), (cI G k3 40 (upd lw q (bitI x))), (cI G k4 40 (upd rb q (bitOfI y))), (cI G k5 40 (upd rw q (bitI y)))]) [some (oX1 h (nI q) k1 k2 k3 k4 k5), some (cI G k1 40 (upd op q o)), some (cI G k2 40 (upd lb q (bitOfI x))), some (cI G k3 40 (upd lw q (bitI x))), some (cI G k4 40 (upd rb q (bitOfI y)))] [h, k1, k2, k3, k4, k5] rfl (by decide) (by decide) rfl hl.1 rfl (Nat.le_of_ble_eq_true rfl) dX1_add_69 ⟨Nat.zero_le _, Nat.zero_le _⟩ (fun _ => rfl) (fun _ => rfl) rfl (fun _ => rfl) rfl (fun _ => rfl) (fun _ H locs _ hP hD hS => ?_)
  refine lv_aload_n hx hb dX1_add_72 rfl (lv_at hl 0 rfl) ?_
  refine lv_dup hx hb dX1_add_73 rfl ?_
  refine va_get (D := G.1) (ci := 3) (v := .int (nI q)) (C := RX1) (T := TX1) (N := 6) hx hb hts iX1_add_X1 hown hK hP 0 rfl rfl 0 (by decide) (hts _ fX1_add_2) (fun _ h9 => h9) rfl dX1_add_74 ?_
  refine lv_iconst (v := 1) hx hb dX1_add_77 (by decide) ?_
  refine lv_iadd hx hb dX1_add_78 ?_
  refine stI (y := nI (q + 1)) (nI_1 q) ?_
  refine va_put (D := G.1) (ci := 3) (v := .int (nI (q + 1))) (ty := .int) (C := RX1) (T := TX1) (N := 6) hx hb hts iX1_add_X1 tyX1 tyX1_ok nmX1 hown hK hP hD hS 0 rfl rfl 0 (by decide) (hts _ fX1_add_2) (fun _ h9 => h9) rfl (by decide +kernel) rfl rfl (Nat.le_of_ble_eq_true rfl) dX1_add_79 (fun H locs hP hD hS => ?_)
  have hPD : PD G A [(oX1 h (nI (q + 1)) k1 k2 k3 k4 k5), (cI G k1 40 (upd op q o)), (cI G k2 40 (upd lb q (bitOfI x))), (cI G k3 40 (upd lw q (bitI x))), (cI G k4 40 (upd rb q (bitOfI y))), (cI G k5 40 (upd rw q (bitI y)))] H := ⟨hP, hD⟩
  have hP := hPD.1
  have hD := hPD.2
  clear hPD
  refine lv_aload_n hx hb dX1_add_82 rfl (lv_at hl 0 rfl) ?_
  refine va_get (D := G.1) (ci := 3) (v := .int (nI (q + 1))) (C := RX1) (T := TX1) (N := 6) hx hb hts iX1_add_X1 hown hK hP 0 rfl rfl 0 (by decide) (hts _ fX1_add_2) (fun _ h9 => h9) rfl dX1_add_83 ?_
  exact greti hx hb hr hlocks rfl hAe hS (()) (rfl) (trivial) (hP) dX1_add_86

theorem iX5_add_X5 : ∀ w ∈ u_ws RX5 TX5 8, w ∈ wsX5_add := by decide +kernel
theorem fX5_add_1 : Cond.fieldLink RX5 30 "FeatureSolve$Tree" "size" "I" ∈ wsX5_add := by decide +kernel
theorem fX5_add_2 : Cond.fieldLink RX5 9 "FeatureSolve$Tree" "kinds" "[I" ∈ wsX5_add := by decide +kernel
theorem fX5_add_3 : Cond.initialized RX7 ∈ wsX5_add := by decide +kernel
theorem fX5_add_4 : Cond.static yX7_put ∈ wsX5_add := by decide +kernel
theorem fX5_add_5 : Cond.fieldLink RX5 15 "FeatureSolve$Tree" "depths" "[I" ∈ wsX5_add := by decide +kernel
theorem fX5_add_6 : Cond.static yX7_at ∈ wsX5_add := by decide +kernel
theorem fX5_add_7 : Cond.fieldLink RX5 18 "FeatureSolve$Tree" "parentBits" "[I" ∈ wsX5_add := by decide +kernel
theorem fX5_add_8 : Cond.static yX7_bit ∈ wsX5_add := by decide +kernel
theorem fX5_add_9 : Cond.fieldLink RX5 21 "FeatureSolve$Tree" "groupedBits" "[I" ∈ wsX5_add := by decide +kernel
set_option maxHeartbeats 4000000 in
set_option maxRecDepth 100000 in
/-- Tree.add(parent, kind) -/
theorem c_X5_add (l : Launch) (G : GG) (h n : Nat) (k1 k2 k3 k4 k5 k6 : Nat) (bd : Int32) (kd dp pb gb : Nat → Int32) (p0 : Nat) (kn : Int32) (hn : n < 14) (hp : p0 < 15) : Met l yX5_add wsX5_add (rmK 1) (va_Pc [.ref h, .int (nI p0), .int kn] (PM G [(oX5 h (nI n) k1 k2 k3 k4 k5 k6 bd), (cI G k1 15 kd), (cI G k2 15 dp), (cI G k3 15 pb), (cI G k4 15 gb)])) (QG (S := Unit) G [(oX5 h (nI n) k1 k2 k3 k4 k5 k6 bd), (cI G k1 15 kd), (cI G k2 15 dp), (cI G k3 15 pb), (cI G k4 15 gb)] (fun u => True) (fun u => some (.int (nI (n + 1)))) (fun u => [(oX5 h (nI (n + 1)) k1 k2 k3 k4 k5 k6 bd), (cI G k1 15 (upd kd (n + 1) kn)), (cI G k2 15 (if n = 0 then upd dp (n + 1) 0 else upd dp (n + 1) (dp p0 + 1))), (cI G k3 15 (upd pb (n + 1) (bitI (nI p0)))), (cI G k4 15 (if kn = 2 then upd gb p0 (gb p0 ||| bitI (nI (n + 1))) else gb))])) 0 0 (adr [(oX5 h (nI n) k1 k2 k3 k4 k5 k6 bd), (cI G k1 15 kd), (cI G k2 15 dp), (cI G k3 15 pb), (cI G k4 15 gb)]) := by
  refine Met.ofW (cc := cX5_add) (maxL := 3) (ret := (some .int)) (by decide) rfl ?_
  intro p e s m args below meth c s₁ B hml hv
  obtain ⟨rfl, hP, hD0, hKK⟩ := hv
  have hx := B.exec
  have hb := B.bytes
  have hr := B.returns
  have hts := atoms_spec (ws := wsX5_add) B.pre
  have hown : s.vm.findClass RX5 = some m.cls := findClass_of_methodNamed B.named
  have hlocks := B.notSynchronized
  have hK := hKK.1
  generalize hAe : adr [(oX5 h (nI n) k1 k2 k3 k4 k5 k6 bd), (cI G k1 15 kd), (cI G k2 15 dp), (cI G k3 15 pb), (cI G k4 15 gb)] = A
  have hD : va_D A [(oX5 h (nI n) k1 k2 k3 k4 k5 k6 bd), (cI G k1 15 kd), (cI G k2 15 dp), (cI G k3 15 pb), (cI G k4 15 gb)] := by rw [← hAe]; exact hD0.own
  have hS : va_S A s.heap s.heap [] := va_S.rf
  have hP : va_P G.1 vwCl [(oX5 h (nI n) k1 k2 k3 k4 k5 k6 bd), (cI G k1 15 kd), (cI G k2 15 dp), (cI G k3 15 pb), (cI G k4 15 gb)] s.heap := hP
  have hl := lv_entry ([.ref h, .int (nI p0), .int kn]) (n := 3) (Nat.le_of_ble_eq_true rfl)
  rw [lg_entry_eq]
  generalize (lg_sl ([.ref h, .int (nI p0), .int kn]) ++ List.replicate (3 - (lg_sl ([.ref h, .int (nI p0), .int kn])).length) Slot.unset).toArray = ls at hl ⊢
  have hl : lv_has ls 3 [(0, .ref h), (1, .int (nI p0)), (2, .int kn)] := hl
  refine lv_aload_n hx hb dX5_add_0 rfl (lv_at hl 0 rfl) ?_
  refine lv_dup hx hb dX5_add_1 rfl ?_
  refine va_get (D := G.1) (ci := 7) (v := .int (nI n)) (C := RX5) (T := TX5) (N := 8) hx hb hts iX5_add_X5 hown hK hP 0 rfl rfl 0 (by decide) (hts _ fX5_add_1) (fun _ h9 => h9) rfl dX5_add_2 ?_
  refine lv_iconst (v := 1) hx hb dX5_add_5 (by decide) ?_
  refine lv_iadd hx hb dX5_add_6 ?_
  refine stI (y := nI (n + 1)) (nI_1 n) ?_
  refine va_put (D := G.1) (ci := 7) (v := .int (nI (n + 1))) (ty := .int) (C := RX5) (T := TX5) (N := 8) hx hb hts iX5_add_X5 tyX5 tyX5_ok nmX5 hown hK hP hD hS 0 rfl rfl 0 (by decide) (hts _ fX5_add_1) (fun _ h9 => h9) rfl (by decide +kernel) rfl rfl (Nat.le_of_ble_eq_true rfl) dX5_add_7 (fun H locs hP hD hS => ?_)
  have hPD : PD G A [(oX5 h (nI (n + 1)) k1 k2 k3 k4 k5 k6 bd), (cI G k1 15 kd), (cI G k2 15 dp), (cI G k3 15 pb), (cI G k4 15 gb)] H := ⟨hP, hD⟩
  have hP := hPD.1
  have hD := hPD.2
  clear hPD
  refine lv_aload_n hx hb dX5_add_10 rfl (lv_at hl 0 rfl) ?_
  refine va_get (D := G.1) (ci := 7) (v := .ref k1) (C := RX5) (T := TX5) (N := 8) hx hb hts iX5_add_X5 hown hK hP 0 rfl rfl 1 (by decide) (hts _ fX5_add_2) (fun _ h9 => h9) rfl dX5_add_11 ?_
  refine lv_aload_n hx hb dX5_add_14 rfl (lv_at hl 0 rfl) ?_
  refine va_get (D := G.1) (ci := 7) (v := .int (nI (n + 1))) (C := RX5) (T := TX5) (N := 8) hx hb hts iX5_add_X5 hown hK hP 0 rfl rfl 0 (by decide) (hts _ fX5_add_1) (fun _ h9 => h9) rfl dX5_add_15 ?_
  refine lv_iload_n hx hb dX5_add_18 rfl (lv_at hl 2 rfl) ?_
  refine cnN (nw := 5) (As := [.ref k1, .int (nI (n + 1)), .int kn]) (rest := []) ⟨hx, hb, hml, hown, hts⟩ (c_X7_putk l G k1 15 kd (nI (n + 1)) kn (n + 1) (rfl) (by omega) (by decide)) ⟨va_cnB (own := RX5) (host := RX7) (index := 38) (y := yX7_put) 3 hts gX5_add_X7_put_n38 rfl rfl rfl (hKK.2.nth 7 (q := (RX5, 38, yX7_put)) rfl) (hts _ fX5_add_3) hd_X7_put ⟨Nat.le_of_ble_eq_true rfl, Nat.le_of_ble_eq_true rfl⟩, (hts _ fX5_add_4), trivial⟩ hKK hP hD hS [1] [0, 2, 3, 4] (fun _ => [(oX5 h (nI (n + 1)) k1 k2 k3 k4 k5 k6 bd), (cI G k1 15 (upd kd (n + 1) kn)), (cI G k2 15 dp), (cI G k3 15 pb), (cI G k4 15 gb)]) [some (oX5 h (nI (n + 1)) k1 k2 k3 k4 k5 k6 bd), some (cI G k2 15 dp), some (cI G k3 15 pb), some (cI G k4 15 gb)] [h, k1, k2, k3, k4] rfl (by decide) (by decide) rfl hl.1 rfl (Nat.le_of_ble_eq_true rfl) dX5_add_19 ⟨Nat.zero_le _, Nat.zero_le _⟩ (fun _ => rfl) (fun _ => rfl) rfl (fun _ => rfl) rfl (fun _ => rfl) (fun _ H locs _ hP hD hS => ?_)
  refine lv_aload_n hx hb dX5_add_22 rfl (lv_at hl 0 rfl) ?_
  refine va_get (D := G.1) (ci := 7) (v := .ref k2) (C := RX5) (T := TX5) (N := 8) hx hb hts iX5_add_X5 hown hK hP 0 rfl rfl 2 (by decide) (hts _ fX5_add_5) (fun _ h9 => h9) rfl dX5_add_23 ?_
  refine lv_aload_n hx hb dX5_add_26 rfl (lv_at hl 0 rfl) ?_
  refine va_get (D := G.1) (ci := 7) (v := .int (nI (n + 1))) (C := RX5) (T := TX5) (N := 8) hx hb hts iX5_add_X5 hown hK hP 0 rfl rfl 0 (by decide) (hts _ fX5_add_1) (fun _ h9 => h9) rfl dX5_add_27 ?_
  refine lv_aload_n hx hb dX5_add_30 rfl (lv_at hl 0 rfl) ?_
  refine va_get (D := G.1) (ci := 7) (v := .int (nI (n + 1))) (C := RX5) (T := TX5) (N := 8) hx hb hts iX5_add_X5 hown hK hP 0 rfl rfl 0 (by decide) (hts _ fX5_add_1) (fun _ h9 => h9) rfl dX5_add_31 ?_
  refine lv_iconst (v := 1) hx hb dX5_add_34 (by decide) ?_
  refine lv_icmp_ne (tgt := 42) hx hb dX5_add_35 (by decide) (fun c_35 => ?_) (fun c_35 => ?_)
  · skip
    have hn0 : ¬ n = 0 := fun z => c_35 (by rw [z]; rfl)
    refine lv_aload_n hx hb dX5_add_42 rfl (lv_at hl 0 rfl) ?_
    refine va_get (D := G.1) (ci := 7) (v := .ref k2) (C := RX5) (T := TX5) (N := 8) hx hb hts iX5_add_X5 hown hK hP 0 rfl rfl 2 (by decide) (hts _ fX5_add_5) (fun _ h9 => h9) rfl dX5_add_43 ?_
    refine lv_iload_n hx hb dX5_add_46 rfl (lv_at hl 1 rfl) ?_
    refine cpN (As := [.ref k2, .int (nI p0)]) (rest := [.int (nI (n + 1)), .ref k2]) ⟨hx, hb, hml, hown, hts⟩ (c_X7_atk l G k2 15 dp (nI p0) p0 (rfl) (by omega) (by decide)) ⟨va_cnB (own := RX5) (host := RX7) (index := 42) (y := yX7_at) 2 hts gX5_add_X7_at_n42 rfl rfl rfl (hKK.2.nth 8 (q := (RX5, 42, yX7_at)) rfl) (hts _ fX5_add_3) hd_X7_at ⟨Nat.le_of_ble_eq_true rfl, Nat.le_of_ble_eq_true rfl⟩, (hts _ fX5_add_6), trivial⟩ hKK hP [2] rfl rfl hl.1 rfl (Nat.le_of_ble_eq_true rfl) dX5_add_47 ⟨Nat.zero_le _, Nat.zero_le _⟩ ?_
    refine lv_iconst (v := 1) hx hb dX5_add_50 (by decide) ?_
    refine lv_iadd hx hb dX5_add_51 ?_
    refine cnN (nw := 5) (As := [.ref k2, .int (nI (n + 1)), .int ((dp p0) + 1)]) (rest := []) ⟨hx, hb, hml, hown, hts⟩ (c_X7_putk l G k2 15 dp (nI (n + 1)) ((dp p0) + 1) (n + 1) (rfl) (by omega) (by decide)) ⟨va_cnB (own := RX5) (host := RX7) (index := 38) (y := yX7_put) 3 hts gX5_add_X7_put_n38 rfl rfl rfl (hKK.2.nth 7 (q := (RX5, 38, yX7_put)) rfl) (hts _ fX5_add_3) hd_X7_put ⟨Nat.le_of_ble_eq_true rfl, Nat.le_of_ble_eq_true rfl⟩, (hts _ fX5_add_4), trivial⟩ hKK hP hD hS [2] [0, 1, 3, 4] (fun _ => [(oX5 h (nI (n + 1)) k1 k2 k3 k4 k5 k6 bd), (cI G k1 15 (upd kd (n + 1) kn)), (cI G k2 15 (upd dp (n + 1) ((dp p0) + 1))), (cI G k3 15 pb), (cI G k4 15 gb)]) [some (oX5 h (nI (n + 1)) k1 k2 k3 k4 k5 k6 bd), some (cI G k1 15 (upd kd (n + 1) kn)), some (cI G k3 15 pb), some (cI G k4 15 gb)] [h, k1, k2, k3, k4] rfl (by decide) (by decide) rfl hl.1 rfl (Nat.le_of_ble_eq_true rfl) dX5_add_52 ⟨Nat.zero_le _, Nat.zero_le _⟩ (fun _ => rfl) (fun _ => rfl) rfl (fun _ => rfl) rfl (fun _ => rfl) (fun _ H locs _ hP hD hS => ?_)
    refine lv_aload_n hx hb dX5_add_55 rfl (lv_at hl 0 rfl) ?_
    refine va_get (D := G.1) (ci := 7) (v := .ref k3) (C := RX5) (T := TX5) (N := 8) hx hb hts iX5_add_X5 hown hK hP 0 rfl rfl 3 (by decide) (hts _ fX5_add_7) (fun _ h9 => h9) rfl dX5_add_56 ?_
    refine lv_aload_n hx hb dX5_add_59 rfl (lv_at hl 0 rfl) ?_
    refine va_get (D := G.1) (ci := 7) (v := .int (nI (n + 1))) (C := RX5) (T := TX5) (N := 8) hx hb hts iX5_add_X5 hown hK hP 0 rfl rfl 0 (by decide) (hts _ fX5_add_1) (fun _ h9 => h9) rfl dX5_add_60 ?_
    refine lv_iload_n hx hb dX5_add_63 rfl (lv_at hl 1 rfl) ?_
    refine cpN (As := [.int (nI p0)]) (rest := [.int (nI (n + 1)), .ref k3]) ⟨hx, hb, hml, hown, hts⟩ (c_X7_bit l G (nI p0)) ⟨va_cnB (own := RX5) (host := RX7) (index := 46) (y := yX7_bit) 1 hts gX5_add_X7_bit_n46 rfl rfl rfl (hKK.2.nth 9 (q := (RX5, 46, yX7_bit)) rfl) (hts _ fX5_add_3) hd_X7_bit ⟨Nat.le_of_ble_eq_true rfl, Nat.le_of_ble_eq_true rfl⟩, (hts _ fX5_add_8), trivial⟩ hKK hP [] rfl rfl hl.1 rfl (Nat.le_of_ble_eq_true rfl) dX5_add_64 ⟨Nat.zero_le _, Nat.zero_le _⟩ ?_
    refine cnN (nw := 5) (As := [.ref k3, .int (nI (n + 1)), .int (bitI (nI p0))]) (rest := []) ⟨hx, hb, hml, hown, hts⟩ (c_X7_putk l G k3 15 pb (nI (n + 1)) (bitI (nI p0)) (n + 1) (rfl) (by omega) (by decide)) ⟨va_cnB (own := RX5) (host := RX7) (index := 38) (y := yX7_put) 3 hts gX5_add_X7_put_n38 rfl rfl rfl (hKK.2.nth 7 (q := (RX5, 38, yX7_put)) rfl) (hts _ fX5_add_3) hd_X7_put ⟨Nat.le_of_ble_eq_true rfl, Nat.le_of_ble_eq_true rfl⟩, (hts _ fX5_add_4), trivial⟩ hKK hP hD hS [3] [0, 1, 2, 4] (fun _ => [(oX5 h (nI (n + 1)) k1 k2 k3 k4 k5 k6 bd), (cI G k1 15 (upd kd (n + 1) kn)), (cI G k2 15 (upd dp (n + 1) ((dp p0) + 1))), (cI G k3 15 (upd pb (n + 1) (bitI (nI p0)))), (cI G k4 15 gb)]) [some (oX5 h (nI (n + 1)) k1 k2 k3 k4 k5 k6 bd), some (cI G k1 15 (upd kd (n + 1) kn)), some (cI G k2 15 (upd dp (n + 1) ((dp p0) + 1))), some (cI G k4 15 gb)] [h, k1, k2, k3, k4] rfl (by decide) (by decide) rfl hl.1 rfl (Nat.le_of_ble_eq_true rfl) dX5_add_67 ⟨Nat.zero_le _, Nat.zero_le _⟩ (fun _ => rfl) (fun _ => rfl) rfl (fun _ => rfl) rfl (fun _ => rfl) (fun _ H locs _ hP hD hS => ?_)
    refine lv_iload_n hx hb dX5_add_70 rfl (lv_at hl 2 rfl) ?_
    refine lv_iconst (v := 2) hx hb dX5_add_71 (by decide) ?_
    refine lv_icmp_ne (tgt := 99) hx hb dX5_add_72 (by decide) (fun c_72 => ?_) (fun c_72 => ?_)
    · skip
      refine lv_aload_n hx hb dX5_add_99 rfl (lv_at hl 0 rfl) ?_
      refine va_get (D := G.1) (ci := 7) (v := .int (nI (n + 1))) (C := RX5) (T := TX5) (N := 8) hx hb hts iX5_add_X5 hown hK hP 0 rfl rfl 0 (by decide) (hts _ fX5_add_1) (fun _ h9 => h9) rfl dX5_add_100 ?_
      exact greti hx hb hr hlocks rfl hAe hS (()) (rfl) (trivial) (by simp only [if_neg hn0, if_neg c_72]; exact hP) dX5_add_103
    · skip
      refine lv_aload_n hx hb dX5_add_75 rfl (lv_at hl 0 rfl) ?_
      refine va_get (D := G.1) (ci := 7) (v := .ref k4) (C := RX5) (T := TX5) (N := 8) hx hb hts iX5_add_X5 hown hK hP 0 rfl rfl 4 (by decide) (hts _ fX5_add_9) (fun _ h9 => h9) rfl dX5_add_76 ?_
      refine lv_iload_n hx hb dX5_add_79 rfl (lv_at hl 1 rfl) ?_
      refine lv_aload_n hx hb dX5_add_80 rfl (lv_at hl 0 rfl) ?_
      refine va_get (D := G.1) (ci := 7) (v := .ref k4) (C := RX5) (T := TX5) (N := 8) hx hb hts iX5_add_X5 hown hK hP 0 rfl rfl 4 (by decide) (hts _ fX5_add_9) (fun _ h9 => h9) rfl dX5_add_81 ?_
      refine lv_iload_n hx hb dX5_add_84 rfl (lv_at hl 1 rfl) ?_
      refine cpN (As := [.ref k4, .int (nI p0)]) (rest := [.int (nI p0), .ref k4]) ⟨hx, hb, hml, hown, hts⟩ (c_X7_atk l G k4 15 gb (nI p0) p0 (rfl) (by omega) (by decide)) ⟨va_cnB (own := RX5) (host := RX7) (index := 42) (y := yX7_at) 2 hts gX5_add_X7_at_n42 rfl rfl rfl (hKK.2.nth 8 (q := (RX5, 42, yX7_at)) rfl) (hts _ fX5_add_3) hd_X7_at ⟨Nat.le_of_ble_eq_true rfl, Nat.le_of_ble_eq_true rfl⟩, (hts _ fX5_add_6), trivial⟩ hKK hP [4] rfl rfl hl.1 rfl (Nat.le_of_ble_eq_true rfl) dX5_add_85 ⟨Nat.zero_le _, Nat.zero_le _⟩ ?_
      refine lv_aload_n hx hb dX5_add_88 rfl (lv_at hl 0 rfl) ?_
      refine va_get (D := G.1) (ci := 7) (v := .int (nI (n + 1))) (C := RX5) (T := TX5) (N := 8) hx hb hts iX5_add_X5 hown hK hP 0 rfl rfl 0 (by decide) (hts _ fX5_add_1) (fun _ h9 => h9) rfl dX5_add_89 ?_
      refine cpN (As := [.int (nI (n + 1))]) (rest := [.int (gb p0), .int (nI p0), .ref k4]) ⟨hx, hb, hml, hown, hts⟩ (c_X7_bit l G (nI (n + 1))) ⟨va_cnB (own := RX5) (host := RX7) (index := 46) (y := yX7_bit) 1 hts gX5_add_X7_bit_n46 rfl rfl rfl (hKK.2.nth 9 (q := (RX5, 46, yX7_bit)) rfl) (hts _ fX5_add_3) hd_X7_bit ⟨Nat.le_of_ble_eq_true rfl, Nat.le_of_ble_eq_true rfl⟩, (hts _ fX5_add_8), trivial⟩ hKK hP [] rfl rfl hl.1 rfl (Nat.le_of_ble_eq_true rfl) dX5_add_92 ⟨Nat.zero_le _, Nat.zero_le _⟩ ?_
      refine lv_ior hx hb dX5_add_95 ?_
      refine cnN (nw := 5) (As := [.ref k4, .int (nI p0), .int ((gb p0) ||| (bitI (nI (n + 1))))]) (rest := []) ⟨hx, hb, hml, hown, hts⟩ (c_X7_putk l G k4 15 gb (nI p0) ((gb p0) ||| (bitI (nI (n + 1)))) p0 (rfl) (by omega) (by decide)) ⟨va_cnB (own := RX5) (host := RX7) (index := 38) (y := yX7_put) 3 hts gX5_add_X7_put_n38 rfl rfl rfl (hKK.2.nth 7 (q := (RX5, 38, yX7_put)) rfl) (hts _ fX5_add_3) hd_X7_put ⟨Nat.le_of_ble_eq_true rfl, Nat.le_of_ble_eq_true rfl⟩, (hts _ fX5_add_4), trivial⟩ hKK hP hD hS [4] [0, 1, 2, 3] (fun _ => [(oX5 h (nI (n + 1)) k1 k2 k3 k4 k5 k6 bd), (cI G k1 15 (upd kd (n + 1) kn)), (cI G k2 15 (upd dp (n + 1) ((dp p0) + 1))), (cI G k3 15 (upd pb (n + 1) (bitI (nI p0)))), (cI G k4 15 (upd gb p0 ((gb p0) ||| (bitI (nI (n + 1))))))]) [some (oX5 h (nI (n + 1)) k1 k2 k3 k4 k5 k6 bd), some (cI G k1 15 (upd kd (n + 1) kn)), some (cI G k2 15 (upd dp (n + 1) ((dp p0) + 1))), some (cI G k3 15 (upd pb (n + 1) (bitI (nI p0))))] [h, k1, k2, k3, k4] rfl (by decide) (by decide) rfl hl.1 rfl (Nat.le_of_ble_eq_true rfl) dX5_add_96 ⟨Nat.zero_le _, Nat.zero_le _⟩ (fun _ => rfl) (fun _ => rfl) rfl (fun _ => rfl) rfl (fun _ => rfl) (fun _ H locs _ hP hD hS => ?_)
      refine lv_aload_n hx hb dX5_add_99 rfl (lv_at hl 0 rfl) ?_
      refine va_get (D := G.1) (ci := 7) (v := .int (nI (n + 1))) (C := RX5) (T := TX5) (N := 8) hx hb hts iX5_add_X5 hown hK hP 0 rfl rfl 0 (by decide) (hts _ fX5_add_1) (fun _ h9 => h9) rfl dX5_add_100 ?_
      exact greti hx hb hr hlocks rfl hAe hS (()) (rfl) (trivial) (by simp only [if_neg hn0, if_pos c_72]; exact hP) dX5_add_103
  · skip
    have hn0 : n = 0 := by have := (nI_eq1 (by omega)).mp c_35; omega
    refine lv_iconst (v := 0) hx hb dX5_add_38 (by decide) ?_
    refine lv_goto (tgt := 52) hx hb dX5_add_39 (by decide) ?_
    refine cnN (nw := 5) (As := [.ref k2, .int (nI (n + 1)), .int 0]) (rest := []) ⟨hx, hb, hml, hown, hts⟩ (c_X7_putk l G k2 15 dp (nI (n + 1)) 0 (n + 1) (rfl) (by omega) (by decide)) ⟨va_cnB (own := RX5) (host := RX7) (index := 38) (y := yX7_put) 3 hts gX5_add_X7_put_n38 rfl rfl rfl (hKK.2.nth 7 (q := (RX5, 38, yX7_put)) rfl) (hts _ fX5_add_3) hd_X7_put ⟨Nat.le_of_ble_eq_true rfl, Nat.le_of_ble_eq_true rfl⟩, (hts _ fX5_add_4), trivial⟩ hKK hP hD hS [2] [0, 1, 3, 4] (fun _ => [(oX5 h (nI (n + 1)) k1 k2 k3 k4 k5 k6 bd), (cI G k1 15 (upd kd (n + 1) kn)), (cI G k2 15 (upd dp (n + 1) 0)), (cI G k3 15 pb), (cI G k4 15 gb)]) [some (oX5 h (nI (n + 1)) k1 k2 k3 k4 k5 k6 bd), some (cI G k1 15 (upd kd (n + 1) kn)), some (cI G k3 15 pb), some (cI G k4 15 gb)] [h, k1, k2, k3, k4] rfl (by decide) (by decide) rfl hl.1 rfl (Nat.le_of_ble_eq_true rfl) dX5_add_52 ⟨Nat.zero_le _, Nat.zero_le _⟩ (fun _ => rfl) (fun _ => rfl) rfl (fun _ => rfl) rfl (fun _ => rfl) (fun _ H locs _ hP hD hS => ?_)
    refine lv_aload_n hx hb dX5_add_55 rfl (lv_at hl 0 rfl) ?_
    refine va_get (D := G.1) (ci := 7) (v := .ref k3) (C := RX5) (T := TX5) (N := 8) hx hb hts iX5_add_X5 hown hK hP 0 rfl rfl 3 (by decide) (hts _ fX5_add_7) (fun _ h9 => h9) rfl dX5_add_56 ?_
    refine lv_aload_n hx hb dX5_add_59 rfl (lv_at hl 0 rfl) ?_
    refine va_get (D := G.1) (ci := 7) (v := .int (nI (n + 1))) (C := RX5) (T := TX5) (N := 8) hx hb hts iX5_add_X5 hown hK hP 0 rfl rfl 0 (by decide) (hts _ fX5_add_1) (fun _ h9 => h9) rfl dX5_add_60 ?_
    refine lv_iload_n hx hb dX5_add_63 rfl (lv_at hl 1 rfl) ?_
    refine cpN (As := [.int (nI p0)]) (rest := [.int (nI (n + 1)), .ref k3]) ⟨hx, hb, hml, hown, hts⟩ (c_X7_bit l G (nI p0)) ⟨va_cnB (own := RX5) (host := RX7) (index := 46) (y := yX7_bit) 1 hts gX5_add_X7_bit_n46 rfl rfl rfl (hKK.2.nth 9 (q := (RX5, 46, yX7_bit)) rfl) (hts _ fX5_add_3) hd_X7_bit ⟨Nat.le_of_ble_eq_true rfl, Nat.le_of_ble_eq_true rfl⟩, (hts _ fX5_add_8), trivial⟩ hKK hP [] rfl rfl hl.1 rfl (Nat.le_of_ble_eq_true rfl) dX5_add_64 ⟨Nat.zero_le _, Nat.zero_le _⟩ ?_
    refine cnN (nw := 5) (As := [.ref k3, .int (nI (n + 1)), .int (bitI (nI p0))]) (rest := []) ⟨hx, hb, hml, hown, hts⟩ (c_X7_putk l G k3 15 pb (nI (n + 1)) (bitI (nI p0)) (n + 1) (rfl) (by omega) (by decide)) ⟨va_cnB (own := RX5) (host := RX7) (index := 38) (y := yX7_put) 3 hts gX5_add_X7_put_n38 rfl rfl rfl (hKK.2.nth 7 (q := (RX5, 38, yX7_put)) rfl) (hts _ fX5_add_3) hd_X7_put ⟨Nat.le_of_ble_eq_true rfl, Nat.le_of_ble_eq_true rfl⟩, (hts _ fX5_add_4), trivial⟩ hKK hP hD hS [3] [0, 1, 2, 4] (fun _ => [(oX5 h (nI (n + 1)) k1 k2 k3 k4 k5 k6 bd), (cI G k1 15 (upd kd (n + 1) kn)), (cI G k2 15 (upd dp (n + 1) 0)), (cI G k3 15 (upd pb (n + 1) (bitI (nI p0)))), (cI G k4 15 gb)]) [some (oX5 h (nI (n + 1)) k1 k2 k3 k4 k5 k6 bd), some (cI G k1 15 (upd kd (n + 1) kn)), some (cI G k2 15 (upd dp (n + 1) 0)), some (cI G k4 15 gb)] [h, k1, k2, k3, k4] rfl (by decide) (by decide) rfl hl.1 rfl (Nat.le_of_ble_eq_true rfl) dX5_add_67 ⟨Nat.zero_le _, Nat.zero_le _⟩ (fun _ => rfl) (fun _ => rfl) rfl (fun _ => rfl) rfl (fun _ => rfl) (fun _ H locs _ hP hD hS => ?_)
    refine lv_iload_n hx hb dX5_add_70 rfl (lv_at hl 2 rfl) ?_
    refine lv_iconst (v := 2) hx hb dX5_add_71 (by decide) ?_
    refine lv_icmp_ne (tgt := 99) hx hb dX5_add_72 (by decide) (fun c_72 => ?_) (fun c_72 => ?_)
    · skip
      refine lv_aload_n hx hb dX5_add_99 rfl (lv_at hl 0 rfl) ?_
      refine va_get (D := G.1) (ci := 7) (v := .int (nI (n + 1))) (C := RX5) (T := TX5) (N := 8) hx hb hts iX5_add_X5 hown hK hP 0 rfl rfl 0 (by decide) (hts _ fX5_add_1) (fun _ h9 => h9) rfl dX5_add_100 ?_
      exact greti hx hb hr hlocks rfl hAe hS (()) (rfl) (trivial) (by simp only [if_pos hn0, if_neg c_72]; exact hP) dX5_add_103
    · skip
      refine lv_aload_n hx hb dX5_add_75 rfl (lv_at hl 0 rfl) ?_
      refine va_get (D := G.1) (ci := 7) (v := .ref k4) (C := RX5) (T := TX5) (N := 8) hx hb hts iX5_add_X5 hown hK hP 0 rfl rfl 4 (by decide) (hts _ fX5_add_9) (fun _ h9 => h9) rfl dX5_add_76 ?_
      refine lv_iload_n hx hb dX5_add_79 rfl (lv_at hl 1 rfl) ?_
      refine lv_aload_n hx hb dX5_add_80 rfl (lv_at hl 0 rfl) ?_
      refine va_get (D := G.1) (ci := 7) (v := .ref k4) (C := RX5) (T := TX5) (N := 8) hx hb hts iX5_add_X5 hown hK hP 0 rfl rfl 4 (by decide) (hts _ fX5_add_9) (fun _ h9 => h9) rfl dX5_add_81 ?_
      refine lv_iload_n hx hb dX5_add_84 rfl (lv_at hl 1 rfl) ?_
      refine cpN (As := [.ref k4, .int (nI p0)]) (rest := [.int (nI p0), .ref k4]) ⟨hx, hb, hml, hown, hts⟩ (c_X7_atk l G k4 15 gb (nI p0) p0 (rfl) (by omega) (by decide)) ⟨va_cnB (own := RX5) (host := RX7) (index := 42) (y := yX7_at) 2 hts gX5_add_X7_at_n42 rfl rfl rfl (hKK.2.nth 8 (q := (RX5, 42, yX7_at)) rfl) (hts _ fX5_add_3) hd_X7_at ⟨Nat.le_of_ble_eq_true rfl, Nat.le_of_ble_eq_true rfl⟩, (hts _ fX5_add_6), trivial⟩ hKK hP [4] rfl rfl hl.1 rfl (Nat.le_of_ble_eq_true rfl) dX5_add_85 ⟨Nat.zero_le _, Nat.zero_le _⟩ ?_
      refine lv_aload_n hx hb dX5_add_88 rfl (lv_at hl 0 rfl) ?_
      refine va_get (D := G.1) (ci := 7) (v := .int (nI (n + 1))) (C := RX5) (T := TX5) (N := 8) hx hb hts iX5_add_X5 hown hK hP 0 rfl rfl 0 (by decide) (hts _ fX5_add_1) (fun _ h9 => h9) rfl dX5_add_89 ?_
      refine cpN (As := [.int (nI (n + 1))]) (rest := [.int (gb p0), .int (nI p0), .ref k4]) ⟨hx, hb, hml, hown, hts⟩ (c_X7_bit l G (nI (n + 1))) ⟨va_cnB (own := RX5) (host := RX7) (index := 46) (y := yX7_bit) 1 hts gX5_add_X7_bit_n46 rfl rfl rfl (hKK.2.nth 9 (q := (RX5, 46, yX7_bit)) rfl) (hts _ fX5_add_3) hd_X7_bit ⟨Nat.le_of_ble_eq_true rfl, Nat.le_of_ble_eq_true rfl⟩, (hts _ fX5_add_8), trivial⟩ hKK hP [] rfl rfl hl.1 rfl (Nat.le_of_ble_eq_true rfl) dX5_add_92 ⟨Nat.zero_le _, Nat.zero_le _⟩ ?_
      refine lv_ior hx hb dX5_add_95 ?_
      refine cnN (nw := 5) (As := [.ref k4, .int (nI p0), .int ((gb p0) ||| (bitI (nI (n + 1))))]) (rest := []) ⟨hx, hb, hml, hown, hts⟩ (c_X7_putk l G k4 15 gb (nI p0) ((gb p0) ||| (bitI (nI (n + 1)))) p0 (rfl) (by omega) (by decide)) ⟨va_cnB (own := RX5) (host := RX7) (index := 38) (y := yX7_put) 3 hts gX5_add_X7_put_n38 rfl rfl rfl (hKK.2.nth 7 (q := (RX5, 38, yX7_put)) rfl) (hts _ fX5_add_3) hd_X7_put ⟨Nat.le_of_ble_eq_true rfl, Nat.le_of_ble_eq_true rfl⟩, (hts _ fX5_add_4), trivial⟩ hKK hP hD hS [4] [0, 1, 2, 3] (fun _ => [(oX5 h (nI (n + 1)) k1 k2 k3 k4 k5 k6 bd), (cI G k1 15 (upd kd (n + 1) kn)), (cI G k2 15 (upd dp (n + 1) 0)), (cI G k3 15 (upd pb (n + 1) (bitI (nI p0)))), (cI G k4 15 (upd gb p0 ((gb p0) ||| (bitI (nI (n + 1))))))]) [some (oX5 h (nI (n + 1)) k1 k2 k3 k4 k5 k6 bd), some (cI G k1 15 (upd kd (n + 1) kn)), some (cI G k2 15 (upd dp (n + 1) 0)), some (cI G k3 15 (upd pb (n + 1) (bitI (nI p0))))] [h, k1, k2, k3, k4] rfl (by decide) (by decide) rfl hl.1 rfl (Nat.le_of_ble_eq_true rfl) dX5_add_96 ⟨Nat.zero_le _, Nat.zero_le _⟩ (fun _ => rfl) (fun _ => rfl) rfl (fun _ => rfl) rfl (fun _ => rfl) (fun _ H locs _ hP hD hS => ?_)
      refine lv_aload_n hx hb dX5_add_99 rfl (lv_at hl 0 rfl) ?_
      refine va_get (D := G.1) (ci := 7) (v := .int (nI (n + 1))) (C := RX5) (T := TX5) (N := 8) hx hb hts iX5_add_X5 hown hK hP 0 rfl rfl 0 (by decide) (hts _ fX5_add_1) (fun _ h9 => h9) rfl dX5_add_100 ?_
      exact greti hx hb hr hlocks rfl hAe hS (()) (rfl) (trivial) (by simp only [if_pos hn0, if_pos c_72]; exact hP) dX5_add_103

theorem iX5_bound_X5 : ∀ w ∈ u_ws RX5 TX5 8, w ∈ wsX5_bound := by decide +kernel
theorem fX5_bound_1 : Cond.fieldLink RX5 24 "FeatureSolve$Tree" "least" "[I" ∈ wsX5_bound := by decide +kernel
theorem fX5_bound_2 : Cond.initialized RX7 ∈ wsX5_bound := by decide +kernel
theorem fX5_bound_3 : Cond.static yX7_put ∈ wsX5_bound := by decide +kernel
theorem fX5_bound_4 : Cond.fieldLink RX5 27 "FeatureSolve$Tree" "most" "[I" ∈ wsX5_bound := by decide +kernel
theorem fX5_bound_5 : Cond.fieldLink RX5 50 "FeatureSolve$Tree" "bounded" "I" ∈ wsX5_bound := by decide +kernel
theorem fX5_bound_6 : Cond.static yX7_bit ∈ wsX5_bound := by decide +kernel
theorem fX5_bound_7 : Cond.fieldLink RX5 21 "FeatureSolve$Tree" "groupedBits" "[I" ∈ wsX5_bound := by decide +kernel
theorem fX5_bound_8 : Cond.static yX7_at ∈ wsX5_bound := by decide +kernel
set_option maxHeartbeats 4000000 in
set_option maxRecDepth 100000 in
/-- Tree.bound(f, least, most) -/
theorem c_X5_bound (l : Launch) (G : GG) (h : Nat) (z : Int32) (k1 k2 k3 k4 k5 k6 : Nat) (bd : Int32) (gb le mo : Nat → Int32) (f : Nat) (x y : Int32) (hf : f < 15) : Met l yX5_bound wsX5_bound (rmK 1) (va_Pc [.ref h, .int (nI f), .int x, .int y] (PM G [(oX5 h z k1 k2 k3 k4 k5 k6 bd), (cI G k4 15 gb), (cI G k5 15 le), (cI G k6 15 mo)])) (QG (S := Unit) G [(oX5 h z k1 k2 k3 k4 k5 k6 bd), (cI G k4 15 gb), (cI G k5 15 le), (cI G k6 15 mo)] (fun u => True) (fun u => some (.int (bcI (gb f)))) (fun u => [(oX5 h z k1 k2 k3 k4 k5 k6 (bd ||| bitI (nI f))), (cI G k4 15 gb), (cI G k5 15 (upd le f x)), (cI G k6 15 (upd mo f y))])) 0 0 (adr [(oX5 h z k1 k2 k3 k4 k5 k6 bd), (cI G k4 15 gb), (cI G k5 15 le), (cI G k6 15 mo)]) := by
  refine Met.ofW (cc := cX5_bound) (maxL := 4) (ret := (some .int)) (by decide) rfl ?_
  intro p e s m args below meth c s₁ B hml hv
  obtain ⟨rfl, hP, hD0, hKK⟩ := hv
  have hx := B.exec
  have hb := B.bytes
  have hr := B.returns
  have hts := atoms_spec (ws := wsX5_bound) B.pre
  have hown : s.vm.findClass RX5 = some m.cls := findClass_of_methodNamed B.named
  have hlocks := B.notSynchronized
  have hK := hKK.1
  generalize hAe : adr [(oX5 h z k1 k2 k3 k4 k5 k6 bd), (cI G k4 15 gb), (cI G k5 15 le), (cI G k6 15 mo)] = A
  have hD : va_D A [(oX5 h z k1 k2 k3 k4 k5 k6 bd), (cI G k4 15 gb), (cI G k5 15 le), (cI G k6 15 mo)] := by rw [← hAe]; exact hD0.own
  have hS : va_S A s.heap s.heap [] := va_S.rf
  have hP : va_P G.1 vwCl [(oX5 h z k1 k2 k3 k4 k5 k6 bd), (cI G k4 15 gb), (cI G k5 15 le), (cI G k6 15 mo)] s.heap := hP
  have hl := lv_entry ([.ref h, .int (nI f), .int x, .int y]) (n := 4) (Nat.le_of_ble_eq_true rfl)
  rw [lg_entry_eq]
  generalize (lg_sl ([.ref h, .int (nI f), .int x, .int y]) ++ List.replicate (4 - (lg_sl ([.ref h, .int (nI f), .int x, .int y])).length) Slot.unset).toArray = ls at hl ⊢
  have hl : lv_has ls 4 [(0, .ref h), (1, .int (nI f)), (2, .int x), (3, .int y)] := hl
  refine lv_aload_n hx hb dX5_bound_0 rfl (lv_at hl 0 rfl) ?_
  refine va_get (D := G.1) (ci := 7) (v := .ref k5) (C := RX5) (T := TX5) (N := 8) hx hb hts iX5_bound_X5 hown hK hP 0 rfl rfl 5 (by decide) (hts _ fX5_bound_1) (fun _ h9 => h9) rfl dX5_bound_1 ?_
  refine lv_iload_n hx hb dX5_bound_4 rfl (lv_at hl 1 rfl) ?_
  refine lv_iload_n hx hb dX5_bound_5 rfl (lv_at hl 2 rfl) ?_
  refine cnN (nw := 4) (As := [.ref k5, .int (nI f), .int x]) (rest := []) ⟨hx, hb, hml, hown, hts⟩ (c_X7_putk l G k5 15 le (nI f) x f (rfl) (by omega) (by decide)) ⟨va_cnB (own := RX5) (host := RX7) (index := 38) (y := yX7_put) 3 hts gX5_bound_X7_put_n38 rfl rfl rfl (hKK.2.nth 7 (q := (RX5, 38, yX7_put)) rfl) (hts _ fX5_bound_2) hd_X7_put ⟨Nat.le_of_ble_eq_true rfl, Nat.le_of_ble_eq_true rfl⟩, (hts _ fX5_bound_3), trivial⟩ hKK hP hD hS [2] [0, 1, 3] (fun _ => [(oX5 h z k1 k2 k3 k4 k5 k6 bd), (cI G k4 15 gb), (cI G k5 15 (upd le f x)), (cI G k6 15 mo)]) [some (oX5 h z k1 k2 k3 k4 k5 k6 bd), some (cI G k4 15 gb), some (cI G k6 15 mo)] [h, k4, k5, k6] rfl (by decide) (by decide) rfl hl.1 rfl (Nat.le_of_ble_eq_true rfl) dX5_bound_6 ⟨Nat.zero_le _, Nat.zero_le _⟩ (fun _ => rfl) (fun _ => rfl) rfl (fun _ => rfl) rfl (fun _ => rfl) (fun _ H locs _ hP hD hS => ?_)
  refine lv_aload_n hx hb dX5_bound_9 rfl (lv_at hl 0 rfl) ?_
  refine va_get (D := G.1) (ci := 7) (v := .ref k6) (C := RX5) (T := TX5) (N := 8) hx hb hts iX5_bound_X5 hown hK hP 0 rfl rfl 6 (by decide) (hts _ fX5_bound_4) (fun _ h9 => h9) rfl dX5_bound_10 ?_
  refine lv_iload_n hx hb dX5_bound_13 rfl (lv_at hl 1 rfl) ?_
  refine lv_iload_n hx hb dX5_bound_14 rfl (lv_at hl 3 rfl) ?_
  refine cnN (nw := 4) (As := [.ref k6, .int (nI f), .int y]) (rest := []) ⟨hx, hb, hml, hown, hts⟩ (c_X7_putk l G k6 15 mo (nI f) y f (rfl) (by omega) (by decide)) ⟨va_cnB (own := RX5) (host := RX7) (index := 38) (y := yX7_put) 3 hts gX5_bound_X7_put_n38 rfl rfl rfl (hKK.2.nth 7 (q := (RX5, 38, yX7_put)) rfl) (hts _ fX5_bound_2) hd_X7_put ⟨Nat.le_of_ble_eq_true rfl, Nat.le_of_ble_eq_true rfl⟩, (hts _ fX5_bound_3), trivial⟩ hKK hP hD hS [3] [0, 1, 2] (fun _ => [(oX5 h z k1 k2 k3 k4 k5 k6 bd), (cI G k4 15 gb), (cI G k5 15 (upd le f x)), (cI G k6 15 (upd mo f y))]) [some (oX5 h z k1 k2 k3 k4 k5 k6 bd), some (cI G k4 15 gb), some (cI G k5 15 (upd le f x))] [h, k4, k5, k6] rfl (by decide) (by decide) rfl hl.1 rfl (Nat.le_of_ble_eq_true rfl) dX5_bound_15 ⟨Nat.zero_le _, Nat.zero_le _⟩ (fun _ => rfl) (fun _ => rfl) rfl (fun _ => rfl) rfl (fun _ => rfl) (fun _ H locs _ hP hD hS => ?_)
  refine lv_aload_n hx hb dX5_bound_18 rfl (lv_at hl 0 rfl) ?_
  refine lv_dup hx hb dX5_bound_19 rfl ?_
  refine va_get (D := G.1) (ci := 7) (v := .int bd) (C := RX5) (T := TX5) (N := 8) hx hb hts iX5_bound_X5 hown hK hP 0 rfl rfl 7 (by decide) (hts _ fX5_bound_5) (fun _ h9 => h9) rfl dX5_bound_20 ?_
  refine lv_iload_n hx hb dX5_bound_23 rfl (lv_at hl 1 rfl) ?_
  refine cpN (As := [.int (nI f)]) (rest := [.int bd, .ref h]) ⟨hx, hb, hml, hown, hts⟩ (c_X7_bit l G (nI f)) ⟨va_cnB (own := RX5) (host := RX7) (index := 46) (y := yX7_bit) 1 hts gX5_bound_X7_bit_n46 rfl rfl rfl (hKK.2.nth 9 (q := (RX5, 46, yX7_bit)) rfl) (hts _ fX5_bound_2) hd_X7_bit ⟨Nat.le_of_ble_eq_true rfl, Nat.le_of_ble_eq_true rfl⟩, (hts _ fX5_bound_6), trivial⟩ hKK hP [] rfl rfl hl.1 rfl (Nat.le_of_ble_eq_true rfl) dX5_bound_24 ⟨Nat.zero_le _, Nat.zero_le _⟩ ?_
  refine lv_ior hx hb dX5_bound_27 ?_
  refine va_put (D := G.1) (ci := 7) (v := .int (bd ||| (bitI (nI f)))) (ty := .int) (C := RX5) (T := TX5) (N := 8) hx hb hts iX5_bound_X5 tyX5 tyX5_ok nmX5 hown hK hP hD hS 0 rfl rfl 7 (by decide) (hts _ fX5_bound_5) (fun _ h9 => h9) rfl (by decide +kernel) rfl rfl (Nat.le_of_ble_eq_true rfl) dX5_bound_28 (fun H locs hP hD hS => ?_)
  have hPD : PD G A [(oX5 h z k1 k2 k3 k4 k5 k6 (bd ||| (bitI (nI f)))), (cI G k4 15 gb), (cI G k5 15 (upd le f x)), (cI G k6 15 (upd mo f y))] H := ⟨hP, hD⟩
  have hP := hPD.1
  have hD := hPD.2
  clear hPD
  refine lv_aload_n hx hb dX5_bound_31 rfl (lv_at hl 0 rfl) ?_
  refine va_get (D := G.1) (ci := 7) (v := .ref k4) (C := RX5) (T := TX5) (N := 8) hx hb hts iX5_bound_X5 hown hK hP 0 rfl rfl 4 (by decide) (hts _ fX5_bound_7) (fun _ h9 => h9) rfl dX5_bound_32 ?_
  refine lv_iload_n hx hb dX5_bound_35 rfl (lv_at hl 1 rfl) ?_
  refine cpN (As := [.ref k4, .int (nI f)]) (rest := []) ⟨hx, hb, hml, hown, hts⟩ (c_X7_atk l G k4 15 gb (nI f) f (rfl) (by omega) (by decide)) ⟨va_cnB (own := RX5) (host := RX7) (index := 42) (y := yX7_at) 2 hts gX5_bound_X7_at_n42 rfl rfl rfl (hKK.2.nth 8 (q := (RX5, 42, yX7_at)) rfl) (hts _ fX5_bound_2) hd_X7_at ⟨Nat.le_of_ble_eq_true rfl, Nat.le_of_ble_eq_true rfl⟩, (hts _ fX5_bound_8), trivial⟩ hKK hP [1] rfl rfl hl.1 rfl (Nat.le_of_ble_eq_true rfl) dX5_bound_36 ⟨Nat.zero_le _, Nat.zero_le _⟩ ?_
  refine cpS (As := [.int (gb f)]) (rest := []) ⟨hx, hb, hml, hown, hts⟩ (c_J6_bitCount_0f7a4 l G (gb f)) (va_cwS 1 hts gX5_bound_J6_bitCount_0f7a4 rfl rfl rfl hd_J6_bitCount_0f7a4 ⟨Nat.le_of_ble_eq_true rfl, Nat.le_of_ble_eq_true rfl⟩) hKK hP [] rfl rfl hl.1 rfl (Nat.le_of_ble_eq_true rfl) dX5_bound_39 ⟨Nat.zero_le _, Nat.zero_le _⟩ ?_
  exact greti hx hb hr hlocks rfl hAe hS (()) (rfl) (trivial) (hP) dX5_bound_42

theorem iX6_outdate_X6 : ∀ w ∈ u_ws RX6 TX6 6, w ∈ wsX6_outdate := by decide +kernel
theorem fX6_outdate_1 : Cond.fieldLink RX6 36 "FeatureSolve$Variants" "upToDate" "Z" ∈ wsX6_outdate := by decide +kernel
set_option maxHeartbeats 4000000 in
set_option maxRecDepth 100000 in
/-- Variants.outdate() -/
theorem c_X6_outdate (l : Launch) (G : GG) (h k0 k1 k2 k3 : Nat) (z u : Int32) : Met l yX6_outdate wsX6_outdate (rmK 0) (va_Pc [.ref h] (PM G [(oX6 h k0 k1 k2 k3 z u)])) (QG (S := Unit) G [(oX6 h k0 k1 k2 k3 z u)] (fun u => True) (fun u => none) (fun u => [(oX6 h k0 k1 k2 k3 z 0)])) 0 0 (adr [(oX6 h k0 k1 k2 k3 z u)]) := by
  refine Met.ofW (cc := cX6_outdate) (maxL := 1) (ret := none) (by decide) rfl ?_
  intro p e s m args below meth c s₁ B hml hv
  obtain ⟨rfl, hP, hD0, hKK⟩ := hv
  have hx := B.exec
  have hb := B.bytes
  have hr := B.returns
  have hts := atoms_spec (ws := wsX6_outdate) B.pre
  have hown : s.vm.findClass RX6 = some m.cls := findClass_of_methodNamed B.named
  have hlocks := B.notSynchronized
  have hK := hKK.1
  generalize hAe : adr [(oX6 h k0 k1 k2 k3 z u)] = A
  have hD : va_D A [(oX6 h k0 k1 k2 k3 z u)] := by rw [← hAe]; exact hD0.own
  have hS : va_S A s.heap s.heap [] := va_S.rf
  have hP : va_P G.1 vwCl [(oX6 h k0 k1 k2 k3 z u)] s.heap := hP
  have hl := lv_entry ([.ref h]) (n := 1) (Nat.le_of_ble_eq_true rfl)
  rw [lg_entry_eq]
  generalize (lg_sl ([.ref h]) ++ List.replicate (1 - (lg_sl ([.ref h])).length) Slot.unset).toArray = ls at hl ⊢
  have hl : lv_has ls 1 [(0, .ref h)] := hl
  refine lv_aload_n hx hb dX6_outdate_0 rfl (lv_at hl 0 rfl) ?_
  refine lv_iconst (v := 0) hx hb dX6_outdate_1 (by decide) ?_
  refine va_put (D := G.1) (ci := 8) (v := .int 0) (ty := .boolean) (C := RX6) (T := TX6) (N := 6) hx hb hts iX6_outdate_X6 tyX6 tyX6_ok nmX6 hown hK hP hD hS 0 rfl rfl 5 (by decide) (hts _ fX6_outdate_1) (fun _ h9 => h9) rfl (by decide +kernel) rfl rfl (Nat.le_of_ble_eq_true rfl) dX6_outdate_2 (fun H locs hP hD hS => ?_)
  have hPD : PD G A [(oX6 h k0 k1 k2 k3 z 0)] H := ⟨hP, hD⟩
  have hP := hPD.1
  have hD := hPD.2
  clear hPD
  exact gretv hx hb hr hlocks hAe hS (()) (rfl) (trivial) (hP) dX6_outdate_5

theorem iX0_drop_X0 : ∀ w ∈ u_ws RX0 TX0 4, w ∈ wsX0_drop := by decide +kernel
theorem fX0_drop_1 : Cond.fieldLink RX0 23 "FeatureSolve$Choices" "size" "I" ∈ wsX0_drop := by decide +kernel
theorem fX0_drop_2 : Cond.fieldLink RX0 31 "FeatureSolve$Choices" "must" "I" ∈ wsX0_drop := by decide +kernel
theorem fX0_drop_3 : Cond.initialized RX7 ∈ wsX0_drop := by decide +kernel
theorem fX0_drop_4 : Cond.static yX7_bit ∈ wsX0_drop := by decide +kernel
theorem fX0_drop_5 : Cond.fieldLink RX0 38 "FeatureSolve$Choices" "mustNot" "I" ∈ wsX0_drop := by decide +kernel
theorem fX0_drop_6 : Cond.fieldLink RX0 9 "FeatureSolve$Choices" "told" "[I" ∈ wsX0_drop := by decide +kernel
theorem fX0_drop_7 : Cond.static yX7_at ∈ wsX0_drop := by decide +kernel
theorem fX0_drop_8 : Cond.static yX7_put ∈ wsX0_drop := by decide +kernel
set_option maxHeartbeats 4000000 in
set_option maxRecDepth 100000 in
/-- Choices.drop(f) -/
theorem c_X0_drop (l : Launch) (G : GG) (h : Nat) (mu mn : Int32) (k1 : Nat) (td : Nat → Int32) (L : List Int32) (f : Int32) (hL : L.length ≤ 14) (hr0 : rowIs td L) : Met l yX0_drop wsX0_drop (rmK 1) (va_Pc [.ref h, .int f] (PM G [(oX0 h (nI L.length) mu mn k1), (cI G k1 14 td)])) (QG (S := Nat → Int32) G [(oX0 h (nI L.length) mu mn k1), (cI G k1 14 td)] (fun u => rowIs u (L.filter (dropB f))) (fun u => none) (fun u => [(oX0 h (nI (L.filter (dropB f)).length) (mu &&& (bitI f ^^^ -1)) (mn &&& (bitI f ^^^ -1)) k1), (cI G k1 14 u)])) 0 0 (adr [(oX0 h (nI L.length) mu mn k1), (cI G k1 14 td)]) := by
  refine Met.ofW (cc := cX0_drop) (maxL := 5) (ret := none) (by decide) rfl ?_
  intro p e s m args below meth c s₁ B hml hv
  obtain ⟨rfl, hP, hD0, hKK⟩ := hv
  have hx := B.exec
  have hb := B.bytes
  have hr := B.returns
  have hts := atoms_spec (ws := wsX0_drop) B.pre
  have hown : s.vm.findClass RX0 = some m.cls := findClass_of_methodNamed B.named
  have hlocks := B.notSynchronized
  have hK := hKK.1
  generalize hAe : adr [(oX0 h (nI L.length) mu mn k1), (cI G k1 14 td)] = A
  have hD : va_D A [(oX0 h (nI L.length) mu mn k1), (cI G k1 14 td)] := by rw [← hAe]; exact hD0.own
  have hS : va_S A s.heap s.heap [] := va_S.rf
  have hP : va_P G.1 vwCl [(oX0 h (nI L.length) mu mn k1), (cI G k1 14 td)] s.heap := hP
  have hl := lv_entry ([.ref h, .int f]) (n := 5) (Nat.le_of_ble_eq_true rfl)
  rw [lg_entry_eq]
  generalize (lg_sl ([.ref h, .int f]) ++ List.replicate (5 - (lg_sl ([.ref h, .int f])).length) Slot.unset).toArray = ls at hl ⊢
  have hl : lv_has ls 5 [(0, .ref h), (1, .int f)] := hl
  refine lv_iconst (v := 0) hx hb dX0_drop_0 (by decide) ?_
  refine lv_istore_n (lv' := [(2, .int 0), (0, .ref h), (1, .int f)]) hx hb dX0_drop_1 rfl hl (by decide) rfl (fun ls hl => ?_)
  refine lv_iconst (v := 0) hx hb dX0_drop_2 (by decide) ?_
  refine lv_istore_n (lv' := [(3, .int 0), (2, .int 0), (0, .ref h), (1, .int f)]) hx hb dX0_drop_3 rfl hl (by decide) rfl (fun ls hl => ?_)
  refine loopH (nL := 5) (I := fun (xv9 : Nat × (Nat → Int32)) => (fun (jx : Nat) (gx : Nat → Int32) => cmpI L (dropB f) jx gx) xv9.1 xv9.2) (μ := fun (xv9 : Nat × (Nat → Int32)) => (fun (jx : Nat) (gx : Nat → Int32) => L.length - jx) xv9.1 xv9.2) (lv := fun (xv9 : Nat × (Nat → Int32)) => (fun (jx : Nat) (gx : Nat → Int32) => [(0, .ref h), (1, .int f), (2, .int (nI (cmpN L (dropB f) jx))), (3, .int (nI jx))]) xv9.1 xv9.2) (wj := fun (xv9 : Nat × (Nat → Int32)) => (fun (jx : Nat) (gx : Nat → Int32) => [(oX0 h (nI L.length) mu mn k1), (cI G k1 14 gx)]) xv9.1 xv9.2) (pc' := 4) (fun xv9 hI ih_4 H locs ls hP hD hS hl => ?_) (⟨0, td⟩) (cmpI_0 hr0) _ _ ls (hP) (hD) hS (lv_sub hl [2, 3, 1, 0] rfl)
  obtain ⟨jx, gx⟩ := xv9
  have hI : cmpI L (dropB f) jx gx := hI
  have hl : lv_has ls 5 [(0, .ref h), (1, .int f), (2, .int (nI (cmpN L (dropB f) jx))), (3, .int (nI jx))] := hl
  have hPD : PD G A [(oX0 h (nI L.length) mu mn k1), (cI G k1 14 gx)] H := ⟨hP, hD⟩
  have hP := hPD.1
  have hD := hPD.2
  clear hPD
  have hjl : jx ≤ L.length := hI.1
  refine lv_iload_n hx hb dX0_drop_4 rfl (lv_at hl 3 rfl) ?_
  refine lv_aload_n hx hb dX0_drop_5 rfl (lv_at hl 0 rfl) ?_
  refine va_get (D := G.1) (ci := 2) (v := .int (nI L.length)) (C := RX0) (T := TX0) (N := 4) hx hb hts iX0_drop_X0 hown hK hP 0 rfl rfl 0 (by decide) (hts _ fX0_drop_1) (fun _ h9 => h9) rfl dX0_drop_6 ?_
  refine lv_icmp_ge (tgt := 54) hx hb dX0_drop_9 (by decide) (fun c_9 => ?_) (fun c_9 => ?_)
  · skip
    have hj : jx = L.length := Nat.le_antisymm hI.1 ((nI_leI (a := L.length) (b := jx) (by omega) (by omega)).mp c_9)
    refine lv_aload_n hx hb dX0_drop_54 rfl (lv_at hl 0 rfl) ?_
    refine lv_iload_n hx hb dX0_drop_55 rfl (lv_at hl 2 rfl) ?_
    refine va_put (D := G.1) (ci := 2) (v := .int (nI (cmpN L (dropB f) jx))) (ty := .int) (C := RX0) (T := TX0) (N := 4) hx hb hts iX0_drop_X0 tyX0 tyX0_ok nmX0 hown hK hP hD hS 0 rfl rfl 0 (by decide) (hts _ fX0_drop_1) (fun _ h9 => h9) rfl (by decide +kernel) rfl rfl (Nat.le_of_ble_eq_true rfl) dX0_drop_56 (fun H locs hP hD hS => ?_)
    have hPD : PD G A [(oX0 h (nI (cmpN L (dropB f) jx)) mu mn k1), (cI G k1 14 gx)] H := ⟨hP, hD⟩
    have hP := hPD.1
    have hD := hPD.2
    clear hPD
    refine lv_aload_n hx hb dX0_drop_59 rfl (lv_at hl 0 rfl) ?_
    refine lv_dup hx hb dX0_drop_60 rfl ?_
    refine va_get (D := G.1) (ci := 2) (v := .int mu) (C := RX0) (T := TX0) (N := 4) hx hb hts iX0_drop_X0 hown hK hP 0 rfl rfl 1 (by decide) (hts _ fX0_drop_2) (fun _ h9 => h9) rfl dX0_drop_61 ?_
    refine lv_iload_n hx hb dX0_drop_64 rfl (lv_at hl 1 rfl) ?_
    refine cpN (As := [.int f]) (rest := [.int mu, .ref h]) ⟨hx, hb, hml, hown, hts⟩ (c_X7_bit l G f) ⟨va_cnB (own := RX0) (host := RX7) (index := 34) (y := yX7_bit) 1 hts gX0_drop_X7_bit_n34 rfl rfl rfl (hKK.2.nth 15 (q := (RX0, 34, yX7_bit)) rfl) (hts _ fX0_drop_3) hd_X7_bit ⟨Nat.le_of_ble_eq_true rfl, Nat.le_of_ble_eq_true rfl⟩, (hts _ fX0_drop_4), trivial⟩ hKK hP [] rfl rfl hl.1 rfl (Nat.le_of_ble_eq_true rfl) dX0_drop_65 ⟨Nat.zero_le _, Nat.zero_le _⟩ ?_
    refine lv_iconst (v := -1) hx hb dX0_drop_68 (by decide) ?_
    refine lv_ixor hx hb dX0_drop_69 ?_
    refine lv_iand hx hb dX0_drop_70 ?_
    refine va_put (D := G.1) (ci := 2) (v := .int (mu &&& ((bitI f) ^^^ (-1)))) (ty := .int) (C := RX0) (T := TX0) (N := 4) hx hb hts iX0_drop_X0 tyX0 tyX0_ok nmX0 hown hK hP hD hS 0 rfl rfl 1 (by decide) (hts _ fX0_drop_2) (fun _ h9 => h9) rfl (by decide +kernel) rfl rfl (Nat.le_of_ble_eq_true rfl) dX0_drop_71 (fun H locs hP hD hS => ?_)
    have hPD : PD G A [(oX0 h (nI (cmpN L (dropB f) jx)) (mu &&& ((bitI f) ^^^ (-1))) mn k1), (cI G k1 14 gx)] H := ⟨hP, hD⟩
    have hP := hPD.1
    have hD := hPD.2
    clear hPD
    refine lv_aload_n hx hb dX0_drop_74 rfl (lv_at hl 0 rfl) ?_
    refine lv_dup hx hb dX0_drop_75 rfl ?_
    refine va_get (D := G.1) (ci := 2) (v := .int mn) (C := RX0) (T := TX0) (N := 4) hx hb hts iX0_drop_X0 hown hK hP 0 rfl rfl 2 (by decide) (hts _ fX0_drop_5) (fun _ h9 => h9) rfl dX0_drop_76 ?_
    refine lv_iload_n hx hb dX0_drop_79 rfl (lv_at hl 1 rfl) ?_
    refine cpN (As := [.int f]) (rest := [.int mn, .ref h]) ⟨hx, hb, hml, hown, hts⟩ (c_X7_bit l G f) ⟨va_cnB (own := RX0) (host := RX7) (index := 34) (y := yX7_bit) 1 hts gX0_drop_X7_bit_n34 rfl rfl rfl (hKK.2.nth 15 (q := (RX0, 34, yX7_bit)) rfl) (hts _ fX0_drop_3) hd_X7_bit ⟨Nat.le_of_ble_eq_true rfl, Nat.le_of_ble_eq_true rfl⟩, (hts _ fX0_drop_4), trivial⟩ hKK hP [] rfl rfl hl.1 rfl (Nat.le_of_ble_eq_true rfl) dX0_drop_80 ⟨Nat.zero_le _, Nat.zero_le _⟩ ?_
    refine lv_iconst (v := -1) hx hb dX0_drop_83 (by decide) ?_
    refine lv_ixor hx hb dX0_drop_84 ?_
    refine lv_iand hx hb dX0_drop_85 ?_
    refine va_put (D := G.1) (ci := 2) (v := .int (mn &&& ((bitI f) ^^^ (-1)))) (ty := .int) (C := RX0) (T := TX0) (N := 4) hx hb hts iX0_drop_X0 tyX0 tyX0_ok nmX0 hown hK hP hD hS 0 rfl rfl 2 (by decide) (hts _ fX0_drop_5) (fun _ h9 => h9) rfl (by decide +kernel) rfl rfl (Nat.le_of_ble_eq_true rfl) dX0_drop_86 (fun H locs hP hD hS => ?_)
    have hPD : PD G A [(oX0 h (nI (cmpN L (dropB f) jx)) (mu &&& ((bitI f) ^^^ (-1))) (mn &&& ((bitI f) ^^^ (-1))) k1), (cI G k1 14 gx)] H := ⟨hP, hD⟩
    have hP := hPD.1
    have hD := hPD.2
    clear hPD
    exact gretv hx hb hr hlocks hAe hS (gx) (rfl) (by have h9 := hI; rw [hj] at h9; exact cmpI_end h9) (by rw [← cmpN_end, ← hj]; exact hP) dX0_drop_89
  · skip
    have hj : jx < L.length := Nat.lt_of_not_le (fun z => c_9 ((nI_leI (a := L.length) (b := jx) (by omega) (by omega)).mpr z))
    have hcn := cmpN_le L (dropB f) jx
    refine lv_aload_n hx hb dX0_drop_12 rfl (lv_at hl 0 rfl) ?_
    refine va_get (D := G.1) (ci := 2) (v := .ref k1) (C := RX0) (T := TX0) (N := 4) hx hb hts iX0_drop_X0 hown hK hP 0 rfl rfl 3 (by decide) (hts _ fX0_drop_6) (fun _ h9 => h9) rfl dX0_drop_13 ?_
    refine lv_iload_n hx hb dX0_drop_16 rfl (lv_at hl 3 rfl) ?_
    refine cpN (As := [.ref k1, .int (nI jx)]) (rest := []) ⟨hx, hb, hml, hown, hts⟩ (c_X7_atk l G k1 14 gx (nI jx) jx (rfl) (by omega) (by decide)) ⟨va_cnB (own := RX0) (host := RX7) (index := 15) (y := yX7_at) 2 hts gX0_drop_X7_at_n15 rfl rfl rfl (hKK.2.nth 13 (q := (RX0, 15, yX7_at)) rfl) (hts _ fX0_drop_3) hd_X7_at ⟨Nat.le_of_ble_eq_true rfl, Nat.le_of_ble_eq_true rfl⟩, (hts _ fX0_drop_7), trivial⟩ hKK hP [1] rfl rfl hl.1 rfl (Nat.le_of_ble_eq_true rfl) dX0_drop_17 ⟨Nat.zero_le _, Nat.zero_le _⟩ ?_
    refine stI (y := L.getD jx 0) (cmpI_read hI hj) ?_
    refine lv_istore (lv' := [(4, .int (L.getD jx 0)), (0, .ref h), (1, .int f), (2, .int (nI (cmpN L (dropB f) jx))), (3, .int (nI jx))]) hx hb dX0_drop_20 hl (by decide) rfl (fun ls hl => ?_)
    refine lv_iload hx hb dX0_drop_22 (lv_at hl 0 rfl) ?_
    refine lv_iload_n hx hb dX0_drop_24 rfl (lv_at hl 2 rfl) ?_
    refine lv_icmp_eq (tgt := 48) hx hb dX0_drop_25 (by decide) (fun c_25 => ?_) (fun c_25 => ?_)
    · skip
      have hd : dropB f (L.getD jx 0) = false := decide_eq_false (fun z => z.1 c_25)
      refine lv_iinc (v := nI (jx + 1)) (lv' := [(3, .int (nI (jx + 1))), (4, .int (L.getD jx 0)), (0, .ref h), (1, .int f), (2, .int (nI (cmpN L (dropB f) jx)))]) hx hb dX0_drop_48 hl (k := 4) rfl (nI_1 jx) (by decide) rfl (fun ls hl => ?_)
      refine lv_goto (tgt := 4) hx hb dX0_drop_51 (by decide) ?_
      exact ih_4 (⟨jx + 1, gx⟩) (cmpI_drop hI hj hd) (by show L.length - (jx + 1) < L.length - jx; omega) _ _ ls (hP) (hD) hS (lv_sub hl [2, 3, 4, 0] (by show ([(0, .ref h), (1, .int f), (2, .int (nI (cmpN L (dropB f) jx))), (3, .int (nI (jx + 1)))] : List (Nat × Value)) = [(0, .ref h), (1, .int f), (2, .int (nI (cmpN L (dropB f) (jx + 1)))), (3, .int (nI (jx + 1)))]; rw [cmpN_drop hj hd]))
    · skip
      refine lv_iload hx hb dX0_drop_28 (lv_at hl 0 rfl) ?_
      refine lv_iload_n hx hb dX0_drop_30 rfl (lv_at hl 2 rfl) ?_
      refine lv_ineg hx hb dX0_drop_31 ?_
      refine lv_icmp_eq (tgt := 48) hx hb dX0_drop_32 (by decide) (fun c_32 => ?_) (fun c_32 => ?_)
      · skip
        have hd : dropB f (L.getD jx 0) = false := decide_eq_false (fun z => z.2 c_32)
        refine lv_iinc (v := nI (jx + 1)) (lv' := [(3, .int (nI (jx + 1))), (4, .int (L.getD jx 0)), (0, .ref h), (1, .int f), (2, .int (nI (cmpN L (dropB f) jx)))]) hx hb dX0_drop_48 hl (k := 4) rfl (nI_1 jx) (by decide) rfl (fun ls hl => ?_)
        refine lv_goto (tgt := 4) hx hb dX0_drop_51 (by decide) ?_
        exact ih_4 (⟨jx + 1, gx⟩) (cmpI_drop hI hj hd) (by show L.length - (jx + 1) < L.length - jx; omega) _ _ ls (hP) (hD) hS (lv_sub hl [2, 3, 4, 0] (by show ([(0, .ref h), (1, .int f), (2, .int (nI (cmpN L (dropB f) jx))), (3, .int (nI (jx + 1)))] : List (Nat × Value)) = [(0, .ref h), (1, .int f), (2, .int (nI (cmpN L (dropB f) (jx + 1)))), (3, .int (nI (jx + 1)))]; rw [cmpN_drop hj hd]))
      · skip
        have hd : dropB f (L.getD jx 0) = true := decide_eq_true ⟨c_25, c_32⟩
        refine lv_aload_n hx hb dX0_drop_35 rfl (lv_at hl 1 rfl) ?_
        refine va_get (D := G.1) (ci := 2) (v := .ref k1) (C := RX0) (T := TX0) (N := 4) hx hb hts iX0_drop_X0 hown hK hP 0 rfl rfl 3 (by decide) (hts _ fX0_drop_6) (fun _ h9 => h9) rfl dX0_drop_36 ?_
        refine lv_iload_n hx hb dX0_drop_39 rfl (lv_at hl 3 rfl) ?_
        refine lv_iload hx hb dX0_drop_40 (lv_at hl 0 rfl) ?_
        refine cnN (nw := 2) (As := [.ref k1, .int (nI (cmpN L (dropB f) jx)), .int (L.getD jx 0)]) (rest := []) ⟨hx, hb, hml, hown, hts⟩ (c_X7_putk l G k1 14 gx (nI (cmpN L (dropB f) jx)) (L.getD jx 0) (cmpN L (dropB f) jx) (rfl) (by omega) (by decide)) ⟨va_cnB (own := RX0) (host := RX7) (index := 27) (y := yX7_put) 3 hts gX0_drop_X7_put_n27 rfl rfl rfl (hKK.2.nth 14 (q := (RX0, 27, yX7_put)) rfl) (hts _ fX0_drop_3) hd_X7_put ⟨Nat.le_of_ble_eq_true rfl, Nat.le_of_ble_eq_true rfl⟩, (hts _ fX0_drop_8), trivial⟩ hKK hP hD hS [1] [0] (fun _ => [(oX0 h (nI L.length) mu mn k1), (cI G k1 14 (upd gx (cmpN L (dropB f) jx) (L.getD jx 0)))]) [some (oX0 h (nI L.length) mu mn k1)] [h, k1] rfl (by decide) (by decide) rfl hl.1 rfl (Nat.le_of_ble_eq_true rfl) dX0_drop_42 ⟨Nat.zero_le _, Nat.zero_le _⟩ (fun _ => rfl) (fun _ => rfl) rfl (fun _ => rfl) rfl (fun _ => rfl) (fun _ H locs _ hP hD hS => ?_)
        refine lv_iinc (v := nI (cmpN L (dropB f) jx + 1)) (lv' := [(2, .int (nI (cmpN L (dropB f) jx + 1))), (4, .int (L.getD jx 0)), (0, .ref h), (1, .int f), (3, .int (nI jx))]) hx hb dX0_drop_45 hl (k := 3) rfl (nI_1 _) (by decide) rfl (fun ls hl => ?_)
        refine lv_iinc (v := nI (jx + 1)) (lv' := [(3, .int (nI (jx + 1))), (2, .int (nI (cmpN L (dropB f) jx + 1))), (4, .int (L.getD jx 0)), (0, .ref h), (1, .int f)]) hx hb dX0_drop_48 hl (k := 4) rfl (nI_1 jx) (by decide) rfl (fun ls hl => ?_)
        refine lv_goto (tgt := 4) hx hb dX0_drop_51 (by decide) ?_
        exact ih_4 (⟨jx + 1, upd gx (cmpN L (dropB f) jx) (L.getD jx 0)⟩) (cmpI_keep hI hj hd) (by show L.length - (jx + 1) < L.length - jx; omega) _ _ ls (hP) (hD) hS (lv_sub hl [3, 4, 1, 0] (by show ([(0, .ref h), (1, .int f), (2, .int (nI (cmpN L (dropB f) jx + 1))), (3, .int (nI (jx + 1)))] : List (Nat × Value)) = [(0, .ref h), (1, .int f), (2, .int (nI (cmpN L (dropB f) (jx + 1)))), (3, .int (nI (jx + 1)))]; rw [cmpN_keep hj hd]))
