theorem fX0_init_0 : Cond.methodLink RX0 3 objectInit ∈ wsX0_init := by decide +kernel
theorem fX0_init_1 : Cond.instanceMethod objectInit ∈ wsX0_init := by decide +kernel
theorem fX0_init_2 : Cond.code objectInit ⟨#[0xb1]⟩ 1 none ∈ wsX0_init := by decide +kernel
theorem fX0_init_3 : Cond.arrayClass .int ∈ wsX0_init := by decide +kernel
theorem iX0_init_X0 : ∀ w ∈ u_ws RX0 TX0 4, w ∈ wsX0_init := by decide +kernel
theorem fX0_init_5 : Cond.fieldLink RX0 9 "FeatureSolve$Choices" "told" "[I" ∈ wsX0_init := by decide +kernel
set_option maxHeartbeats 4000000 in
set_option maxRecDepth 100000 in
/-- Choices() -/
theorem c_X0_init (l : Launch) (G : GG) (h sz : Nat) : Met l yX0_init wsX0_init (rmI 1 1 14) (va_Pc [.ref h] (PnW G [(h, .inr (2, [.int 0, .int 0, .int 0, .null]))] sz)) (QnW G (va_A [(h, .inr (2, [.int 0, .int 0, .int 0, .null]))] sz) (fun u : Nat => True) (fun u => [(oX0 h 0 0 0 u), (cI G u 14 (fun _ => 0))])) 1 14 (va_A [(h, .inr (2, [.int 0, .int 0, .int 0, .null]))] sz) := by
  refine Met.ofW (cc := cX0_init) (maxL := 1) (ret := none) (by decide) rfl ?_
  intro p e s m args below meth c s₁ B hml hv
  obtain ⟨rfl, hsz, hP, hD0, hKK⟩ := hv
  have hx := B.exec
  have hb := B.bytes
  have hr := B.returns
  have hts := atoms_spec (ws := wsX0_init) B.pre
  have hown : s.vm.findClass RX0 = some m.cls := findClass_of_methodNamed B.named
  have hlocks := B.notSynchronized
  have hK := hKK.1
  have hin : meth.name = "<init>" := (name_of_methodNamed B.named B.method).1
  subst hsz
  have hD := hD0.self (sz := s.heap.size)
  generalize hAe : va_A [(h, .inr (2, [.int 0, .int 0, .int 0, .null]))] s.heap.size = A at hD ⊢
  have hA : ∀ q : Nat, s.heap.size ≤ q → A q := fun q h => by rw [← hAe]; exact Or.inr h
  have hS : va_S A s.heap s.heap [] := va_S.rf
  have hP : va_P G.1 vwCl [(h, .inr (2, [.int 0, .int 0, .int 0, .null]))] s.heap := hP
  have hl := lv_entry ([.ref h]) (n := 1) (Nat.le_of_ble_eq_true rfl)
  rw [lg_entry_eq]
  generalize (lg_sl ([.ref h]) ++ List.replicate (1 - (lg_sl ([.ref h])).length) Slot.unset).toArray = ls at hl ⊢
  have hl : lv_has ls 1 [(0, .ref h)] := hl
  refine lv_aload_n hx hb dX0_init_0 rfl (lv_at hl 0 rfl) ?_
  refine W.objInit hx hb hown (hts _ fX0_init_0) (hts _ fX0_init_1) (hts _ fX0_init_2) rfl (by rw [hml]; exact hl.1) rfl dX0_init_1 (Nat.le_of_ble_eq_true rfl) (Nat.le_of_ble_eq_true rfl) ?_
  refine W.eq (g2 := F0 m 4 ls []) rfl ?_
  refine lv_aload_n hx hb dX0_init_4 rfl (lv_at hl 0 rfl) ?_
  refine lv_bipush (v := 14) hx hb dX0_init_5 (by decide) ?_
  refine naI hx hb (hts _ fX0_init_3) hK hP hD hS hA 14 (by decide) rfl (by decide) (Nat.le_of_ble_eq_true rfl) (Nat.le_of_ble_eq_true rfl) dX0_init_7 (fun q7 H hP hD hS => ?_)
  have hPD : PD G A [(h, .inr (2, [.int 0, .int 0, .int 0, .null])), (cI G q7 14 (fun _ => 0))] H := ⟨hP, hD⟩
  have hP := hPD.1
  have hD := hPD.2
  clear hPD
  refine va_putF (D := G.1) (ci := 2) (v := .ref q7) (ty := .array .int) (C := RX0) (T := TX0) (N := 4) hx hb hts iX0_init_X0 tyX0 tyX0_ok nmX0 hown hK hP hD hS 0 rfl rfl 3 (by decide) (hts _ fX0_init_5) (fun _ h9 => h9) rfl hin rfl (by decide +kernel) rfl rfl (Nat.le_of_ble_eq_true rfl) dX0_init_9 (fun H locs hP hD hS => ?_)
  have hPD : PD G A [(oX0 h 0 0 0 q7), (cI G q7 14 (fun _ => 0))] H := ⟨hP, hD⟩
  have hP := hPD.1
  have hD := hPD.2
  clear hPD
  exact nret hx hb hr hlocks hS (q7) (trivial) hP hD (Nat.le_of_ble_eq_true rfl) (Nat.le_of_ble_eq_true rfl) dX0_init_12

theorem fX2_init_0 : Cond.methodLink RX2 3 objectInit ∈ wsX2_init := by decide +kernel
theorem fX2_init_1 : Cond.instanceMethod objectInit ∈ wsX2_init := by decide +kernel
theorem fX2_init_2 : Cond.code objectInit ⟨#[0xb1]⟩ 1 none ∈ wsX2_init := by decide +kernel
theorem fX2_init_3 : Cond.arrayClass .int ∈ wsX2_init := by decide +kernel
theorem iX2_init_X2 : ∀ w ∈ u_ws RX2 TX2 3, w ∈ wsX2_init := by decide +kernel
theorem fX2_init_5 : Cond.fieldLink RX2 9 "FeatureSolve$Found" "kept" "[I" ∈ wsX2_init := by decide +kernel
set_option maxHeartbeats 4000000 in
set_option maxRecDepth 100000 in
/-- Found() -/
theorem c_X2_init (l : Launch) (G : GG) (h sz : Nat) : Met l yX2_init wsX2_init (rmI 1 1 200) (va_Pc [.ref h] (PnW G [(h, .inr (4, [.int 0, .int 0, .null]))] sz)) (QnW G (va_A [(h, .inr (4, [.int 0, .int 0, .null]))] sz) (fun u : Nat => True) (fun u => [(oX2 h 0 0 u), (cI G u 200 (fun _ => 0))])) 1 200 (va_A [(h, .inr (4, [.int 0, .int 0, .null]))] sz) := by
  refine Met.ofW (cc := cX2_init) (maxL := 1) (ret := none) (by decide) rfl ?_
  intro p e s m args below meth c s₁ B hml hv
  obtain ⟨rfl, hsz, hP, hD0, hKK⟩ := hv
  have hx := B.exec
  have hb := B.bytes
  have hr := B.returns
  have hts := atoms_spec (ws := wsX2_init) B.pre
  have hown : s.vm.findClass RX2 = some m.cls := findClass_of_methodNamed B.named
  have hlocks := B.notSynchronized
  have hK := hKK.1
  have hin : meth.name = "<init>" := (name_of_methodNamed B.named B.method).1
  subst hsz
  have hD := hD0.self (sz := s.heap.size)
  generalize hAe : va_A [(h, .inr (4, [.int 0, .int 0, .null]))] s.heap.size = A at hD ⊢
  have hA : ∀ q : Nat, s.heap.size ≤ q → A q := fun q h => by rw [← hAe]; exact Or.inr h
  have hS : va_S A s.heap s.heap [] := va_S.rf
  have hP : va_P G.1 vwCl [(h, .inr (4, [.int 0, .int 0, .null]))] s.heap := hP
  have hl := lv_entry ([.ref h]) (n := 1) (Nat.le_of_ble_eq_true rfl)
  rw [lg_entry_eq]
  generalize (lg_sl ([.ref h]) ++ List.replicate (1 - (lg_sl ([.ref h])).length) Slot.unset).toArray = ls at hl ⊢
  have hl : lv_has ls 1 [(0, .ref h)] := hl
  refine lv_aload_n hx hb dX2_init_0 rfl (lv_at hl 0 rfl) ?_
  refine W.objInit hx hb hown (hts _ fX2_init_0) (hts _ fX2_init_1) (hts _ fX2_init_2) rfl (by rw [hml]; exact hl.1) rfl dX2_init_1 (Nat.le_of_ble_eq_true rfl) (Nat.le_of_ble_eq_true rfl) ?_
  refine W.eq (g2 := F0 m 4 ls []) rfl ?_
  refine lv_aload_n hx hb dX2_init_4 rfl (lv_at hl 0 rfl) ?_
  refine lv_sipush (v := 200) hx hb dX2_init_5 (by decide) ?_
  refine naI hx hb (hts _ fX2_init_3) hK hP hD hS hA 200 (by decide) rfl (by decide) (Nat.le_of_ble_eq_true rfl) (Nat.le_of_ble_eq_true rfl) dX2_init_8 (fun q8 H hP hD hS => ?_)
  have hPD : PD G A [(h, .inr (4, [.int 0, .int 0, .null])), (cI G q8 200 (fun _ => 0))] H := ⟨hP, hD⟩
  have hP := hPD.1
  have hD := hPD.2
  clear hPD
  refine va_putF (D := G.1) (ci := 4) (v := .ref q8) (ty := .array .int) (C := RX2) (T := TX2) (N := 3) hx hb hts iX2_init_X2 tyX2 tyX2_ok nmX2 hown hK hP hD hS 0 rfl rfl 2 (by decide) (hts _ fX2_init_5) (fun _ h9 => h9) rfl hin rfl (by decide +kernel) rfl rfl (Nat.le_of_ble_eq_true rfl) dX2_init_10 (fun H locs hP hD hS => ?_)
  have hPD : PD G A [(oX2 h 0 0 q8), (cI G q8 200 (fun _ => 0))] H := ⟨hP, hD⟩
  have hP := hPD.1
  have hD := hPD.2
  clear hPD
  exact nret hx hb hr hlocks hS (q8) (trivial) hP hD (Nat.le_of_ble_eq_true rfl) (Nat.le_of_ble_eq_true rfl) dX2_init_13

theorem fX3_init_0 : Cond.methodLink RX3 3 objectInit ∈ wsX3_init := by decide +kernel
theorem fX3_init_1 : Cond.instanceMethod objectInit ∈ wsX3_init := by decide +kernel
theorem fX3_init_2 : Cond.code objectInit ⟨#[0xb1]⟩ 1 none ∈ wsX3_init := by decide +kernel
theorem fX3_init_3 : Cond.arrayClass .int ∈ wsX3_init := by decide +kernel
theorem iX3_init_X3 : ∀ w ∈ u_ws RX3 TX3 2, w ∈ wsX3_init := by decide +kernel
theorem fX3_init_5 : Cond.fieldLink RX3 9 "FeatureSolve$Reason" "left" "[I" ∈ wsX3_init := by decide +kernel
set_option maxHeartbeats 4000000 in
set_option maxRecDepth 100000 in
/-- Reason() -/
theorem c_X3_init (l : Launch) (G : GG) (h sz : Nat) : Met l yX3_init wsX3_init (rmI 1 1 14) (va_Pc [.ref h] (PnW G [(h, .inr (5, [.int 0, .null]))] sz)) (QnW G (va_A [(h, .inr (5, [.int 0, .null]))] sz) (fun u : Nat => True) (fun u => [(oX3 h 0 u), (cI G u 14 (fun _ => 0))])) 1 14 (va_A [(h, .inr (5, [.int 0, .null]))] sz) := by
  refine Met.ofW (cc := cX3_init) (maxL := 1) (ret := none) (by decide) rfl ?_
  intro p e s m args below meth c s₁ B hml hv
  obtain ⟨rfl, hsz, hP, hD0, hKK⟩ := hv
  have hx := B.exec
  have hb := B.bytes
  have hr := B.returns
  have hts := atoms_spec (ws := wsX3_init) B.pre
  have hown : s.vm.findClass RX3 = some m.cls := findClass_of_methodNamed B.named
  have hlocks := B.notSynchronized
  have hK := hKK.1
  have hin : meth.name = "<init>" := (name_of_methodNamed B.named B.method).1
  subst hsz
  have hD := hD0.self (sz := s.heap.size)
  generalize hAe : va_A [(h, .inr (5, [.int 0, .null]))] s.heap.size = A at hD ⊢
  have hA : ∀ q : Nat, s.heap.size ≤ q → A q := fun q h => by rw [← hAe]; exact Or.inr h
  have hS : va_S A s.heap s.heap [] := va_S.rf
  have hP : va_P G.1 vwCl [(h, .inr (5, [.int 0, .null]))] s.heap := hP
  have hl := lv_entry ([.ref h]) (n := 1) (Nat.le_of_ble_eq_true rfl)
  rw [lg_entry_eq]
  generalize (lg_sl ([.ref h]) ++ List.replicate (1 - (lg_sl ([.ref h])).length) Slot.unset).toArray = ls at hl ⊢
  have hl : lv_has ls 1 [(0, .ref h)] := hl
  refine lv_aload_n hx hb dX3_init_0 rfl (lv_at hl 0 rfl) ?_
  refine W.objInit hx hb hown (hts _ fX3_init_0) (hts _ fX3_init_1) (hts _ fX3_init_2) rfl (by rw [hml]; exact hl.1) rfl dX3_init_1 (Nat.le_of_ble_eq_true rfl) (Nat.le_of_ble_eq_true rfl) ?_
  refine W.eq (g2 := F0 m 4 ls []) rfl ?_
  refine lv_aload_n hx hb dX3_init_4 rfl (lv_at hl 0 rfl) ?_
  refine lv_bipush (v := 14) hx hb dX3_init_5 (by decide) ?_
  refine naI hx hb (hts _ fX3_init_3) hK hP hD hS hA 14 (by decide) rfl (by decide) (Nat.le_of_ble_eq_true rfl) (Nat.le_of_ble_eq_true rfl) dX3_init_7 (fun q7 H hP hD hS => ?_)
  have hPD : PD G A [(h, .inr (5, [.int 0, .null])), (cI G q7 14 (fun _ => 0))] H := ⟨hP, hD⟩
  have hP := hPD.1
  have hD := hPD.2
  clear hPD
  refine va_putF (D := G.1) (ci := 5) (v := .ref q7) (ty := .array .int) (C := RX3) (T := TX3) (N := 2) hx hb hts iX3_init_X3 tyX3 tyX3_ok nmX3 hown hK hP hD hS 0 rfl rfl 1 (by decide) (hts _ fX3_init_5) (fun _ h9 => h9) rfl hin rfl (by decide +kernel) rfl rfl (Nat.le_of_ble_eq_true rfl) dX3_init_9 (fun H locs hP hD hS => ?_)
  have hPD : PD G A [(oX3 h 0 q7), (cI G q7 14 (fun _ => 0))] H := ⟨hP, hD⟩
  have hP := hPD.1
  have hD := hPD.2
  clear hPD
  exact nret hx hb hr hlocks hS (q7) (trivial) hP hD (Nat.le_of_ble_eq_true rfl) (Nat.le_of_ble_eq_true rfl) dX3_init_12

theorem fX5_init_0 : Cond.methodLink RX5 3 objectInit ∈ wsX5_init := by decide +kernel
theorem fX5_init_1 : Cond.instanceMethod objectInit ∈ wsX5_init := by decide +kernel
theorem fX5_init_2 : Cond.code objectInit ⟨#[0xb1]⟩ 1 none ∈ wsX5_init := by decide +kernel
theorem fX5_init_3 : Cond.arrayClass .int ∈ wsX5_init := by decide +kernel
theorem iX5_init_X5 : ∀ w ∈ u_ws RX5 TX5 8, w ∈ wsX5_init := by decide +kernel
theorem fX5_init_5 : Cond.fieldLink RX5 9 "FeatureSolve$Tree" "kinds" "[I" ∈ wsX5_init := by decide +kernel
theorem fX5_init_6 : Cond.fieldLink RX5 15 "FeatureSolve$Tree" "depths" "[I" ∈ wsX5_init := by decide +kernel
theorem fX5_init_7 : Cond.fieldLink RX5 18 "FeatureSolve$Tree" "parentBits" "[I" ∈ wsX5_init := by decide +kernel
theorem fX5_init_8 : Cond.fieldLink RX5 21 "FeatureSolve$Tree" "groupedBits" "[I" ∈ wsX5_init := by decide +kernel
theorem fX5_init_9 : Cond.fieldLink RX5 24 "FeatureSolve$Tree" "least" "[I" ∈ wsX5_init := by decide +kernel
theorem fX5_init_10 : Cond.fieldLink RX5 27 "FeatureSolve$Tree" "most" "[I" ∈ wsX5_init := by decide +kernel
set_option maxHeartbeats 4000000 in
set_option maxRecDepth 100000 in
/-- Tree() -/
theorem c_X5_init (l : Launch) (G : GG) (h sz : Nat) : Met l yX5_init wsX5_init (rmI 1 6 90) (va_Pc [.ref h] (PnW G [(h, .inr (7, [.int 0, .null, .null, .null, .null, .null, .null, .int 0]))] sz)) (QnW G (va_A [(h, .inr (7, [.int 0, .null, .null, .null, .null, .null, .null, .int 0]))] sz) (fun u : Nat → Nat => True) (fun u => [(oX5 h 0 (u 3) (u 4) (u 5) (u 6) (u 7) (u 8) 0), (cI G (u 3) 15 (fun _ => 0)), (cI G (u 4) 15 (fun _ => 0)), (cI G (u 5) 15 (fun _ => 0)), (cI G (u 6) 15 (fun _ => 0)), (cI G (u 7) 15 (fun _ => 0)), (cI G (u 8) 15 (fun _ => 0))])) 6 90 (va_A [(h, .inr (7, [.int 0, .null, .null, .null, .null, .null, .null, .int 0]))] sz) := by
  refine Met.ofW (cc := cX5_init) (maxL := 1) (ret := none) (by decide) rfl ?_
  intro p e s m args below meth c s₁ B hml hv
  obtain ⟨rfl, hsz, hP, hD0, hKK⟩ := hv
  have hx := B.exec
  have hb := B.bytes
  have hr := B.returns
  have hts := atoms_spec (ws := wsX5_init) B.pre
  have hown : s.vm.findClass RX5 = some m.cls := findClass_of_methodNamed B.named
  have hlocks := B.notSynchronized
  have hK := hKK.1
  have hin : meth.name = "<init>" := (name_of_methodNamed B.named B.method).1
  subst hsz
  have hD := hD0.self (sz := s.heap.size)
  generalize hAe : va_A [(h, .inr (7, [.int 0, .null, .null, .null, .null, .null, .null, .int 0]))] s.heap.size = A at hD ⊢
  have hA : ∀ q : Nat, s.heap.size ≤ q → A q := fun q h => by rw [← hAe]; exact Or.inr h
  have hS : va_S A s.heap s.heap [] := va_S.rf
  have hP : va_P G.1 vwCl [(h, .inr (7, [.int 0, .null, .null, .null, .null, .null, .null, .int 0]))] s.heap := hP
  have hl := lv_entry ([.ref h]) (n := 1) (Nat.le_of_ble_eq_true rfl)
  rw [lg_entry_eq]
  generalize (lg_sl ([.ref h]) ++ List.replicate (1 - (lg_sl ([.ref h])).length) Slot.unset).toArray = ls at hl ⊢
  have hl : lv_has ls 1 [(0, .ref h)] := hl
  refine lv_aload_n hx hb dX5_init_0 rfl (lv_at hl 0 rfl) ?_
  refine W.objInit hx hb hown (hts _ fX5_init_0) (hts _ fX5_init_1) (hts _ fX5_init_2) rfl (by rw [hml]; exact hl.1) rfl dX5_init_1 (Nat.le_of_ble_eq_true rfl) (Nat.le_of_ble_eq_true rfl) ?_
  refine W.eq (g2 := F0 m 4 ls []) rfl ?_
  refine lv_aload_n hx hb dX5_init_4 rfl (lv_at hl 0 rfl) ?_
  refine lv_bipush (v := 15) hx hb dX5_init_5 (by decide) ?_
  refine naI hx hb (hts _ fX5_init_3) hK hP hD hS hA 15 (by decide) rfl (by decide) (Nat.le_of_ble_eq_true rfl) (Nat.le_of_ble_eq_true rfl) dX5_init_7 (fun q7 H hP hD hS => ?_)
  have hPD : PD G A [(h, .inr (7, [.int 0, .null, .null, .null, .null, .null, .null, .int 0])), (cI G q7 15 (fun _ => 0))] H := ⟨hP, hD⟩
  have hP := hPD.1
  have hD := hPD.2
  clear hPD
  refine va_putF (D := G.1) (ci := 7) (v := .ref q7) (ty := .array .int) (C := RX5) (T := TX5) (N := 8) hx hb hts iX5_init_X5 tyX5 tyX5_ok nmX5 hown hK hP hD hS 0 rfl rfl 1 (by decide) (hts _ fX5_init_5) (fun _ h9 => h9) rfl hin rfl (by decide +kernel) rfl rfl (Nat.le_of_ble_eq_true rfl) dX5_init_9 (fun H locs hP hD hS => ?_)
  have hPD : PD G A [(h, .inr (7, [.int 0, .ref q7, .null, .null, .null, .null, .null, .int 0])), (cI G q7 15 (fun _ => 0))] H := ⟨hP, hD⟩
  have hP := hPD.1
  have hD := hPD.2
  clear hPD
  refine lv_aload_n hx hb dX5_init_12 rfl (lv_at hl 0 rfl) ?_
  refine lv_bipush (v := 15) hx hb dX5_init_13 (by decide) ?_
  refine naI hx hb (hts _ fX5_init_3) hK hP hD hS hA 15 (by decide) rfl (by decide) (Nat.le_of_ble_eq_true rfl) (Nat.le_of_ble_eq_true rfl) dX5_init_15 (fun q15 H hP hD hS => ?_)
  have hPD : PD G A [(h, .inr (7, [.int 0, .ref q7, .null, .null, .null, .null, .null, .int 0])), (cI G q7 15 (fun _ => 0)), (cI G q15 15 (fun _ => 0))] H := ⟨hP, hD⟩
  have hP := hPD.1
  have hD := hPD.2
  clear hPD
  refine va_putF (D := G.1) (ci := 7) (v := .ref q15) (ty := .array .int) (C := RX5) (T := TX5) (N := 8) hx hb hts iX5_init_X5 tyX5 tyX5_ok nmX5 hown hK hP hD hS 0 rfl rfl 2 (by decide) (hts _ fX5_init_6) (fun _ h9 => h9) rfl hin rfl (by decide +kernel) rfl rfl (Nat.le_of_ble_eq_true rfl) dX5_init_17 (fun H locs hP hD hS => ?_)
  have hPD : PD G A [(h, .inr (7, [.int 0, .ref q7, .ref q15, .null, .null, .null, .null, .int 0])), (cI G q7 15 (fun _ => 0)), (cI G q15 15 (fun _ => 0))] H := ⟨hP, hD⟩
  have hP := hPD.1
  have hD := hPD.2
  clear hPD
  refine lv_aload_n hx hb dX5_init_20 rfl (lv_at hl 0 rfl) ?_
  refine lv_bipush (v := 15) hx hb dX5_init_21 (by decide) ?_
  refine naI hx hb (hts _ fX5_init_3) hK hP hD hS hA 15 (by decide) rfl (by decide) (Nat.le_of_ble_eq_true rfl) (Nat.le_of_ble_eq_true rfl) dX5_init_23 (fun q23 H hP hD hS => ?_)
  have hPD : PD G A [(h, .inr (7, [.int 0, .ref q7, .ref q15, .null, .null, .null, .null, .int 0])), (cI G q7 15 (fun _ => 0)), (cI G q15 15 (fun _ => 0)), (cI G q23 15 (fun _ => 0))] H := ⟨hP, hD⟩
  have hP := hPD.1
  have hD := hPD.2
  clear hPD
  refine va_putF (D := G.1) (ci := 7) (v := .ref q23) (ty := .array .int) (C := RX5) (T := TX5) (N := 8) hx hb hts iX5_init_X5 tyX5 tyX5_ok nmX5 hown hK hP hD hS 0 rfl rfl 3 (by decide) (hts _ fX5_init_7) (fun _ h9 => h9) rfl hin rfl (by decide +kernel) rfl rfl (Nat.le_of_ble_eq_true rfl) dX5_init_25 (fun H locs hP hD hS => ?_)
  have hPD : PD G A [(h, .inr (7, [.int 0, .ref q7, .ref q15, .ref q23, .null, .null, .null, .int 0])), (cI G q7 15 (fun _ => 0)), (cI G q15 15 (fun _ => 0)), (cI G q23 15 (fun _ => 0))] H := ⟨hP, hD⟩
  have hP := hPD.1
  have hD := hPD.2
  clear hPD
  refine lv_aload_n hx hb dX5_init_28 rfl (lv_at hl 0 rfl) ?_
  refine lv_bipush (v := 15) hx hb dX5_init_29 (by decide) ?_
  refine naI hx hb (hts _ fX5_init_3) hK hP hD hS hA 15 (by decide) rfl (by decide) (Nat.le_of_ble_eq_true rfl) (Nat.le_of_ble_eq_true rfl) dX5_init_31 (fun q31 H hP hD hS => ?_)
  have hPD : PD G A [(h, .inr (7, [.int 0, .ref q7, .ref q15, .ref q23, .null, .null, .null, .int 0])), (cI G q7 15 (fun _ => 0)), (cI G q15 15 (fun _ => 0)), (cI G q23 15 (fun _ => 0)), (cI G q31 15 (fun _ => 0))] H := ⟨hP, hD⟩
  have hP := hPD.1
  have hD := hPD.2
  clear hPD
  refine va_putF (D := G.1) (ci := 7) (v := .ref q31) (ty := .array .int) (C := RX5) (T := TX5) (N := 8) hx hb hts iX5_init_X5 tyX5 tyX5_ok nmX5 hown hK hP hD hS 0 rfl rfl 4 (by decide) (hts _ fX5_init_8) (fun _ h9 => h9) rfl hin rfl (by decide +kernel) rfl rfl (Nat.le_of_ble_eq_true rfl) dX5_init_33 (fun H locs hP hD hS => ?_)
  have hPD : PD G A [(h, .inr (7, [.int 0, .ref q7, .ref q15, .ref q23, .ref q31, .null, .null, .int 0])), (cI G q7 15 (fun _ => 0)), (cI G q15 15 (fun _ => 0)), (cI G q23 15 (fun _ => 0)), (cI G q31 15 (fun _ => 0))] H := ⟨hP, hD⟩
  have hP := hPD.1
  have hD := hPD.2
  clear hPD
  refine lv_aload_n hx hb dX5_init_36 rfl (lv_at hl 0 rfl) ?_
  refine lv_bipush (v := 15) hx hb dX5_init_37 (by decide) ?_
  refine naI hx hb (hts _ fX5_init_3) hK hP hD hS hA 15 (by decide) rfl (by decide) (Nat.le_of_ble_eq_true rfl) (Nat.le_of_ble_eq_true rfl) dX5_init_39 (fun q39 H hP hD hS => ?_)
  have hPD : PD G A [(h, .inr (7, [.int 0, .ref q7, .ref q15, .ref q23, .ref q31, .null, .null, .int 0])), (cI G q7 15 (fun _ => 0)), (cI G q15 15 (fun _ => 0)), (cI G q23 15 (fun _ => 0)), (cI G q31 15 (fun _ => 0)), (cI G q39 15 (fun _ => 0))] H := ⟨hP, hD⟩
  have hP := hPD.1
  have hD := hPD.2
  clear hPD
  refine va_putF (D := G.1) (ci := 7) (v := .ref q39) (ty := .array .int) (C := RX5) (T := TX5) (N := 8) hx hb hts iX5_init_X5 tyX5 tyX5_ok nmX5 hown hK hP hD hS 0 rfl rfl 5 (by decide) (hts _ fX5_init_9) (fun _ h9 => h9) rfl hin rfl (by decide +kernel) rfl rfl (Nat.le_of_ble_eq_true rfl) dX5_init_41 (fun H locs hP hD hS => ?_)
  have hPD : PD G A [(h, .inr (7, [.int 0, .ref q7, .ref q15, .ref q23, .ref q31, .ref q39, .null, .int 0])), (cI G q7 15 (fun _ => 0)), (cI G q15 15 (fun _ => 0)), (cI G q23 15 (fun _ => 0)), (cI G q31 15 (fun _ => 0)), (cI G q39 15 (fun _ => 0))] H := ⟨hP, hD⟩
  have hP := hPD.1
  have hD := hPD.2
  clear hPD
  refine lv_aload_n hx hb dX5_init_44 rfl (lv_at hl 0 rfl) ?_
  refine lv_bipush (v := 15) hx hb dX5_init_45 (by decide) ?_
  refine naI hx hb (hts _ fX5_init_3) hK hP hD hS hA 15 (by decide) rfl (by decide) (Nat.le_of_ble_eq_true rfl) (Nat.le_of_ble_eq_true rfl) dX5_init_47 (fun q47 H hP hD hS => ?_)
  have hPD : PD G A [(h, .inr (7, [.int 0, .ref q7, .ref q15, .ref q23, .ref q31, .ref q39, .null, .int 0])), (cI G q7 15 (fun _ => 0)), (cI G q15 15 (fun _ => 0)), (cI G q23 15 (fun _ => 0)), (cI G q31 15 (fun _ => 0)), (cI G q39 15 (fun _ => 0)), (cI G q47 15 (fun _ => 0))] H := ⟨hP, hD⟩
  have hP := hPD.1
  have hD := hPD.2
  clear hPD
  refine va_putF (D := G.1) (ci := 7) (v := .ref q47) (ty := .array .int) (C := RX5) (T := TX5) (N := 8) hx hb hts iX5_init_X5 tyX5 tyX5_ok nmX5 hown hK hP hD hS 0 rfl rfl 6 (by decide) (hts _ fX5_init_10) (fun _ h9 => h9) rfl hin rfl (by decide +kernel) rfl rfl (Nat.le_of_ble_eq_true rfl) dX5_init_49 (fun H locs hP hD hS => ?_)
  have hPD : PD G A [(oX5 h 0 q7 q15 q23 q31 q39 q47 0), (cI G q7 15 (fun _ => 0)), (cI G q15 15 (fun _ => 0)), (cI G q23 15 (fun _ => 0)), (cI G q31 15 (fun _ => 0)), (cI G q39 15 (fun _ => 0)), (cI G q47 15 (fun _ => 0))] H := ⟨hP, hD⟩
  have hP := hPD.1
  have hD := hPD.2
  clear hPD
  exact nret hx hb hr hlocks hS (pickA [0, 0, 0, q7, q15, q23, q31, q39, q47]) (trivial) hP hD (Nat.le_of_ble_eq_true rfl) (Nat.le_of_ble_eq_true rfl) dX5_init_52

theorem fX1_init_0 : Cond.methodLink RX1 3 objectInit ∈ wsX1_init := by decide +kernel
theorem fX1_init_1 : Cond.instanceMethod objectInit ∈ wsX1_init := by decide +kernel
theorem fX1_init_2 : Cond.code objectInit ⟨#[0xb1]⟩ 1 none ∈ wsX1_init := by decide +kernel
theorem fX1_init_3 : Cond.arrayClass .int ∈ wsX1_init := by decide +kernel
theorem iX1_init_X1 : ∀ w ∈ u_ws RX1 TX1 6, w ∈ wsX1_init := by decide +kernel
theorem fX1_init_5 : Cond.fieldLink RX1 9 "FeatureSolve$Formulas" "ops" "[I" ∈ wsX1_init := by decide +kernel
theorem fX1_init_6 : Cond.fieldLink RX1 15 "FeatureSolve$Formulas" "leftBits" "[I" ∈ wsX1_init := by decide +kernel
theorem fX1_init_7 : Cond.fieldLink RX1 18 "FeatureSolve$Formulas" "leftWants" "[I" ∈ wsX1_init := by decide +kernel
theorem fX1_init_8 : Cond.fieldLink RX1 21 "FeatureSolve$Formulas" "rightBits" "[I" ∈ wsX1_init := by decide +kernel
theorem fX1_init_9 : Cond.fieldLink RX1 24 "FeatureSolve$Formulas" "rightWants" "[I" ∈ wsX1_init := by decide +kernel
set_option maxHeartbeats 4000000 in
set_option maxRecDepth 100000 in
/-- Formulas() -/
theorem c_X1_init (l : Launch) (G : GG) (h sz : Nat) : Met l yX1_init wsX1_init (rmI 1 5 200) (va_Pc [.ref h] (PnW G [(h, .inr (3, [.int 0, .null, .null, .null, .null, .null]))] sz)) (QnW G (va_A [(h, .inr (3, [.int 0, .null, .null, .null, .null, .null]))] sz) (fun u : Nat → Nat => True) (fun u => [(oX1 h 0 (u 10) (u 11) (u 12) (u 13) (u 14)), (cI G (u 10) 40 (fun _ => 0)), (cI G (u 11) 40 (fun _ => 0)), (cI G (u 12) 40 (fun _ => 0)), (cI G (u 13) 40 (fun _ => 0)), (cI G (u 14) 40 (fun _ => 0))])) 5 200 (va_A [(h, .inr (3, [.int 0, .null, .null, .null, .null, .null]))] sz) := by
  refine Met.ofW (cc := cX1_init) (maxL := 1) (ret := none) (by decide) rfl ?_
  intro p e s m args below meth c s₁ B hml hv
  obtain ⟨rfl, hsz, hP, hD0, hKK⟩ := hv
  have hx := B.exec
  have hb := B.bytes
  have hr := B.returns
  have hts := atoms_spec (ws := wsX1_init) B.pre
  have hown : s.vm.findClass RX1 = some m.cls := findClass_of_methodNamed B.named
  have hlocks := B.notSynchronized
  have hK := hKK.1
  have hin : meth.name = "<init>" := (name_of_methodNamed B.named B.method).1
  subst hsz
  have hD := hD0.self (sz := s.heap.size)
  generalize hAe : va_A [(h, .inr (3, [.int 0, .null, .null, .null, .null, .null]))] s.heap.size = A at hD ⊢
  have hA : ∀ q : Nat, s.heap.size ≤ q → A q := fun q h => by rw [← hAe]; exact Or.inr h
  have hS : va_S A s.heap s.heap [] := va_S.rf
  have hP : va_P G.1 vwCl [(h, .inr (3, [.int 0, .null, .null, .null, .null, .null]))] s.heap := hP
  have hl := lv_entry ([.ref h]) (n := 1) (Nat.le_of_ble_eq_true rfl)
  rw [lg_entry_eq]
  generalize (lg_sl ([.ref h]) ++ List.replicate (1 - (lg_sl ([.ref h])).length) Slot.unset).toArray = ls at hl ⊢
  have hl : lv_has ls 1 [(0, .ref h)] := hl
  refine lv_aload_n hx hb dX1_init_0 rfl (lv_at hl 0 rfl) ?_
  refine W.objInit hx hb hown (hts _ fX1_init_0) (hts _ fX1_init_1) (hts _ fX1_init_2) rfl (by rw [hml]; exact hl.1) rfl dX1_init_1 (Nat.le_of_ble_eq_true rfl) (Nat.le_of_ble_eq_true rfl) ?_
  refine W.eq (g2 := F0 m 4 ls []) rfl ?_
  refine lv_aload_n hx hb dX1_init_4 rfl (lv_at hl 0 rfl) ?_
  refine lv_bipush (v := 40) hx hb dX1_init_5 (by decide) ?_
  refine naI hx hb (hts _ fX1_init_3) hK hP hD hS hA 40 (by decide) rfl (by decide) (Nat.le_of_ble_eq_true rfl) (Nat.le_of_ble_eq_true rfl) dX1_init_7 (fun q7 H hP hD hS => ?_)
  have hPD : PD G A [(h, .inr (3, [.int 0, .null, .null, .null, .null, .null])), (cI G q7 40 (fun _ => 0))] H := ⟨hP, hD⟩
  have hP := hPD.1
  have hD := hPD.2
  clear hPD
  refine va_putF (D := G.1) (ci := 3) (v := .ref q7) (ty := .array .int) (C := RX1) (T := TX1) (N := 6) hx hb hts iX1_init_X1 tyX1 tyX1_ok nmX1 hown hK hP hD hS 0 rfl rfl 1 (by decide) (hts _ fX1_init_5) (fun _ h9 => h9) rfl hin rfl (by decide +kernel) rfl rfl (Nat.le_of_ble_eq_true rfl) dX1_init_9 (fun H locs hP hD hS => ?_)
  have hPD : PD G A [(h, .inr (3, [.int 0, .ref q7, .null, .null, .null, .null])), (cI G q7 40 (fun _ => 0))] H := ⟨hP, hD⟩
  have hP := hPD.1
  have hD := hPD.2
  clear hPD
  refine lv_aload_n hx hb dX1_init_12 rfl (lv_at hl 0 rfl) ?_
  refine lv_bipush (v := 40) hx hb dX1_init_13 (by decide) ?_
  refine naI hx hb (hts _ fX1_init_3) hK hP hD hS hA 40 (by decide) rfl (by decide) (Nat.le_of_ble_eq_true rfl) (Nat.le_of_ble_eq_true rfl) dX1_init_15 (fun q15 H hP hD hS => ?_)
  have hPD : PD G A [(h, .inr (3, [.int 0, .ref q7, .null, .null, .null, .null])), (cI G q7 40 (fun _ => 0)), (cI G q15 40 (fun _ => 0))] H := ⟨hP, hD⟩
  have hP := hPD.1
  have hD := hPD.2
  clear hPD
  refine va_putF (D := G.1) (ci := 3) (v := .ref q15) (ty := .array .int) (C := RX1) (T := TX1) (N := 6) hx hb hts iX1_init_X1 tyX1 tyX1_ok nmX1 hown hK hP hD hS 0 rfl rfl 2 (by decide) (hts _ fX1_init_6) (fun _ h9 => h9) rfl hin rfl (by decide +kernel) rfl rfl (Nat.le_of_ble_eq_true rfl) dX1_init_17 (fun H locs hP hD hS => ?_)
  have hPD : PD G A [(h, .inr (3, [.int 0, .ref q7, .ref q15, .null, .null, .null])), (cI G q7 40 (fun _ => 0)), (cI G q15 40 (fun _ => 0))] H := ⟨hP, hD⟩
  have hP := hPD.1
  have hD := hPD.2
  clear hPD
  refine lv_aload_n hx hb dX1_init_20 rfl (lv_at hl 0 rfl) ?_
  refine lv_bipush (v := 40) hx hb dX1_init_21 (by decide) ?_
  refine naI hx hb (hts _ fX1_init_3) hK hP hD hS hA 40 (by decide) rfl (by decide) (Nat.le_of_ble_eq_true rfl) (Nat.le_of_ble_eq_true rfl) dX1_init_23 (fun q23 H hP hD hS => ?_)
  have hPD : PD G A [(h, .inr (3, [.int 0, .ref q7, .ref q15, .null, .null, .null])), (cI G q7 40 (fun _ => 0)), (cI G q15 40 (fun _ => 0)), (cI G q23 40 (fun _ => 0))] H := ⟨hP, hD⟩
  have hP := hPD.1
  have hD := hPD.2
  clear hPD
  refine va_putF (D := G.1) (ci := 3) (v := .ref q23) (ty := .array .int) (C := RX1) (T := TX1) (N := 6) hx hb hts iX1_init_X1 tyX1 tyX1_ok nmX1 hown hK hP hD hS 0 rfl rfl 3 (by decide) (hts _ fX1_init_7) (fun _ h9 => h9) rfl hin rfl (by decide +kernel) rfl rfl (Nat.le_of_ble_eq_true rfl) dX1_init_25 (fun H locs hP hD hS => ?_)
  have hPD : PD G A [(h, .inr (3, [.int 0, .ref q7, .ref q15, .ref q23, .null, .null])), (cI G q7 40 (fun _ => 0)), (cI G q15 40 (fun _ => 0)), (cI G q23 40 (fun _ => 0))] H := ⟨hP, hD⟩
  have hP := hPD.1
  have hD := hPD.2
  clear hPD
  refine lv_aload_n hx hb dX1_init_28 rfl (lv_at hl 0 rfl) ?_
  refine lv_bipush (v := 40) hx hb dX1_init_29 (by decide) ?_
  refine naI hx hb (hts _ fX1_init_3) hK hP hD hS hA 40 (by decide) rfl (by decide) (Nat.le_of_ble_eq_true rfl) (Nat.le_of_ble_eq_true rfl) dX1_init_31 (fun q31 H hP hD hS => ?_)
  have hPD : PD G A [(h, .inr (3, [.int 0, .ref q7, .ref q15, .ref q23, .null, .null])), (cI G q7 40 (fun _ => 0)), (cI G q15 40 (fun _ => 0)), (cI G q23 40 (fun _ => 0)), (cI G q31 40 (fun _ => 0))] H := ⟨hP, hD⟩
  have hP := hPD.1
  have hD := hPD.2
  clear hPD
  refine va_putF (D := G.1) (ci := 3) (v := .ref q31) (ty := .array .int) (C := RX1) (T := TX1) (N := 6) hx hb hts iX1_init_X1 tyX1 tyX1_ok nmX1 hown hK hP hD hS 0 rfl rfl 4 (by decide) (hts _ fX1_init_8) (fun _ h9 => h9) rfl hin rfl (by decide +kernel) rfl rfl (Nat.le_of_ble_eq_true rfl) dX1_init_33 (fun H locs hP hD hS => ?_)
  have hPD : PD G A [(h, .inr (3, [.int 0, .ref q7, .ref q15, .ref q23, .ref q31, .null])), (cI G q7 40 (fun _ => 0)), (cI G q15 40 (fun _ => 0)), (cI G q23 40 (fun _ => 0)), (cI G q31 40 (fun _ => 0))] H := ⟨hP, hD⟩
  have hP := hPD.1
  have hD := hPD.2
  clear hPD
  refine lv_aload_n hx hb dX1_init_36 rfl (lv_at hl 0 rfl) ?_
  refine lv_bipush (v := 40) hx hb dX1_init_37 (by decide) ?_
  refine naI hx hb (hts _ fX1_init_3) hK hP hD hS hA 40 (by decide) rfl (by decide) (Nat.le_of_ble_eq_true rfl) (Nat.le_of_ble_eq_true rfl) dX1_init_39 (fun q39 H hP hD hS => ?_)
  have hPD : PD G A [(h, .inr (3, [.int 0, .ref q7, .ref q15, .ref q23, .ref q31, .null])), (cI G q7 40 (fun _ => 0)), (cI G q15 40 (fun _ => 0)), (cI G q23 40 (fun _ => 0)), (cI G q31 40 (fun _ => 0)), (cI G q39 40 (fun _ => 0))] H := ⟨hP, hD⟩
  have hP := hPD.1
  have hD := hPD.2
  clear hPD
  refine va_putF (D := G.1) (ci := 3) (v := .ref q39) (ty := .array .int) (C := RX1) (T := TX1) (N := 6) hx hb hts iX1_init_X1 tyX1 tyX1_ok nmX1 hown hK hP hD hS 0 rfl rfl 5 (by decide) (hts _ fX1_init_9) (fun _ h9 => h9) rfl hin rfl (by decide +kernel) rfl rfl (Nat.le_of_ble_eq_true rfl) dX1_init_41 (fun H locs hP hD hS => ?_)
  have hPD : PD G A [(oX1 h 0 q7 q15 q23 q31 q39), (cI G q7 40 (fun _ => 0)), (cI G q15 40 (fun _ => 0)), (cI G q23 40 (fun _ => 0)), (cI G q31 40 (fun _ => 0)), (cI G q39 40 (fun _ => 0))] H := ⟨hP, hD⟩
  have hP := hPD.1
  have hD := hPD.2
  clear hPD
  exact nret hx hb hr hlocks hS (pickA [0, 0, 0, 0, 0, 0, 0, 0, 0, 0, q7, q15, q23, q31, q39]) (trivial) hP hD (Nat.le_of_ble_eq_true rfl) (Nat.le_of_ble_eq_true rfl) dX1_init_44

theorem fX4_init_0 : Cond.methodLink RX4 3 objectInit ∈ wsX4_init := by decide +kernel
theorem fX4_init_1 : Cond.instanceMethod objectInit ∈ wsX4_init := by decide +kernel
theorem fX4_init_2 : Cond.code objectInit ⟨#[0xb1]⟩ 1 none ∈ wsX4_init := by decide +kernel
theorem fX4_init_3 : Cond.arrayClass .int ∈ wsX4_init := by decide +kernel
theorem iX4_init_X4 : ∀ w ∈ u_ws RX4 TX4 2, w ∈ wsX4_init := by decide +kernel
theorem fX4_init_5 : Cond.fieldLink RX4 11 "FeatureSolve$Sums" "values" "[I" ∈ wsX4_init := by decide +kernel
theorem fX4_init_6 : Cond.fieldLink RX4 15 "FeatureSolve$Sums" "limits" "[I" ∈ wsX4_init := by decide +kernel
set_option maxHeartbeats 4000000 in
set_option maxRecDepth 100000 in
/-- Sums() -/
theorem c_X4_init (l : Launch) (G : GG) (h sz : Nat) : Met l yX4_init wsX4_init (rmI 1 2 64) (va_Pc [.ref h] (PnW G [(h, .inr (6, [.null, .null]))] sz)) (QnW G (va_A [(h, .inr (6, [.null, .null]))] sz) (fun u : Nat → Nat => True) (fun u => [(oX4 h (u 16) (u 17)), (cI G (u 16) 60 (fun _ => 0)), (cI G (u 17) 4 (upd (upd (upd (upd (fun _ => 0) 0 14000) 1 14000) 2 14000) 3 14000))])) 2 64 (va_A [(h, .inr (6, [.null, .null]))] sz) := by
  refine Met.ofW (cc := cX4_init) (maxL := 1) (ret := none) (by decide) rfl ?_
  intro p e s m args below meth c s₁ B hml hv
  obtain ⟨rfl, hsz, hP, hD0, hKK⟩ := hv
  have hx := B.exec
  have hb := B.bytes
  have hr := B.returns
  have hts := atoms_spec (ws := wsX4_init) B.pre
  have hown : s.vm.findClass RX4 = some m.cls := findClass_of_methodNamed B.named
  have hlocks := B.notSynchronized
  have hK := hKK.1
  have hin : meth.name = "<init>" := (name_of_methodNamed B.named B.method).1
  subst hsz
  have hD := hD0.self (sz := s.heap.size)
  generalize hAe : va_A [(h, .inr (6, [.null, .null]))] s.heap.size = A at hD ⊢
  have hA : ∀ q : Nat, s.heap.size ≤ q → A q := fun q h => by rw [← hAe]; exact Or.inr h
  have hS : va_S A s.heap s.heap [] := va_S.rf
  have hP : va_P G.1 vwCl [(h, .inr (6, [.null, .null]))] s.heap := hP
  have hl := lv_entry ([.ref h]) (n := 1) (Nat.le_of_ble_eq_true rfl)
  rw [lg_entry_eq]
  generalize (lg_sl ([.ref h]) ++ List.replicate (1 - (lg_sl ([.ref h])).length) Slot.unset).toArray = ls at hl ⊢
  have hl : lv_has ls 1 [(0, .ref h)] := hl
  refine lv_aload_n hx hb dX4_init_0 rfl (lv_at hl 0 rfl) ?_
  refine W.objInit hx hb hown (hts _ fX4_init_0) (hts _ fX4_init_1) (hts _ fX4_init_2) rfl (by rw [hml]; exact hl.1) rfl dX4_init_1 (Nat.le_of_ble_eq_true rfl) (Nat.le_of_ble_eq_true rfl) ?_
  refine W.eq (g2 := F0 m 4 ls []) rfl ?_
  refine lv_aload_n hx hb dX4_init_4 rfl (lv_at hl 0 rfl) ?_
  refine lv_bipush (v := 60) hx hb dX4_init_5 (by decide) ?_
  refine naI hx hb (hts _ fX4_init_3) hK hP hD hS hA 60 (by decide) rfl (by decide) (Nat.le_of_ble_eq_true rfl) (Nat.le_of_ble_eq_true rfl) dX4_init_7 (fun q7 H hP hD hS => ?_)
  have hPD : PD G A [(h, .inr (6, [.null, .null])), (cI G q7 60 (fun _ => 0))] H := ⟨hP, hD⟩
  have hP := hPD.1
  have hD := hPD.2
  clear hPD
  refine va_putF (D := G.1) (ci := 6) (v := .ref q7) (ty := .array .int) (C := RX4) (T := TX4) (N := 2) hx hb hts iX4_init_X4 tyX4 tyX4_ok nmX4 hown hK hP hD hS 0 rfl rfl 0 (by decide) (hts _ fX4_init_5) (fun _ h9 => h9) rfl hin rfl (by decide +kernel) rfl rfl (Nat.le_of_ble_eq_true rfl) dX4_init_9 (fun H locs hP hD hS => ?_)
  have hPD : PD G A [(h, .inr (6, [.ref q7, .null])), (cI G q7 60 (fun _ => 0))] H := ⟨hP, hD⟩
  have hP := hPD.1
  have hD := hPD.2
  clear hPD
  refine lv_aload_n hx hb dX4_init_12 rfl (lv_at hl 0 rfl) ?_
  refine lv_iconst (v := 4) hx hb dX4_init_13 (by decide) ?_
  refine naI hx hb (hts _ fX4_init_3) hK hP hD hS hA 4 (by decide) rfl (by decide) (Nat.le_of_ble_eq_true rfl) (Nat.le_of_ble_eq_true rfl) dX4_init_14 (fun q14 H hP hD hS => ?_)
  have hPD : PD G A [(h, .inr (6, [.ref q7, .null])), (cI G q7 60 (fun _ => 0)), (cI G q14 4 (fun _ => 0))] H := ⟨hP, hD⟩
  have hP := hPD.1
  have hD := hPD.2
  clear hPD
  refine lv_dup hx hb dX4_init_16 rfl ?_
  refine lv_iconst (v := 0) hx hb dX4_init_17 (by decide) ?_
  refine lv_sipush (v := 14000) hx hb dX4_init_18 (by decide) ?_
  refine astI hx hb hK hP hD hS 2 (k := 0) rfl (rfl) (by decide) (by decide) dX4_init_21 (fun H locs hP hD hS => ?_)
  have hPD : PD G A [(h, .inr (6, [.ref q7, .null])), (cI G q7 60 (fun _ => 0)), (cI G q14 4 (upd (fun _ => 0) 0 14000))] H := ⟨hP, hD⟩
  have hP := hPD.1
  have hD := hPD.2
  clear hPD
  refine lv_dup hx hb dX4_init_22 rfl ?_
  refine lv_iconst (v := 1) hx hb dX4_init_23 (by decide) ?_
  refine lv_sipush (v := 14000) hx hb dX4_init_24 (by decide) ?_
  refine astI hx hb hK hP hD hS 2 (k := 1) rfl (rfl) (by decide) (by decide) dX4_init_27 (fun H locs hP hD hS => ?_)
  have hPD : PD G A [(h, .inr (6, [.ref q7, .null])), (cI G q7 60 (fun _ => 0)), (cI G q14 4 (upd (upd (fun _ => 0) 0 14000) 1 14000))] H := ⟨hP, hD⟩
  have hP := hPD.1
  have hD := hPD.2
  clear hPD
  refine lv_dup hx hb dX4_init_28 rfl ?_
  refine lv_iconst (v := 2) hx hb dX4_init_29 (by decide) ?_
  refine lv_sipush (v := 14000) hx hb dX4_init_30 (by decide) ?_
  refine astI hx hb hK hP hD hS 2 (k := 2) rfl (rfl) (by decide) (by decide) dX4_init_33 (fun H locs hP hD hS => ?_)
  have hPD : PD G A [(h, .inr (6, [.ref q7, .null])), (cI G q7 60 (fun _ => 0)), (cI G q14 4 (upd (upd (upd (fun _ => 0) 0 14000) 1 14000) 2 14000))] H := ⟨hP, hD⟩
  have hP := hPD.1
  have hD := hPD.2
  clear hPD
  refine lv_dup hx hb dX4_init_34 rfl ?_
  refine lv_iconst (v := 3) hx hb dX4_init_35 (by decide) ?_
  refine lv_sipush (v := 14000) hx hb dX4_init_36 (by decide) ?_
  refine astI hx hb hK hP hD hS 2 (k := 3) rfl (rfl) (by decide) (by decide) dX4_init_39 (fun H locs hP hD hS => ?_)
  have hPD : PD G A [(h, .inr (6, [.ref q7, .null])), (cI G q7 60 (fun _ => 0)), (cI G q14 4 (upd (upd (upd (upd (fun _ => 0) 0 14000) 1 14000) 2 14000) 3 14000))] H := ⟨hP, hD⟩
  have hP := hPD.1
  have hD := hPD.2
  clear hPD
  refine va_putF (D := G.1) (ci := 6) (v := .ref q14) (ty := .array .int) (C := RX4) (T := TX4) (N := 2) hx hb hts iX4_init_X4 tyX4 tyX4_ok nmX4 hown hK hP hD hS 0 rfl rfl 1 (by decide) (hts _ fX4_init_6) (fun _ h9 => h9) rfl hin rfl (by decide +kernel) rfl rfl (Nat.le_of_ble_eq_true rfl) dX4_init_40 (fun H locs hP hD hS => ?_)
  have hPD : PD G A [(oX4 h q7 q14), (cI G q7 60 (fun _ => 0)), (cI G q14 4 (upd (upd (upd (upd (fun _ => 0) 0 14000) 1 14000) 2 14000) 3 14000))] H := ⟨hP, hD⟩
  have hP := hPD.1
  have hD := hPD.2
  clear hPD
  exact nret hx hb hr hlocks hS (pickA [0, 0, 0, 0, 0, 0, 0, 0, 0, 0, 0, 0, 0, 0, 0, 0, q7, q14]) (trivial) hP hD (Nat.le_of_ble_eq_true rfl) (Nat.le_of_ble_eq_true rfl) dX4_init_43

theorem fX6_init_0 : Cond.methodLink RX6 3 objectInit ∈ wsX6_init := by decide +kernel
theorem fX6_init_1 : Cond.instanceMethod objectInit ∈ wsX6_init := by decide +kernel
theorem fX6_init_2 : Cond.code objectInit ⟨#[0xb1]⟩ 1 none ∈ wsX6_init := by decide +kernel
theorem iX6_init_X5 : ∀ w ∈ u_ws RX5 TX5 8, w ∈ wsX6_init := by decide +kernel
theorem fX6_init_4 : Cond.classLink RX6 9 RX5 ∈ wsX6_init := by decide +kernel
theorem fX6_init_5 : Cond.instantiable RX5 8 ∈ wsX6_init := by decide +kernel
theorem fX6_init_6 : Cond.initialized RX5 ∈ wsX6_init := by decide +kernel
theorem hd_X5_init : yX5_init.cls ≠ "java/lang/invoke/MethodHandle" ∧ yX5_init.cls ≠ "java/lang/invoke/VarHandle" ∧ (parseMethodDescriptor yX5_init.desc).map (fun d => d.parameters.length) = some 0 := by decide +kernel
theorem fX6_init_7 : Cond.instanceMethod yX5_init ∈ wsX6_init := by decide +kernel
theorem iX6_init_X6 : ∀ w ∈ u_ws RX6 TX6 6, w ∈ wsX6_init := by decide +kernel
theorem fX6_init_9 : Cond.fieldLink RX6 12 "FeatureSolve$Variants" "tree" "LFeatureSolve$Tree;" ∈ wsX6_init := by decide +kernel
theorem iX6_init_X1 : ∀ w ∈ u_ws RX1 TX1 6, w ∈ wsX6_init := by decide +kernel
theorem fX6_init_11 : Cond.classLink RX6 18 RX1 ∈ wsX6_init := by decide +kernel
theorem fX6_init_12 : Cond.instantiable RX1 6 ∈ wsX6_init := by decide +kernel
theorem fX6_init_13 : Cond.initialized RX1 ∈ wsX6_init := by decide +kernel
theorem hd_X1_init : yX1_init.cls ≠ "java/lang/invoke/MethodHandle" ∧ yX1_init.cls ≠ "java/lang/invoke/VarHandle" ∧ (parseMethodDescriptor yX1_init.desc).map (fun d => d.parameters.length) = some 0 := by decide +kernel
theorem fX6_init_14 : Cond.instanceMethod yX1_init ∈ wsX6_init := by decide +kernel
theorem fX6_init_15 : Cond.fieldLink RX6 21 "FeatureSolve$Variants" "formulas" "LFeatureSolve$Formulas;" ∈ wsX6_init := by decide +kernel
theorem iX6_init_X4 : ∀ w ∈ u_ws RX4 TX4 2, w ∈ wsX6_init := by decide +kernel
theorem fX6_init_17 : Cond.classLink RX6 25 RX4 ∈ wsX6_init := by decide +kernel
theorem fX6_init_18 : Cond.instantiable RX4 2 ∈ wsX6_init := by decide +kernel
theorem fX6_init_19 : Cond.initialized RX4 ∈ wsX6_init := by decide +kernel
theorem hd_X4_init : yX4_init.cls ≠ "java/lang/invoke/MethodHandle" ∧ yX4_init.cls ≠ "java/lang/invoke/VarHandle" ∧ (parseMethodDescriptor yX4_init.desc).map (fun d => d.parameters.length) = some 0 := by decide +kernel
theorem fX6_init_20 : Cond.instanceMethod yX4_init ∈ wsX6_init := by decide +kernel
theorem fX6_init_21 : Cond.fieldLink RX6 28 "FeatureSolve$Variants" "sums" "LFeatureSolve$Sums;" ∈ wsX6_init := by decide +kernel
theorem fX6_init_22 : Cond.arrayClass .int ∈ wsX6_init := by decide +kernel
theorem fX6_init_23 : Cond.fieldLink RX6 32 "FeatureSolve$Variants" "row" "[I" ∈ wsX6_init := by decide +kernel
set_option maxHeartbeats 4000000 in
set_option maxRecDepth 100000 in
/-- Variants() -/
theorem c_X6_init (l : Launch) (G : GG) (h sz : Nat) : Met l yX6_init wsX6_init (rmI 2 17 8562) (va_Pc [.ref h] (PnW G [(h, .inr (8, [.null, .null, .null, .null, .int 0, .int 0]))] sz)) (QnW G (va_A [(h, .inr (8, [.null, .null, .null, .null, .int 0, .int 0]))] sz) (fun u : Nat → Nat => True) (fun u => [(oX6 h (u 2) (u 9) (u 15) (u 18) 0 0), (oX5 (u 2) 0 (u 3) (u 4) (u 5) (u 6) (u 7) (u 8) 0), (cI G (u 3) 15 (fun _ => 0)), (cI G (u 4) 15 (fun _ => 0)), (cI G (u 5) 15 (fun _ => 0)), (cI G (u 6) 15 (fun _ => 0)), (cI G (u 7) 15 (fun _ => 0)), (cI G (u 8) 15 (fun _ => 0)), (oX1 (u 9) 0 (u 10) (u 11) (u 12) (u 13) (u 14)), (cI G (u 10) 40 (fun _ => 0)), (cI G (u 11) 40 (fun _ => 0)), (cI G (u 12) 40 (fun _ => 0)), (cI G (u 13) 40 (fun _ => 0)), (cI G (u 14) 40 (fun _ => 0)), (oX4 (u 15) (u 16) (u 17)), (cI G (u 16) 60 (fun _ => 0)), (cI G (u 17) 4 (upd (upd (upd (upd (fun _ => 0) 0 14000) 1 14000) 2 14000) 3 14000)), (cI G (u 18) 8192 (fun _ => 0))])) 17 8562 (va_A [(h, .inr (8, [.null, .null, .null, .null, .int 0, .int 0]))] sz) := by
  refine Met.ofW (cc := cX6_init) (maxL := 1) (ret := none) (by decide) rfl ?_
  intro p e s m args below meth c s₁ B hml hv
  obtain ⟨rfl, hsz, hP, hD0, hKK⟩ := hv
  have hx := B.exec
  have hb := B.bytes
  have hr := B.returns
  have hts := atoms_spec (ws := wsX6_init) B.pre
  have hown : s.vm.findClass RX6 = some m.cls := findClass_of_methodNamed B.named
  have hlocks := B.notSynchronized
  have hK := hKK.1
  have hin : meth.name = "<init>" := (name_of_methodNamed B.named B.method).1
  subst hsz
  have hD := hD0.self (sz := s.heap.size)
  generalize hAe : va_A [(h, .inr (8, [.null, .null, .null, .null, .int 0, .int 0]))] s.heap.size = A at hD ⊢
  have hA : ∀ q : Nat, s.heap.size ≤ q → A q := fun q h => by rw [← hAe]; exact Or.inr h
  have hS : va_S A s.heap s.heap [] := va_S.rf
  have hP : va_P G.1 vwCl [(h, .inr (8, [.null, .null, .null, .null, .int 0, .int 0]))] s.heap := hP
  have hl := lv_entry ([.ref h]) (n := 1) (Nat.le_of_ble_eq_true rfl)
  rw [lg_entry_eq]
  generalize (lg_sl ([.ref h]) ++ List.replicate (1 - (lg_sl ([.ref h])).length) Slot.unset).toArray = ls at hl ⊢
  have hl : lv_has ls 1 [(0, .ref h)] := hl
  refine lv_aload_n hx hb dX6_init_0 rfl (lv_at hl 0 rfl) ?_
  refine W.objInit hx hb hown (hts _ fX6_init_0) (hts _ fX6_init_1) (hts _ fX6_init_2) rfl (by rw [hml]; exact hl.1) rfl dX6_init_1 (Nat.le_of_ble_eq_true rfl) (Nat.le_of_ble_eq_true rfl) ?_
  refine W.eq (g2 := F0 m 4 ls []) rfl ?_
  refine lv_aload_n hx hb dX6_init_4 rfl (lv_at hl 0 rfl) ?_
  refine va_new (ci := 7) (fs := [.int 0, .null, .null, .null, .null, .null, .null, .int 0]) (C := RX5) (T := TX5) (N := 8) hx hb hts iX6_init_X5 tyX5 tyX5_ok hown (hts _ fX6_init_4) (hts _ fX6_init_5) (hts _ fX6_init_6) hK hP hD hS hA rfl (fun j hj => by rcases (show j = 0 ∨ j = 1 ∨ j = 2 ∨ j = 3 ∨ j = 4 ∨ j = 5 ∨ j = 6 ∨ j = 7 by omega) with rfl | rfl | rfl | rfl | rfl | rfl | rfl | rfl <;> rfl) (Nat.le_of_ble_eq_true rfl) (Nat.le_of_ble_eq_true rfl) dX6_init_5 (fun q5 H hP hD hS => ?_)
  have hPD : PD G A [(h, .inr (8, [.null, .null, .null, .null, .int 0, .int 0])), (q5, .inr (7, [.int 0, .null, .null, .null, .null, .null, .null, .int 0]))] H := ⟨hP, hD⟩
  have hP := hPD.1
  have hD := hPD.2
  clear hPD
  refine lv_dup hx hb dX6_init_8 rfl ?_
  refine cnI (rest := [.ref q5, .ref h]) ⟨hx, hb, hml, hown, hts⟩ (c_X5_init l G q5) ⟨va_cnB (own := RX6) (host := RX7) (index := 11) (y := yX5_init) 0 hts gX6_init_X5_init_n11 rfl rfl rfl (hKK.2.nth 1 (q := (RX6, 11, yX5_init)) rfl) (hts _ fX6_init_6) hd_X5_init ⟨(Nat.le_of_ble_eq_true rfl), (Nat.le_of_ble_eq_true rfl)⟩, rfl, (hts _ fX6_init_7)⟩ hKK hP hD hS hA [1] [0] (wr := [(h, .inr (8, [.null, .null, .null, .null, .int 0, .int 0]))]) rfl rfl (by decide) (by decide) (by decide) hl.1 (Nat.le_of_ble_eq_true rfl) dX6_init_9 ⟨(Nat.le_of_ble_eq_true rfl), (Nat.le_of_ble_eq_true rfl)⟩ (fun t9 H locs _ hP hD hS => ?_)
  have hPD : PD G A [(h, .inr (8, [.null, .null, .null, .null, .int 0, .int 0])), (oX5 q5 0 (t9 3) (t9 4) (t9 5) (t9 6) (t9 7) (t9 8) 0), (cI G (t9 3) 15 (fun _ => 0)), (cI G (t9 4) 15 (fun _ => 0)), (cI G (t9 5) 15 (fun _ => 0)), (cI G (t9 6) 15 (fun _ => 0)), (cI G (t9 7) 15 (fun _ => 0)), (cI G (t9 8) 15 (fun _ => 0))] H := ⟨hP, hD⟩
  have hP := hPD.1
  have hD := hPD.2
  clear hPD
  refine va_putF (D := G.1) (ci := 8) (v := .ref q5) (ty := .object "FeatureSolve$Tree") (C := RX6) (T := TX6) (N := 6) hx hb hts iX6_init_X6 tyX6 tyX6_ok nmX6 hown hK hP hD hS 0 rfl rfl 0 (by decide) (hts _ fX6_init_9) (fun _ h9 => h9) rfl hin rfl (by decide +kernel) rfl rfl (Nat.le_of_ble_eq_true rfl) dX6_init_12 (fun H locs hP hD hS => ?_)
  have hPD : PD G A [(h, .inr (8, [.ref q5, .null, .null, .null, .int 0, .int 0])), (oX5 q5 0 (t9 3) (t9 4) (t9 5) (t9 6) (t9 7) (t9 8) 0), (cI G (t9 3) 15 (fun _ => 0)), (cI G (t9 4) 15 (fun _ => 0)), (cI G (t9 5) 15 (fun _ => 0)), (cI G (t9 6) 15 (fun _ => 0)), (cI G (t9 7) 15 (fun _ => 0)), (cI G (t9 8) 15 (fun _ => 0))] H := ⟨hP, hD⟩
  have hP := hPD.1
  have hD := hPD.2
  clear hPD
  refine lv_aload_n hx hb dX6_init_15 rfl (lv_at hl 0 rfl) ?_
  refine va_new (ci := 3) (fs := [.int 0, .null, .null, .null, .null, .null]) (C := RX1) (T := TX1) (N := 6) hx hb hts iX6_init_X1 tyX1 tyX1_ok hown (hts _ fX6_init_11) (hts _ fX6_init_12) (hts _ fX6_init_13) hK hP hD hS hA rfl (fun j hj => by rcases (show j = 0 ∨ j = 1 ∨ j = 2 ∨ j = 3 ∨ j = 4 ∨ j = 5 by omega) with rfl | rfl | rfl | rfl | rfl | rfl <;> rfl) (Nat.le_of_ble_eq_true rfl) (Nat.le_of_ble_eq_true rfl) dX6_init_16 (fun q16 H hP hD hS => ?_)
  have hPD : PD G A [(h, .inr (8, [.ref q5, .null, .null, .null, .int 0, .int 0])), (oX5 q5 0 (t9 3) (t9 4) (t9 5) (t9 6) (t9 7) (t9 8) 0), (cI G (t9 3) 15 (fun _ => 0)), (cI G (t9 4) 15 (fun _ => 0)), (cI G (t9 5) 15 (fun _ => 0)), (cI G (t9 6) 15 (fun _ => 0)), (cI G (t9 7) 15 (fun _ => 0)), (cI G (t9 8) 15 (fun _ => 0)), (q16, .inr (3, [.int 0, .null, .null, .null, .null, .null]))] H := ⟨hP, hD⟩
  have hP := hPD.1
  have hD := hPD.2
  clear hPD
  refine lv_dup hx hb dX6_init_19 rfl ?_
  refine cnI (rest := [.ref q16, .ref h]) ⟨hx, hb, hml, hown, hts⟩ (c_X1_init l G q16) ⟨va_cnB (own := RX6) (host := RX7) (index := 20) (y := yX1_init) 0 hts gX6_init_X1_init_n20 rfl rfl rfl (hKK.2.nth 2 (q := (RX6, 20, yX1_init)) rfl) (hts _ fX6_init_13) hd_X1_init ⟨(Nat.le_of_ble_eq_true rfl), (Nat.le_of_ble_eq_true rfl)⟩, rfl, (hts _ fX6_init_14)⟩ hKK hP hD hS hA [8] [0, 1, 2, 3, 4, 5, 6, 7] (wr := [(h, .inr (8, [.ref q5, .null, .null, .null, .int 0, .int 0])), (oX5 q5 0 (t9 3) (t9 4) (t9 5) (t9 6) (t9 7) (t9 8) 0), (cI G (t9 3) 15 (fun _ => 0)), (cI G (t9 4) 15 (fun _ => 0)), (cI G (t9 5) 15 (fun _ => 0)), (cI G (t9 6) 15 (fun _ => 0)), (cI G (t9 7) 15 (fun _ => 0)), (cI G (t9 8) 15 (fun _ => 0))]) rfl rfl (by decide) (by decide) (by decide) hl.1 (Nat.le_of_ble_eq_true rfl) dX6_init_20 ⟨(Nat.le_of_ble_eq_true rfl), (Nat.le_of_ble_eq_true rfl)⟩ (fun t20 H locs _ hP hD hS => ?_)
  have hPD : PD G A [(h, .inr (8, [.ref q5, .null, .null, .null, .int 0, .int 0])), (oX5 q5 0 (t9 3) (t9 4) (t9 5) (t9 6) (t9 7) (t9 8) 0), (cI G (t9 3) 15 (fun _ => 0)), (cI G (t9 4) 15 (fun _ => 0)), (cI G (t9 5) 15 (fun _ => 0)), (cI G (t9 6) 15 (fun _ => 0)), (cI G (t9 7) 15 (fun _ => 0)), (cI G (t9 8) 15 (fun _ => 0)), (oX1 q16 0 (t20 10) (t20 11) (t20 12) (t20 13) (t20 14)), (cI G (t20 10) 40 (fun _ => 0)), (cI G (t20 11) 40 (fun _ => 0)), (cI G (t20 12) 40 (fun _ => 0)), (cI G (t20 13) 40 (fun _ => 0)), (cI G (t20 14) 40 (fun _ => 0))] H := ⟨hP, hD⟩
  have hP := hPD.1
  have hD := hPD.2
  clear hPD
  refine va_putF (D := G.1) (ci := 8) (v := .ref q16) (ty := .object "FeatureSolve$Formulas") (C := RX6) (T := TX6) (N := 6) hx hb hts iX6_init_X6 tyX6 tyX6_ok nmX6 hown hK hP hD hS 0 rfl rfl 1 (by decide) (hts _ fX6_init_15) (fun _ h9 => h9) rfl hin rfl (by decide +kernel) rfl rfl (Nat.le_of_ble_eq_true rfl) dX6_init_23 (fun H locs hP hD hS => ?_)
  have hPD : PD G A [(h, .inr (8, [.ref q5, .ref q16, .null, .null, .int 0, .int 0])), (oX5 q5 0 (t9 3) (t9 4) (t9 5) (t9 6) (t9 7) (t9 8) 0), (cI G (t9 3) 15 (fun _ => 0)), (cI G (t9 4) 15 (fun _ => 0)), (cI G (t9 5) 15 (fun _ => 0)), (cI G (t9 6) 15 (fun _ => 0)), (cI G (t9 7) 15 (fun _ => 0)), (cI G (t9 8) 15 (fun _ => 0)), (oX1 q16 0 (t20 10) (t20 11) (t20 12) (t20 13) (t20 14)), (cI G (t20 10) 40 (fun _ => 0)), (cI G (t20 11) 40 (fun _ => 0)), (cI G (t20 12) 40 (fun _ => 0)), (cI G (t20 13) 40 (fun _ => 0)), (cI G (t20 14) 40 (fun _ => 0))] H := ⟨hP, hD⟩
  have hP := hPD.1
  have hD := hPD.2
  clear hPD
  refine lv_aload_n hx hb dX6_init_26 rfl (lv_at hl 0 rfl) ?_
  refine va_new (ci := 6) (fs := [.null, .null]) (C := RX4) (T := TX4) (N := 2) hx hb hts iX6_init_X4 tyX4 tyX4_ok hown (hts _ fX6_init_17) (hts _ fX6_init_18) (hts _ fX6_init_19) hK hP hD hS hA rfl (fun j hj => by rcases (show j = 0 ∨ j = 1 by omega) with rfl | rfl <;> rfl) (Nat.le_of_ble_eq_true rfl) (Nat.le_of_ble_eq_true rfl) dX6_init_27 (fun q27 H hP hD hS => ?_)
  have hPD : PD G A [(h, .inr (8, [.ref q5, .ref q16, .null, .null, .int 0, .int 0])), (oX5 q5 0 (t9 3) (t9 4) (t9 5) (t9 6) (t9 7) (t9 8) 0), (cI G (t9 3) 15 (fun _ => 0)), (cI G (t9 4) 15 (fun _ => 0)), (cI G (t9 5) 15 (fun _ => 0)), (cI G (t9 6) 15 (fun _ => 0)), (cI G (t9 7) 15 (fun _ => 0)), (cI G (t9 8) 15 (fun _ => 0)), (oX1 q16 0 (t20 10) (t20 11) (t20 12) (t20 13) (t20 14)), (cI G (t20 10) 40 (fun _ => 0)), (cI G (t20 11) 40 (fun _ => 0)), (cI G (t20 12) 40 (fun _ => 0)), (cI G (t20 13) 40 (fun _ => 0)), (cI G (t20 14) 40 (fun _ => 0)), (q27, .inr (6, [.null, .null]))] H := ⟨hP, hD⟩
  have hP := hPD.1
  have hD := hPD.2
  clear hPD
  refine lv_dup hx hb dX6_init_30 rfl ?_
  refine cnI (rest := [.ref q27, .ref h]) ⟨hx, hb, hml, hown, hts⟩ (c_X4_init l G q27) ⟨va_cnB (own := RX6) (host := RX7) (index := 27) (y := yX4_init) 0 hts gX6_init_X4_init_n27 rfl rfl rfl (hKK.2.nth 3 (q := (RX6, 27, yX4_init)) rfl) (hts _ fX6_init_19) hd_X4_init ⟨(Nat.le_of_ble_eq_true rfl), (Nat.le_of_ble_eq_true rfl)⟩, rfl, (hts _ fX6_init_20)⟩ hKK hP hD hS hA [14] [0, 1, 2, 3, 4, 5, 6, 7, 8, 9, 10, 11, 12, 13] (wr := [(h, .inr (8, [.ref q5, .ref q16, .null, .null, .int 0, .int 0])), (oX5 q5 0 (t9 3) (t9 4) (t9 5) (t9 6) (t9 7) (t9 8) 0), (cI G (t9 3) 15 (fun _ => 0)), (cI G (t9 4) 15 (fun _ => 0)), (cI G (t9 5) 15 (fun _ => 0)), (cI G (t9 6) 15 (fun _ => 0)), (cI G (t9 7) 15 (fun _ => 0)), (cI G (t9 8) 15 (fun _ => 0)), (oX1 q16 0 (t20 10) (t20 11) (t20 12) (t20 13) (t20 14)), (cI G (t20 10) 40 (fun _ => 0)), (cI G (t20 11) 40 (fun _ => 0)), (cI G (t20 12) 40 (fun _ => 0)), (cI G (t20 13) 40 (fun _ => 0)), (cI G (t20 14) 40 (fun _ => 0))]) rfl rfl (by decide) (by decide) (by decide) hl.1 (Nat.le_of_ble_eq_true rfl) dX6_init_31 ⟨(Nat.le_of_ble_eq_true rfl), (Nat.le_of_ble_eq_true rfl)⟩ (fun t31 H locs _ hP hD hS => ?_)
  have hPD : PD G A [(h, .inr (8, [.ref q5, .ref q16, .null, .null, .int 0, .int 0])), (oX5 q5 0 (t9 3) (t9 4) (t9 5) (t9 6) (t9 7) (t9 8) 0), (cI G (t9 3) 15 (fun _ => 0)), (cI G (t9 4) 15 (fun _ => 0)), (cI G (t9 5) 15 (fun _ => 0)), (cI G (t9 6) 15 (fun _ => 0)), (cI G (t9 7) 15 (fun _ => 0)), (cI G (t9 8) 15 (fun _ => 0)), (oX1 q16 0 (t20 10) (t20 11) (t20 12) (t20 13) (t20 14)), (cI G (t20 10) 40 (fun _ => 0)), (cI G (t20 11) 40 (fun _ => 0)), (cI G (t20 12) 40 (fun _ => 0)), (cI G (t20 13) 40 (fun _ => 0)), (cI G (t20 14) 40 (fun _ => 0)), (oX4 q27 (t31 16) (t31 17)), (cI G (t31 16) 60 (fun _ => 0)), (cI G (t31 17) 4 (upd (upd (upd (upd (fun _ => 0) 0 14000) 1 14000) 2 14000) 3 14000))] H := ⟨hP, hD⟩
  have hP := hPD.1
  have hD := hPD.2
  clear hPD
  refine va_putF (D := G.1) (ci := 8) (v := .ref q27) (ty := .object "FeatureSolve$Sums") (C := RX6) (T := TX6) (N := 6) hx hb hts iX6_init_X6 tyX6 tyX6_ok nmX6 hown hK hP hD hS 0 rfl rfl 2 (by decide) (hts _ fX6_init_21) (fun _ h9 => h9) rfl hin rfl (by decide +kernel) rfl rfl (Nat.le_of_ble_eq_true rfl) dX6_init_34 (fun H locs hP hD hS => ?_)
  have hPD : PD G A [(h, .inr (8, [.ref q5, .ref q16, .ref q27, .null, .int 0, .int 0])), (oX5 q5 0 (t9 3) (t9 4) (t9 5) (t9 6) (t9 7) (t9 8) 0), (cI G (t9 3) 15 (fun _ => 0)), (cI G (t9 4) 15 (fun _ => 0)), (cI G (t9 5) 15 (fun _ => 0)), (cI G (t9 6) 15 (fun _ => 0)), (cI G (t9 7) 15 (fun _ => 0)), (cI G (t9 8) 15 (fun _ => 0)), (oX1 q16 0 (t20 10) (t20 11) (t20 12) (t20 13) (t20 14)), (cI G (t20 10) 40 (fun _ => 0)), (cI G (t20 11) 40 (fun _ => 0)), (cI G (t20 12) 40 (fun _ => 0)), (cI G (t20 13) 40 (fun _ => 0)), (cI G (t20 14) 40 (fun _ => 0)), (oX4 q27 (t31 16) (t31 17)), (cI G (t31 16) 60 (fun _ => 0)), (cI G (t31 17) 4 (upd (upd (upd (upd (fun _ => 0) 0 14000) 1 14000) 2 14000) 3 14000))] H := ⟨hP, hD⟩
  have hP := hPD.1
  have hD := hPD.2
  clear hPD
  refine lv_aload_n hx hb dX6_init_37 rfl (lv_at hl 0 rfl) ?_
  refine lv_sipush (v := 8192) hx hb dX6_init_38 (by decide) ?_
  refine naI hx hb (hts _ fX6_init_22) hK hP hD hS hA 8192 (by decide) rfl (by decide) (Nat.le_of_ble_eq_true rfl) (Nat.le_of_ble_eq_true rfl) dX6_init_41 (fun q41 H hP hD hS => ?_)
  have hPD : PD G A [(h, .inr (8, [.ref q5, .ref q16, .ref q27, .null, .int 0, .int 0])), (oX5 q5 0 (t9 3) (t9 4) (t9 5) (t9 6) (t9 7) (t9 8) 0), (cI G (t9 3) 15 (fun _ => 0)), (cI G (t9 4) 15 (fun _ => 0)), (cI G (t9 5) 15 (fun _ => 0)), (cI G (t9 6) 15 (fun _ => 0)), (cI G (t9 7) 15 (fun _ => 0)), (cI G (t9 8) 15 (fun _ => 0)), (oX1 q16 0 (t20 10) (t20 11) (t20 12) (t20 13) (t20 14)), (cI G (t20 10) 40 (fun _ => 0)), (cI G (t20 11) 40 (fun _ => 0)), (cI G (t20 12) 40 (fun _ => 0)), (cI G (t20 13) 40 (fun _ => 0)), (cI G (t20 14) 40 (fun _ => 0)), (oX4 q27 (t31 16) (t31 17)), (cI G (t31 16) 60 (fun _ => 0)), (cI G (t31 17) 4 (upd (upd (upd (upd (fun _ => 0) 0 14000) 1 14000) 2 14000) 3 14000)), (cI G q41 8192 (fun _ => 0))] H := ⟨hP, hD⟩
  have hP := hPD.1
  have hD := hPD.2
  clear hPD
  refine va_putF (D := G.1) (ci := 8) (v := .ref q41) (ty := .array .int) (C := RX6) (T := TX6) (N := 6) hx hb hts iX6_init_X6 tyX6 tyX6_ok nmX6 hown hK hP hD hS 0 rfl rfl 3 (by decide) (hts _ fX6_init_23) (fun _ h9 => h9) rfl hin rfl (by decide +kernel) rfl rfl (Nat.le_of_ble_eq_true rfl) dX6_init_43 (fun H locs hP hD hS => ?_)
  have hPD : PD G A [(oX6 h q5 q16 q27 q41 0 0), (oX5 q5 0 (t9 3) (t9 4) (t9 5) (t9 6) (t9 7) (t9 8) 0), (cI G (t9 3) 15 (fun _ => 0)), (cI G (t9 4) 15 (fun _ => 0)), (cI G (t9 5) 15 (fun _ => 0)), (cI G (t9 6) 15 (fun _ => 0)), (cI G (t9 7) 15 (fun _ => 0)), (cI G (t9 8) 15 (fun _ => 0)), (oX1 q16 0 (t20 10) (t20 11) (t20 12) (t20 13) (t20 14)), (cI G (t20 10) 40 (fun _ => 0)), (cI G (t20 11) 40 (fun _ => 0)), (cI G (t20 12) 40 (fun _ => 0)), (cI G (t20 13) 40 (fun _ => 0)), (cI G (t20 14) 40 (fun _ => 0)), (oX4 q27 (t31 16) (t31 17)), (cI G (t31 16) 60 (fun _ => 0)), (cI G (t31 17) 4 (upd (upd (upd (upd (fun _ => 0) 0 14000) 1 14000) 2 14000) 3 14000)), (cI G q41 8192 (fun _ => 0))] H := ⟨hP, hD⟩
  have hP := hPD.1
  have hD := hPD.2
  clear hPD
  exact nret hx hb hr hlocks hS (pickA [0, 0, q5, t9 3, t9 4, t9 5, t9 6, t9 7, t9 8, q16, t20 10, t20 11, t20 12, t20 13, t20 14, q27, t31 16, t31 17, q41]) (trivial) hP hD (Nat.le_of_ble_eq_true rfl) (Nat.le_of_ble_eq_true rfl) dX6_init_46

def rows0 : Nat → Nat → Int32 := fun k => if k = 17 then upd (upd (upd (upd (fun _ => 0) 0 14000) 1 14000) 2 14000) 3 14000 else fun _ => 0
def cS0 : CS := (0, 0, 0, 0, false, 0, 0, 0, 0, 0, 0, rows0)
def mS0 : MS := (0, 0, 0, 0, false, 0, 0, false, 0, 0, 0, fun _ _ => 0)

theorem fX7_init_0 : Cond.methodLink RX7 1 objectInit ∈ wsX7_init := by decide +kernel
theorem fX7_init_1 : Cond.instanceMethod objectInit ∈ wsX7_init := by decide +kernel
theorem fX7_init_2 : Cond.code objectInit ⟨#[0xb1]⟩ 1 none ∈ wsX7_init := by decide +kernel
theorem iX7_init_X6 : ∀ w ∈ u_ws RX6 TX6 6, w ∈ wsX7_init := by decide +kernel
theorem fX7_init_4 : Cond.classLink RX7 7 RX6 ∈ wsX7_init := by decide +kernel
theorem fX7_init_5 : Cond.instantiable RX6 6 ∈ wsX7_init := by decide +kernel
theorem fX7_init_6 : Cond.initialized RX6 ∈ wsX7_init := by decide +kernel
theorem hd_X6_init : yX6_init.cls ≠ "java/lang/invoke/MethodHandle" ∧ yX6_init.cls ≠ "java/lang/invoke/VarHandle" ∧ (parseMethodDescriptor yX6_init.desc).map (fun d => d.parameters.length) = some 0 := by decide +kernel
theorem fX7_init_7 : Cond.instanceMethod yX6_init ∈ wsX7_init := by decide +kernel
theorem iX7_init_X7 : ∀ w ∈ u_ws RX7 TX7 7, w ∈ wsX7_init := by decide +kernel
theorem fX7_init_9 : Cond.fieldLink RX7 10 "FeatureSolve" "variants" "LFeatureSolve$Variants;" ∈ wsX7_init := by decide +kernel
theorem fX7_init_10 : Cond.fieldLink RX7 16 "FeatureSolve$Variants" "tree" "LFeatureSolve$Tree;" ∈ wsX7_init := by decide +kernel
theorem fX7_init_11 : Cond.fieldLink RX7 20 "FeatureSolve" "tree" "LFeatureSolve$Tree;" ∈ wsX7_init := by decide +kernel
theorem fX7_init_12 : Cond.fieldLink RX7 21 "FeatureSolve$Variants" "formulas" "LFeatureSolve$Formulas;" ∈ wsX7_init := by decide +kernel
theorem fX7_init_13 : Cond.fieldLink RX7 25 "FeatureSolve" "formulas" "LFeatureSolve$Formulas;" ∈ wsX7_init := by decide +kernel
theorem fX7_init_14 : Cond.fieldLink RX7 26 "FeatureSolve$Variants" "sums" "LFeatureSolve$Sums;" ∈ wsX7_init := by decide +kernel
theorem fX7_init_15 : Cond.fieldLink RX7 30 "FeatureSolve" "sums" "LFeatureSolve$Sums;" ∈ wsX7_init := by decide +kernel
theorem iX7_init_X0 : ∀ w ∈ u_ws RX0 TX0 4, w ∈ wsX7_init := by decide +kernel
theorem fX7_init_17 : Cond.classLink RX7 31 RX0 ∈ wsX7_init := by decide +kernel
theorem fX7_init_18 : Cond.instantiable RX0 4 ∈ wsX7_init := by decide +kernel
theorem fX7_init_19 : Cond.initialized RX0 ∈ wsX7_init := by decide +kernel
theorem hd_X0_init : yX0_init.cls ≠ "java/lang/invoke/MethodHandle" ∧ yX0_init.cls ≠ "java/lang/invoke/VarHandle" ∧ (parseMethodDescriptor yX0_init.desc).map (fun d => d.parameters.length) = some 0 := by decide +kernel
theorem fX7_init_20 : Cond.instanceMethod yX0_init ∈ wsX7_init := by decide +kernel
theorem fX7_init_21 : Cond.fieldLink RX7 34 "FeatureSolve" "choices" "LFeatureSolve$Choices;" ∈ wsX7_init := by decide +kernel
theorem iX7_init_X2 : ∀ w ∈ u_ws RX2 TX2 3, w ∈ wsX7_init := by decide +kernel
theorem fX7_init_23 : Cond.classLink RX7 38 RX2 ∈ wsX7_init := by decide +kernel
theorem fX7_init_24 : Cond.instantiable RX2 3 ∈ wsX7_init := by decide +kernel
theorem fX7_init_25 : Cond.initialized RX2 ∈ wsX7_init := by decide +kernel
theorem hd_X2_init : yX2_init.cls ≠ "java/lang/invoke/MethodHandle" ∧ yX2_init.cls ≠ "java/lang/invoke/VarHandle" ∧ (parseMethodDescriptor yX2_init.desc).map (fun d => d.parameters.length) = some 0 := by decide +kernel
theorem fX7_init_26 : Cond.instanceMethod yX2_init ∈ wsX7_init := by decide +kernel
theorem fX7_init_27 : Cond.fieldLink RX7 41 "FeatureSolve" "found" "LFeatureSolve$Found;" ∈ wsX7_init := by decide +kernel
theorem iX7_init_X3 : ∀ w ∈ u_ws RX3 TX3 2, w ∈ wsX7_init := by decide +kernel
theorem fX7_init_29 : Cond.classLink RX7 45 RX3 ∈ wsX7_init := by decide +kernel
theorem fX7_init_30 : Cond.instantiable RX3 2 ∈ wsX7_init := by decide +kernel
theorem fX7_init_31 : Cond.initialized RX3 ∈ wsX7_init := by decide +kernel
theorem hd_X3_init : yX3_init.cls ≠ "java/lang/invoke/MethodHandle" ∧ yX3_init.cls ≠ "java/lang/invoke/VarHandle" ∧ (parseMethodDescriptor yX3_init.desc).map (fun d => d.parameters.length) = some 0 := by decide +kernel
theorem fX7_init_32 : Cond.instanceMethod yX3_init ∈ wsX7_init := by decide +kernel
theorem fX7_init_33 : Cond.fieldLink RX7 48 "FeatureSolve" "reason" "LFeatureSolve$Reason;" ∈ wsX7_init := by decide +kernel
set_option maxHeartbeats 4000000 in
set_option maxRecDepth 100000 in
/-- FeatureSolve() -/
theorem c_X7_init (l : Launch) (G : GG) (h sz : Nat) : Met l yX7_init wsX7_init (rmI 3 24 8805) (va_Pc [.ref h] (PnW G [(h, .inr (9, [.null, .null, .null, .null, .null, .null, .null]))] sz)) (QnW G (va_A [(h, .inr (9, [.null, .null, .null, .null, .null, .null, .null]))] sz) (fun u : Nat → Nat => u 0 = h) (fun u => cW G u cS0)) 24 8805 (va_A [(h, .inr (9, [.null, .null, .null, .null, .null, .null, .null]))] sz) := by
  refine Met.ofW (cc := cX7_init) (maxL := 1) (ret := none) (by decide) rfl ?_
  intro p e s m args below meth c s₁ B hml hv
  obtain ⟨rfl, hsz, hP, hD0, hKK⟩ := hv
  have hx := B.exec
  have hb := B.bytes
  have hr := B.returns
  have hts := atoms_spec (ws := wsX7_init) B.pre
  have hown : s.vm.findClass RX7 = some m.cls := findClass_of_methodNamed B.named
  have hlocks := B.notSynchronized
  have hK := hKK.1
  have hin : meth.name = "<init>" := (name_of_methodNamed B.named B.method).1
  subst hsz
  have hD := hD0.self (sz := s.heap.size)
  generalize hAe : va_A [(h, .inr (9, [.null, .null, .null, .null, .null, .null, .null]))] s.heap.size = A at hD ⊢
  have hA : ∀ q : Nat, s.heap.size ≤ q → A q := fun q h => by rw [← hAe]; exact Or.inr h
  have hS : va_S A s.heap s.heap [] := va_S.rf
  have hP : va_P G.1 vwCl [(h, .inr (9, [.null, .null, .null, .null, .null, .null, .null]))] s.heap := hP
  have hl := lv_entry ([.ref h]) (n := 1) (Nat.le_of_ble_eq_true rfl)
  rw [lg_entry_eq]
  generalize (lg_sl ([.ref h]) ++ List.replicate (1 - (lg_sl ([.ref h])).length) Slot.unset).toArray = ls at hl ⊢
  have hl : lv_has ls 1 [(0, .ref h)] := hl
  refine lv_aload_n hx hb dX7_init_0 rfl (lv_at hl 0 rfl) ?_
  refine W.objInit hx hb hown (hts _ fX7_init_0) (hts _ fX7_init_1) (hts _ fX7_init_2) rfl (by rw [hml]; exact hl.1) rfl dX7_init_1 (Nat.le_of_ble_eq_true rfl) (Nat.le_of_ble_eq_true rfl) ?_
  refine W.eq (g2 := F0 m 4 ls []) rfl ?_
  refine lv_aload_n hx hb dX7_init_4 rfl (lv_at hl 0 rfl) ?_
  refine va_new (ci := 8) (fs := [.null, .null, .null, .null, .int 0, .int 0]) (C := RX6) (T := TX6) (N := 6) hx hb hts iX7_init_X6 tyX6 tyX6_ok hown (hts _ fX7_init_4) (hts _ fX7_init_5) (hts _ fX7_init_6) hK hP hD hS hA rfl (fun j hj => by rcases (show j = 0 ∨ j = 1 ∨ j = 2 ∨ j = 3 ∨ j = 4 ∨ j = 5 by omega) with rfl | rfl | rfl | rfl | rfl | rfl <;> rfl) (Nat.le_of_ble_eq_true rfl) (Nat.le_of_ble_eq_true rfl) dX7_init_5 (fun q5 H hP hD hS => ?_)
  have hPD : PD G A [(h, .inr (9, [.null, .null, .null, .null, .null, .null, .null])), (q5, .inr (8, [.null, .null, .null, .null, .int 0, .int 0]))] H := ⟨hP, hD⟩
  have hP := hPD.1
  have hD := hPD.2
  clear hPD
  refine lv_dup hx hb dX7_init_8 rfl ?_
  refine cnI (rest := [.ref q5, .ref h]) ⟨hx, hb, hml, hown, hts⟩ (c_X6_init l G q5) ⟨va_cnB (own := RX7) (host := RX7) (index := 9) (y := yX6_init) 0 hts gX7_init_X6_init_n9 rfl rfl rfl (hKK.2.nth 0 (q := (RX7, 9, yX6_init)) rfl) (hts _ fX7_init_6) hd_X6_init ⟨(Nat.le_of_ble_eq_true rfl), (Nat.le_of_ble_eq_true rfl)⟩, rfl, (hts _ fX7_init_7)⟩ hKK hP hD hS hA [1] [0] (wr := [(h, .inr (9, [.null, .null, .null, .null, .null, .null, .null]))]) rfl rfl (by decide) (by decide) (by decide) hl.1 (Nat.le_of_ble_eq_true rfl) dX7_init_9 ⟨(Nat.le_of_ble_eq_true rfl), (Nat.le_of_ble_eq_true rfl)⟩ (fun t9 H locs _ hP hD hS => ?_)
  have hPD : PD G A [(h, .inr (9, [.null, .null, .null, .null, .null, .null, .null])), (oX6 q5 (t9 2) (t9 9) (t9 15) (t9 18) 0 0), (oX5 (t9 2) 0 (t9 3) (t9 4) (t9 5) (t9 6) (t9 7) (t9 8) 0), (cI G (t9 3) 15 (fun _ => 0)), (cI G (t9 4) 15 (fun _ => 0)), (cI G (t9 5) 15 (fun _ => 0)), (cI G (t9 6) 15 (fun _ => 0)), (cI G (t9 7) 15 (fun _ => 0)), (cI G (t9 8) 15 (fun _ => 0)), (oX1 (t9 9) 0 (t9 10) (t9 11) (t9 12) (t9 13) (t9 14)), (cI G (t9 10) 40 (fun _ => 0)), (cI G (t9 11) 40 (fun _ => 0)), (cI G (t9 12) 40 (fun _ => 0)), (cI G (t9 13) 40 (fun _ => 0)), (cI G (t9 14) 40 (fun _ => 0)), (oX4 (t9 15) (t9 16) (t9 17)), (cI G (t9 16) 60 (fun _ => 0)), (cI G (t9 17) 4 (upd (upd (upd (upd (fun _ => 0) 0 14000) 1 14000) 2 14000) 3 14000)), (cI G (t9 18) 8192 (fun _ => 0))] H := ⟨hP, hD⟩
  have hP := hPD.1
  have hD := hPD.2
  clear hPD
  refine va_putF (D := G.1) (ci := 9) (v := .ref q5) (ty := .object "FeatureSolve$Variants") (C := RX7) (T := TX7) (N := 7) hx hb hts iX7_init_X7 tyX7 tyX7_ok nmX7 hown hK hP hD hS 0 rfl rfl 0 (by decide) (hts _ fX7_init_9) (fun _ h9 => h9) rfl hin rfl (by decide +kernel) rfl rfl (Nat.le_of_ble_eq_true rfl) dX7_init_12 (fun H locs hP hD hS => ?_)
  have hPD : PD G A [(h, .inr (9, [.ref q5, .null, .null, .null, .null, .null, .null])), (oX6 q5 (t9 2) (t9 9) (t9 15) (t9 18) 0 0), (oX5 (t9 2) 0 (t9 3) (t9 4) (t9 5) (t9 6) (t9 7) (t9 8) 0), (cI G (t9 3) 15 (fun _ => 0)), (cI G (t9 4) 15 (fun _ => 0)), (cI G (t9 5) 15 (fun _ => 0)), (cI G (t9 6) 15 (fun _ => 0)), (cI G (t9 7) 15 (fun _ => 0)), (cI G (t9 8) 15 (fun _ => 0)), (oX1 (t9 9) 0 (t9 10) (t9 11) (t9 12) (t9 13) (t9 14)), (cI G (t9 10) 40 (fun _ => 0)), (cI G (t9 11) 40 (fun _ => 0)), (cI G (t9 12) 40 (fun _ => 0)), (cI G (t9 13) 40 (fun _ => 0)), (cI G (t9 14) 40 (fun _ => 0)), (oX4 (t9 15) (t9 16) (t9 17)), (cI G (t9 16) 60 (fun _ => 0)), (cI G (t9 17) 4 (upd (upd (upd (upd (fun _ => 0) 0 14000) 1 14000) 2 14000) 3 14000)), (cI G (t9 18) 8192 (fun _ => 0))] H := ⟨hP, hD⟩
  have hP := hPD.1
  have hD := hPD.2
  clear hPD
  refine lv_aload_n hx hb dX7_init_15 rfl (lv_at hl 0 rfl) ?_
  refine lv_aload_n hx hb dX7_init_16 rfl (lv_at hl 0 rfl) ?_
  refine va_get (D := G.1) (ci := 9) (v := .ref q5) (C := RX7) (T := TX7) (N := 7) hx hb hts iX7_init_X7 hown hK hP 0 rfl rfl 0 (by decide) (hts _ fX7_init_9) (fun _ h9 => h9) rfl dX7_init_17 ?_
  refine va_get (D := G.1) (ci := 8) (v := .ref (t9 2)) (C := RX6) (T := TX6) (N := 6) hx hb hts iX7_init_X6 hown hK hP 1 rfl rfl 0 (by decide) (hts _ fX7_init_10) (fun _ h9 => h9) rfl dX7_init_20 ?_
  refine va_putF (D := G.1) (ci := 9) (v := .ref (t9 2)) (ty := .object "FeatureSolve$Tree") (C := RX7) (T := TX7) (N := 7) hx hb hts iX7_init_X7 tyX7 tyX7_ok nmX7 hown hK hP hD hS 0 rfl rfl 1 (by decide) (hts _ fX7_init_11) (fun _ h9 => h9) rfl hin rfl (by decide +kernel) rfl rfl (Nat.le_of_ble_eq_true rfl) dX7_init_23 (fun H locs hP hD hS => ?_)
  have hPD : PD G A [(h, .inr (9, [.ref q5, .ref (t9 2), .null, .null, .null, .null, .null])), (oX6 q5 (t9 2) (t9 9) (t9 15) (t9 18) 0 0), (oX5 (t9 2) 0 (t9 3) (t9 4) (t9 5) (t9 6) (t9 7) (t9 8) 0), (cI G (t9 3) 15 (fun _ => 0)), (cI G (t9 4) 15 (fun _ => 0)), (cI G (t9 5) 15 (fun _ => 0)), (cI G (t9 6) 15 (fun _ => 0)), (cI G (t9 7) 15 (fun _ => 0)), (cI G (t9 8) 15 (fun _ => 0)), (oX1 (t9 9) 0 (t9 10) (t9 11) (t9 12) (t9 13) (t9 14)), (cI G (t9 10) 40 (fun _ => 0)), (cI G (t9 11) 40 (fun _ => 0)), (cI G (t9 12) 40 (fun _ => 0)), (cI G (t9 13) 40 (fun _ => 0)), (cI G (t9 14) 40 (fun _ => 0)), (oX4 (t9 15) (t9 16) (t9 17)), (cI G (t9 16) 60 (fun _ => 0)), (cI G (t9 17) 4 (upd (upd (upd (upd (fun _ => 0) 0 14000) 1 14000) 2 14000) 3 14000)), (cI G (t9 18) 8192 (fun _ => 0))] H := ⟨hP, hD⟩
  have hP := hPD.1
  have hD := hPD.2
  clear hPD
  refine lv_aload_n hx hb dX7_init_26 rfl (lv_at hl 0 rfl) ?_
  refine lv_aload_n hx hb dX7_init_27 rfl (lv_at hl 0 rfl) ?_
  refine va_get (D := G.1) (ci := 9) (v := .ref q5) (C := RX7) (T := TX7) (N := 7) hx hb hts iX7_init_X7 hown hK hP 0 rfl rfl 0 (by decide) (hts _ fX7_init_9) (fun _ h9 => h9) rfl dX7_init_28 ?_
  refine va_get (D := G.1) (ci := 8) (v := .ref (t9 9)) (C := RX6) (T := TX6) (N := 6) hx hb hts iX7_init_X6 hown hK hP 1 rfl rfl 1 (by decide) (hts _ fX7_init_12) (fun _ h9 => h9) rfl dX7_init_31 ?_
  refine va_putF (D := G.1) (ci := 9) (v := .ref (t9 9)) (ty := .object "FeatureSolve$Formulas") (C := RX7) (T := TX7) (N := 7) hx hb hts iX7_init_X7 tyX7 tyX7_ok nmX7 hown hK hP hD hS 0 rfl rfl 2 (by decide) (hts _ fX7_init_13) (fun _ h9 => h9) rfl hin rfl (by decide +kernel) rfl rfl (Nat.le_of_ble_eq_true rfl) dX7_init_34 (fun H locs hP hD hS => ?_)
  have hPD : PD G A [(h, .inr (9, [.ref q5, .ref (t9 2), .ref (t9 9), .null, .null, .null, .null])), (oX6 q5 (t9 2) (t9 9) (t9 15) (t9 18) 0 0), (oX5 (t9 2) 0 (t9 3) (t9 4) (t9 5) (t9 6) (t9 7) (t9 8) 0), (cI G (t9 3) 15 (fun _ => 0)), (cI G (t9 4) 15 (fun _ => 0)), (cI G (t9 5) 15 (fun _ => 0)), (cI G (t9 6) 15 (fun _ => 0)), (cI G (t9 7) 15 (fun _ => 0)), (cI G (t9 8) 15 (fun _ => 0)), (oX1 (t9 9) 0 (t9 10) (t9 11) (t9 12) (t9 13) (t9 14)), (cI G (t9 10) 40 (fun _ => 0)), (cI G (t9 11) 40 (fun _ => 0)), (cI G (t9 12) 40 (fun _ => 0)), (cI G (t9 13) 40 (fun _ => 0)), (cI G (t9 14) 40 (fun _ => 0)), (oX4 (t9 15) (t9 16) (t9 17)), (cI G (t9 16) 60 (fun _ => 0)), (cI G (t9 17) 4 (upd (upd (upd (upd (fun _ => 0) 0 14000) 1 14000) 2 14000) 3 14000)), (cI G (t9 18) 8192 (fun _ => 0))] H := ⟨hP, hD⟩
  have hP := hPD.1
  have hD := hPD.2
  clear hPD
  refine lv_aload_n hx hb dX7_init_37 rfl (lv_at hl 0 rfl) ?_
  refine lv_aload_n hx hb dX7_init_38 rfl (lv_at hl 0 rfl) ?_
  refine va_get (D := G.1) (ci := 9) (v := .ref q5) (C := RX7) (T := TX7) (N := 7) hx hb hts iX7_init_X7 hown hK hP 0 rfl rfl 0 (by decide) (hts _ fX7_init_9) (fun _ h9 => h9) rfl dX7_init_39 ?_
  refine va_get (D := G.1) (ci := 8) (v := .ref (t9 15)) (C := RX6) (T := TX6) (N := 6) hx hb hts iX7_init_X6 hown hK hP 1 rfl rfl 2 (by decide) (hts _ fX7_init_14) (fun _ h9 => h9) rfl dX7_init_42 ?_
  refine va_putF (D := G.1) (ci := 9) (v := .ref (t9 15)) (ty := .object "FeatureSolve$Sums") (C := RX7) (T := TX7) (N := 7) hx hb hts iX7_init_X7 tyX7 tyX7_ok nmX7 hown hK hP hD hS 0 rfl rfl 3 (by decide) (hts _ fX7_init_15) (fun _ h9 => h9) rfl hin rfl (by decide +kernel) rfl rfl (Nat.le_of_ble_eq_true rfl) dX7_init_45 (fun H locs hP hD hS => ?_)
  have hPD : PD G A [(h, .inr (9, [.ref q5, .ref (t9 2), .ref (t9 9), .ref (t9 15), .null, .null, .null])), (oX6 q5 (t9 2) (t9 9) (t9 15) (t9 18) 0 0), (oX5 (t9 2) 0 (t9 3) (t9 4) (t9 5) (t9 6) (t9 7) (t9 8) 0), (cI G (t9 3) 15 (fun _ => 0)), (cI G (t9 4) 15 (fun _ => 0)), (cI G (t9 5) 15 (fun _ => 0)), (cI G (t9 6) 15 (fun _ => 0)), (cI G (t9 7) 15 (fun _ => 0)), (cI G (t9 8) 15 (fun _ => 0)), (oX1 (t9 9) 0 (t9 10) (t9 11) (t9 12) (t9 13) (t9 14)), (cI G (t9 10) 40 (fun _ => 0)), (cI G (t9 11) 40 (fun _ => 0)), (cI G (t9 12) 40 (fun _ => 0)), (cI G (t9 13) 40 (fun _ => 0)), (cI G (t9 14) 40 (fun _ => 0)), (oX4 (t9 15) (t9 16) (t9 17)), (cI G (t9 16) 60 (fun _ => 0)), (cI G (t9 17) 4 (upd (upd (upd (upd (fun _ => 0) 0 14000) 1 14000) 2 14000) 3 14000)), (cI G (t9 18) 8192 (fun _ => 0))] H := ⟨hP, hD⟩
  have hP := hPD.1
  have hD := hPD.2
  clear hPD
  refine lv_aload_n hx hb dX7_init_48 rfl (lv_at hl 0 rfl) ?_
  refine va_new (ci := 2) (fs := [.int 0, .int 0, .int 0, .null]) (C := RX0) (T := TX0) (N := 4) hx hb hts iX7_init_X0 tyX0 tyX0_ok hown (hts _ fX7_init_17) (hts _ fX7_init_18) (hts _ fX7_init_19) hK hP hD hS hA rfl (fun j hj => by rcases (show j = 0 ∨ j = 1 ∨ j = 2 ∨ j = 3 by omega) with rfl | rfl | rfl | rfl <;> rfl) (Nat.le_of_ble_eq_true rfl) (Nat.le_of_ble_eq_true rfl) dX7_init_49 (fun q49 H hP hD hS => ?_)
  have hPD : PD G A [(h, .inr (9, [.ref q5, .ref (t9 2), .ref (t9 9), .ref (t9 15), .null, .null, .null])), (oX6 q5 (t9 2) (t9 9) (t9 15) (t9 18) 0 0), (oX5 (t9 2) 0 (t9 3) (t9 4) (t9 5) (t9 6) (t9 7) (t9 8) 0), (cI G (t9 3) 15 (fun _ => 0)), (cI G (t9 4) 15 (fun _ => 0)), (cI G (t9 5) 15 (fun _ => 0)), (cI G (t9 6) 15 (fun _ => 0)), (cI G (t9 7) 15 (fun _ => 0)), (cI G (t9 8) 15 (fun _ => 0)), (oX1 (t9 9) 0 (t9 10) (t9 11) (t9 12) (t9 13) (t9 14)), (cI G (t9 10) 40 (fun _ => 0)), (cI G (t9 11) 40 (fun _ => 0)), (cI G (t9 12) 40 (fun _ => 0)), (cI G (t9 13) 40 (fun _ => 0)), (cI G (t9 14) 40 (fun _ => 0)), (oX4 (t9 15) (t9 16) (t9 17)), (cI G (t9 16) 60 (fun _ => 0)), (cI G (t9 17) 4 (upd (upd (upd (upd (fun _ => 0) 0 14000) 1 14000) 2 14000) 3 14000)), (cI G (t9 18) 8192 (fun _ => 0)), (q49, .inr (2, [.int 0, .int 0, .int 0, .null]))] H := ⟨hP, hD⟩
  have hP := hPD.1
  have hD := hPD.2
  clear hPD
  refine lv_dup hx hb dX7_init_52 rfl ?_
  refine cnI (rest := [.ref q49, .ref h]) ⟨hx, hb, hml, hown, hts⟩ (c_X0_init l G q49) ⟨va_cnB (own := RX7) (host := RX7) (index := 33) (y := yX0_init) 0 hts gX7_init_X0_init_n33 rfl rfl rfl (hKK.2.nth 4 (q := (RX7, 33, yX0_init)) rfl) (hts _ fX7_init_19) hd_X0_init ⟨(Nat.le_of_ble_eq_true rfl), (Nat.le_of_ble_eq_true rfl)⟩, rfl, (hts _ fX7_init_20)⟩ hKK hP hD hS hA [19] [0, 1, 2, 3, 4, 5, 6, 7, 8, 9, 10, 11, 12, 13, 14, 15, 16, 17, 18] (wr := [(h, .inr (9, [.ref q5, .ref (t9 2), .ref (t9 9), .ref (t9 15), .null, .null, .null])), (oX6 q5 (t9 2) (t9 9) (t9 15) (t9 18) 0 0), (oX5 (t9 2) 0 (t9 3) (t9 4) (t9 5) (t9 6) (t9 7) (t9 8) 0), (cI G (t9 3) 15 (fun _ => 0)), (cI G (t9 4) 15 (fun _ => 0)), (cI G (t9 5) 15 (fun _ => 0)), (cI G (t9 6) 15 (fun _ => 0)), (cI G (t9 7) 15 (fun _ => 0)), (cI G (t9 8) 15 (fun _ => 0)), (oX1 (t9 9) 0 (t9 10) (t9 11) (t9 12) (t9 13) (t9 14)), (cI G (t9 10) 40 (fun _ => 0)), (cI G (t9 11) 40 (fun _ => 0)), (cI G (t9 12) 40 (fun _ => 0)), (cI G (t9 13) 40 (fun _ => 0)), (cI G (t9 14) 40 (fun _ => 0)), (oX4 (t9 15) (t9 16) (t9 17)), (cI G (t9 16) 60 (fun _ => 0)), (cI G (t9 17) 4 (upd (upd (upd (upd (fun _ => 0) 0 14000) 1 14000) 2 14000) 3 14000)), (cI G (t9 18) 8192 (fun _ => 0))]) rfl rfl (by decide) (by decide) (by decide) hl.1 (Nat.le_of_ble_eq_true rfl) dX7_init_53 ⟨(Nat.le_of_ble_eq_true rfl), (Nat.le_of_ble_eq_true rfl)⟩ (fun t53 H locs _ hP hD hS => ?_)
  have hPD : PD G A [(h, .inr (9, [.ref q5, .ref (t9 2), .ref (t9 9), .ref (t9 15), .null, .null, .null])), (oX6 q5 (t9 2) (t9 9) (t9 15) (t9 18) 0 0), (oX5 (t9 2) 0 (t9 3) (t9 4) (t9 5) (t9 6) (t9 7) (t9 8) 0), (cI G (t9 3) 15 (fun _ => 0)), (cI G (t9 4) 15 (fun _ => 0)), (cI G (t9 5) 15 (fun _ => 0)), (cI G (t9 6) 15 (fun _ => 0)), (cI G (t9 7) 15 (fun _ => 0)), (cI G (t9 8) 15 (fun _ => 0)), (oX1 (t9 9) 0 (t9 10) (t9 11) (t9 12) (t9 13) (t9 14)), (cI G (t9 10) 40 (fun _ => 0)), (cI G (t9 11) 40 (fun _ => 0)), (cI G (t9 12) 40 (fun _ => 0)), (cI G (t9 13) 40 (fun _ => 0)), (cI G (t9 14) 40 (fun _ => 0)), (oX4 (t9 15) (t9 16) (t9 17)), (cI G (t9 16) 60 (fun _ => 0)), (cI G (t9 17) 4 (upd (upd (upd (upd (fun _ => 0) 0 14000) 1 14000) 2 14000) 3 14000)), (cI G (t9 18) 8192 (fun _ => 0)), (oX0 q49 0 0 0 t53), (cI G t53 14 (fun _ => 0))] H := ⟨hP, hD⟩
  have hP := hPD.1
  have hD := hPD.2
  clear hPD
  refine va_putF (D := G.1) (ci := 9) (v := .ref q49) (ty := .object "FeatureSolve$Choices") (C := RX7) (T := TX7) (N := 7) hx hb hts iX7_init_X7 tyX7 tyX7_ok nmX7 hown hK hP hD hS 0 rfl rfl 4 (by decide) (hts _ fX7_init_21) (fun _ h9 => h9) rfl hin rfl (by decide +kernel) rfl rfl (Nat.le_of_ble_eq_true rfl) dX7_init_56 (fun H locs hP hD hS => ?_)
  have hPD : PD G A [(h, .inr (9, [.ref q5, .ref (t9 2), .ref (t9 9), .ref (t9 15), .ref q49, .null, .null])), (oX6 q5 (t9 2) (t9 9) (t9 15) (t9 18) 0 0), (oX5 (t9 2) 0 (t9 3) (t9 4) (t9 5) (t9 6) (t9 7) (t9 8) 0), (cI G (t9 3) 15 (fun _ => 0)), (cI G (t9 4) 15 (fun _ => 0)), (cI G (t9 5) 15 (fun _ => 0)), (cI G (t9 6) 15 (fun _ => 0)), (cI G (t9 7) 15 (fun _ => 0)), (cI G (t9 8) 15 (fun _ => 0)), (oX1 (t9 9) 0 (t9 10) (t9 11) (t9 12) (t9 13) (t9 14)), (cI G (t9 10) 40 (fun _ => 0)), (cI G (t9 11) 40 (fun _ => 0)), (cI G (t9 12) 40 (fun _ => 0)), (cI G (t9 13) 40 (fun _ => 0)), (cI G (t9 14) 40 (fun _ => 0)), (oX4 (t9 15) (t9 16) (t9 17)), (cI G (t9 16) 60 (fun _ => 0)), (cI G (t9 17) 4 (upd (upd (upd (upd (fun _ => 0) 0 14000) 1 14000) 2 14000) 3 14000)), (cI G (t9 18) 8192 (fun _ => 0)), (oX0 q49 0 0 0 t53), (cI G t53 14 (fun _ => 0))] H := ⟨hP, hD⟩
  have hP := hPD.1
  have hD := hPD.2
  clear hPD
  refine lv_aload_n hx hb dX7_init_59 rfl (lv_at hl 0 rfl) ?_
  refine va_new (ci := 4) (fs := [.int 0, .int 0, .null]) (C := RX2) (T := TX2) (N := 3) hx hb hts iX7_init_X2 tyX2 tyX2_ok hown (hts _ fX7_init_23) (hts _ fX7_init_24) (hts _ fX7_init_25) hK hP hD hS hA rfl (fun j hj => by rcases (show j = 0 ∨ j = 1 ∨ j = 2 by omega) with rfl | rfl | rfl <;> rfl) (Nat.le_of_ble_eq_true rfl) (Nat.le_of_ble_eq_true rfl) dX7_init_60 (fun q60 H hP hD hS => ?_)
  have hPD : PD G A [(h, .inr (9, [.ref q5, .ref (t9 2), .ref (t9 9), .ref (t9 15), .ref q49, .null, .null])), (oX6 q5 (t9 2) (t9 9) (t9 15) (t9 18) 0 0), (oX5 (t9 2) 0 (t9 3) (t9 4) (t9 5) (t9 6) (t9 7) (t9 8) 0), (cI G (t9 3) 15 (fun _ => 0)), (cI G (t9 4) 15 (fun _ => 0)), (cI G (t9 5) 15 (fun _ => 0)), (cI G (t9 6) 15 (fun _ => 0)), (cI G (t9 7) 15 (fun _ => 0)), (cI G (t9 8) 15 (fun _ => 0)), (oX1 (t9 9) 0 (t9 10) (t9 11) (t9 12) (t9 13) (t9 14)), (cI G (t9 10) 40 (fun _ => 0)), (cI G (t9 11) 40 (fun _ => 0)), (cI G (t9 12) 40 (fun _ => 0)), (cI G (t9 13) 40 (fun _ => 0)), (cI G (t9 14) 40 (fun _ => 0)), (oX4 (t9 15) (t9 16) (t9 17)), (cI G (t9 16) 60 (fun _ => 0)), (cI G (t9 17) 4 (upd (upd (upd (upd (fun _ => 0) 0 14000) 1 14000) 2 14000) 3 14000)), (cI G (t9 18) 8192 (fun _ => 0)), (oX0 q49 0 0 0 t53), (cI G t53 14 (fun _ => 0)), (q60, .inr (4, [.int 0, .int 0, .null]))] H := ⟨hP, hD⟩
  have hP := hPD.1
  have hD := hPD.2
  clear hPD
  refine lv_dup hx hb dX7_init_63 rfl ?_
  refine cnI (rest := [.ref q60, .ref h]) ⟨hx, hb, hml, hown, hts⟩ (c_X2_init l G q60) ⟨va_cnB (own := RX7) (host := RX7) (index := 40) (y := yX2_init) 0 hts gX7_init_X2_init_n40 rfl rfl rfl (hKK.2.nth 5 (q := (RX7, 40, yX2_init)) rfl) (hts _ fX7_init_25) hd_X2_init ⟨(Nat.le_of_ble_eq_true rfl), (Nat.le_of_ble_eq_true rfl)⟩, rfl, (hts _ fX7_init_26)⟩ hKK hP hD hS hA [21] [0, 1, 2, 3, 4, 5, 6, 7, 8, 9, 10, 11, 12, 13, 14, 15, 16, 17, 18, 19, 20] (wr := [(h, .inr (9, [.ref q5, .ref (t9 2), .ref (t9 9), .ref (t9 15), .ref q49, .null, .null])), (oX6 q5 (t9 2) (t9 9) (t9 15) (t9 18) 0 0), (oX5 (t9 2) 0 (t9 3) (t9 4) (t9 5) (t9 6) (t9 7) (t9 8) 0), (cI G (t9 3) 15 (fun _ => 0)), (cI G (t9 4) 15 (fun _ => 0)), (cI G (t9 5) 15 (fun _ => 0)), (cI G (t9 6) 15 (fun _ => 0)), (cI G (t9 7) 15 (fun _ => 0)), (cI G (t9 8) 15 (fun _ => 0)), (oX1 (t9 9) 0 (t9 10) (t9 11) (t9 12) (t9 13) (t9 14)), (cI G (t9 10) 40 (fun _ => 0)), (cI G (t9 11) 40 (fun _ => 0)), (cI G (t9 12) 40 (fun _ => 0)), (cI G (t9 13) 40 (fun _ => 0)), (cI G (t9 14) 40 (fun _ => 0)), (oX4 (t9 15) (t9 16) (t9 17)), (cI G (t9 16) 60 (fun _ => 0)), (cI G (t9 17) 4 (upd (upd (upd (upd (fun _ => 0) 0 14000) 1 14000) 2 14000) 3 14000)), (cI G (t9 18) 8192 (fun _ => 0)), (oX0 q49 0 0 0 t53), (cI G t53 14 (fun _ => 0))]) rfl rfl (by decide) (by decide) (by decide) hl.1 (Nat.le_of_ble_eq_true rfl) dX7_init_64 ⟨(Nat.le_of_ble_eq_true rfl), (Nat.le_of_ble_eq_true rfl)⟩ (fun t64 H locs _ hP hD hS => ?_)
  have hPD : PD G A [(h, .inr (9, [.ref q5, .ref (t9 2), .ref (t9 9), .ref (t9 15), .ref q49, .null, .null])), (oX6 q5 (t9 2) (t9 9) (t9 15) (t9 18) 0 0), (oX5 (t9 2) 0 (t9 3) (t9 4) (t9 5) (t9 6) (t9 7) (t9 8) 0), (cI G (t9 3) 15 (fun _ => 0)), (cI G (t9 4) 15 (fun _ => 0)), (cI G (t9 5) 15 (fun _ => 0)), (cI G (t9 6) 15 (fun _ => 0)), (cI G (t9 7) 15 (fun _ => 0)), (cI G (t9 8) 15 (fun _ => 0)), (oX1 (t9 9) 0 (t9 10) (t9 11) (t9 12) (t9 13) (t9 14)), (cI G (t9 10) 40 (fun _ => 0)), (cI G (t9 11) 40 (fun _ => 0)), (cI G (t9 12) 40 (fun _ => 0)), (cI G (t9 13) 40 (fun _ => 0)), (cI G (t9 14) 40 (fun _ => 0)), (oX4 (t9 15) (t9 16) (t9 17)), (cI G (t9 16) 60 (fun _ => 0)), (cI G (t9 17) 4 (upd (upd (upd (upd (fun _ => 0) 0 14000) 1 14000) 2 14000) 3 14000)), (cI G (t9 18) 8192 (fun _ => 0)), (oX0 q49 0 0 0 t53), (cI G t53 14 (fun _ => 0)), (oX2 q60 0 0 t64), (cI G t64 200 (fun _ => 0))] H := ⟨hP, hD⟩
  have hP := hPD.1
  have hD := hPD.2
  clear hPD
  refine va_putF (D := G.1) (ci := 9) (v := .ref q60) (ty := .object "FeatureSolve$Found") (C := RX7) (T := TX7) (N := 7) hx hb hts iX7_init_X7 tyX7 tyX7_ok nmX7 hown hK hP hD hS 0 rfl rfl 5 (by decide) (hts _ fX7_init_27) (fun _ h9 => h9) rfl hin rfl (by decide +kernel) rfl rfl (Nat.le_of_ble_eq_true rfl) dX7_init_67 (fun H locs hP hD hS => ?_)
  have hPD : PD G A [(h, .inr (9, [.ref q5, .ref (t9 2), .ref (t9 9), .ref (t9 15), .ref q49, .ref q60, .null])), (oX6 q5 (t9 2) (t9 9) (t9 15) (t9 18) 0 0), (oX5 (t9 2) 0 (t9 3) (t9 4) (t9 5) (t9 6) (t9 7) (t9 8) 0), (cI G (t9 3) 15 (fun _ => 0)), (cI G (t9 4) 15 (fun _ => 0)), (cI G (t9 5) 15 (fun _ => 0)), (cI G (t9 6) 15 (fun _ => 0)), (cI G (t9 7) 15 (fun _ => 0)), (cI G (t9 8) 15 (fun _ => 0)), (oX1 (t9 9) 0 (t9 10) (t9 11) (t9 12) (t9 13) (t9 14)), (cI G (t9 10) 40 (fun _ => 0)), (cI G (t9 11) 40 (fun _ => 0)), (cI G (t9 12) 40 (fun _ => 0)), (cI G (t9 13) 40 (fun _ => 0)), (cI G (t9 14) 40 (fun _ => 0)), (oX4 (t9 15) (t9 16) (t9 17)), (cI G (t9 16) 60 (fun _ => 0)), (cI G (t9 17) 4 (upd (upd (upd (upd (fun _ => 0) 0 14000) 1 14000) 2 14000) 3 14000)), (cI G (t9 18) 8192 (fun _ => 0)), (oX0 q49 0 0 0 t53), (cI G t53 14 (fun _ => 0)), (oX2 q60 0 0 t64), (cI G t64 200 (fun _ => 0))] H := ⟨hP, hD⟩
  have hP := hPD.1
  have hD := hPD.2
  clear hPD
  refine lv_aload_n hx hb dX7_init_70 rfl (lv_at hl 0 rfl) ?_
  refine va_new (ci := 5) (fs := [.int 0, .null]) (C := RX3) (T := TX3) (N := 2) hx hb hts iX7_init_X3 tyX3 tyX3_ok hown (hts _ fX7_init_29) (hts _ fX7_init_30) (hts _ fX7_init_31) hK hP hD hS hA rfl (fun j hj => by rcases (show j = 0 ∨ j = 1 by omega) with rfl | rfl <;> rfl) (Nat.le_of_ble_eq_true rfl) (Nat.le_of_ble_eq_true rfl) dX7_init_71 (fun q71 H hP hD hS => ?_)
  have hPD : PD G A [(h, .inr (9, [.ref q5, .ref (t9 2), .ref (t9 9), .ref (t9 15), .ref q49, .ref q60, .null])), (oX6 q5 (t9 2) (t9 9) (t9 15) (t9 18) 0 0), (oX5 (t9 2) 0 (t9 3) (t9 4) (t9 5) (t9 6) (t9 7) (t9 8) 0), (cI G (t9 3) 15 (fun _ => 0)), (cI G (t9 4) 15 (fun _ => 0)), (cI G (t9 5) 15 (fun _ => 0)), (cI G (t9 6) 15 (fun _ => 0)), (cI G (t9 7) 15 (fun _ => 0)), (cI G (t9 8) 15 (fun _ => 0)), (oX1 (t9 9) 0 (t9 10) (t9 11) (t9 12) (t9 13) (t9 14)), (cI G (t9 10) 40 (fun _ => 0)), (cI G (t9 11) 40 (fun _ => 0)), (cI G (t9 12) 40 (fun _ => 0)), (cI G (t9 13) 40 (fun _ => 0)), (cI G (t9 14) 40 (fun _ => 0)), (oX4 (t9 15) (t9 16) (t9 17)), (cI G (t9 16) 60 (fun _ => 0)), (cI G (t9 17) 4 (upd (upd (upd (upd (fun _ => 0) 0 14000) 1 14000) 2 14000) 3 14000)), (cI G (t9 18) 8192 (fun _ => 0)), (oX0 q49 0 0 0 t53), (cI G t53 14 (fun _ => 0)), (oX2 q60 0 0 t64), (cI G t64 200 (fun _ => 0)), (q71, .inr (5, [.int 0, .null]))] H := ⟨hP, hD⟩
  have hP := hPD.1
  have hD := hPD.2
  clear hPD
  refine lv_dup hx hb dX7_init_74 rfl ?_
  refine cnI (rest := [.ref q71, .ref h]) ⟨hx, hb, hml, hown, hts⟩ (c_X3_init l G q71) ⟨va_cnB (own := RX7) (host := RX7) (index := 47) (y := yX3_init) 0 hts gX7_init_X3_init_n47 rfl rfl rfl (hKK.2.nth 6 (q := (RX7, 47, yX3_init)) rfl) (hts _ fX7_init_31) hd_X3_init ⟨(Nat.le_of_ble_eq_true rfl), (Nat.le_of_ble_eq_true rfl)⟩, rfl, (hts _ fX7_init_32)⟩ hKK hP hD hS hA [23] [0, 1, 2, 3, 4, 5, 6, 7, 8, 9, 10, 11, 12, 13, 14, 15, 16, 17, 18, 19, 20, 21, 22] (wr := [(h, .inr (9, [.ref q5, .ref (t9 2), .ref (t9 9), .ref (t9 15), .ref q49, .ref q60, .null])), (oX6 q5 (t9 2) (t9 9) (t9 15) (t9 18) 0 0), (oX5 (t9 2) 0 (t9 3) (t9 4) (t9 5) (t9 6) (t9 7) (t9 8) 0), (cI G (t9 3) 15 (fun _ => 0)), (cI G (t9 4) 15 (fun _ => 0)), (cI G (t9 5) 15 (fun _ => 0)), (cI G (t9 6) 15 (fun _ => 0)), (cI G (t9 7) 15 (fun _ => 0)), (cI G (t9 8) 15 (fun _ => 0)), (oX1 (t9 9) 0 (t9 10) (t9 11) (t9 12) (t9 13) (t9 14)), (cI G (t9 10) 40 (fun _ => 0)), (cI G (t9 11) 40 (fun _ => 0)), (cI G (t9 12) 40 (fun _ => 0)), (cI G (t9 13) 40 (fun _ => 0)), (cI G (t9 14) 40 (fun _ => 0)), (oX4 (t9 15) (t9 16) (t9 17)), (cI G (t9 16) 60 (fun _ => 0)), (cI G (t9 17) 4 (upd (upd (upd (upd (fun _ => 0) 0 14000) 1 14000) 2 14000) 3 14000)), (cI G (t9 18) 8192 (fun _ => 0)), (oX0 q49 0 0 0 t53), (cI G t53 14 (fun _ => 0)), (oX2 q60 0 0 t64), (cI G t64 200 (fun _ => 0))]) rfl rfl (by decide) (by decide) (by decide) hl.1 (Nat.le_of_ble_eq_true rfl) dX7_init_75 ⟨(Nat.le_of_ble_eq_true rfl), (Nat.le_of_ble_eq_true rfl)⟩ (fun t75 H locs _ hP hD hS => ?_)
  have hPD : PD G A [(h, .inr (9, [.ref q5, .ref (t9 2), .ref (t9 9), .ref (t9 15), .ref q49, .ref q60, .null])), (oX6 q5 (t9 2) (t9 9) (t9 15) (t9 18) 0 0), (oX5 (t9 2) 0 (t9 3) (t9 4) (t9 5) (t9 6) (t9 7) (t9 8) 0), (cI G (t9 3) 15 (fun _ => 0)), (cI G (t9 4) 15 (fun _ => 0)), (cI G (t9 5) 15 (fun _ => 0)), (cI G (t9 6) 15 (fun _ => 0)), (cI G (t9 7) 15 (fun _ => 0)), (cI G (t9 8) 15 (fun _ => 0)), (oX1 (t9 9) 0 (t9 10) (t9 11) (t9 12) (t9 13) (t9 14)), (cI G (t9 10) 40 (fun _ => 0)), (cI G (t9 11) 40 (fun _ => 0)), (cI G (t9 12) 40 (fun _ => 0)), (cI G (t9 13) 40 (fun _ => 0)), (cI G (t9 14) 40 (fun _ => 0)), (oX4 (t9 15) (t9 16) (t9 17)), (cI G (t9 16) 60 (fun _ => 0)), (cI G (t9 17) 4 (upd (upd (upd (upd (fun _ => 0) 0 14000) 1 14000) 2 14000) 3 14000)), (cI G (t9 18) 8192 (fun _ => 0)), (oX0 q49 0 0 0 t53), (cI G t53 14 (fun _ => 0)), (oX2 q60 0 0 t64), (cI G t64 200 (fun _ => 0)), (oX3 q71 0 t75), (cI G t75 14 (fun _ => 0))] H := ⟨hP, hD⟩
  have hP := hPD.1
  have hD := hPD.2
  clear hPD
  refine va_putF (D := G.1) (ci := 9) (v := .ref q71) (ty := .object "FeatureSolve$Reason") (C := RX7) (T := TX7) (N := 7) hx hb hts iX7_init_X7 tyX7 tyX7_ok nmX7 hown hK hP hD hS 0 rfl rfl 6 (by decide) (hts _ fX7_init_33) (fun _ h9 => h9) rfl hin rfl (by decide +kernel) rfl rfl (Nat.le_of_ble_eq_true rfl) dX7_init_78 (fun H locs hP hD hS => ?_)
  have hPD : PD G A [(oX7 h q5 (t9 2) (t9 9) (t9 15) q49 q60 q71), (oX6 q5 (t9 2) (t9 9) (t9 15) (t9 18) 0 0), (oX5 (t9 2) 0 (t9 3) (t9 4) (t9 5) (t9 6) (t9 7) (t9 8) 0), (cI G (t9 3) 15 (fun _ => 0)), (cI G (t9 4) 15 (fun _ => 0)), (cI G (t9 5) 15 (fun _ => 0)), (cI G (t9 6) 15 (fun _ => 0)), (cI G (t9 7) 15 (fun _ => 0)), (cI G (t9 8) 15 (fun _ => 0)), (oX1 (t9 9) 0 (t9 10) (t9 11) (t9 12) (t9 13) (t9 14)), (cI G (t9 10) 40 (fun _ => 0)), (cI G (t9 11) 40 (fun _ => 0)), (cI G (t9 12) 40 (fun _ => 0)), (cI G (t9 13) 40 (fun _ => 0)), (cI G (t9 14) 40 (fun _ => 0)), (oX4 (t9 15) (t9 16) (t9 17)), (cI G (t9 16) 60 (fun _ => 0)), (cI G (t9 17) 4 (upd (upd (upd (upd (fun _ => 0) 0 14000) 1 14000) 2 14000) 3 14000)), (cI G (t9 18) 8192 (fun _ => 0)), (oX0 q49 0 0 0 t53), (cI G t53 14 (fun _ => 0)), (oX2 q60 0 0 t64), (cI G t64 200 (fun _ => 0)), (oX3 q71 0 t75), (cI G t75 14 (fun _ => 0))] H := ⟨hP, hD⟩
  have hP := hPD.1
  have hD := hPD.2
  clear hPD
  exact nret hx hb hr hlocks hS (pickA [h, q5, t9 2, t9 3, t9 4, t9 5, t9 6, t9 7, t9 8, t9 9, t9 10, t9 11, t9 12, t9 13, t9 14, t9 15, t9 16, t9 17, t9 18, q49, t53, q60, t64, q71, t75]) (rfl) hP hD (Nat.le_of_ble_eq_true rfl) (Nat.le_of_ble_eq_true rfl) dX7_init_81

theorem fX8_init_0 : Cond.methodLink RX8 1 objectInit ∈ wsX8_init := by decide +kernel
theorem fX8_init_1 : Cond.instanceMethod objectInit ∈ wsX8_init := by decide +kernel
theorem fX8_init_2 : Cond.code objectInit ⟨#[0xb1]⟩ 1 none ∈ wsX8_init := by decide +kernel
theorem fX8_init_3 : Cond.arrayClass .int ∈ wsX8_init := by decide +kernel
theorem iX8_init_X8 : ∀ w ∈ u_ws RX8 TX8 27, w ∈ wsX8_init := by decide +kernel
theorem fX8_init_5 : Cond.fieldLink RX8 7 "FeatureSolveModel" "parents" "[I" ∈ wsX8_init := by decide +kernel
theorem fX8_init_6 : Cond.fieldLink RX8 13 "FeatureSolveModel" "kinds" "[I" ∈ wsX8_init := by decide +kernel
theorem fX8_init_7 : Cond.arrayClass .boolean ∈ wsX8_init := by decide +kernel
theorem fX8_init_8 : Cond.fieldLink RX8 16 "FeatureSolveModel" "grouped" "[Z" ∈ wsX8_init := by decide +kernel
theorem fX8_init_9 : Cond.fieldLink RX8 20 "FeatureSolveModel" "least" "[I" ∈ wsX8_init := by decide +kernel
theorem fX8_init_10 : Cond.fieldLink RX8 23 "FeatureSolveModel" "most" "[I" ∈ wsX8_init := by decide +kernel
theorem fX8_init_11 : Cond.fieldLink RX8 26 "FeatureSolveModel" "sums" "[I" ∈ wsX8_init := by decide +kernel
theorem fX8_init_12 : Cond.fieldLink RX8 29 "FeatureSolveModel" "ops" "[I" ∈ wsX8_init := by decide +kernel
theorem fX8_init_13 : Cond.fieldLink RX8 32 "FeatureSolveModel" "as" "[I" ∈ wsX8_init := by decide +kernel
theorem fX8_init_14 : Cond.fieldLink RX8 35 "FeatureSolveModel" "bs" "[I" ∈ wsX8_init := by decide +kernel
theorem fX8_init_15 : Cond.fieldLink RX8 38 "FeatureSolveModel" "limited" "[Z" ∈ wsX8_init := by decide +kernel
theorem fX8_init_16 : Cond.fieldLink RX8 41 "FeatureSolveModel" "limits" "[I" ∈ wsX8_init := by decide +kernel
theorem fX8_init_17 : Cond.fieldLink RX8 44 "FeatureSolveModel" "choices" "[I" ∈ wsX8_init := by decide +kernel
theorem fX8_init_18 : Cond.fieldLink RX8 47 "FeatureSolveModel" "sets" "[I" ∈ wsX8_init := by decide +kernel
theorem fX8_init_19 : Cond.fieldLink RX8 50 "FeatureSolveModel" "found" "[I" ∈ wsX8_init := by decide +kernel
theorem fX8_init_20 : Cond.fieldLink RX8 53 "FeatureSolveModel" "foundFeatures" "[I" ∈ wsX8_init := by decide +kernel
theorem fX8_init_21 : Cond.fieldLink RX8 56 "FeatureSolveModel" "whys" "[I" ∈ wsX8_init := by decide +kernel
set_option maxHeartbeats 4000000 in
set_option maxRecDepth 100000 in
/-- FeatureSolveModel() -/
theorem c_X8_init (l : Launch) (G : GG) (h sz : Nat) : Met l yX8_init wsX8_init (rmI 1 16 17077) (va_Pc [.ref h] (PnW G [(h, .inr (10, [.int 0, .null, .null, .null, .null, .null, .null, .int 0, .null, .null, .null, .int 0, .null, .null, .null, .int 0, .int 0, .null, .int 0, .null, .int 0, .null, .int 0, .int 0, .int 0, .null, .int 0]))] sz)) (QnW G (va_A [(h, .inr (10, [.int 0, .null, .null, .null, .null, .null, .null, .int 0, .null, .null, .null, .int 0, .null, .null, .null, .int 0, .int 0, .null, .int 0, .null, .int 0, .null, .int 0, .int 0, .int 0, .null, .int 0]))] sz) (fun u : Nat → Nat => u 0 = h) (fun u => mW G u mS0)) 16 17077 (va_A [(h, .inr (10, [.int 0, .null, .null, .null, .null, .null, .null, .int 0, .null, .null, .null, .int 0, .null, .null, .null, .int 0, .int 0, .null, .int 0, .null, .int 0, .null, .int 0, .int 0, .int 0, .null, .int 0]))] sz) := by
  refine Met.ofW (cc := cX8_init) (maxL := 1) (ret := none) (by decide) rfl ?_
  intro p e s m args below meth c s₁ B hml hv
  obtain ⟨rfl, hsz, hP, hD0, hKK⟩ := hv
  have hx := B.exec
  have hb := B.bytes
  have hr := B.returns
  have hts := atoms_spec (ws := wsX8_init) B.pre
  have hown : s.vm.findClass RX8 = some m.cls := findClass_of_methodNamed B.named
  have hlocks := B.notSynchronized
  have hK := hKK.1
  have hin : meth.name = "<init>" := (name_of_methodNamed B.named B.method).1
  subst hsz
  have hD := hD0.self (sz := s.heap.size)
  generalize hAe : va_A [(h, .inr (10, [.int 0, .null, .null, .null, .null, .null, .null, .int 0, .null, .null, .null, .int 0, .null, .null, .null, .int 0, .int 0, .null, .int 0, .null, .int 0, .null, .int 0, .int 0, .int 0, .null, .int 0]))] s.heap.size = A at hD ⊢
  have hA : ∀ q : Nat, s.heap.size ≤ q → A q := fun q h => by rw [← hAe]; exact Or.inr h
  have hS : va_S A s.heap s.heap [] := va_S.rf
  have hP : va_P G.1 vwCl [(h, .inr (10, [.int 0, .null, .null, .null, .null, .null, .null, .int 0, .null, .null, .null, .int 0, .null, .null, .null, .int 0, .int 0, .null, .int 0, .null, .int 0, .null, .int 0, .int 0, .int 0, .null, .int 0]))] s.heap := hP
  have hl := lv_entry ([.ref h]) (n := 1) (Nat.le_of_ble_eq_true rfl)
  rw [lg_entry_eq]
  generalize (lg_sl ([.ref h]) ++ List.replicate (1 - (lg_sl ([.ref h])).length) Slot.unset).toArray = ls at hl ⊢
  have hl : lv_has ls 1 [(0, .ref h)] := hl
  refine lv_aload_n hx hb dX8_init_0 rfl (lv_at hl 0 rfl) ?_
  refine W.objInit hx hb hown (hts _ fX8_init_0) (hts _ fX8_init_1) (hts _ fX8_init_2) rfl (by rw [hml]; exact hl.1) rfl dX8_init_1 (Nat.le_of_ble_eq_true rfl) (Nat.le_of_ble_eq_true rfl) ?_
  refine W.eq (g2 := F0 m 4 ls []) rfl ?_
  refine lv_aload_n hx hb dX8_init_4 rfl (lv_at hl 0 rfl) ?_
  refine lv_bipush (v := 15) hx hb dX8_init_5 (by decide) ?_
  refine naI hx hb (hts _ fX8_init_3) hK hP hD hS hA 15 (by decide) rfl (by decide) (Nat.le_of_ble_eq_true rfl) (Nat.le_of_ble_eq_true rfl) dX8_init_7 (fun q7 H hP hD hS => ?_)
  have hPD : PD G A [(h, .inr (10, [.int 0, .null, .null, .null, .null, .null, .null, .int 0, .null, .null, .null, .int 0, .null, .null, .null, .int 0, .int 0, .null, .int 0, .null, .int 0, .null, .int 0, .int 0, .int 0, .null, .int 0])), (cI G q7 15 (fun _ => 0))] H := ⟨hP, hD⟩
  have hP := hPD.1
  have hD := hPD.2
  clear hPD
  refine va_putF (D := G.1) (ci := 10) (v := .ref q7) (ty := .array .int) (C := RX8) (T := TX8) (N := 27) hx hb hts iX8_init_X8 tyX8 tyX8_ok nmX8 hown hK hP hD hS 0 rfl rfl 1 (by decide) (hts _ fX8_init_5) (fun _ h9 => h9) rfl hin rfl (by decide +kernel) rfl rfl (Nat.le_of_ble_eq_true rfl) dX8_init_9 (fun H locs hP hD hS => ?_)
  have hPD : PD G A [(h, .inr (10, [.int 0, .ref q7, .null, .null, .null, .null, .null, .int 0, .null, .null, .null, .int 0, .null, .null, .null, .int 0, .int 0, .null, .int 0, .null, .int 0, .null, .int 0, .int 0, .int 0, .null, .int 0])), (cI G q7 15 (fun _ => 0))] H := ⟨hP, hD⟩
  have hP := hPD.1
  have hD := hPD.2
  clear hPD
  refine lv_aload_n hx hb dX8_init_12 rfl (lv_at hl 0 rfl) ?_
  refine lv_bipush (v := 15) hx hb dX8_init_13 (by decide) ?_
  refine naI hx hb (hts _ fX8_init_3) hK hP hD hS hA 15 (by decide) rfl (by decide) (Nat.le_of_ble_eq_true rfl) (Nat.le_of_ble_eq_true rfl) dX8_init_15 (fun q15 H hP hD hS => ?_)
  have hPD : PD G A [(h, .inr (10, [.int 0, .ref q7, .null, .null, .null, .null, .null, .int 0, .null, .null, .null, .int 0, .null, .null, .null, .int 0, .int 0, .null, .int 0, .null, .int 0, .null, .int 0, .int 0, .int 0, .null, .int 0])), (cI G q7 15 (fun _ => 0)), (cI G q15 15 (fun _ => 0))] H := ⟨hP, hD⟩
  have hP := hPD.1
  have hD := hPD.2
  clear hPD
  refine va_putF (D := G.1) (ci := 10) (v := .ref q15) (ty := .array .int) (C := RX8) (T := TX8) (N := 27) hx hb hts iX8_init_X8 tyX8 tyX8_ok nmX8 hown hK hP hD hS 0 rfl rfl 2 (by decide) (hts _ fX8_init_6) (fun _ h9 => h9) rfl hin rfl (by decide +kernel) rfl rfl (Nat.le_of_ble_eq_true rfl) dX8_init_17 (fun H locs hP hD hS => ?_)
  have hPD : PD G A [(h, .inr (10, [.int 0, .ref q7, .ref q15, .null, .null, .null, .null, .int 0, .null, .null, .null, .int 0, .null, .null, .null, .int 0, .int 0, .null, .int 0, .null, .int 0, .null, .int 0, .int 0, .int 0, .null, .int 0])), (cI G q7 15 (fun _ => 0)), (cI G q15 15 (fun _ => 0))] H := ⟨hP, hD⟩
  have hP := hPD.1
  have hD := hPD.2
  clear hPD
  refine lv_aload_n hx hb dX8_init_20 rfl (lv_at hl 0 rfl) ?_
  refine lv_bipush (v := 15) hx hb dX8_init_21 (by decide) ?_
  refine naZ hx hb (hts _ fX8_init_7) hK hP hD hS hA 15 (by decide) rfl (by decide) (Nat.le_of_ble_eq_true rfl) (Nat.le_of_ble_eq_true rfl) dX8_init_23 (fun q23 H hP hD hS => ?_)
  have hPD : PD G A [(h, .inr (10, [.int 0, .ref q7, .ref q15, .null, .null, .null, .null, .int 0, .null, .null, .null, .int 0, .null, .null, .null, .int 0, .int 0, .null, .int 0, .null, .int 0, .null, .int 0, .int 0, .int 0, .null, .int 0])), (cI G q7 15 (fun _ => 0)), (cI G q15 15 (fun _ => 0)), (cZ G q23 15 (fun _ => 0))] H := ⟨hP, hD⟩
  have hP := hPD.1
  have hD := hPD.2
  clear hPD
  refine va_putF (D := G.1) (ci := 10) (v := .ref q23) (ty := .array .boolean) (C := RX8) (T := TX8) (N := 27) hx hb hts iX8_init_X8 tyX8 tyX8_ok nmX8 hown hK hP hD hS 0 rfl rfl 3 (by decide) (hts _ fX8_init_8) (fun _ h9 => h9) rfl hin rfl (by decide +kernel) rfl rfl (Nat.le_of_ble_eq_true rfl) dX8_init_25 (fun H locs hP hD hS => ?_)
  have hPD : PD G A [(h, .inr (10, [.int 0, .ref q7, .ref q15, .ref q23, .null, .null, .null, .int 0, .null, .null, .null, .int 0, .null, .null, .null, .int 0, .int 0, .null, .int 0, .null, .int 0, .null, .int 0, .int 0, .int 0, .null, .int 0])), (cI G q7 15 (fun _ => 0)), (cI G q15 15 (fun _ => 0)), (cZ G q23 15 (fun _ => 0))] H := ⟨hP, hD⟩
  have hP := hPD.1
  have hD := hPD.2
  clear hPD
  refine lv_aload_n hx hb dX8_init_28 rfl (lv_at hl 0 rfl) ?_
  refine lv_bipush (v := 15) hx hb dX8_init_29 (by decide) ?_
  refine naI hx hb (hts _ fX8_init_3) hK hP hD hS hA 15 (by decide) rfl (by decide) (Nat.le_of_ble_eq_true rfl) (Nat.le_of_ble_eq_true rfl) dX8_init_31 (fun q31 H hP hD hS => ?_)
  have hPD : PD G A [(h, .inr (10, [.int 0, .ref q7, .ref q15, .ref q23, .null, .null, .null, .int 0, .null, .null, .null, .int 0, .null, .null, .null, .int 0, .int 0, .null, .int 0, .null, .int 0, .null, .int 0, .int 0, .int 0, .null, .int 0])), (cI G q7 15 (fun _ => 0)), (cI G q15 15 (fun _ => 0)), (cZ G q23 15 (fun _ => 0)), (cI G q31 15 (fun _ => 0))] H := ⟨hP, hD⟩
  have hP := hPD.1
  have hD := hPD.2
  clear hPD
  refine va_putF (D := G.1) (ci := 10) (v := .ref q31) (ty := .array .int) (C := RX8) (T := TX8) (N := 27) hx hb hts iX8_init_X8 tyX8 tyX8_ok nmX8 hown hK hP hD hS 0 rfl rfl 4 (by decide) (hts _ fX8_init_9) (fun _ h9 => h9) rfl hin rfl (by decide +kernel) rfl rfl (Nat.le_of_ble_eq_true rfl) dX8_init_33 (fun H locs hP hD hS => ?_)
  have hPD : PD G A [(h, .inr (10, [.int 0, .ref q7, .ref q15, .ref q23, .ref q31, .null, .null, .int 0, .null, .null, .null, .int 0, .null, .null, .null, .int 0, .int 0, .null, .int 0, .null, .int 0, .null, .int 0, .int 0, .int 0, .null, .int 0])), (cI G q7 15 (fun _ => 0)), (cI G q15 15 (fun _ => 0)), (cZ G q23 15 (fun _ => 0)), (cI G q31 15 (fun _ => 0))] H := ⟨hP, hD⟩
  have hP := hPD.1
  have hD := hPD.2
  clear hPD
  refine lv_aload_n hx hb dX8_init_36 rfl (lv_at hl 0 rfl) ?_
  refine lv_bipush (v := 15) hx hb dX8_init_37 (by decide) ?_
  refine naI hx hb (hts _ fX8_init_3) hK hP hD hS hA 15 (by decide) rfl (by decide) (Nat.le_of_ble_eq_true rfl) (Nat.le_of_ble_eq_true rfl) dX8_init_39 (fun q39 H hP hD hS => ?_)
  have hPD : PD G A [(h, .inr (10, [.int 0, .ref q7, .ref q15, .ref q23, .ref q31, .null, .null, .int 0, .null, .null, .null, .int 0, .null, .null, .null, .int 0, .int 0, .null, .int 0, .null, .int 0, .null, .int 0, .int 0, .int 0, .null, .int 0])), (cI G q7 15 (fun _ => 0)), (cI G q15 15 (fun _ => 0)), (cZ G q23 15 (fun _ => 0)), (cI G q31 15 (fun _ => 0)), (cI G q39 15 (fun _ => 0))] H := ⟨hP, hD⟩
  have hP := hPD.1
  have hD := hPD.2
  clear hPD
  refine va_putF (D := G.1) (ci := 10) (v := .ref q39) (ty := .array .int) (C := RX8) (T := TX8) (N := 27) hx hb hts iX8_init_X8 tyX8 tyX8_ok nmX8 hown hK hP hD hS 0 rfl rfl 5 (by decide) (hts _ fX8_init_10) (fun _ h9 => h9) rfl hin rfl (by decide +kernel) rfl rfl (Nat.le_of_ble_eq_true rfl) dX8_init_41 (fun H locs hP hD hS => ?_)
  have hPD : PD G A [(h, .inr (10, [.int 0, .ref q7, .ref q15, .ref q23, .ref q31, .ref q39, .null, .int 0, .null, .null, .null, .int 0, .null, .null, .null, .int 0, .int 0, .null, .int 0, .null, .int 0, .null, .int 0, .int 0, .int 0, .null, .int 0])), (cI G q7 15 (fun _ => 0)), (cI G q15 15 (fun _ => 0)), (cZ G q23 15 (fun _ => 0)), (cI G q31 15 (fun _ => 0)), (cI G q39 15 (fun _ => 0))] H := ⟨hP, hD⟩
  have hP := hPD.1
  have hD := hPD.2
  clear hPD
  refine lv_aload_n hx hb dX8_init_44 rfl (lv_at hl 0 rfl) ?_
  refine lv_bipush (v := 60) hx hb dX8_init_45 (by decide) ?_
  refine naI hx hb (hts _ fX8_init_3) hK hP hD hS hA 60 (by decide) rfl (by decide) (Nat.le_of_ble_eq_true rfl) (Nat.le_of_ble_eq_true rfl) dX8_init_47 (fun q47 H hP hD hS => ?_)
  have hPD : PD G A [(h, .inr (10, [.int 0, .ref q7, .ref q15, .ref q23, .ref q31, .ref q39, .null, .int 0, .null, .null, .null, .int 0, .null, .null, .null, .int 0, .int 0, .null, .int 0, .null, .int 0, .null, .int 0, .int 0, .int 0, .null, .int 0])), (cI G q7 15 (fun _ => 0)), (cI G q15 15 (fun _ => 0)), (cZ G q23 15 (fun _ => 0)), (cI G q31 15 (fun _ => 0)), (cI G q39 15 (fun _ => 0)), (cI G q47 60 (fun _ => 0))] H := ⟨hP, hD⟩
  have hP := hPD.1
  have hD := hPD.2
  clear hPD
  refine va_putF (D := G.1) (ci := 10) (v := .ref q47) (ty := .array .int) (C := RX8) (T := TX8) (N := 27) hx hb hts iX8_init_X8 tyX8 tyX8_ok nmX8 hown hK hP hD hS 0 rfl rfl 6 (by decide) (hts _ fX8_init_11) (fun _ h9 => h9) rfl hin rfl (by decide +kernel) rfl rfl (Nat.le_of_ble_eq_true rfl) dX8_init_49 (fun H locs hP hD hS => ?_)
  have hPD : PD G A [(h, .inr (10, [.int 0, .ref q7, .ref q15, .ref q23, .ref q31, .ref q39, .ref q47, .int 0, .null, .null, .null, .int 0, .null, .null, .null, .int 0, .int 0, .null, .int 0, .null, .int 0, .null, .int 0, .int 0, .int 0, .null, .int 0])), (cI G q7 15 (fun _ => 0)), (cI G q15 15 (fun _ => 0)), (cZ G q23 15 (fun _ => 0)), (cI G q31 15 (fun _ => 0)), (cI G q39 15 (fun _ => 0)), (cI G q47 60 (fun _ => 0))] H := ⟨hP, hD⟩
  have hP := hPD.1
  have hD := hPD.2
  clear hPD
  refine lv_aload_n hx hb dX8_init_52 rfl (lv_at hl 0 rfl) ?_
  refine lv_bipush (v := 40) hx hb dX8_init_53 (by decide) ?_
  refine naI hx hb (hts _ fX8_init_3) hK hP hD hS hA 40 (by decide) rfl (by decide) (Nat.le_of_ble_eq_true rfl) (Nat.le_of_ble_eq_true rfl) dX8_init_55 (fun q55 H hP hD hS => ?_)
  have hPD : PD G A [(h, .inr (10, [.int 0, .ref q7, .ref q15, .ref q23, .ref q31, .ref q39, .ref q47, .int 0, .null, .null, .null, .int 0, .null, .null, .null, .int 0, .int 0, .null, .int 0, .null, .int 0, .null, .int 0, .int 0, .int 0, .null, .int 0])), (cI G q7 15 (fun _ => 0)), (cI G q15 15 (fun _ => 0)), (cZ G q23 15 (fun _ => 0)), (cI G q31 15 (fun _ => 0)), (cI G q39 15 (fun _ => 0)), (cI G q47 60 (fun _ => 0)), (cI G q55 40 (fun _ => 0))] H := ⟨hP, hD⟩
  have hP := hPD.1
  have hD := hPD.2
  clear hPD
  refine va_putF (D := G.1) (ci := 10) (v := .ref q55) (ty := .array .int) (C := RX8) (T := TX8) (N := 27) hx hb hts iX8_init_X8 tyX8 tyX8_ok nmX8 hown hK hP hD hS 0 rfl rfl 8 (by decide) (hts _ fX8_init_12) (fun _ h9 => h9) rfl hin rfl (by decide +kernel) rfl rfl (Nat.le_of_ble_eq_true rfl) dX8_init_57 (fun H locs hP hD hS => ?_)
  have hPD : PD G A [(h, .inr (10, [.int 0, .ref q7, .ref q15, .ref q23, .ref q31, .ref q39, .ref q47, .int 0, .ref q55, .null, .null, .int 0, .null, .null, .null, .int 0, .int 0, .null, .int 0, .null, .int 0, .null, .int 0, .int 0, .int 0, .null, .int 0])), (cI G q7 15 (fun _ => 0)), (cI G q15 15 (fun _ => 0)), (cZ G q23 15 (fun _ => 0)), (cI G q31 15 (fun _ => 0)), (cI G q39 15 (fun _ => 0)), (cI G q47 60 (fun _ => 0)), (cI G q55 40 (fun _ => 0))] H := ⟨hP, hD⟩
  have hP := hPD.1
  have hD := hPD.2
  clear hPD
  refine lv_aload_n hx hb dX8_init_60 rfl (lv_at hl 0 rfl) ?_
  refine lv_bipush (v := 40) hx hb dX8_init_61 (by decide) ?_
  refine naI hx hb (hts _ fX8_init_3) hK hP hD hS hA 40 (by decide) rfl (by decide) (Nat.le_of_ble_eq_true rfl) (Nat.le_of_ble_eq_true rfl) dX8_init_63 (fun q63 H hP hD hS => ?_)
  have hPD : PD G A [(h, .inr (10, [.int 0, .ref q7, .ref q15, .ref q23, .ref q31, .ref q39, .ref q47, .int 0, .ref q55, .null, .null, .int 0, .null, .null, .null, .int 0, .int 0, .null, .int 0, .null, .int 0, .null, .int 0, .int 0, .int 0, .null, .int 0])), (cI G q7 15 (fun _ => 0)), (cI G q15 15 (fun _ => 0)), (cZ G q23 15 (fun _ => 0)), (cI G q31 15 (fun _ => 0)), (cI G q39 15 (fun _ => 0)), (cI G q47 60 (fun _ => 0)), (cI G q55 40 (fun _ => 0)), (cI G q63 40 (fun _ => 0))] H := ⟨hP, hD⟩
  have hP := hPD.1
  have hD := hPD.2
  clear hPD
  refine va_putF (D := G.1) (ci := 10) (v := .ref q63) (ty := .array .int) (C := RX8) (T := TX8) (N := 27) hx hb hts iX8_init_X8 tyX8 tyX8_ok nmX8 hown hK hP hD hS 0 rfl rfl 9 (by decide) (hts _ fX8_init_13) (fun _ h9 => h9) rfl hin rfl (by decide +kernel) rfl rfl (Nat.le_of_ble_eq_true rfl) dX8_init_65 (fun H locs hP hD hS => ?_)
  have hPD : PD G A [(h, .inr (10, [.int 0, .ref q7, .ref q15, .ref q23, .ref q31, .ref q39, .ref q47, .int 0, .ref q55, .ref q63, .null, .int 0, .null, .null, .null, .int 0, .int 0, .null, .int 0, .null, .int 0, .null, .int 0, .int 0, .int 0, .null, .int 0])), (cI G q7 15 (fun _ => 0)), (cI G q15 15 (fun _ => 0)), (cZ G q23 15 (fun _ => 0)), (cI G q31 15 (fun _ => 0)), (cI G q39 15 (fun _ => 0)), (cI G q47 60 (fun _ => 0)), (cI G q55 40 (fun _ => 0)), (cI G q63 40 (fun _ => 0))] H := ⟨hP, hD⟩
  have hP := hPD.1
  have hD := hPD.2
  clear hPD
  refine lv_aload_n hx hb dX8_init_68 rfl (lv_at hl 0 rfl) ?_
  refine lv_bipush (v := 40) hx hb dX8_init_69 (by decide) ?_
  refine naI hx hb (hts _ fX8_init_3) hK hP hD hS hA 40 (by decide) rfl (by decide) (Nat.le_of_ble_eq_true rfl) (Nat.le_of_ble_eq_true rfl) dX8_init_71 (fun q71 H hP hD hS => ?_)
  have hPD : PD G A [(h, .inr (10, [.int 0, .ref q7, .ref q15, .ref q23, .ref q31, .ref q39, .ref q47, .int 0, .ref q55, .ref q63, .null, .int 0, .null, .null, .null, .int 0, .int 0, .null, .int 0, .null, .int 0, .null, .int 0, .int 0, .int 0, .null, .int 0])), (cI G q7 15 (fun _ => 0)), (cI G q15 15 (fun _ => 0)), (cZ G q23 15 (fun _ => 0)), (cI G q31 15 (fun _ => 0)), (cI G q39 15 (fun _ => 0)), (cI G q47 60 (fun _ => 0)), (cI G q55 40 (fun _ => 0)), (cI G q63 40 (fun _ => 0)), (cI G q71 40 (fun _ => 0))] H := ⟨hP, hD⟩
  have hP := hPD.1
  have hD := hPD.2
  clear hPD
  refine va_putF (D := G.1) (ci := 10) (v := .ref q71) (ty := .array .int) (C := RX8) (T := TX8) (N := 27) hx hb hts iX8_init_X8 tyX8 tyX8_ok nmX8 hown hK hP hD hS 0 rfl rfl 10 (by decide) (hts _ fX8_init_14) (fun _ h9 => h9) rfl hin rfl (by decide +kernel) rfl rfl (Nat.le_of_ble_eq_true rfl) dX8_init_73 (fun H locs hP hD hS => ?_)
  have hPD : PD G A [(h, .inr (10, [.int 0, .ref q7, .ref q15, .ref q23, .ref q31, .ref q39, .ref q47, .int 0, .ref q55, .ref q63, .ref q71, .int 0, .null, .null, .null, .int 0, .int 0, .null, .int 0, .null, .int 0, .null, .int 0, .int 0, .int 0, .null, .int 0])), (cI G q7 15 (fun _ => 0)), (cI G q15 15 (fun _ => 0)), (cZ G q23 15 (fun _ => 0)), (cI G q31 15 (fun _ => 0)), (cI G q39 15 (fun _ => 0)), (cI G q47 60 (fun _ => 0)), (cI G q55 40 (fun _ => 0)), (cI G q63 40 (fun _ => 0)), (cI G q71 40 (fun _ => 0))] H := ⟨hP, hD⟩
  have hP := hPD.1
  have hD := hPD.2
  clear hPD
  refine lv_aload_n hx hb dX8_init_76 rfl (lv_at hl 0 rfl) ?_
  refine lv_iconst (v := 4) hx hb dX8_init_77 (by decide) ?_
  refine naZ hx hb (hts _ fX8_init_7) hK hP hD hS hA 4 (by decide) rfl (by decide) (Nat.le_of_ble_eq_true rfl) (Nat.le_of_ble_eq_true rfl) dX8_init_78 (fun q78 H hP hD hS => ?_)
  have hPD : PD G A [(h, .inr (10, [.int 0, .ref q7, .ref q15, .ref q23, .ref q31, .ref q39, .ref q47, .int 0, .ref q55, .ref q63, .ref q71, .int 0, .null, .null, .null, .int 0, .int 0, .null, .int 0, .null, .int 0, .null, .int 0, .int 0, .int 0, .null, .int 0])), (cI G q7 15 (fun _ => 0)), (cI G q15 15 (fun _ => 0)), (cZ G q23 15 (fun _ => 0)), (cI G q31 15 (fun _ => 0)), (cI G q39 15 (fun _ => 0)), (cI G q47 60 (fun _ => 0)), (cI G q55 40 (fun _ => 0)), (cI G q63 40 (fun _ => 0)), (cI G q71 40 (fun _ => 0)), (cZ G q78 4 (fun _ => 0))] H := ⟨hP, hD⟩
  have hP := hPD.1
  have hD := hPD.2
  clear hPD
  refine va_putF (D := G.1) (ci := 10) (v := .ref q78) (ty := .array .boolean) (C := RX8) (T := TX8) (N := 27) hx hb hts iX8_init_X8 tyX8 tyX8_ok nmX8 hown hK hP hD hS 0 rfl rfl 12 (by decide) (hts _ fX8_init_15) (fun _ h9 => h9) rfl hin rfl (by decide +kernel) rfl rfl (Nat.le_of_ble_eq_true rfl) dX8_init_80 (fun H locs hP hD hS => ?_)
  have hPD : PD G A [(h, .inr (10, [.int 0, .ref q7, .ref q15, .ref q23, .ref q31, .ref q39, .ref q47, .int 0, .ref q55, .ref q63, .ref q71, .int 0, .ref q78, .null, .null, .int 0, .int 0, .null, .int 0, .null, .int 0, .null, .int 0, .int 0, .int 0, .null, .int 0])), (cI G q7 15 (fun _ => 0)), (cI G q15 15 (fun _ => 0)), (cZ G q23 15 (fun _ => 0)), (cI G q31 15 (fun _ => 0)), (cI G q39 15 (fun _ => 0)), (cI G q47 60 (fun _ => 0)), (cI G q55 40 (fun _ => 0)), (cI G q63 40 (fun _ => 0)), (cI G q71 40 (fun _ => 0)), (cZ G q78 4 (fun _ => 0))] H := ⟨hP, hD⟩
  have hP := hPD.1
  have hD := hPD.2
  clear hPD
  refine lv_aload_n hx hb dX8_init_83 rfl (lv_at hl 0 rfl) ?_
  refine lv_iconst (v := 4) hx hb dX8_init_84 (by decide) ?_
  refine naI hx hb (hts _ fX8_init_3) hK hP hD hS hA 4 (by decide) rfl (by decide) (Nat.le_of_ble_eq_true rfl) (Nat.le_of_ble_eq_true rfl) dX8_init_85 (fun q85 H hP hD hS => ?_)
  have hPD : PD G A [(h, .inr (10, [.int 0, .ref q7, .ref q15, .ref q23, .ref q31, .ref q39, .ref q47, .int 0, .ref q55, .ref q63, .ref q71, .int 0, .ref q78, .null, .null, .int 0, .int 0, .null, .int 0, .null, .int 0, .null, .int 0, .int 0, .int 0, .null, .int 0])), (cI G q7 15 (fun _ => 0)), (cI G q15 15 (fun _ => 0)), (cZ G q23 15 (fun _ => 0)), (cI G q31 15 (fun _ => 0)), (cI G q39 15 (fun _ => 0)), (cI G q47 60 (fun _ => 0)), (cI G q55 40 (fun _ => 0)), (cI G q63 40 (fun _ => 0)), (cI G q71 40 (fun _ => 0)), (cZ G q78 4 (fun _ => 0)), (cI G q85 4 (fun _ => 0))] H := ⟨hP, hD⟩
  have hP := hPD.1
  have hD := hPD.2
  clear hPD
  refine va_putF (D := G.1) (ci := 10) (v := .ref q85) (ty := .array .int) (C := RX8) (T := TX8) (N := 27) hx hb hts iX8_init_X8 tyX8 tyX8_ok nmX8 hown hK hP hD hS 0 rfl rfl 13 (by decide) (hts _ fX8_init_16) (fun _ h9 => h9) rfl hin rfl (by decide +kernel) rfl rfl (Nat.le_of_ble_eq_true rfl) dX8_init_87 (fun H locs hP hD hS => ?_)
  have hPD : PD G A [(h, .inr (10, [.int 0, .ref q7, .ref q15, .ref q23, .ref q31, .ref q39, .ref q47, .int 0, .ref q55, .ref q63, .ref q71, .int 0, .ref q78, .ref q85, .null, .int 0, .int 0, .null, .int 0, .null, .int 0, .null, .int 0, .int 0, .int 0, .null, .int 0])), (cI G q7 15 (fun _ => 0)), (cI G q15 15 (fun _ => 0)), (cZ G q23 15 (fun _ => 0)), (cI G q31 15 (fun _ => 0)), (cI G q39 15 (fun _ => 0)), (cI G q47 60 (fun _ => 0)), (cI G q55 40 (fun _ => 0)), (cI G q63 40 (fun _ => 0)), (cI G q71 40 (fun _ => 0)), (cZ G q78 4 (fun _ => 0)), (cI G q85 4 (fun _ => 0))] H := ⟨hP, hD⟩
  have hP := hPD.1
  have hD := hPD.2
  clear hPD
  refine lv_aload_n hx hb dX8_init_90 rfl (lv_at hl 0 rfl) ?_
  refine lv_bipush (v := 14) hx hb dX8_init_91 (by decide) ?_
  refine naI hx hb (hts _ fX8_init_3) hK hP hD hS hA 14 (by decide) rfl (by decide) (Nat.le_of_ble_eq_true rfl) (Nat.le_of_ble_eq_true rfl) dX8_init_93 (fun q93 H hP hD hS => ?_)
  have hPD : PD G A [(h, .inr (10, [.int 0, .ref q7, .ref q15, .ref q23, .ref q31, .ref q39, .ref q47, .int 0, .ref q55, .ref q63, .ref q71, .int 0, .ref q78, .ref q85, .null, .int 0, .int 0, .null, .int 0, .null, .int 0, .null, .int 0, .int 0, .int 0, .null, .int 0])), (cI G q7 15 (fun _ => 0)), (cI G q15 15 (fun _ => 0)), (cZ G q23 15 (fun _ => 0)), (cI G q31 15 (fun _ => 0)), (cI G q39 15 (fun _ => 0)), (cI G q47 60 (fun _ => 0)), (cI G q55 40 (fun _ => 0)), (cI G q63 40 (fun _ => 0)), (cI G q71 40 (fun _ => 0)), (cZ G q78 4 (fun _ => 0)), (cI G q85 4 (fun _ => 0)), (cI G q93 14 (fun _ => 0))] H := ⟨hP, hD⟩
  have hP := hPD.1
  have hD := hPD.2
  clear hPD
  refine va_putF (D := G.1) (ci := 10) (v := .ref q93) (ty := .array .int) (C := RX8) (T := TX8) (N := 27) hx hb hts iX8_init_X8 tyX8 tyX8_ok nmX8 hown hK hP hD hS 0 rfl rfl 14 (by decide) (hts _ fX8_init_17) (fun _ h9 => h9) rfl hin rfl (by decide +kernel) rfl rfl (Nat.le_of_ble_eq_true rfl) dX8_init_95 (fun H locs hP hD hS => ?_)
  have hPD : PD G A [(h, .inr (10, [.int 0, .ref q7, .ref q15, .ref q23, .ref q31, .ref q39, .ref q47, .int 0, .ref q55, .ref q63, .ref q71, .int 0, .ref q78, .ref q85, .ref q93, .int 0, .int 0, .null, .int 0, .null, .int 0, .null, .int 0, .int 0, .int 0, .null, .int 0])), (cI G q7 15 (fun _ => 0)), (cI G q15 15 (fun _ => 0)), (cZ G q23 15 (fun _ => 0)), (cI G q31 15 (fun _ => 0)), (cI G q39 15 (fun _ => 0)), (cI G q47 60 (fun _ => 0)), (cI G q55 40 (fun _ => 0)), (cI G q63 40 (fun _ => 0)), (cI G q71 40 (fun _ => 0)), (cZ G q78 4 (fun _ => 0)), (cI G q85 4 (fun _ => 0)), (cI G q93 14 (fun _ => 0))] H := ⟨hP, hD⟩
  have hP := hPD.1
  have hD := hPD.2
  clear hPD
  refine lv_aload_n hx hb dX8_init_98 rfl (lv_at hl 0 rfl) ?_
  refine lv_sipush (v := 16384) hx hb dX8_init_99 (by decide) ?_
  refine naI hx hb (hts _ fX8_init_3) hK hP hD hS hA 16384 (by decide) rfl (by decide) (Nat.le_of_ble_eq_true rfl) (Nat.le_of_ble_eq_true rfl) dX8_init_102 (fun q102 H hP hD hS => ?_)
  have hPD : PD G A [(h, .inr (10, [.int 0, .ref q7, .ref q15, .ref q23, .ref q31, .ref q39, .ref q47, .int 0, .ref q55, .ref q63, .ref q71, .int 0, .ref q78, .ref q85, .ref q93, .int 0, .int 0, .null, .int 0, .null, .int 0, .null, .int 0, .int 0, .int 0, .null, .int 0])), (cI G q7 15 (fun _ => 0)), (cI G q15 15 (fun _ => 0)), (cZ G q23 15 (fun _ => 0)), (cI G q31 15 (fun _ => 0)), (cI G q39 15 (fun _ => 0)), (cI G q47 60 (fun _ => 0)), (cI G q55 40 (fun _ => 0)), (cI G q63 40 (fun _ => 0)), (cI G q71 40 (fun _ => 0)), (cZ G q78 4 (fun _ => 0)), (cI G q85 4 (fun _ => 0)), (cI G q93 14 (fun _ => 0)), (cI G q102 16384 (fun _ => 0))] H := ⟨hP, hD⟩
  have hP := hPD.1
  have hD := hPD.2
  clear hPD
  refine va_putF (D := G.1) (ci := 10) (v := .ref q102) (ty := .array .int) (C := RX8) (T := TX8) (N := 27) hx hb hts iX8_init_X8 tyX8 tyX8_ok nmX8 hown hK hP hD hS 0 rfl rfl 17 (by decide) (hts _ fX8_init_18) (fun _ h9 => h9) rfl hin rfl (by decide +kernel) rfl rfl (Nat.le_of_ble_eq_true rfl) dX8_init_104 (fun H locs hP hD hS => ?_)
  have hPD : PD G A [(h, .inr (10, [.int 0, .ref q7, .ref q15, .ref q23, .ref q31, .ref q39, .ref q47, .int 0, .ref q55, .ref q63, .ref q71, .int 0, .ref q78, .ref q85, .ref q93, .int 0, .int 0, .ref q102, .int 0, .null, .int 0, .null, .int 0, .int 0, .int 0, .null, .int 0])), (cI G q7 15 (fun _ => 0)), (cI G q15 15 (fun _ => 0)), (cZ G q23 15 (fun _ => 0)), (cI G q31 15 (fun _ => 0)), (cI G q39 15 (fun _ => 0)), (cI G q47 60 (fun _ => 0)), (cI G q55 40 (fun _ => 0)), (cI G q63 40 (fun _ => 0)), (cI G q71 40 (fun _ => 0)), (cZ G q78 4 (fun _ => 0)), (cI G q85 4 (fun _ => 0)), (cI G q93 14 (fun _ => 0)), (cI G q102 16384 (fun _ => 0))] H := ⟨hP, hD⟩
  have hP := hPD.1
  have hD := hPD.2
  clear hPD
  refine lv_aload_n hx hb dX8_init_107 rfl (lv_at hl 0 rfl) ?_
  refine lv_sipush (v := 201) hx hb dX8_init_108 (by decide) ?_
  refine naI hx hb (hts _ fX8_init_3) hK hP hD hS hA 201 (by decide) rfl (by decide) (Nat.le_of_ble_eq_true rfl) (Nat.le_of_ble_eq_true rfl) dX8_init_111 (fun q111 H hP hD hS => ?_)
  have hPD : PD G A [(h, .inr (10, [.int 0, .ref q7, .ref q15, .ref q23, .ref q31, .ref q39, .ref q47, .int 0, .ref q55, .ref q63, .ref q71, .int 0, .ref q78, .ref q85, .ref q93, .int 0, .int 0, .ref q102, .int 0, .null, .int 0, .null, .int 0, .int 0, .int 0, .null, .int 0])), (cI G q7 15 (fun _ => 0)), (cI G q15 15 (fun _ => 0)), (cZ G q23 15 (fun _ => 0)), (cI G q31 15 (fun _ => 0)), (cI G q39 15 (fun _ => 0)), (cI G q47 60 (fun _ => 0)), (cI G q55 40 (fun _ => 0)), (cI G q63 40 (fun _ => 0)), (cI G q71 40 (fun _ => 0)), (cZ G q78 4 (fun _ => 0)), (cI G q85 4 (fun _ => 0)), (cI G q93 14 (fun _ => 0)), (cI G q102 16384 (fun _ => 0)), (cI G q111 201 (fun _ => 0))] H := ⟨hP, hD⟩
  have hP := hPD.1
  have hD := hPD.2
  clear hPD
  refine va_putF (D := G.1) (ci := 10) (v := .ref q111) (ty := .array .int) (C := RX8) (T := TX8) (N := 27) hx hb hts iX8_init_X8 tyX8 tyX8_ok nmX8 hown hK hP hD hS 0 rfl rfl 19 (by decide) (hts _ fX8_init_19) (fun _ h9 => h9) rfl hin rfl (by decide +kernel) rfl rfl (Nat.le_of_ble_eq_true rfl) dX8_init_113 (fun H locs hP hD hS => ?_)
  have hPD : PD G A [(h, .inr (10, [.int 0, .ref q7, .ref q15, .ref q23, .ref q31, .ref q39, .ref q47, .int 0, .ref q55, .ref q63, .ref q71, .int 0, .ref q78, .ref q85, .ref q93, .int 0, .int 0, .ref q102, .int 0, .ref q111, .int 0, .null, .int 0, .int 0, .int 0, .null, .int 0])), (cI G q7 15 (fun _ => 0)), (cI G q15 15 (fun _ => 0)), (cZ G q23 15 (fun _ => 0)), (cI G q31 15 (fun _ => 0)), (cI G q39 15 (fun _ => 0)), (cI G q47 60 (fun _ => 0)), (cI G q55 40 (fun _ => 0)), (cI G q63 40 (fun _ => 0)), (cI G q71 40 (fun _ => 0)), (cZ G q78 4 (fun _ => 0)), (cI G q85 4 (fun _ => 0)), (cI G q93 14 (fun _ => 0)), (cI G q102 16384 (fun _ => 0)), (cI G q111 201 (fun _ => 0))] H := ⟨hP, hD⟩
  have hP := hPD.1
  have hD := hPD.2
  clear hPD
  refine lv_aload_n hx hb dX8_init_116 rfl (lv_at hl 0 rfl) ?_
  refine lv_sipush (v := 201) hx hb dX8_init_117 (by decide) ?_
  refine naI hx hb (hts _ fX8_init_3) hK hP hD hS hA 201 (by decide) rfl (by decide) (Nat.le_of_ble_eq_true rfl) (Nat.le_of_ble_eq_true rfl) dX8_init_120 (fun q120 H hP hD hS => ?_)
  have hPD : PD G A [(h, .inr (10, [.int 0, .ref q7, .ref q15, .ref q23, .ref q31, .ref q39, .ref q47, .int 0, .ref q55, .ref q63, .ref q71, .int 0, .ref q78, .ref q85, .ref q93, .int 0, .int 0, .ref q102, .int 0, .ref q111, .int 0, .null, .int 0, .int 0, .int 0, .null, .int 0])), (cI G q7 15 (fun _ => 0)), (cI G q15 15 (fun _ => 0)), (cZ G q23 15 (fun _ => 0)), (cI G q31 15 (fun _ => 0)), (cI G q39 15 (fun _ => 0)), (cI G q47 60 (fun _ => 0)), (cI G q55 40 (fun _ => 0)), (cI G q63 40 (fun _ => 0)), (cI G q71 40 (fun _ => 0)), (cZ G q78 4 (fun _ => 0)), (cI G q85 4 (fun _ => 0)), (cI G q93 14 (fun _ => 0)), (cI G q102 16384 (fun _ => 0)), (cI G q111 201 (fun _ => 0)), (cI G q120 201 (fun _ => 0))] H := ⟨hP, hD⟩
  have hP := hPD.1
  have hD := hPD.2
  clear hPD
  refine va_putF (D := G.1) (ci := 10) (v := .ref q120) (ty := .array .int) (C := RX8) (T := TX8) (N := 27) hx hb hts iX8_init_X8 tyX8 tyX8_ok nmX8 hown hK hP hD hS 0 rfl rfl 21 (by decide) (hts _ fX8_init_20) (fun _ h9 => h9) rfl hin rfl (by decide +kernel) rfl rfl (Nat.le_of_ble_eq_true rfl) dX8_init_122 (fun H locs hP hD hS => ?_)
  have hPD : PD G A [(h, .inr (10, [.int 0, .ref q7, .ref q15, .ref q23, .ref q31, .ref q39, .ref q47, .int 0, .ref q55, .ref q63, .ref q71, .int 0, .ref q78, .ref q85, .ref q93, .int 0, .int 0, .ref q102, .int 0, .ref q111, .int 0, .ref q120, .int 0, .int 0, .int 0, .null, .int 0])), (cI G q7 15 (fun _ => 0)), (cI G q15 15 (fun _ => 0)), (cZ G q23 15 (fun _ => 0)), (cI G q31 15 (fun _ => 0)), (cI G q39 15 (fun _ => 0)), (cI G q47 60 (fun _ => 0)), (cI G q55 40 (fun _ => 0)), (cI G q63 40 (fun _ => 0)), (cI G q71 40 (fun _ => 0)), (cZ G q78 4 (fun _ => 0)), (cI G q85 4 (fun _ => 0)), (cI G q93 14 (fun _ => 0)), (cI G q102 16384 (fun _ => 0)), (cI G q111 201 (fun _ => 0)), (cI G q120 201 (fun _ => 0))] H := ⟨hP, hD⟩
  have hP := hPD.1
  have hD := hPD.2
  clear hPD
  refine lv_aload_n hx hb dX8_init_125 rfl (lv_at hl 0 rfl) ?_
  refine lv_bipush (v := 14) hx hb dX8_init_126 (by decide) ?_
  refine naI hx hb (hts _ fX8_init_3) hK hP hD hS hA 14 (by decide) rfl (by decide) (Nat.le_of_ble_eq_true rfl) (Nat.le_of_ble_eq_true rfl) dX8_init_128 (fun q128 H hP hD hS => ?_)
  have hPD : PD G A [(h, .inr (10, [.int 0, .ref q7, .ref q15, .ref q23, .ref q31, .ref q39, .ref q47, .int 0, .ref q55, .ref q63, .ref q71, .int 0, .ref q78, .ref q85, .ref q93, .int 0, .int 0, .ref q102, .int 0, .ref q111, .int 0, .ref q120, .int 0, .int 0, .int 0, .null, .int 0])), (cI G q7 15 (fun _ => 0)), (cI G q15 15 (fun _ => 0)), (cZ G q23 15 (fun _ => 0)), (cI G q31 15 (fun _ => 0)), (cI G q39 15 (fun _ => 0)), (cI G q47 60 (fun _ => 0)), (cI G q55 40 (fun _ => 0)), (cI G q63 40 (fun _ => 0)), (cI G q71 40 (fun _ => 0)), (cZ G q78 4 (fun _ => 0)), (cI G q85 4 (fun _ => 0)), (cI G q93 14 (fun _ => 0)), (cI G q102 16384 (fun _ => 0)), (cI G q111 201 (fun _ => 0)), (cI G q120 201 (fun _ => 0)), (cI G q128 14 (fun _ => 0))] H := ⟨hP, hD⟩
  have hP := hPD.1
  have hD := hPD.2
  clear hPD
  refine va_putF (D := G.1) (ci := 10) (v := .ref q128) (ty := .array .int) (C := RX8) (T := TX8) (N := 27) hx hb hts iX8_init_X8 tyX8 tyX8_ok nmX8 hown hK hP hD hS 0 rfl rfl 25 (by decide) (hts _ fX8_init_21) (fun _ h9 => h9) rfl hin rfl (by decide +kernel) rfl rfl (Nat.le_of_ble_eq_true rfl) dX8_init_130 (fun H locs hP hD hS => ?_)
  have hPD : PD G A [(oX8 h 0 q7 q15 q23 q31 q39 q47 0 q55 q63 q71 0 q78 q85 q93 0 0 q102 0 q111 0 q120 0 0 0 q128 0), (cI G q7 15 (fun _ => 0)), (cI G q15 15 (fun _ => 0)), (cZ G q23 15 (fun _ => 0)), (cI G q31 15 (fun _ => 0)), (cI G q39 15 (fun _ => 0)), (cI G q47 60 (fun _ => 0)), (cI G q55 40 (fun _ => 0)), (cI G q63 40 (fun _ => 0)), (cI G q71 40 (fun _ => 0)), (cZ G q78 4 (fun _ => 0)), (cI G q85 4 (fun _ => 0)), (cI G q93 14 (fun _ => 0)), (cI G q102 16384 (fun _ => 0)), (cI G q111 201 (fun _ => 0)), (cI G q120 201 (fun _ => 0)), (cI G q128 14 (fun _ => 0))] H := ⟨hP, hD⟩
  have hP := hPD.1
  have hD := hPD.2
  clear hPD
  exact nret hx hb hr hlocks hS (pickA [h, q7, q15, q23, q31, q39, q47, 0, q55, q63, q71, 0, q78, q85, q93, 0, 0, q102, 0, q111, 0, q120, 0, 0, 0, q128]) (rfl) hP hD (Nat.le_of_ble_eq_true rfl) (Nat.le_of_ble_eq_true rfl) dX8_init_133
