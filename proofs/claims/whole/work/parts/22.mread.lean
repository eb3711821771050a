theorem iX8_thrown_X8 : ∀ w ∈ u_ws RX8 TX8 27, w ∈ wsX8_thrown := by decide +kernel
theorem fX8_thrown_1 : Cond.fieldLink RX8 59 "FeatureSolveModel" "thrown" "I" ∈ wsX8_thrown := by decide +kernel
set_option maxHeartbeats 4000000 in
set_option maxRecDepth 100000 in
/-- thrown() -/
theorem c_X8_thrown (l : Launch) (G : GG) (b : Nat → Nat) (th : Int32) (n mf cc : Nat) (kn : Bool) (sc fc : Nat) (so : Bool) (la lq : Int32) (wq : Nat)  : Met l yX8_thrown wsX8_thrown (rmK 0) (va_Pc [.ref (b 0)] (PS G [(oX8 (b 0) th (b 1) (b 2) (b 3) (b 4) (b 5) (b 6) (nI n) (b 8) (b 9) (b 10) (nI mf) (b 12) (b 13) (b 14) (nI cc) (bI kn) (b 17) (nI sc) (b 19) (nI fc) (b 21) (bI so) la lq (b 25) (nI wq))])) (QcRead (th)) 0 0 (fun _ => False) := by
  refine Met.ofW (cc := cX8_thrown) (maxL := 1) (ret := (some .int)) (by decide) rfl ?_
  intro p e s m args below meth c s₁ B hml hv
  obtain ⟨rfl, hP, hKK⟩ := hv
  have hx := B.exec
  have hb := B.bytes
  have hr := B.returns
  have hts := atoms_spec (ws := wsX8_thrown) B.pre
  have hown : s.vm.findClass RX8 = some m.cls := findClass_of_methodNamed B.named
  have hlocks := B.notSynchronized
  have hK := hKK.1
  have hl := lv_entry ([.ref (b 0)]) (n := 1) (Nat.le_of_ble_eq_true rfl)
  rw [lg_entry_eq]
  generalize (lg_sl ([.ref (b 0)]) ++ List.replicate (1 - (lg_sl ([.ref (b 0)])).length) Slot.unset).toArray = ls at hl ⊢
  have hl : lv_has ls 1 [(0, .ref (b 0))] := hl
  refine lv_aload_n hx hb dX8_thrown_0 rfl (lv_at hl 0 rfl) ?_
  refine va_get (D := G.1) (ci := 10) (v := .int th) (C := RX8) (T := TX8) (N := 27) hx hb hts iX8_thrown_X8 hown hK hP 0 rfl rfl 0 (by decide) (hts _ fX8_thrown_1) (fun _ h9 => h9) rfl dX8_thrown_1 ?_
  exact pret hx hb hr hlocks rfl (rfl) dX8_thrown_4

theorem iX8_isFeature_X8 : ∀ w ∈ u_ws RX8 TX8 27, w ∈ wsX8_isFeature := by decide +kernel
theorem fX8_isFeature_1 : Cond.fieldLink RX8 63 "FeatureSolveModel" "features" "I" ∈ wsX8_isFeature := by decide +kernel
set_option maxHeartbeats 4000000 in
set_option maxRecDepth 100000 in
/-- isFeature(x) -/
theorem c_X8_isFeature (l : Launch) (G : GG) (b : Nat → Nat) (th : Int32) (n mf cc : Nat) (kn : Bool) (sc fc : Nat) (so : Bool) (la lq : Int32) (wq : Nat) (x : Int32) : Met l yX8_isFeature wsX8_isFeature (rmK 0) (va_Pc [.ref (b 0), .int x] (PS G [(oX8 (b 0) th (b 1) (b 2) (b 3) (b 4) (b 5) (b 6) (nI n) (b 8) (b 9) (b 10) (nI mf) (b 12) (b 13) (b 14) (nI cc) (bI kn) (b 17) (nI sc) (b 19) (nI fc) (b 21) (bI so) la lq (b 25) (nI wq))])) (QcRead (bI (hasB (nI n) x))) 0 0 (fun _ => False) := by
  refine Met.ofW (cc := cX8_isFeature) (maxL := 2) (ret := (some .boolean)) (by decide) rfl ?_
  intro p e s m args below meth c s₁ B hml hv
  obtain ⟨rfl, hP, hKK⟩ := hv
  have hx := B.exec
  have hb := B.bytes
  have hr := B.returns
  have hts := atoms_spec (ws := wsX8_isFeature) B.pre
  have hown : s.vm.findClass RX8 = some m.cls := findClass_of_methodNamed B.named
  have hlocks := B.notSynchronized
  have hK := hKK.1
  have hl := lv_entry ([.ref (b 0), .int x]) (n := 2) (Nat.le_of_ble_eq_true rfl)
  rw [lg_entry_eq]
  generalize (lg_sl ([.ref (b 0), .int x]) ++ List.replicate (2 - (lg_sl ([.ref (b 0), .int x])).length) Slot.unset).toArray = ls at hl ⊢
  have hl : lv_has ls 2 [(0, .ref (b 0)), (1, .int x)] := hl
  refine lv_iload_n hx hb dX8_isFeature_0 rfl (lv_at hl 1 rfl) ?_
  refine lv_iconst (v := 1) hx hb dX8_isFeature_1 (by decide) ?_
  refine lv_icmp_lt (tgt := 17) hx hb dX8_isFeature_2 (by decide) (fun c_2 => ?_) (fun c_2 => ?_)
  · skip
    refine lv_iconst (v := 0) hx hb dX8_isFeature_17 (by decide) ?_
    exact pret hx hb hr hlocks rfl (bI_no _ hasB_iff (fun h => i_lt1.mp c_2 h.1)) dX8_isFeature_18
  · skip
    refine lv_iload_n hx hb dX8_isFeature_5 rfl (lv_at hl 1 rfl) ?_
    refine lv_aload_n hx hb dX8_isFeature_6 rfl (lv_at hl 0 rfl) ?_
    refine va_get (D := G.1) (ci := 10) (v := .int (nI n)) (C := RX8) (T := TX8) (N := 27) hx hb hts iX8_isFeature_X8 hown hK hP 0 rfl rfl 7 (by decide) (hts _ fX8_isFeature_1) (fun _ h9 => h9) rfl dX8_isFeature_7 ?_
    refine lv_icmp_gt (tgt := 17) hx hb dX8_isFeature_10 (by decide) (fun c_10 => ?_) (fun c_10 => ?_)
    · skip
      refine lv_iconst (v := 0) hx hb dX8_isFeature_17 (by decide) ?_
      exact pret hx hb hr hlocks rfl (bI_no _ hasB_iff (fun h => i_nlt.mpr h.2 c_10)) dX8_isFeature_18
    · skip
      refine lv_iconst (v := 1) hx hb dX8_isFeature_13 (by decide) ?_
      refine lv_goto (tgt := 18) hx hb dX8_isFeature_14 (by decide) ?_
      exact pret hx hb hr hlocks rfl (bI_of _ hasB_iff ⟨i_nlt.mp c_2, i_nlt.mp c_10⟩) dX8_isFeature_18

theorem iX8_isIn_X8 : ∀ w ∈ u_ws RX8 TX8 27, w ∈ wsX8_isIn := by decide +kernel
theorem fX8_isIn_1 : Cond.fieldLink RX8 63 "FeatureSolveModel" "features" "I" ∈ wsX8_isIn := by decide +kernel
set_option maxHeartbeats 4000000 in
set_option maxRecDepth 100000 in
/-- isIn(set, f) -/
theorem c_X8_isIn (l : Launch) (G : GG) (b : Nat → Nat) (th : Int32) (n mf cc : Nat) (kn : Bool) (sc fc : Nat) (so : Bool) (la lq : Int32) (wq : Nat) (s0 f : Int32) : Met l yX8_isIn wsX8_isIn (rmK 0) (va_Pc [.ref (b 0), .int s0, .int f] (PS G [(oX8 (b 0) th (b 1) (b 2) (b 3) (b 4) (b 5) (b 6) (nI n) (b 8) (b 9) (b 10) (nI mf) (b 12) (b 13) (b 14) (nI cc) (bI kn) (b 17) (nI sc) (b 19) (nI fc) (b 21) (bI so) la lq (b 25) (nI wq))])) (QcRead (bI (isInB (nI n) s0 f))) 0 0 (fun _ => False) := by
  refine Met.ofW (cc := cX8_isIn) (maxL := 3) (ret := (some .boolean)) (by decide) rfl ?_
  intro p e s m args below meth c s₁ B hml hv
  obtain ⟨rfl, hP, hKK⟩ := hv
  have hx := B.exec
  have hb := B.bytes
  have hr := B.returns
  have hts := atoms_spec (ws := wsX8_isIn) B.pre
  have hown : s.vm.findClass RX8 = some m.cls := findClass_of_methodNamed B.named
  have hlocks := B.notSynchronized
  have hK := hKK.1
  have hl := lv_entry ([.ref (b 0), .int s0, .int f]) (n := 3) (Nat.le_of_ble_eq_true rfl)
  rw [lg_entry_eq]
  generalize (lg_sl ([.ref (b 0), .int s0, .int f]) ++ List.replicate (3 - (lg_sl ([.ref (b 0), .int s0, .int f])).length) Slot.unset).toArray = ls at hl ⊢
  have hl : lv_has ls 3 [(0, .ref (b 0)), (1, .int s0), (2, .int f)] := hl
  refine lv_iload_n hx hb dX8_isIn_0 rfl (lv_at hl 1 rfl) ?_
  refine lv_aload_n hx hb dX8_isIn_1 rfl (lv_at hl 0 rfl) ?_
  refine va_get (D := G.1) (ci := 10) (v := .int (nI n)) (C := RX8) (T := TX8) (N := 27) hx hb hts iX8_isIn_X8 hown hK hP 0 rfl rfl 7 (by decide) (hts _ fX8_isIn_1) (fun _ h9 => h9) rfl dX8_isIn_2 ?_
  refine lv_iload_n hx hb dX8_isIn_5 rfl (lv_at hl 2 rfl) ?_
  refine lv_isub hx hb dX8_isIn_6 ?_
  refine lv_ishr hx hb dX8_isIn_7 ?_
  refine lv_iconst (v := 1) hx hb dX8_isIn_8 (by decide) ?_
  refine lv_iand hx hb dX8_isIn_9 ?_
  refine lv_iconst (v := 1) hx hb dX8_isIn_10 (by decide) ?_
  refine lv_icmp_ne (tgt := 18) hx hb dX8_isIn_11 (by decide) (fun c_11 => ?_) (fun c_11 => ?_)
  · skip
    refine lv_iconst (v := 0) hx hb dX8_isIn_18 (by decide) ?_
    exact pret hx hb hr hlocks rfl (bI_no _ decide_eq_true_iff c_11) dX8_isIn_19
  · skip
    refine lv_iconst (v := 1) hx hb dX8_isIn_14 (by decide) ?_
    refine lv_goto (tgt := 19) hx hb dX8_isIn_15 (by decide) ?_
    exact pret hx hb hr hlocks rfl (bI_of _ decide_eq_true_iff c_11) dX8_isIn_19

theorem hd_X8_isIn : yX8_isIn.cls ≠ "java/lang/invoke/MethodHandle" ∧ yX8_isIn.cls ≠ "java/lang/invoke/VarHandle" ∧ (parseMethodDescriptor yX8_isIn.desc).map (fun d => d.parameters.length) = some 2 := by decide +kernel
set_option maxHeartbeats 4000000 in
set_option maxRecDepth 100000 in
/-- holds(set, x) -/
theorem c_X8_holds (l : Launch) (G : GG) (b : Nat → Nat) (th : Int32) (n mf cc : Nat) (kn : Bool) (sc fc : Nat) (so : Bool) (la lq : Int32) (wq : Nat) (s0 x : Int32) : Met l yX8_holds wsX8_holds (rmK 1) (va_Pc [.ref (b 0), .int s0, .int x] (PS G [(oX8 (b 0) th (b 1) (b 2) (b 3) (b 4) (b 5) (b 6) (nI n) (b 8) (b 9) (b 10) (nI mf) (b 12) (b 13) (b 14) (nI cc) (bI kn) (b 17) (nI sc) (b 19) (nI fc) (b 21) (bI so) la lq (b 25) (nI wq))])) (QcRead (bI (litB (nI n) s0 x))) 0 0 (fun _ => False) := by
  refine Met.ofW (cc := cX8_holds) (maxL := 3) (ret := (some .boolean)) (by decide) rfl ?_
  intro p e s m args below meth c s₁ B hml hv
  obtain ⟨rfl, hP, hKK⟩ := hv
  have hx := B.exec
  have hb := B.bytes
  have hr := B.returns
  have hts := atoms_spec (ws := wsX8_holds) B.pre
  have hown : s.vm.findClass RX8 = some m.cls := findClass_of_methodNamed B.named
  have hlocks := B.notSynchronized
  have hK := hKK.1
  have hl := lv_entry ([.ref (b 0), .int s0, .int x]) (n := 3) (Nat.le_of_ble_eq_true rfl)
  rw [lg_entry_eq]
  generalize (lg_sl ([.ref (b 0), .int s0, .int x]) ++ List.replicate (3 - (lg_sl ([.ref (b 0), .int s0, .int x])).length) Slot.unset).toArray = ls at hl ⊢
  have hl : lv_has ls 3 [(0, .ref (b 0)), (1, .int s0), (2, .int x)] := hl
  refine lv_iload_n hx hb dX8_holds_0 rfl (lv_at hl 2 rfl) ?_
  refine lv_if_le (tgt := 13) hx hb dX8_holds_1 (by decide) (fun c_1 => ?_) (fun c_1 => ?_)
  · skip
    refine lv_aload_n hx hb dX8_holds_13 rfl (lv_at hl 0 rfl) ?_
    refine lv_iload_n hx hb dX8_holds_14 rfl (lv_at hl 1 rfl) ?_
    refine lv_iload_n hx hb dX8_holds_15 rfl (lv_at hl 2 rfl) ?_
    refine lv_ineg hx hb dX8_holds_16 ?_
    refine cpV (ci := 10) (T0 := TX8) (N := 27) (As := [.int s0, .int (-x)]) (rest := []) ⟨hx, hb, hml, hown, hts⟩ (c_X8_isIn l G b th n mf cc kn sc fc so la lq wq  s0 (-x) ) (cwV 2 hts gX8_holds_X8_isIn rfl rfl rfl ⟨rfl, hd_X8_isIn⟩ ⟨Nat.le_of_ble_eq_true rfl, Nat.le_of_ble_eq_true rfl⟩) hKK hP [0] rfl rfl rfl rfl hl.1 rfl (Nat.le_of_ble_eq_true rfl) dX8_holds_17 ⟨Nat.zero_le _, Nat.zero_le _⟩ ?_
    refine lv_if_ne (tgt := 27) hx hb dX8_holds_20 (by decide) (fun c_20 => ?_) (fun c_20 => ?_)
    · skip
      refine lv_iconst (v := 0) hx hb dX8_holds_27 (by decide) ?_
      exact pret hx hb hr hlocks rfl (by unfold litB; rw [if_pos c_1, bI_n0 c_20]; rfl) dX8_holds_28
    · skip
      refine lv_iconst (v := 1) hx hb dX8_holds_23 (by decide) ?_
      refine lv_goto (tgt := 28) hx hb dX8_holds_24 (by decide) ?_
      exact pret hx hb hr hlocks rfl (by unfold litB; rw [if_pos c_1, bI_0.mp c_20]; rfl) dX8_holds_28
  · skip
    refine lv_aload_n hx hb dX8_holds_4 rfl (lv_at hl 0 rfl) ?_
    refine lv_iload_n hx hb dX8_holds_5 rfl (lv_at hl 1 rfl) ?_
    refine lv_iload_n hx hb dX8_holds_6 rfl (lv_at hl 2 rfl) ?_
    refine cpV (ci := 10) (T0 := TX8) (N := 27) (As := [.int s0, .int x]) (rest := []) ⟨hx, hb, hml, hown, hts⟩ (c_X8_isIn l G b th n mf cc kn sc fc so la lq wq  s0 x ) (cwV 2 hts gX8_holds_X8_isIn rfl rfl rfl ⟨rfl, hd_X8_isIn⟩ ⟨Nat.le_of_ble_eq_true rfl, Nat.le_of_ble_eq_true rfl⟩) hKK hP [0] rfl rfl rfl rfl hl.1 rfl (Nat.le_of_ble_eq_true rfl) dX8_holds_7 ⟨Nat.zero_le _, Nat.zero_le _⟩ ?_
    refine lv_goto (tgt := 28) hx hb dX8_holds_10 (by decide) ?_
    exact pret hx hb hr hlocks (bI_nar _) (by unfold litB; rw [if_neg c_1]) dX8_holds_28

set_option maxHeartbeats 4000000 in
set_option maxRecDepth 100000 in
/-- wasIn -/
theorem c_X8_wasIn (l : Launch) (G : GG) (s0 q f : Int32) : Met l yX8_wasIn wsX8_wasIn (rmK 0) (va_Pc [.int s0, .int q, .int f] (PS G [])) (QcRead (bI (wasB s0 q f))) 0 0 (fun _ => False) := by
  refine Met.ofW (cc := cX8_wasIn) (maxL := 3) (ret := (some .boolean)) (by decide) rfl ?_
  intro p e s m args below meth c s₁ B hml hv
  obtain ⟨rfl, hP, hKK⟩ := hv
  have hx := B.exec
  have hb := B.bytes
  have hr := B.returns
  have hts := atoms_spec (ws := wsX8_wasIn) B.pre
  have hown : s.vm.findClass RX8 = some m.cls := findClass_of_methodNamed B.named
  have hlocks := B.notSynchronized
  have hK := hKK.1
  have hl := lv_entry ([.int s0, .int q, .int f]) (n := 3) (Nat.le_of_ble_eq_true rfl)
  rw [lg_entry_eq]
  generalize (lg_sl ([.int s0, .int q, .int f]) ++ List.replicate (3 - (lg_sl ([.int s0, .int q, .int f])).length) Slot.unset).toArray = ls at hl ⊢
  have hl : lv_has ls 3 [(0, .int s0), (1, .int q), (2, .int f)] := hl
  refine lv_iload_n hx hb dX8_wasIn_0 rfl (lv_at hl 2 rfl) ?_
  refine lv_iconst (v := 1) hx hb dX8_wasIn_1 (by decide) ?_
  refine lv_icmp_lt (tgt := 25) hx hb dX8_wasIn_2 (by decide) (fun c_2 => ?_) (fun c_2 => ?_)
  · skip
    refine lv_iconst (v := 0) hx hb dX8_wasIn_25 (by decide) ?_
    exact pret hx hb hr hlocks rfl (by unfold wasB; rw [if_pos c_2]; rfl) dX8_wasIn_26
  · skip
    refine lv_iload_n hx hb dX8_wasIn_5 rfl (lv_at hl 2 rfl) ?_
    refine lv_iload_n hx hb dX8_wasIn_6 rfl (lv_at hl 1 rfl) ?_
    refine lv_icmp_gt (tgt := 25) hx hb dX8_wasIn_7 (by decide) (fun c_7 => ?_) (fun c_7 => ?_)
    · skip
      refine lv_iconst (v := 0) hx hb dX8_wasIn_25 (by decide) ?_
      exact pret hx hb hr hlocks rfl (by unfold wasB; rw [if_neg c_2, if_pos c_7]; rfl) dX8_wasIn_26
    · skip
      refine lv_iload_n hx hb dX8_wasIn_10 rfl (lv_at hl 0 rfl) ?_
      refine lv_iload_n hx hb dX8_wasIn_11 rfl (lv_at hl 1 rfl) ?_
      refine lv_iload_n hx hb dX8_wasIn_12 rfl (lv_at hl 2 rfl) ?_
      refine lv_isub hx hb dX8_wasIn_13 ?_
      refine lv_ishr hx hb dX8_wasIn_14 ?_
      refine lv_iconst (v := 1) hx hb dX8_wasIn_15 (by decide) ?_
      refine lv_iand hx hb dX8_wasIn_16 ?_
      refine lv_iconst (v := 1) hx hb dX8_wasIn_17 (by decide) ?_
      refine lv_icmp_ne (tgt := 25) hx hb dX8_wasIn_18 (by decide) (fun c_18 => ?_) (fun c_18 => ?_)
      · skip
        refine lv_iconst (v := 0) hx hb dX8_wasIn_25 (by decide) ?_
        exact pret hx hb hr hlocks rfl (by unfold wasB; rw [if_neg c_2, if_neg c_7]; exact bI_no _ decide_eq_true_iff c_18) dX8_wasIn_26
      · skip
        refine lv_iconst (v := 1) hx hb dX8_wasIn_21 (by decide) ?_
        refine lv_goto (tgt := 26) hx hb dX8_wasIn_22 (by decide) ?_
        exact pret hx hb hr hlocks rfl (by unfold wasB; rw [if_neg c_2, if_neg c_7]; exact bI_of _ decide_eq_true_iff c_18) dX8_wasIn_26

theorem hd_X8_isFeature : yX8_isFeature.cls ≠ "java/lang/invoke/MethodHandle" ∧ yX8_isFeature.cls ≠ "java/lang/invoke/VarHandle" ∧ (parseMethodDescriptor yX8_isFeature.desc).map (fun d => d.parameters.length) = some 1 := by decide +kernel
set_option maxHeartbeats 4000000 in
set_option maxRecDepth 100000 in
/-- isLiteral(x) -/
theorem c_X8_isLiteral (l : Launch) (G : GG) (b : Nat → Nat) (th : Int32) (n mf cc : Nat) (kn : Bool) (sc fc : Nat) (so : Bool) (la lq : Int32) (wq : Nat) (x : Int32) : Met l yX8_isLiteral wsX8_isLiteral (rmK 1) (va_Pc [.ref (b 0), .int x] (PS G [(oX8 (b 0) th (b 1) (b 2) (b 3) (b 4) (b 5) (b 6) (nI n) (b 8) (b 9) (b 10) (nI mf) (b 12) (b 13) (b 14) (nI cc) (bI kn) (b 17) (nI sc) (b 19) (nI fc) (b 21) (bI so) la lq (b 25) (nI wq))])) (QcRead (bI (litOkB (nI n) x))) 0 0 (fun _ => False) := by
  refine Met.ofW (cc := cX8_isLiteral) (maxL := 2) (ret := (some .boolean)) (by decide) rfl ?_
  intro p e s m args below meth c s₁ B hml hv
  obtain ⟨rfl, hP, hKK⟩ := hv
  have hx := B.exec
  have hb := B.bytes
  have hr := B.returns
  have hts := atoms_spec (ws := wsX8_isLiteral) B.pre
  have hown : s.vm.findClass RX8 = some m.cls := findClass_of_methodNamed B.named
  have hlocks := B.notSynchronized
  have hK := hKK.1
  have hl := lv_entry ([.ref (b 0), .int x]) (n := 2) (Nat.le_of_ble_eq_true rfl)
  rw [lg_entry_eq]
  generalize (lg_sl ([.ref (b 0), .int x]) ++ List.replicate (2 - (lg_sl ([.ref (b 0), .int x])).length) Slot.unset).toArray = ls at hl ⊢
  have hl : lv_has ls 2 [(0, .ref (b 0)), (1, .int x)] := hl
  refine lv_aload_n hx hb dX8_isLiteral_0 rfl (lv_at hl 0 rfl) ?_
  refine lv_iload_n hx hb dX8_isLiteral_1 rfl (lv_at hl 1 rfl) ?_
  refine cpV (ci := 10) (T0 := TX8) (N := 27) (As := [.int x]) (rest := []) ⟨hx, hb, hml, hown, hts⟩ (c_X8_isFeature l G b th n mf cc kn sc fc so la lq wq  x ) (cwV 1 hts gX8_isLiteral_X8_isFeature rfl rfl rfl ⟨rfl, hd_X8_isFeature⟩ ⟨Nat.le_of_ble_eq_true rfl, Nat.le_of_ble_eq_true rfl⟩) hKK hP [0] rfl rfl rfl rfl hl.1 rfl (Nat.le_of_ble_eq_true rfl) dX8_isLiteral_2 ⟨Nat.zero_le _, Nat.zero_le _⟩ ?_
  refine lv_if_ne (tgt := 27) hx hb dX8_isLiteral_5 (by decide) (fun c_5 => ?_) (fun c_5 => ?_)
  · skip
    refine lv_iconst (v := 1) hx hb dX8_isLiteral_27 (by decide) ?_
    refine lv_goto (tgt := 32) hx hb dX8_isLiteral_28 (by decide) ?_
    exact pret hx hb hr hlocks rfl (by unfold litOkB; rw [if_pos (bI_n0 c_5)]; rfl) dX8_isLiteral_32
  · skip
    refine lv_iload_n hx hb dX8_isLiteral_8 rfl (lv_at hl 1 rfl) ?_
    refine lv_if_ge (tgt := 31) hx hb dX8_isLiteral_9 (by decide) (fun c_9 => ?_) (fun c_9 => ?_)
    · skip
      refine lv_iconst (v := 0) hx hb dX8_isLiteral_31 (by decide) ?_
      exact pret hx hb hr hlocks rfl (by unfold litOkB; rw [if_neg (by rw [bI_0.mp c_5]; decide), if_pos c_9]; rfl) dX8_isLiteral_32
    · skip
      refine lv_iload_n hx hb dX8_isLiteral_12 rfl (lv_at hl 1 rfl) ?_
      refine lv_bipush (v := -14) hx hb dX8_isLiteral_13 (by decide) ?_
      refine lv_icmp_lt (tgt := 31) hx hb dX8_isLiteral_15 (by decide) (fun c_15 => ?_) (fun c_15 => ?_)
      · skip
        refine lv_iconst (v := 0) hx hb dX8_isLiteral_31 (by decide) ?_
        exact pret hx hb hr hlocks rfl (by unfold litOkB; rw [if_neg (by rw [bI_0.mp c_5]; decide), if_neg c_9, if_pos c_15]; rfl) dX8_isLiteral_32
      · skip
        refine lv_aload_n hx hb dX8_isLiteral_18 rfl (lv_at hl 0 rfl) ?_
        refine lv_iload_n hx hb dX8_isLiteral_19 rfl (lv_at hl 1 rfl) ?_
        refine lv_ineg hx hb dX8_isLiteral_20 ?_
        refine cpV (ci := 10) (T0 := TX8) (N := 27) (As := [.int (-x)]) (rest := []) ⟨hx, hb, hml, hown, hts⟩ (c_X8_isFeature l G b th n mf cc kn sc fc so la lq wq  (-x) ) (cwV 1 hts gX8_isLiteral_X8_isFeature rfl rfl rfl ⟨rfl, hd_X8_isFeature⟩ ⟨Nat.le_of_ble_eq_true rfl, Nat.le_of_ble_eq_true rfl⟩) hKK hP [0] rfl rfl rfl rfl hl.1 rfl (Nat.le_of_ble_eq_true rfl) dX8_isLiteral_21 ⟨Nat.zero_le _, Nat.zero_le _⟩ ?_
        refine lv_if_eq (tgt := 31) hx hb dX8_isLiteral_24 (by decide) (fun c_24 => ?_) (fun c_24 => ?_)
        · skip
          refine lv_iconst (v := 0) hx hb dX8_isLiteral_31 (by decide) ?_
          exact pret hx hb hr hlocks rfl (by unfold litOkB; rw [if_neg (by rw [bI_0.mp c_5]; decide), if_neg c_9, if_neg c_15, bI_0.mp c_24]; rfl) dX8_isLiteral_32
        · skip
          refine lv_iconst (v := 1) hx hb dX8_isLiteral_27 (by decide) ?_
          refine lv_goto (tgt := 32) hx hb dX8_isLiteral_28 (by decide) ?_
          exact pret hx hb hr hlocks rfl (by unfold litOkB; rw [if_neg (by rw [bI_0.mp c_5]; decide), if_neg c_9, if_neg c_15, bI_n0 c_24]; rfl) dX8_isLiteral_32

theorem iX8_groupedBelow_X8 : ∀ w ∈ u_ws RX8 TX8 27, w ∈ wsX8_groupedBelow := by decide +kernel
theorem fX8_groupedBelow_1 : Cond.fieldLink RX8 63 "FeatureSolveModel" "features" "I" ∈ wsX8_groupedBelow := by decide +kernel
theorem fX8_groupedBelow_2 : Cond.fieldLink RX8 7 "FeatureSolveModel" "parents" "[I" ∈ wsX8_groupedBelow := by decide +kernel
theorem fX8_groupedBelow_3 : Cond.fieldLink RX8 13 "FeatureSolveModel" "kinds" "[I" ∈ wsX8_groupedBelow := by decide +kernel
set_option maxHeartbeats 4000000 in
set_option maxRecDepth 100000 in
/-- groupedBelow(f) -/
theorem c_X8_groupedBelow (l : Launch) (G : GG) (b : Nat → Nat) (th : Int32) (n mf cc : Nat) (kn : Bool) (sc fc : Nat) (so : Bool) (la lq : Int32) (wq : Nat) (pa ki : Nat → Int32) (f : Int32) (hn : n ≤ 14) : Met l yX8_groupedBelow wsX8_groupedBelow (rmK 0) (va_Pc [.ref (b 0), .int f] (PS G [(oX8 (b 0) th (b 1) (b 2) (b 3) (b 4) (b 5) (b 6) (nI n) (b 8) (b 9) (b 10) (nI mf) (b 12) (b 13) (b 14) (nI cc) (bI kn) (b 17) (nI sc) (b 19) (nI fc) (b 21) (bI so) la lq (b 25) (nI wq)), (cI G (b 1) 15 pa), (cI G (b 2) 15 ki)])) (QcRead (nI (cntU (grbB pa ki f) n))) 0 0 (fun _ => False) := by
  refine Met.ofW (cc := cX8_groupedBelow) (maxL := 4) (ret := (some .int)) (by decide) rfl ?_
  intro p e s m args below meth c s₁ B hml hv
  obtain ⟨rfl, hP, hKK⟩ := hv
  have hx := B.exec
  have hb := B.bytes
  have hr := B.returns
  have hts := atoms_spec (ws := wsX8_groupedBelow) B.pre
  have hown : s.vm.findClass RX8 = some m.cls := findClass_of_methodNamed B.named
  have hlocks := B.notSynchronized
  have hK := hKK.1
  have hl := lv_entry ([.ref (b 0), .int f]) (n := 4) (Nat.le_of_ble_eq_true rfl)
  rw [lg_entry_eq]
  generalize (lg_sl ([.ref (b 0), .int f]) ++ List.replicate (4 - (lg_sl ([.ref (b 0), .int f])).length) Slot.unset).toArray = ls at hl ⊢
  have hl : lv_has ls 4 [(0, .ref (b 0)), (1, .int f)] := hl
  refine lv_iconst (v := 0) hx hb dX8_groupedBelow_0 (by decide) ?_
  refine lv_istore_n (lv' := [(2, .int 0), (0, .ref (b 0)), (1, .int f)]) hx hb dX8_groupedBelow_1 rfl hl (by decide) rfl (fun ls hl => ?_)
  refine lv_iconst (v := 1) hx hb dX8_groupedBelow_2 (by decide) ?_
  refine lv_istore_n (lv' := [(3, .int 1), (2, .int 0), (0, .ref (b 0)), (1, .int f)]) hx hb dX8_groupedBelow_3 rfl hl (by decide) rfl (fun ls hl => ?_)
  refine loopJ (nL := 4) (I := fun (jx : Nat) => jx ≤ n) (μ := fun (jx : Nat) => n - jx) (lv := fun (jx : Nat) => [(0, .ref (b 0)), (1, .int f), (2, .int (nI (cntU (grbB pa ki f) jx))), (3, .int (nI (jx + 1)))]) (pc' := 4) (fun xv9 hI ih_4 ls hl => ?_) 0 (Nat.zero_le _) ls (lv_sub hl [2, 3, 1, 0] rfl)
  obtain ⟨jx, rfl⟩ : ∃ y, y = xv9 := ⟨_, rfl⟩
  have hI : jx ≤ n := hI
  have hl : lv_has ls 4 [(0, .ref (b 0)), (1, .int f), (2, .int (nI (cntU (grbB pa ki f) jx))), (3, .int (nI (jx + 1)))] := hl
  refine lv_iload_n hx hb dX8_groupedBelow_4 rfl (lv_at hl 3 rfl) ?_
  refine lv_aload_n hx hb dX8_groupedBelow_5 rfl (lv_at hl 0 rfl) ?_
  refine va_get (D := G.1) (ci := 10) (v := .int (nI n)) (C := RX8) (T := TX8) (N := 27) hx hb hts iX8_groupedBelow_X8 hown hK hP 0 rfl rfl 7 (by decide) (hts _ fX8_groupedBelow_1) (fun _ h9 => h9) rfl dX8_groupedBelow_6 ?_
  refine lv_icmp_gt (tgt := 46) hx hb dX8_groupedBelow_9 (by decide) (fun c_9 => ?_) (fun c_9 => ?_)
  · skip
    have hj : jx = n := by have := (nI_ltI (a := n) (b := jx + 1) (by omega) (by omega)).mp c_9; omega
    refine lv_iload_n hx hb dX8_groupedBelow_46 rfl (lv_at hl 2 rfl) ?_
    exact pret hx hb hr hlocks rfl (by rw [hj]) dX8_groupedBelow_47
  · skip
    have hj : jx < n := by have := mt (nI_ltI (a := n) (b := jx + 1) (by omega) (by omega)).mpr c_9; omega
    refine lv_aload_n hx hb dX8_groupedBelow_12 rfl (lv_at hl 0 rfl) ?_
    refine va_get (D := G.1) (ci := 10) (v := .ref (b 1)) (C := RX8) (T := TX8) (N := 27) hx hb hts iX8_groupedBelow_X8 hown hK hP 0 rfl rfl 1 (by decide) (hts _ fX8_groupedBelow_2) (fun _ h9 => h9) rfl dX8_groupedBelow_13 ?_
    refine lv_iload_n hx hb dX8_groupedBelow_16 rfl (lv_at hl 3 rfl) ?_
    refine aldI hx hb hK hP 1 (k := (jx + 1)) rfl (rfl) (by omega) (by decide) dX8_groupedBelow_17 ?_
    refine lv_iload_n hx hb dX8_groupedBelow_18 rfl (lv_at hl 1 rfl) ?_
    refine lv_icmp_ne (tgt := 38) hx hb dX8_groupedBelow_19 (by decide) (fun c_19 => ?_) (fun c_19 => ?_)
    · skip
      have hq : grbB pa ki f (jx + 1) = false := if_neg c_19
      refine lv_iload_n hx hb dX8_groupedBelow_38 rfl (lv_at hl 2 rfl) ?_
      refine lv_istore_n (lv' := [(2, .int (nI (cntU (grbB pa ki f) jx))), (0, .ref (b 0)), (1, .int f), (3, .int (nI (jx + 1)))]) hx hb dX8_groupedBelow_39 rfl hl (by decide) rfl (fun ls hl => ?_)
      refine lv_iinc (v := nI (jx + 1 + 1)) (lv' := [(3, .int (nI (jx + 1 + 1))), (2, .int (nI (cntU (grbB pa ki f) jx))), (0, .ref (b 0)), (1, .int f)]) hx hb dX8_groupedBelow_40 hl (k := 3) rfl (nI_1 (jx + 1)) (by decide) rfl (fun ls hl => ?_)
      refine lv_goto (tgt := 4) hx hb dX8_groupedBelow_43 (by decide) ?_
      exact ih_4 (jx + 1) (hj) (by show n - (jx + 1) < n - jx; omega) ls (lv_sub hl [2, 3, 1, 0] (by show ([(0, .ref (b 0)), (1, .int f), (2, .int (nI (cntU (grbB pa ki f) jx))), (3, .int (nI (jx + 1 + 1)))] : List (Nat × Value)) = [(0, .ref (b 0)), (1, .int f), (2, .int (nI (cntU (grbB pa ki f) (jx + 1)))), (3, .int (nI ((jx + 1) + 1)))]; rw [cntU_f hq]))
    · skip
      refine lv_aload_n hx hb dX8_groupedBelow_22 rfl (lv_at hl 0 rfl) ?_
      refine va_get (D := G.1) (ci := 10) (v := .ref (b 2)) (C := RX8) (T := TX8) (N := 27) hx hb hts iX8_groupedBelow_X8 hown hK hP 0 rfl rfl 2 (by decide) (hts _ fX8_groupedBelow_3) (fun _ h9 => h9) rfl dX8_groupedBelow_23 ?_
      refine lv_iload_n hx hb dX8_groupedBelow_26 rfl (lv_at hl 3 rfl) ?_
      refine aldI hx hb hK hP 2 (k := (jx + 1)) rfl (rfl) (by omega) (by decide) dX8_groupedBelow_27 ?_
      refine lv_iconst (v := 2) hx hb dX8_groupedBelow_28 (by decide) ?_
      refine lv_icmp_ne (tgt := 38) hx hb dX8_groupedBelow_29 (by decide) (fun c_29 => ?_) (fun c_29 => ?_)
      · skip
        have hq : grbB pa ki f (jx + 1) = false := by unfold grbB; rw [if_pos c_19]; exact decide_eq_false c_29
        refine lv_iload_n hx hb dX8_groupedBelow_38 rfl (lv_at hl 2 rfl) ?_
        refine lv_istore_n (lv' := [(2, .int (nI (cntU (grbB pa ki f) jx))), (0, .ref (b 0)), (1, .int f), (3, .int (nI (jx + 1)))]) hx hb dX8_groupedBelow_39 rfl hl (by decide) rfl (fun ls hl => ?_)
        refine lv_iinc (v := nI (jx + 1 + 1)) (lv' := [(3, .int (nI (jx + 1 + 1))), (2, .int (nI (cntU (grbB pa ki f) jx))), (0, .ref (b 0)), (1, .int f)]) hx hb dX8_groupedBelow_40 hl (k := 3) rfl (nI_1 (jx + 1)) (by decide) rfl (fun ls hl => ?_)
        refine lv_goto (tgt := 4) hx hb dX8_groupedBelow_43 (by decide) ?_
        exact ih_4 (jx + 1) (hj) (by show n - (jx + 1) < n - jx; omega) ls (lv_sub hl [2, 3, 1, 0] (by show ([(0, .ref (b 0)), (1, .int f), (2, .int (nI (cntU (grbB pa ki f) jx))), (3, .int (nI (jx + 1 + 1)))] : List (Nat × Value)) = [(0, .ref (b 0)), (1, .int f), (2, .int (nI (cntU (grbB pa ki f) (jx + 1)))), (3, .int (nI ((jx + 1) + 1)))]; rw [cntU_f hq]))
      · skip
        have hq : grbB pa ki f (jx + 1) = true := by unfold grbB; rw [if_pos c_19]; exact decide_eq_true c_29
        refine lv_iload_n hx hb dX8_groupedBelow_32 rfl (lv_at hl 2 rfl) ?_
        refine lv_iconst (v := 1) hx hb dX8_groupedBelow_33 (by decide) ?_
        refine lv_iadd hx hb dX8_groupedBelow_34 ?_
        refine stI (y := nI (cntU (grbB pa ki f) jx + 1)) (nI_1 _) ?_
        refine lv_goto (tgt := 39) hx hb dX8_groupedBelow_35 (by decide) ?_
        refine lv_istore_n (lv' := [(2, .int (nI (cntU (grbB pa ki f) jx + 1))), (0, .ref (b 0)), (1, .int f), (3, .int (nI (jx + 1)))]) hx hb dX8_groupedBelow_39 rfl hl (by decide) rfl (fun ls hl => ?_)
        refine lv_iinc (v := nI (jx + 1 + 1)) (lv' := [(3, .int (nI (jx + 1 + 1))), (2, .int (nI (cntU (grbB pa ki f) jx + 1))), (0, .ref (b 0)), (1, .int f)]) hx hb dX8_groupedBelow_40 hl (k := 3) rfl (nI_1 (jx + 1)) (by decide) rfl (fun ls hl => ?_)
        refine lv_goto (tgt := 4) hx hb dX8_groupedBelow_43 (by decide) ?_
        exact ih_4 (jx + 1) (hj) (by show n - (jx + 1) < n - jx; omega) ls (lv_sub hl [2, 3, 1, 0] (by show ([(0, .ref (b 0)), (1, .int f), (2, .int (nI (cntU (grbB pa ki f) jx + 1))), (3, .int (nI (jx + 1 + 1)))] : List (Nat × Value)) = [(0, .ref (b 0)), (1, .int f), (2, .int (nI (cntU (grbB pa ki f) (jx + 1)))), (3, .int (nI ((jx + 1) + 1)))]; rw [cntU_t hq]))

theorem iX8_choiceOf_X8 : ∀ w ∈ u_ws RX8 TX8 27, w ∈ wsX8_choiceOf := by decide +kernel
theorem fX8_choiceOf_1 : Cond.fieldLink RX8 84 "FeatureSolveModel" "choiceCount" "I" ∈ wsX8_choiceOf := by decide +kernel
theorem fX8_choiceOf_2 : Cond.fieldLink RX8 44 "FeatureSolveModel" "choices" "[I" ∈ wsX8_choiceOf := by decide +kernel
set_option maxHeartbeats 4000000 in
set_option maxRecDepth 100000 in
/-- choiceOf(f) -/
theorem c_X8_choiceOf (l : Launch) (G : GG) (b : Nat → Nat) (th : Int32) (n mf cc : Nat) (kn : Bool) (sc fc : Nat) (so : Bool) (la lq : Int32) (wq : Nat) (ch : Nat → Int32) (f : Int32) (hc : cc ≤ 14) : Met l yX8_choiceOf wsX8_choiceOf (rmK 0) (va_Pc [.ref (b 0), .int f] (PS G [(oX8 (b 0) th (b 1) (b 2) (b 3) (b 4) (b 5) (b 6) (nI n) (b 8) (b 9) (b 10) (nI mf) (b 12) (b 13) (b 14) (nI cc) (bI kn) (b 17) (nI sc) (b 19) (nI fc) (b 21) (bI so) la lq (b 25) (nI wq)), (cI G (b 14) 14 ch)])) (QcRead (chOf ch f cc)) 0 0 (fun _ => False) := by
  refine Met.ofW (cc := cX8_choiceOf) (maxL := 4) (ret := (some .int)) (by decide) rfl ?_
  intro p e s m args below meth c s₁ B hml hv
  obtain ⟨rfl, hP, hKK⟩ := hv
  have hx := B.exec
  have hb := B.bytes
  have hr := B.returns
  have hts := atoms_spec (ws := wsX8_choiceOf) B.pre
  have hown : s.vm.findClass RX8 = some m.cls := findClass_of_methodNamed B.named
  have hlocks := B.notSynchronized
  have hK := hKK.1
  have hl := lv_entry ([.ref (b 0), .int f]) (n := 4) (Nat.le_of_ble_eq_true rfl)
  rw [lg_entry_eq]
  generalize (lg_sl ([.ref (b 0), .int f]) ++ List.replicate (4 - (lg_sl ([.ref (b 0), .int f])).length) Slot.unset).toArray = ls at hl ⊢
  have hl : lv_has ls 4 [(0, .ref (b 0)), (1, .int f)] := hl
  refine lv_iconst (v := -1) hx hb dX8_choiceOf_0 (by decide) ?_
  refine lv_istore_n (lv' := [(2, .int (-1)), (0, .ref (b 0)), (1, .int f)]) hx hb dX8_choiceOf_1 rfl hl (by decide) rfl (fun ls hl => ?_)
  refine lv_iconst (v := 0) hx hb dX8_choiceOf_2 (by decide) ?_
  refine lv_istore_n (lv' := [(3, .int 0), (2, .int (-1)), (0, .ref (b 0)), (1, .int f)]) hx hb dX8_choiceOf_3 rfl hl (by decide) rfl (fun ls hl => ?_)
  refine loopJ (nL := 4) (I := fun (jx : Nat) => jx ≤ cc) (μ := fun (jx : Nat) => cc - jx) (lv := fun (jx : Nat) => [(0, .ref (b 0)), (1, .int f), (2, .int (chOf ch f jx)), (3, .int (nI jx))]) (pc' := 4) (fun xv9 hI ih_4 ls hl => ?_) 0 (Nat.zero_le _) ls (lv_sub hl [2, 3, 1, 0] rfl)
  obtain ⟨jx, rfl⟩ : ∃ y, y = xv9 := ⟨_, rfl⟩
  have hI : jx ≤ cc := hI
  have hl : lv_has ls 4 [(0, .ref (b 0)), (1, .int f), (2, .int (chOf ch f jx)), (3, .int (nI jx))] := hl
  refine lv_iload_n hx hb dX8_choiceOf_4 rfl (lv_at hl 3 rfl) ?_
  refine lv_aload_n hx hb dX8_choiceOf_5 rfl (lv_at hl 0 rfl) ?_
  refine va_get (D := G.1) (ci := 10) (v := .int (nI cc)) (C := RX8) (T := TX8) (N := 27) hx hb hts iX8_choiceOf_X8 hown hK hP 0 rfl rfl 15 (by decide) (hts _ fX8_choiceOf_1) (fun _ h9 => h9) rfl dX8_choiceOf_6 ?_
  refine lv_icmp_ge (tgt := 45) hx hb dX8_choiceOf_9 (by decide) (fun c_9 => ?_) (fun c_9 => ?_)
  · skip
    have hj : jx = cc := by have := (nI_leI (a := cc) (b := jx) (by omega) (by omega)).mp c_9; omega
    refine lv_iload_n hx hb dX8_choiceOf_45 rfl (lv_at hl 2 rfl) ?_
    exact pret hx hb hr hlocks rfl (by rw [hj]) dX8_choiceOf_46
  · skip
    have hj : jx < cc := Nat.lt_of_not_le (fun z => c_9 ((nI_leI (a := cc) (b := jx) (by omega) (by omega)).mpr z))
    refine lv_aload_n hx hb dX8_choiceOf_12 rfl (lv_at hl 0 rfl) ?_
    refine va_get (D := G.1) (ci := 10) (v := .ref (b 14)) (C := RX8) (T := TX8) (N := 27) hx hb hts iX8_choiceOf_X8 hown hK hP 0 rfl rfl 14 (by decide) (hts _ fX8_choiceOf_2) (fun _ h9 => h9) rfl dX8_choiceOf_13 ?_
    refine lv_iload_n hx hb dX8_choiceOf_16 rfl (lv_at hl 3 rfl) ?_
    refine aldI hx hb hK hP 1 (k := jx) rfl (rfl) (by omega) (by decide) dX8_choiceOf_17 ?_
    refine lv_iload_n hx hb dX8_choiceOf_18 rfl (lv_at hl 1 rfl) ?_
    refine lv_icmp_eq (tgt := 33) hx hb dX8_choiceOf_19 (by decide) (fun c_19 => ?_) (fun c_19 => ?_)
    · skip
      refine lv_iload_n hx hb dX8_choiceOf_33 rfl (lv_at hl 3 rfl) ?_
      refine lv_goto (tgt := 38) hx hb dX8_choiceOf_34 (by decide) ?_
      refine lv_istore_n (lv' := [(2, .int (nI jx)), (0, .ref (b 0)), (1, .int f), (3, .int (nI jx))]) hx hb dX8_choiceOf_38 rfl hl (by decide) rfl (fun ls hl => ?_)
      refine lv_iinc (v := nI (jx + 1)) (lv' := [(3, .int (nI (jx + 1))), (2, .int (nI jx)), (0, .ref (b 0)), (1, .int f)]) hx hb dX8_choiceOf_39 hl (k := 3) rfl (nI_1 jx) (by decide) rfl (fun ls hl => ?_)
      refine lv_goto (tgt := 4) hx hb dX8_choiceOf_42 (by decide) ?_
      exact ih_4 (jx + 1) (hj) (by show cc - (jx + 1) < cc - jx; omega) ls (lv_sub hl [2, 3, 1, 0] (by show ([(0, .ref (b 0)), (1, .int f), (2, .int (nI jx)), (3, .int (nI (jx + 1)))] : List (Nat × Value)) = [(0, .ref (b 0)), (1, .int f), (2, .int (chOf ch f (jx + 1))), (3, .int (nI (jx + 1)))]; rw [chOf_1 c_19]))
    · skip
      refine lv_aload_n hx hb dX8_choiceOf_22 rfl (lv_at hl 0 rfl) ?_
      refine va_get (D := G.1) (ci := 10) (v := .ref (b 14)) (C := RX8) (T := TX8) (N := 27) hx hb hts iX8_choiceOf_X8 hown hK hP 0 rfl rfl 14 (by decide) (hts _ fX8_choiceOf_2) (fun _ h9 => h9) rfl dX8_choiceOf_23 ?_
      refine lv_iload_n hx hb dX8_choiceOf_26 rfl (lv_at hl 3 rfl) ?_
      refine aldI hx hb hK hP 1 (k := jx) rfl (rfl) (by omega) (by decide) dX8_choiceOf_27 ?_
      refine lv_iload_n hx hb dX8_choiceOf_28 rfl (lv_at hl 1 rfl) ?_
      refine lv_ineg hx hb dX8_choiceOf_29 ?_
      refine lv_icmp_ne (tgt := 37) hx hb dX8_choiceOf_30 (by decide) (fun c_30 => ?_) (fun c_30 => ?_)
      · skip
        refine lv_iload_n hx hb dX8_choiceOf_37 rfl (lv_at hl 2 rfl) ?_
        refine lv_istore_n (lv' := [(2, .int (chOf ch f jx)), (0, .ref (b 0)), (1, .int f), (3, .int (nI jx))]) hx hb dX8_choiceOf_38 rfl hl (by decide) rfl (fun ls hl => ?_)
        refine lv_iinc (v := nI (jx + 1)) (lv' := [(3, .int (nI (jx + 1))), (2, .int (chOf ch f jx)), (0, .ref (b 0)), (1, .int f)]) hx hb dX8_choiceOf_39 hl (k := 3) rfl (nI_1 jx) (by decide) rfl (fun ls hl => ?_)
        refine lv_goto (tgt := 4) hx hb dX8_choiceOf_42 (by decide) ?_
        exact ih_4 (jx + 1) (hj) (by show cc - (jx + 1) < cc - jx; omega) ls (lv_sub hl [2, 3, 1, 0] (by show ([(0, .ref (b 0)), (1, .int f), (2, .int (chOf ch f jx)), (3, .int (nI (jx + 1)))] : List (Nat × Value)) = [(0, .ref (b 0)), (1, .int f), (2, .int (chOf ch f (jx + 1))), (3, .int (nI (jx + 1)))]; rw [chOf_0 c_19 c_30]))
      · skip
        refine lv_iload_n hx hb dX8_choiceOf_33 rfl (lv_at hl 3 rfl) ?_
        refine lv_goto (tgt := 38) hx hb dX8_choiceOf_34 (by decide) ?_
        refine lv_istore_n (lv' := [(2, .int (nI jx)), (0, .ref (b 0)), (1, .int f), (3, .int (nI jx))]) hx hb dX8_choiceOf_38 rfl hl (by decide) rfl (fun ls hl => ?_)
        refine lv_iinc (v := nI (jx + 1)) (lv' := [(3, .int (nI (jx + 1))), (2, .int (nI jx)), (0, .ref (b 0)), (1, .int f)]) hx hb dX8_choiceOf_39 hl (k := 3) rfl (nI_1 jx) (by decide) rfl (fun ls hl => ?_)
        refine lv_goto (tgt := 4) hx hb dX8_choiceOf_42 (by decide) ?_
        exact ih_4 (jx + 1) (hj) (by show cc - (jx + 1) < cc - jx; omega) ls (lv_sub hl [2, 3, 1, 0] (by show ([(0, .ref (b 0)), (1, .int f), (2, .int (nI jx)), (3, .int (nI (jx + 1)))] : List (Nat × Value)) = [(0, .ref (b 0)), (1, .int f), (2, .int (chOf ch f (jx + 1))), (3, .int (nI (jx + 1)))]; rw [chOf_2 c_30]))

theorem iX8_keepsTree_X8 : ∀ w ∈ u_ws RX8 TX8 27, w ∈ wsX8_keepsTree := by decide +kernel
theorem fX8_keepsTree_1 : Cond.fieldLink RX8 63 "FeatureSolveModel" "features" "I" ∈ wsX8_keepsTree := by decide +kernel
theorem fX8_keepsTree_2 : Cond.fieldLink RX8 16 "FeatureSolveModel" "grouped" "[Z" ∈ wsX8_keepsTree := by decide +kernel
theorem fX8_keepsTree_3 : Cond.fieldLink RX8 20 "FeatureSolveModel" "least" "[I" ∈ wsX8_keepsTree := by decide +kernel
theorem fX8_keepsTree_4 : Cond.fieldLink RX8 23 "FeatureSolveModel" "most" "[I" ∈ wsX8_keepsTree := by decide +kernel
theorem fX8_keepsTree_5 : Cond.fieldLink RX8 7 "FeatureSolveModel" "parents" "[I" ∈ wsX8_keepsTree := by decide +kernel
theorem fX8_keepsTree_6 : Cond.fieldLink RX8 13 "FeatureSolveModel" "kinds" "[I" ∈ wsX8_keepsTree := by decide +kernel
set_option maxHeartbeats 4000000 in
set_option maxRecDepth 100000 in
/-- keepsTree(set) -/
theorem c_X8_keepsTree (l : Launch) (G : GG) (b : Nat → Nat) (th : Int32) (n mf cc : Nat) (kn : Bool) (sc fc : Nat) (so : Bool) (la lq : Int32) (wq : Nat) (pa ki gd le mo : Nat → Int32) (s0 : Int32) (hn : n ≤ 14) : Met l yX8_keepsTree wsX8_keepsTree (rmK 1) (va_Pc [.ref (b 0), .int s0] (PS G [(oX8 (b 0) th (b 1) (b 2) (b 3) (b 4) (b 5) (b 6) (nI n) (b 8) (b 9) (b 10) (nI mf) (b 12) (b 13) (b 14) (nI cc) (bI kn) (b 17) (nI sc) (b 19) (nI fc) (b 21) (bI so) la lq (b 25) (nI wq)), (cI G (b 1) 15 pa), (cI G (b 2) 15 ki), (cZ G (b 3) 15 gd), (cI G (b 4) 15 le), (cI G (b 5) 15 mo)])) (QcRead (bI (mtrB n pa ki gd le mo s0))) 0 0 (fun _ => False) := by
  refine Met.ofW (cc := cX8_keepsTree) (maxL := 6) (ret := (some .boolean)) (by decide) rfl ?_
  intro p e s m args below meth c s₁ B hml hv
  obtain ⟨rfl, hP, hKK⟩ := hv
  have hx := B.exec
  have hb := B.bytes
  have hr := B.returns
  have hts := atoms_spec (ws := wsX8_keepsTree) B.pre
  have hown : s.vm.findClass RX8 = some m.cls := findClass_of_methodNamed B.named
  have hlocks := B.notSynchronized
  have hK := hKK.1
  have hl := lv_entry ([.ref (b 0), .int s0]) (n := 6) (Nat.le_of_ble_eq_true rfl)
  rw [lg_entry_eq]
  generalize (lg_sl ([.ref (b 0), .int s0]) ++ List.replicate (6 - (lg_sl ([.ref (b 0), .int s0])).length) Slot.unset).toArray = ls at hl ⊢
  have hl : lv_has ls 6 [(0, .ref (b 0)), (1, .int s0)] := hl
  refine cutJ (nL := 6) (lv := [(0, .ref (b 0)), (1, .int s0)]) (pc' := 21) (st' := [.int (bI (allU (treB (nI n) pa ki s0) (min 1 n)))]) (fun ls hl => ?_) (fun hJ_21 => ?_)
  · skip
    refine lv_istore_n (lv' := [(2, .int (bI (allU (treB (nI n) pa ki s0) (min 1 n)))), (0, .ref (b 0)), (1, .int s0)]) hx hb dX8_keepsTree_21 rfl hl (by decide) rfl (fun ls hl => ?_)
    refine cutJ (nL := 6) (lv := [(0, .ref (b 0)), (1, .int s0), (2, .int (bI (allU (treB (nI n) pa ki s0) n)))]) (pc' := 98) (st' := []) (fun ls hl => ?_) (fun hJ_98 => ?_)
    · skip
      refine lv_iconst (v := 1) hx hb dX8_keepsTree_98 (by decide) ?_
      refine lv_istore_n (lv' := [(3, .int 1), (0, .ref (b 0)), (1, .int s0), (2, .int (bI (allU (treB (nI n) pa ki s0) n)))]) hx hb dX8_keepsTree_99 rfl hl (by decide) rfl (fun ls hl => ?_)
      refine loopJ (nL := 6) (I := fun (jx : Nat) => jx ≤ n) (μ := fun (jx : Nat) => n - jx) (lv := fun (jx : Nat) => [(0, .ref (b 0)), (1, .int s0), (2, .int (bI (allU (treB (nI n) pa ki s0) n && allU (mgrB n pa ki gd le mo s0) jx))), (3, .int (nI (jx + 1)))]) (pc' := 100) (fun xv9 hI ih_100 ls hl => ?_) 0 (Nat.zero_le _) ls (lv_sub hl [1, 2, 3, 0] (by show ([(0, .ref (b 0)), (1, .int s0), (2, .int (bI (allU (treB (nI n) pa ki s0) n))), (3, .int 1)] : List (Nat × Value)) = [(0, .ref (b 0)), (1, .int s0), (2, .int (bI (allU (treB (nI n) pa ki s0) n && allU (mgrB n pa ki gd le mo s0) 0))), (3, .int (nI (0 + 1)))]; rw [show allU (mgrB n pa ki gd le mo s0) 0 = true from rfl, Bool.and_true]; rfl))
      obtain ⟨jx, rfl⟩ : ∃ y, y = xv9 := ⟨_, rfl⟩
      have hI : jx ≤ n := hI
      have hl : lv_has ls 6 [(0, .ref (b 0)), (1, .int s0), (2, .int (bI (allU (treB (nI n) pa ki s0) n && allU (mgrB n pa ki gd le mo s0) jx))), (3, .int (nI (jx + 1)))] := hl
      refine lv_iload_n hx hb dX8_keepsTree_100 rfl (lv_at hl 3 rfl) ?_
      refine lv_aload_n hx hb dX8_keepsTree_101 rfl (lv_at hl 0 rfl) ?_
      refine va_get (D := G.1) (ci := 10) (v := .int (nI n)) (C := RX8) (T := TX8) (N := 27) hx hb hts iX8_keepsTree_X8 hown hK hP 0 rfl rfl 7 (by decide) (hts _ fX8_keepsTree_1) (fun _ h9 => h9) rfl dX8_keepsTree_102 ?_
      refine lv_icmp_gt (tgt := 228) hx hb dX8_keepsTree_105 (by decide) (fun c_105 => ?_) (fun c_105 => ?_)
      · skip
        have hj : jx = n := by have := (nI_ltI (a := n) (b := jx + 1) (by omega) (by omega)).mp c_105; omega
        refine lv_iload_n hx hb dX8_keepsTree_228 rfl (lv_at hl 2 rfl) ?_
        exact pret hx hb hr hlocks (bI_nar _) (by unfold mtrB; rw [hj]) dX8_keepsTree_229
      · skip
        have hjn : jx < n := by have := mt (nI_ltI (a := n) (b := jx + 1) (by omega) (by omega)).mpr c_105; omega
        refine lv_iload_n hx hb dX8_keepsTree_108 rfl (lv_at hl 2 rfl) ?_
        refine lv_if_eq (tgt := 228) hx hb dX8_keepsTree_109 (by decide) (fun c_109 => ?_) (fun c_109 => ?_)
        · skip
          refine lv_iload_n hx hb dX8_keepsTree_228 rfl (lv_at hl 2 rfl) ?_
          exact pret hx hb hr hlocks (bI_nar _) (by unfold mtrB; rw [bI_0.mp c_109, and_down (bI_0.mp c_109) n (by omega)]) dX8_keepsTree_229
        · skip
          have hall := bI_n0 c_109
          refine lv_iconst (v := 0) hx hb dX8_keepsTree_112 (by decide) ?_
          refine lv_istore (lv' := [(4, .int 0), (0, .ref (b 0)), (1, .int s0), (2, .int (bI (allU (treB (nI n) pa ki s0) n && allU (mgrB n pa ki gd le mo s0) jx))), (3, .int (nI (jx + 1)))]) hx hb dX8_keepsTree_113 hl (by decide) rfl (fun ls hl => ?_)
          refine lv_iconst (v := 1) hx hb dX8_keepsTree_115 (by decide) ?_
          refine lv_istore (lv' := [(5, .int 1), (4, .int 0), (0, .ref (b 0)), (1, .int s0), (2, .int (bI (allU (treB (nI n) pa ki s0) n && allU (mgrB n pa ki gd le mo s0) jx))), (3, .int (nI (jx + 1)))]) hx hb dX8_keepsTree_116 hl (by decide) rfl (fun ls hl => ?_)
          refine loopJ (nL := 6) (I := fun (ix : Nat) => ix ≤ n) (μ := fun (ix : Nat) => n - ix) (lv := fun (ix : Nat) => [(0, .ref (b 0)), (1, .int s0), (2, .int (bI (allU (treB (nI n) pa ki s0) n && allU (mgrB n pa ki gd le mo s0) jx))), (3, .int (nI (jx + 1))), (4, .int (nI (cntU (gcnB (nI n) pa ki s0 (nI (jx + 1))) ix))), (5, .int (nI (ix + 1)))]) (pc' := 118) (fun xv9 hI ih_118 ls hl => ?_) 0 (Nat.zero_le _) ls (lv_sub hl [2, 3, 4, 5, 1, 0] rfl)
          obtain ⟨ix, rfl⟩ : ∃ y, y = xv9 := ⟨_, rfl⟩
          have hI : ix ≤ n := hI
          have hl : lv_has ls 6 [(0, .ref (b 0)), (1, .int s0), (2, .int (bI (allU (treB (nI n) pa ki s0) n && allU (mgrB n pa ki gd le mo s0) jx))), (3, .int (nI (jx + 1))), (4, .int (nI (cntU (gcnB (nI n) pa ki s0 (nI (jx + 1))) ix))), (5, .int (nI (ix + 1)))] := hl
          refine lv_iload hx hb dX8_keepsTree_118 (lv_at hl 5 rfl) ?_
          refine lv_aload_n hx hb dX8_keepsTree_120 rfl (lv_at hl 0 rfl) ?_
          refine va_get (D := G.1) (ci := 10) (v := .int (nI n)) (C := RX8) (T := TX8) (N := 27) hx hb hts iX8_keepsTree_X8 hown hK hP 0 rfl rfl 7 (by decide) (hts _ fX8_keepsTree_1) (fun _ h9 => h9) rfl dX8_keepsTree_121 ?_
          refine lv_icmp_gt (tgt := 176) hx hb dX8_keepsTree_124 (by decide) (fun c_124 => ?_) (fun c_124 => ?_)
          · skip
            have hj : ix = n := by have := (nI_ltI (a := n) (b := ix + 1) (by omega) (by omega)).mp c_124; omega
            refine lv_aload_n hx hb dX8_keepsTree_176 rfl (lv_at hl 0 rfl) ?_
            refine va_get (D := G.1) (ci := 10) (v := .ref (b 3)) (C := RX8) (T := TX8) (N := 27) hx hb hts iX8_keepsTree_X8 hown hK hP 0 rfl rfl 3 (by decide) (hts _ fX8_keepsTree_2) (fun _ h9 => h9) rfl dX8_keepsTree_177 ?_
            refine lv_iload_n hx hb dX8_keepsTree_180 rfl (lv_at hl 3 rfl) ?_
            refine aldZ hx hb hK hP 3 (k := (jx + 1)) rfl (rfl) (by omega) (by decide) dX8_keepsTree_181 ?_
            refine lv_if_eq (tgt := 216) hx hb dX8_keepsTree_182 (by decide) (fun c_182 => ?_) (fun c_182 => ?_)
            · skip
              refine lv_iconst (v := 1) hx hb dX8_keepsTree_216 (by decide) ?_
              refine lv_goto (tgt := 221) hx hb dX8_keepsTree_217 (by decide) ?_
              refine stI (y := bI (allU (treB (nI n) pa ki s0) n && allU (mgrB n pa ki gd le mo s0) (jx + 1))) (and_t hall (by unfold mgrB; rw [if_pos c_182])) ?_
              refine lv_istore_n (lv' := [(2, .int (bI (allU (treB (nI n) pa ki s0) n && allU (mgrB n pa ki gd le mo s0) (jx + 1)))), (0, .ref (b 0)), (1, .int s0), (3, .int (nI (jx + 1))), (4, .int (nI (cntU (gcnB (nI n) pa ki s0 (nI (jx + 1))) ix))), (5, .int (nI (ix + 1)))]) hx hb dX8_keepsTree_221 rfl hl (by decide) rfl (fun ls hl => ?_)
              refine lv_iinc (v := nI (jx + 1 + 1)) (lv' := [(3, .int (nI (jx + 1 + 1))), (2, .int (bI (allU (treB (nI n) pa ki s0) n && allU (mgrB n pa ki gd le mo s0) (jx + 1)))), (0, .ref (b 0)), (1, .int s0), (4, .int (nI (cntU (gcnB (nI n) pa ki s0 (nI (jx + 1))) ix))), (5, .int (nI (ix + 1)))]) hx hb dX8_keepsTree_222 hl (k := 3) rfl (nI_1 (jx + 1)) (by decide) rfl (fun ls hl => ?_)
              refine lv_goto (tgt := 100) hx hb dX8_keepsTree_225 (by decide) ?_
              exact ih_100 (jx + 1) (hjn) (by show n - (jx + 1) < n - jx; omega) ls (lv_sub hl [2, 3, 1, 0] rfl)
            · skip
              refine lv_aload_n hx hb dX8_keepsTree_185 rfl (lv_at hl 0 rfl) ?_
              refine lv_iload_n hx hb dX8_keepsTree_186 rfl (lv_at hl 1 rfl) ?_
              refine lv_iload_n hx hb dX8_keepsTree_187 rfl (lv_at hl 3 rfl) ?_
              refine cpV (ci := 10) (T0 := TX8) (N := 27) (As := [.int s0, .int (nI (jx + 1))]) (rest := []) ⟨hx, hb, hml, hown, hts⟩ (c_X8_isIn l G b th n mf cc kn sc fc so la lq wq  s0 (nI (jx + 1)) ) (cwV 2 hts gX8_keepsTree_X8_isIn rfl rfl rfl ⟨rfl, hd_X8_isIn⟩ ⟨Nat.le_of_ble_eq_true rfl, Nat.le_of_ble_eq_true rfl⟩) hKK hP [0] rfl rfl rfl rfl hl.1 rfl (Nat.le_of_ble_eq_true rfl) dX8_keepsTree_188 ⟨Nat.zero_le _, Nat.zero_le _⟩ ?_
              refine lv_if_eq (tgt := 216) hx hb dX8_keepsTree_191 (by decide) (fun c_191 => ?_) (fun c_191 => ?_)
              · skip
                refine lv_iconst (v := 1) hx hb dX8_keepsTree_216 (by decide) ?_
                refine lv_goto (tgt := 221) hx hb dX8_keepsTree_217 (by decide) ?_
                refine stI (y := bI (allU (treB (nI n) pa ki s0) n && allU (mgrB n pa ki gd le mo s0) (jx + 1))) (and_t hall (by unfold mgrB; rw [if_neg c_182, if_pos (bI_0.mp c_191)])) ?_
                refine lv_istore_n (lv' := [(2, .int (bI (allU (treB (nI n) pa ki s0) n && allU (mgrB n pa ki gd le mo s0) (jx + 1)))), (0, .ref (b 0)), (1, .int s0), (3, .int (nI (jx + 1))), (4, .int (nI (cntU (gcnB (nI n) pa ki s0 (nI (jx + 1))) ix))), (5, .int (nI (ix + 1)))]) hx hb dX8_keepsTree_221 rfl hl (by decide) rfl (fun ls hl => ?_)
                refine lv_iinc (v := nI (jx + 1 + 1)) (lv' := [(3, .int (nI (jx + 1 + 1))), (2, .int (bI (allU (treB (nI n) pa ki s0) n && allU (mgrB n pa ki gd le mo s0) (jx + 1)))), (0, .ref (b 0)), (1, .int s0), (4, .int (nI (cntU (gcnB (nI n) pa ki s0 (nI (jx + 1))) ix))), (5, .int (nI (ix + 1)))]) hx hb dX8_keepsTree_222 hl (k := 3) rfl (nI_1 (jx + 1)) (by decide) rfl (fun ls hl => ?_)
                refine lv_goto (tgt := 100) hx hb dX8_keepsTree_225 (by decide) ?_
                exact ih_100 (jx + 1) (hjn) (by show n - (jx + 1) < n - jx; omega) ls (lv_sub hl [2, 3, 1, 0] rfl)
              · skip
                refine lv_iload hx hb dX8_keepsTree_194 (lv_at hl 4 rfl) ?_
                refine lv_aload_n hx hb dX8_keepsTree_196 rfl (lv_at hl 0 rfl) ?_
                refine va_get (D := G.1) (ci := 10) (v := .ref (b 4)) (C := RX8) (T := TX8) (N := 27) hx hb hts iX8_keepsTree_X8 hown hK hP 0 rfl rfl 4 (by decide) (hts _ fX8_keepsTree_3) (fun _ h9 => h9) rfl dX8_keepsTree_197 ?_
                refine lv_iload_n hx hb dX8_keepsTree_200 rfl (lv_at hl 3 rfl) ?_
                refine aldI hx hb hK hP 4 (k := (jx + 1)) rfl (rfl) (by omega) (by decide) dX8_keepsTree_201 ?_
                refine lv_icmp_lt (tgt := 220) hx hb dX8_keepsTree_202 (by decide) (fun c_202 => ?_) (fun c_202 => ?_)
                · skip
                  refine lv_iconst (v := 0) hx hb dX8_keepsTree_220 (by decide) ?_
                  refine stI (y := bI (allU (treB (nI n) pa ki s0) n && allU (mgrB n pa ki gd le mo s0) (jx + 1))) (and_f hall (by unfold mgrB; rw [if_neg c_182, if_neg (by rw [bI_n0 c_191]; decide), ← hj, if_pos (by rw [hj] at c_202 ⊢; exact c_202)])) ?_
                  refine lv_istore_n (lv' := [(2, .int (bI (allU (treB (nI n) pa ki s0) n && allU (mgrB n pa ki gd le mo s0) (jx + 1)))), (0, .ref (b 0)), (1, .int s0), (3, .int (nI (jx + 1))), (4, .int (nI (cntU (gcnB (nI n) pa ki s0 (nI (jx + 1))) ix))), (5, .int (nI (ix + 1)))]) hx hb dX8_keepsTree_221 rfl hl (by decide) rfl (fun ls hl => ?_)
                  refine lv_iinc (v := nI (jx + 1 + 1)) (lv' := [(3, .int (nI (jx + 1 + 1))), (2, .int (bI (allU (treB (nI n) pa ki s0) n && allU (mgrB n pa ki gd le mo s0) (jx + 1)))), (0, .ref (b 0)), (1, .int s0), (4, .int (nI (cntU (gcnB (nI n) pa ki s0 (nI (jx + 1))) ix))), (5, .int (nI (ix + 1)))]) hx hb dX8_keepsTree_222 hl (k := 3) rfl (nI_1 (jx + 1)) (by decide) rfl (fun ls hl => ?_)
                  refine lv_goto (tgt := 100) hx hb dX8_keepsTree_225 (by decide) ?_
                  exact ih_100 (jx + 1) (hjn) (by show n - (jx + 1) < n - jx; omega) ls (lv_sub hl [2, 3, 1, 0] rfl)
                · skip
                  refine lv_iload hx hb dX8_keepsTree_205 (lv_at hl 4 rfl) ?_
                  refine lv_aload_n hx hb dX8_keepsTree_207 rfl (lv_at hl 0 rfl) ?_
                  refine va_get (D := G.1) (ci := 10) (v := .ref (b 5)) (C := RX8) (T := TX8) (N := 27) hx hb hts iX8_keepsTree_X8 hown hK hP 0 rfl rfl 5 (by decide) (hts _ fX8_keepsTree_4) (fun _ h9 => h9) rfl dX8_keepsTree_208 ?_
                  refine lv_iload_n hx hb dX8_keepsTree_211 rfl (lv_at hl 3 rfl) ?_
                  refine aldI hx hb hK hP 5 (k := (jx + 1)) rfl (rfl) (by omega) (by decide) dX8_keepsTree_212 ?_
                  refine lv_icmp_gt (tgt := 220) hx hb dX8_keepsTree_213 (by decide) (fun c_213 => ?_) (fun c_213 => ?_)
                  · skip
                    refine lv_iconst (v := 0) hx hb dX8_keepsTree_220 (by decide) ?_
                    refine stI (y := bI (allU (treB (nI n) pa ki s0) n && allU (mgrB n pa ki gd le mo s0) (jx + 1))) (and_f hall (by unfold mgrB; rw [if_neg c_182, if_neg (by rw [bI_n0 c_191]; decide), if_neg (by rw [← hj]; rw [hj] at c_202 ⊢; exact c_202)]; exact decide_eq_false (fun z => i_nlt.mpr z (by rw [hj] at c_213; exact c_213)))) ?_
                    refine lv_istore_n (lv' := [(2, .int (bI (allU (treB (nI n) pa ki s0) n && allU (mgrB n pa ki gd le mo s0) (jx + 1)))), (0, .ref (b 0)), (1, .int s0), (3, .int (nI (jx + 1))), (4, .int (nI (cntU (gcnB (nI n) pa ki s0 (nI (jx + 1))) ix))), (5, .int (nI (ix + 1)))]) hx hb dX8_keepsTree_221 rfl hl (by decide) rfl (fun ls hl => ?_)
                    refine lv_iinc (v := nI (jx + 1 + 1)) (lv' := [(3, .int (nI (jx + 1 + 1))), (2, .int (bI (allU (treB (nI n) pa ki s0) n && allU (mgrB n pa ki gd le mo s0) (jx + 1)))), (0, .ref (b 0)), (1, .int s0), (4, .int (nI (cntU (gcnB (nI n) pa ki s0 (nI (jx + 1))) ix))), (5, .int (nI (ix + 1)))]) hx hb dX8_keepsTree_222 hl (k := 3) rfl (nI_1 (jx + 1)) (by decide) rfl (fun ls hl => ?_)
                    refine lv_goto (tgt := 100) hx hb dX8_keepsTree_225 (by decide) ?_
                    exact ih_100 (jx + 1) (hjn) (by show n - (jx + 1) < n - jx; omega) ls (lv_sub hl [2, 3, 1, 0] rfl)
                  · skip
                    refine lv_iconst (v := 1) hx hb dX8_keepsTree_216 (by decide) ?_
                    refine lv_goto (tgt := 221) hx hb dX8_keepsTree_217 (by decide) ?_
                    refine stI (y := bI (allU (treB (nI n) pa ki s0) n && allU (mgrB n pa ki gd le mo s0) (jx + 1))) (and_t hall (by unfold mgrB; rw [if_neg c_182, if_neg (by rw [bI_n0 c_191]; decide), if_neg (by rw [hj] at c_202; exact c_202)]; exact decide_eq_true (by rw [hj] at c_213; exact i_nlt.mp c_213))) ?_
                    refine lv_istore_n (lv' := [(2, .int (bI (allU (treB (nI n) pa ki s0) n && allU (mgrB n pa ki gd le mo s0) (jx + 1)))), (0, .ref (b 0)), (1, .int s0), (3, .int (nI (jx + 1))), (4, .int (nI (cntU (gcnB (nI n) pa ki s0 (nI (jx + 1))) ix))), (5, .int (nI (ix + 1)))]) hx hb dX8_keepsTree_221 rfl hl (by decide) rfl (fun ls hl => ?_)
                    refine lv_iinc (v := nI (jx + 1 + 1)) (lv' := [(3, .int (nI (jx + 1 + 1))), (2, .int (bI (allU (treB (nI n) pa ki s0) n && allU (mgrB n pa ki gd le mo s0) (jx + 1)))), (0, .ref (b 0)), (1, .int s0), (4, .int (nI (cntU (gcnB (nI n) pa ki s0 (nI (jx + 1))) ix))), (5, .int (nI (ix + 1)))]) hx hb dX8_keepsTree_222 hl (k := 3) rfl (nI_1 (jx + 1)) (by decide) rfl (fun ls hl => ?_)
                    refine lv_goto (tgt := 100) hx hb dX8_keepsTree_225 (by decide) ?_
                    exact ih_100 (jx + 1) (hjn) (by show n - (jx + 1) < n - jx; omega) ls (lv_sub hl [2, 3, 1, 0] rfl)
          · skip
            have hj : ix < n := by have := mt (nI_ltI (a := n) (b := ix + 1) (by omega) (by omega)).mpr c_124; omega
            refine lv_aload_n hx hb dX8_keepsTree_127 rfl (lv_at hl 0 rfl) ?_
            refine va_get (D := G.1) (ci := 10) (v := .ref (b 1)) (C := RX8) (T := TX8) (N := 27) hx hb hts iX8_keepsTree_X8 hown hK hP 0 rfl rfl 1 (by decide) (hts _ fX8_keepsTree_5) (fun _ h9 => h9) rfl dX8_keepsTree_128 ?_
            refine lv_iload hx hb dX8_keepsTree_131 (lv_at hl 5 rfl) ?_
            refine aldI hx hb hK hP 1 (k := (ix + 1)) rfl (rfl) (by omega) (by decide) dX8_keepsTree_133 ?_
            refine lv_iload_n hx hb dX8_keepsTree_134 rfl (lv_at hl 3 rfl) ?_
            refine lv_icmp_ne (tgt := 166) hx hb dX8_keepsTree_135 (by decide) (fun c_135 => ?_) (fun c_135 => ?_)
            · skip
              have hq : gcnB (nI n) pa ki s0 (nI (jx + 1)) (ix + 1) = false := if_neg c_135
              refine lv_iload hx hb dX8_keepsTree_166 (lv_at hl 4 rfl) ?_
              refine lv_istore (lv' := [(4, .int (nI (cntU (gcnB (nI n) pa ki s0 (nI (jx + 1))) ix))), (0, .ref (b 0)), (1, .int s0), (2, .int (bI (allU (treB (nI n) pa ki s0) n && allU (mgrB n pa ki gd le mo s0) jx))), (3, .int (nI (jx + 1))), (5, .int (nI (ix + 1)))]) hx hb dX8_keepsTree_168 hl (by decide) rfl (fun ls hl => ?_)
              refine lv_iinc (v := nI (ix + 1 + 1)) (lv' := [(5, .int (nI (ix + 1 + 1))), (4, .int (nI (cntU (gcnB (nI n) pa ki s0 (nI (jx + 1))) ix))), (0, .ref (b 0)), (1, .int s0), (2, .int (bI (allU (treB (nI n) pa ki s0) n && allU (mgrB n pa ki gd le mo s0) jx))), (3, .int (nI (jx + 1)))]) hx hb dX8_keepsTree_170 hl (k := 5) rfl (nI_1 (ix + 1)) (by decide) rfl (fun ls hl => ?_)
              refine lv_goto (tgt := 118) hx hb dX8_keepsTree_173 (by decide) ?_
              exact ih_118 (ix + 1) (hj) (by show n - (ix + 1) < n - ix; omega) ls (lv_sub hl [2, 3, 4, 5, 1, 0] (by show ([(0, .ref (b 0)), (1, .int s0), (2, .int (bI (allU (treB (nI n) pa ki s0) n && allU (mgrB n pa ki gd le mo s0) jx))), (3, .int (nI (jx + 1))), (4, .int (nI (cntU (gcnB (nI n) pa ki s0 (nI (jx + 1))) ix))), (5, .int (nI (ix + 1 + 1)))] : List (Nat × Value)) = [(0, .ref (b 0)), (1, .int s0), (2, .int (bI (allU (treB (nI n) pa ki s0) n && allU (mgrB n pa ki gd le mo s0) jx))), (3, .int (nI (jx + 1))), (4, .int (nI (cntU (gcnB (nI n) pa ki s0 (nI (jx + 1))) (ix + 1)))), (5, .int (nI ((ix + 1) + 1)))]; rw [cntU_f hq]))
            · skip
              refine lv_aload_n hx hb dX8_keepsTree_138 rfl (lv_at hl 0 rfl) ?_
              refine va_get (D := G.1) (ci := 10) (v := .ref (b 2)) (C := RX8) (T := TX8) (N := 27) hx hb hts iX8_keepsTree_X8 hown hK hP 0 rfl rfl 2 (by decide) (hts _ fX8_keepsTree_6) (fun _ h9 => h9) rfl dX8_keepsTree_139 ?_
              refine lv_iload hx hb dX8_keepsTree_142 (lv_at hl 5 rfl) ?_
              refine aldI hx hb hK hP 2 (k := (ix + 1)) rfl (rfl) (by omega) (by decide) dX8_keepsTree_144 ?_
              refine lv_iconst (v := 2) hx hb dX8_keepsTree_145 (by decide) ?_
              refine lv_icmp_ne (tgt := 166) hx hb dX8_keepsTree_146 (by decide) (fun c_146 => ?_) (fun c_146 => ?_)
              · skip
                have hq : gcnB (nI n) pa ki s0 (nI (jx + 1)) (ix + 1) = false := by unfold gcnB; rw [if_pos c_135, if_neg c_146]
                refine lv_iload hx hb dX8_keepsTree_166 (lv_at hl 4 rfl) ?_
                refine lv_istore (lv' := [(4, .int (nI (cntU (gcnB (nI n) pa ki s0 (nI (jx + 1))) ix))), (0, .ref (b 0)), (1, .int s0), (2, .int (bI (allU (treB (nI n) pa ki s0) n && allU (mgrB n pa ki gd le mo s0) jx))), (3, .int (nI (jx + 1))), (5, .int (nI (ix + 1)))]) hx hb dX8_keepsTree_168 hl (by decide) rfl (fun ls hl => ?_)
                refine lv_iinc (v := nI (ix + 1 + 1)) (lv' := [(5, .int (nI (ix + 1 + 1))), (4, .int (nI (cntU (gcnB (nI n) pa ki s0 (nI (jx + 1))) ix))), (0, .ref (b 0)), (1, .int s0), (2, .int (bI (allU (treB (nI n) pa ki s0) n && allU (mgrB n pa ki gd le mo s0) jx))), (3, .int (nI (jx + 1)))]) hx hb dX8_keepsTree_170 hl (k := 5) rfl (nI_1 (ix + 1)) (by decide) rfl (fun ls hl => ?_)
                refine lv_goto (tgt := 118) hx hb dX8_keepsTree_173 (by decide) ?_
                exact ih_118 (ix + 1) (hj) (by show n - (ix + 1) < n - ix; omega) ls (lv_sub hl [2, 3, 4, 5, 1, 0] (by show ([(0, .ref (b 0)), (1, .int s0), (2, .int (bI (allU (treB (nI n) pa ki s0) n && allU (mgrB n pa ki gd le mo s0) jx))), (3, .int (nI (jx + 1))), (4, .int (nI (cntU (gcnB (nI n) pa ki s0 (nI (jx + 1))) ix))), (5, .int (nI (ix + 1 + 1)))] : List (Nat × Value)) = [(0, .ref (b 0)), (1, .int s0), (2, .int (bI (allU (treB (nI n) pa ki s0) n && allU (mgrB n pa ki gd le mo s0) jx))), (3, .int (nI (jx + 1))), (4, .int (nI (cntU (gcnB (nI n) pa ki s0 (nI (jx + 1))) (ix + 1)))), (5, .int (nI ((ix + 1) + 1)))]; rw [cntU_f hq]))
              · skip
                refine lv_aload_n hx hb dX8_keepsTree_149 rfl (lv_at hl 0 rfl) ?_
                refine lv_iload_n hx hb dX8_keepsTree_150 rfl (lv_at hl 1 rfl) ?_
                refine lv_iload hx hb dX8_keepsTree_151 (lv_at hl 5 rfl) ?_
                refine cpV (ci := 10) (T0 := TX8) (N := 27) (As := [.int s0, .int (nI (ix + 1))]) (rest := []) ⟨hx, hb, hml, hown, hts⟩ (c_X8_isIn l G b th n mf cc kn sc fc so la lq wq  s0 (nI (ix + 1)) ) (cwV 2 hts gX8_keepsTree_X8_isIn rfl rfl rfl ⟨rfl, hd_X8_isIn⟩ ⟨Nat.le_of_ble_eq_true rfl, Nat.le_of_ble_eq_true rfl⟩) hKK hP [0] rfl rfl rfl rfl hl.1 rfl (Nat.le_of_ble_eq_true rfl) dX8_keepsTree_153 ⟨Nat.zero_le _, Nat.zero_le _⟩ ?_
                refine lv_if_eq (tgt := 166) hx hb dX8_keepsTree_156 (by decide) (fun c_156 => ?_) (fun c_156 => ?_)
                · skip
                  have hq : gcnB (nI n) pa ki s0 (nI (jx + 1)) (ix + 1) = false := by unfold gcnB; rw [if_pos c_135, if_pos c_146, bI_0.mp c_156]
                  refine lv_iload hx hb dX8_keepsTree_166 (lv_at hl 4 rfl) ?_
                  refine lv_istore (lv' := [(4, .int (nI (cntU (gcnB (nI n) pa ki s0 (nI (jx + 1))) ix))), (0, .ref (b 0)), (1, .int s0), (2, .int (bI (allU (treB (nI n) pa ki s0) n && allU (mgrB n pa ki gd le mo s0) jx))), (3, .int (nI (jx + 1))), (5, .int (nI (ix + 1)))]) hx hb dX8_keepsTree_168 hl (by decide) rfl (fun ls hl => ?_)
                  refine lv_iinc (v := nI (ix + 1 + 1)) (lv' := [(5, .int (nI (ix + 1 + 1))), (4, .int (nI (cntU (gcnB (nI n) pa ki s0 (nI (jx + 1))) ix))), (0, .ref (b 0)), (1, .int s0), (2, .int (bI (allU (treB (nI n) pa ki s0) n && allU (mgrB n pa ki gd le mo s0) jx))), (3, .int (nI (jx + 1)))]) hx hb dX8_keepsTree_170 hl (k := 5) rfl (nI_1 (ix + 1)) (by decide) rfl (fun ls hl => ?_)
                  refine lv_goto (tgt := 118) hx hb dX8_keepsTree_173 (by decide) ?_
                  exact ih_118 (ix + 1) (hj) (by show n - (ix + 1) < n - ix; omega) ls (lv_sub hl [2, 3, 4, 5, 1, 0] (by show ([(0, .ref (b 0)), (1, .int s0), (2, .int (bI (allU (treB (nI n) pa ki s0) n && allU (mgrB n pa ki gd le mo s0) jx))), (3, .int (nI (jx + 1))), (4, .int (nI (cntU (gcnB (nI n) pa ki s0 (nI (jx + 1))) ix))), (5, .int (nI (ix + 1 + 1)))] : List (Nat × Value)) = [(0, .ref (b 0)), (1, .int s0), (2, .int (bI (allU (treB (nI n) pa ki s0) n && allU (mgrB n pa ki gd le mo s0) jx))), (3, .int (nI (jx + 1))), (4, .int (nI (cntU (gcnB (nI n) pa ki s0 (nI (jx + 1))) (ix + 1)))), (5, .int (nI ((ix + 1) + 1)))]; rw [cntU_f hq]))
                · skip
                  have hq : gcnB (nI n) pa ki s0 (nI (jx + 1)) (ix + 1) = true := by unfold gcnB; rw [if_pos c_135, if_pos c_146, bI_n0 c_156]
                  refine lv_iload hx hb dX8_keepsTree_159 (lv_at hl 4 rfl) ?_
                  refine lv_iconst (v := 1) hx hb dX8_keepsTree_161 (by decide) ?_
                  refine lv_iadd hx hb dX8_keepsTree_162 ?_
                  refine stI (y := nI (cntU (gcnB (nI n) pa ki s0 (nI (jx + 1))) ix + 1)) (nI_1 _) ?_
                  refine lv_goto (tgt := 168) hx hb dX8_keepsTree_163 (by decide) ?_
                  refine lv_istore (lv' := [(4, .int (nI (cntU (gcnB (nI n) pa ki s0 (nI (jx + 1))) ix + 1))), (0, .ref (b 0)), (1, .int s0), (2, .int (bI (allU (treB (nI n) pa ki s0) n && allU (mgrB n pa ki gd le mo s0) jx))), (3, .int (nI (jx + 1))), (5, .int (nI (ix + 1)))]) hx hb dX8_keepsTree_168 hl (by decide) rfl (fun ls hl => ?_)
                  refine lv_iinc (v := nI (ix + 1 + 1)) (lv' := [(5, .int (nI (ix + 1 + 1))), (4, .int (nI (cntU (gcnB (nI n) pa ki s0 (nI (jx + 1))) ix + 1))), (0, .ref (b 0)), (1, .int s0), (2, .int (bI (allU (treB (nI n) pa ki s0) n && allU (mgrB n pa ki gd le mo s0) jx))), (3, .int (nI (jx + 1)))]) hx hb dX8_keepsTree_170 hl (k := 5) rfl (nI_1 (ix + 1)) (by decide) rfl (fun ls hl => ?_)
                  refine lv_goto (tgt := 118) hx hb dX8_keepsTree_173 (by decide) ?_
                  exact ih_118 (ix + 1) (hj) (by show n - (ix + 1) < n - ix; omega) ls (lv_sub hl [2, 3, 4, 5, 1, 0] (by show ([(0, .ref (b 0)), (1, .int s0), (2, .int (bI (allU (treB (nI n) pa ki s0) n && allU (mgrB n pa ki gd le mo s0) jx))), (3, .int (nI (jx + 1))), (4, .int (nI (cntU (gcnB (nI n) pa ki s0 (nI (jx + 1))) ix + 1))), (5, .int (nI (ix + 1 + 1)))] : List (Nat × Value)) = [(0, .ref (b 0)), (1, .int s0), (2, .int (bI (allU (treB (nI n) pa ki s0) n && allU (mgrB n pa ki gd le mo s0) jx))), (3, .int (nI (jx + 1))), (4, .int (nI (cntU (gcnB (nI n) pa ki s0 (nI (jx + 1))) (ix + 1)))), (5, .int (nI ((ix + 1) + 1)))]; rw [cntU_t hq]))
    · skip
      refine lv_iconst (v := 2) hx hb dX8_keepsTree_22 (by decide) ?_
      refine lv_istore_n (lv' := [(3, .int 2), (2, .int (bI (allU (treB (nI n) pa ki s0) (min 1 n)))), (0, .ref (b 0)), (1, .int s0)]) hx hb dX8_keepsTree_23 rfl hl (by decide) rfl (fun ls hl => ?_)
      refine loopJ (nL := 6) (I := fun (jx : Nat) => 1 ≤ jx ∧ (jx ≤ n ∨ jx = 1)) (μ := fun (jx : Nat) => n + 1 - jx) (lv := fun (jx : Nat) => [(0, .ref (b 0)), (1, .int s0), (2, .int (bI (allU (treB (nI n) pa ki s0) (min jx n)))), (3, .int (nI (jx + 1)))]) (pc' := 24) (fun xv9 hI ih_24 ls hl => ?_) 1 (⟨Nat.le_refl _, Or.inr rfl⟩) ls (lv_sub hl [2, 3, 1, 0] rfl)
      obtain ⟨jx, rfl⟩ : ∃ y, y = xv9 := ⟨_, rfl⟩
      have hI : 1 ≤ jx ∧ (jx ≤ n ∨ jx = 1) := hI
      have hl : lv_has ls 6 [(0, .ref (b 0)), (1, .int s0), (2, .int (bI (allU (treB (nI n) pa ki s0) (min jx n)))), (3, .int (nI (jx + 1)))] := hl
      have hI1 := hI.1
      have hI2 : jx ≤ 14 := by have := hI.2; omega
      refine lv_iload_n hx hb dX8_keepsTree_24 rfl (lv_at hl 3 rfl) ?_
      refine lv_aload_n hx hb dX8_keepsTree_25 rfl (lv_at hl 0 rfl) ?_
      refine va_get (D := G.1) (ci := 10) (v := .int (nI n)) (C := RX8) (T := TX8) (N := 27) hx hb hts iX8_keepsTree_X8 hown hK hP 0 rfl rfl 7 (by decide) (hts _ fX8_keepsTree_1) (fun _ h9 => h9) rfl dX8_keepsTree_26 ?_
      refine lv_icmp_gt (tgt := 98) hx hb dX8_keepsTree_29 (by decide) (fun c_29 => ?_) (fun c_29 => ?_)
      · skip
        have hj : n ≤ jx := by have := (nI_ltI (a := n) (b := jx + 1) (by omega) (by omega)).mp c_29; omega
        exact hJ_98 ls (lv_sub hl [0, 1, 2] (by show ([(0, .ref (b 0)), (1, .int s0), (2, .int (bI (allU (treB (nI n) pa ki s0) (min jx n))))] : List (Nat × Value)) = [(0, .ref (b 0)), (1, .int s0), (2, .int (bI (allU (treB (nI n) pa ki s0) n)))]; rw [show min jx n = n by omega]))
      · skip
        have hj : jx < n := by have := mt (nI_ltI (a := n) (b := jx + 1) (by omega) (by omega)).mpr c_29; omega
        have hmin : min jx n = jx := by omega
        have hj0 : ¬ jx = 0 := by omega
        refine lv_iload_n hx hb dX8_keepsTree_32 rfl (lv_at hl 2 rfl) ?_
        refine lv_if_eq (tgt := 98) hx hb dX8_keepsTree_33 (by decide) (fun c_33 => ?_) (fun c_33 => ?_)
        · skip
          exact hJ_98 ls (lv_sub hl [0, 1, 2] (by show ([(0, .ref (b 0)), (1, .int s0), (2, .int (bI (allU (treB (nI n) pa ki s0) (min jx n))))] : List (Nat × Value)) = [(0, .ref (b 0)), (1, .int s0), (2, .int (bI (allU (treB (nI n) pa ki s0) n)))]; rw [bI_0.mp c_33, allU_down (bI_0.mp c_33) n (by omega)]))
        · skip
          have hall := bI_n0 c_33
          rw [hmin] at hall
          refine cutJ (nL := 6) (lv := [(0, .ref (b 0)), (1, .int s0), (2, .int (bI (allU (treB (nI n) pa ki s0) (min jx n)))), (3, .int (nI (jx + 1)))]) (pc' := 91) (st' := [.int (bI (treB (nI n) pa ki s0 (jx + 1)))]) (fun ls hl => ?_) (fun hJ_91 => ?_)
          · skip
            refine stI (y := bI (allU (treB (nI n) pa ki s0) (min (jx + 1) n))) (by rw [show min (jx + 1) n = jx + 1 by omega]; show _ = bI (allU (treB (nI n) pa ki s0) jx && treB (nI n) pa ki s0 (jx + 1)); rw [hall]; rfl) ?_
            refine lv_istore_n (lv' := [(2, .int (bI (allU (treB (nI n) pa ki s0) (min (jx + 1) n)))), (0, .ref (b 0)), (1, .int s0), (3, .int (nI (jx + 1)))]) hx hb dX8_keepsTree_91 rfl hl (by decide) rfl (fun ls hl => ?_)
            refine lv_iinc (v := nI (jx + 1 + 1)) (lv' := [(3, .int (nI (jx + 1 + 1))), (2, .int (bI (allU (treB (nI n) pa ki s0) (min (jx + 1) n)))), (0, .ref (b 0)), (1, .int s0)]) hx hb dX8_keepsTree_92 hl (k := 3) rfl (nI_1 (jx + 1)) (by decide) rfl (fun ls hl => ?_)
            refine lv_goto (tgt := 24) hx hb dX8_keepsTree_95 (by decide) ?_
            exact ih_24 (jx + 1) (⟨by omega, Or.inl hj⟩) (by show n + 1 - (jx + 1) < n + 1 - jx; omega) ls (lv_sub hl [2, 3, 1, 0] rfl)
          · skip
            refine lv_aload_n hx hb dX8_keepsTree_36 rfl (lv_at hl 0 rfl) ?_
            refine lv_iload_n hx hb dX8_keepsTree_37 rfl (lv_at hl 1 rfl) ?_
            refine lv_aload_n hx hb dX8_keepsTree_38 rfl (lv_at hl 0 rfl) ?_
            refine va_get (D := G.1) (ci := 10) (v := .ref (b 1)) (C := RX8) (T := TX8) (N := 27) hx hb hts iX8_keepsTree_X8 hown hK hP 0 rfl rfl 1 (by decide) (hts _ fX8_keepsTree_5) (fun _ h9 => h9) rfl dX8_keepsTree_39 ?_
            refine lv_iload_n hx hb dX8_keepsTree_42 rfl (lv_at hl 3 rfl) ?_
            refine aldI hx hb hK hP 1 (k := (jx + 1)) rfl (rfl) (by omega) (by decide) dX8_keepsTree_43 ?_
            refine cpV (ci := 10) (T0 := TX8) (N := 27) (As := [.int s0, .int (pa (jx + 1))]) (rest := []) ⟨hx, hb, hml, hown, hts⟩ (c_X8_isIn l G b th n mf cc kn sc fc so la lq wq  s0 (pa (jx + 1)) ) (cwV 2 hts gX8_keepsTree_X8_isIn rfl rfl rfl ⟨rfl, hd_X8_isIn⟩ ⟨Nat.le_of_ble_eq_true rfl, Nat.le_of_ble_eq_true rfl⟩) hKK hP [0] rfl rfl rfl rfl hl.1 rfl (Nat.le_of_ble_eq_true rfl) dX8_keepsTree_44 ⟨Nat.zero_le _, Nat.zero_le _⟩ ?_
            refine lv_istore (lv' := [(4, .int (bI (isInB (nI n) s0 (pa (jx + 1))))), (0, .ref (b 0)), (1, .int s0), (2, .int (bI (allU (treB (nI n) pa ki s0) (min jx n)))), (3, .int (nI (jx + 1)))]) hx hb dX8_keepsTree_47 hl (by decide) rfl (fun ls hl => ?_)
            refine lv_iload hx hb dX8_keepsTree_49 (lv_at hl 0 rfl) ?_
            refine lv_if_ne (tgt := 63) hx hb dX8_keepsTree_51 (by decide) (fun c_51 => ?_) (fun c_51 => ?_)
            · skip
              refine lv_aload_n hx hb dX8_keepsTree_63 rfl (lv_at hl 1 rfl) ?_
              refine va_get (D := G.1) (ci := 10) (v := .ref (b 2)) (C := RX8) (T := TX8) (N := 27) hx hb hts iX8_keepsTree_X8 hown hK hP 0 rfl rfl 2 (by decide) (hts _ fX8_keepsTree_6) (fun _ h9 => h9) rfl dX8_keepsTree_64 ?_
              refine lv_iload_n hx hb dX8_keepsTree_67 rfl (lv_at hl 4 rfl) ?_
              refine aldI hx hb hK hP 2 (k := (jx + 1)) rfl (rfl) (by omega) (by decide) dX8_keepsTree_68 ?_
              refine lv_if_ne (tgt := 86) hx hb dX8_keepsTree_69 (by decide) (fun c_69 => ?_) (fun c_69 => ?_)
              · skip
                refine lv_iconst (v := 1) hx hb dX8_keepsTree_86 (by decide) ?_
                refine lv_goto (tgt := 91) hx hb dX8_keepsTree_87 (by decide) ?_
                refine stI (y := (bI (treB (nI n) pa ki s0 (jx + 1)))) (by simp [treB, hj0, bI_n0 c_51, c_69, bI]) ?_
                exact hJ_91 ls (lv_sub hl [1, 2, 3, 4] rfl)
              · skip
                refine lv_iload hx hb dX8_keepsTree_72 (lv_at hl 0 rfl) ?_
                refine lv_if_eq (tgt := 86) hx hb dX8_keepsTree_74 (by decide) (fun c_74 => ?_) (fun c_74 => ?_)
                · exact absurd c_74 c_51
                · skip
                  refine lv_aload_n hx hb dX8_keepsTree_77 rfl (lv_at hl 1 rfl) ?_
                  refine lv_iload_n hx hb dX8_keepsTree_78 rfl (lv_at hl 2 rfl) ?_
                  refine lv_iload_n hx hb dX8_keepsTree_79 rfl (lv_at hl 4 rfl) ?_
                  refine cpV (ci := 10) (T0 := TX8) (N := 27) (As := [.int s0, .int (nI (jx + 1))]) (rest := []) ⟨hx, hb, hml, hown, hts⟩ (c_X8_isIn l G b th n mf cc kn sc fc so la lq wq  s0 (nI (jx + 1)) ) (cwV 2 hts gX8_keepsTree_X8_isIn rfl rfl rfl ⟨rfl, hd_X8_isIn⟩ ⟨Nat.le_of_ble_eq_true rfl, Nat.le_of_ble_eq_true rfl⟩) hKK hP [0] rfl rfl rfl rfl hl.1 rfl (Nat.le_of_ble_eq_true rfl) dX8_keepsTree_80 ⟨Nat.zero_le _, Nat.zero_le _⟩ ?_
                  refine lv_if_eq (tgt := 90) hx hb dX8_keepsTree_83 (by decide) (fun c_83 => ?_) (fun c_83 => ?_)
                  · skip
                    refine lv_iconst (v := 0) hx hb dX8_keepsTree_90 (by decide) ?_
                    refine stI (y := (bI (treB (nI n) pa ki s0 (jx + 1)))) (by simp [treB, hj0, bI_n0 c_51, c_69, bI_0.mp c_83, bI]) ?_
                    exact hJ_91 ls (lv_sub hl [1, 2, 3, 4] rfl)
                  · skip
                    refine lv_iconst (v := 1) hx hb dX8_keepsTree_86 (by decide) ?_
                    refine lv_goto (tgt := 91) hx hb dX8_keepsTree_87 (by decide) ?_
                    refine stI (y := (bI (treB (nI n) pa ki s0 (jx + 1)))) (by simp [treB, hj0, bI_n0 c_51, c_69, bI_n0 c_83, bI]) ?_
                    exact hJ_91 ls (lv_sub hl [1, 2, 3, 4] rfl)
            · skip
              refine lv_aload_n hx hb dX8_keepsTree_54 rfl (lv_at hl 1 rfl) ?_
              refine lv_iload_n hx hb dX8_keepsTree_55 rfl (lv_at hl 2 rfl) ?_
              refine lv_iload_n hx hb dX8_keepsTree_56 rfl (lv_at hl 4 rfl) ?_
              refine cpV (ci := 10) (T0 := TX8) (N := 27) (As := [.int s0, .int (nI (jx + 1))]) (rest := []) ⟨hx, hb, hml, hown, hts⟩ (c_X8_isIn l G b th n mf cc kn sc fc so la lq wq  s0 (nI (jx + 1)) ) (cwV 2 hts gX8_keepsTree_X8_isIn rfl rfl rfl ⟨rfl, hd_X8_isIn⟩ ⟨Nat.le_of_ble_eq_true rfl, Nat.le_of_ble_eq_true rfl⟩) hKK hP [0] rfl rfl rfl rfl hl.1 rfl (Nat.le_of_ble_eq_true rfl) dX8_keepsTree_57 ⟨Nat.zero_le _, Nat.zero_le _⟩ ?_
              refine lv_if_ne (tgt := 90) hx hb dX8_keepsTree_60 (by decide) (fun c_60 => ?_) (fun c_60 => ?_)
              · skip
                refine lv_iconst (v := 0) hx hb dX8_keepsTree_90 (by decide) ?_
                refine stI (y := (bI (treB (nI n) pa ki s0 (jx + 1)))) (by simp [treB, hj0, bI_0.mp c_51, bI_n0 c_60, bI]) ?_
                exact hJ_91 ls (lv_sub hl [1, 2, 3, 4] rfl)
              · skip
                refine lv_aload_n hx hb dX8_keepsTree_63 rfl (lv_at hl 1 rfl) ?_
                refine va_get (D := G.1) (ci := 10) (v := .ref (b 2)) (C := RX8) (T := TX8) (N := 27) hx hb hts iX8_keepsTree_X8 hown hK hP 0 rfl rfl 2 (by decide) (hts _ fX8_keepsTree_6) (fun _ h9 => h9) rfl dX8_keepsTree_64 ?_
                refine lv_iload_n hx hb dX8_keepsTree_67 rfl (lv_at hl 4 rfl) ?_
                refine aldI hx hb hK hP 2 (k := (jx + 1)) rfl (rfl) (by omega) (by decide) dX8_keepsTree_68 ?_
                refine lv_if_ne (tgt := 86) hx hb dX8_keepsTree_69 (by decide) (fun c_69 => ?_) (fun c_69 => ?_)
                · skip
                  refine lv_iconst (v := 1) hx hb dX8_keepsTree_86 (by decide) ?_
                  refine lv_goto (tgt := 91) hx hb dX8_keepsTree_87 (by decide) ?_
                  refine stI (y := (bI (treB (nI n) pa ki s0 (jx + 1)))) (by simp [treB, hj0, bI_0.mp c_51, bI_0.mp c_60, c_69, bI]) ?_
                  exact hJ_91 ls (lv_sub hl [1, 2, 3, 4] rfl)
                · skip
                  refine lv_iload hx hb dX8_keepsTree_72 (lv_at hl 0 rfl) ?_
                  refine lv_if_eq (tgt := 86) hx hb dX8_keepsTree_74 (by decide) (fun c_74 => ?_) (fun c_74 => ?_)
                  · skip
                    refine lv_iconst (v := 1) hx hb dX8_keepsTree_86 (by decide) ?_
                    refine lv_goto (tgt := 91) hx hb dX8_keepsTree_87 (by decide) ?_
                    refine stI (y := (bI (treB (nI n) pa ki s0 (jx + 1)))) (by simp [treB, hj0, bI_0.mp c_51, bI_0.mp c_60, bI]) ?_
                    exact hJ_91 ls (lv_sub hl [1, 2, 3, 4] rfl)
                  · exact absurd c_51 c_74
  · skip
    refine lv_aload_n hx hb dX8_keepsTree_0 rfl (lv_at hl 0 rfl) ?_
    refine va_get (D := G.1) (ci := 10) (v := .int (nI n)) (C := RX8) (T := TX8) (N := 27) hx hb hts iX8_keepsTree_X8 hown hK hP 0 rfl rfl 7 (by decide) (hts _ fX8_keepsTree_1) (fun _ h9 => h9) rfl dX8_keepsTree_1 ?_
    refine lv_if_eq (tgt := 16) hx hb dX8_keepsTree_4 (by decide) (fun c_4 => ?_) (fun c_4 => ?_)
    · skip
      refine lv_iconst (v := 1) hx hb dX8_keepsTree_16 (by decide) ?_
      refine lv_goto (tgt := 21) hx hb dX8_keepsTree_17 (by decide) ?_
      refine stI (y := (bI (allU (treB (nI n) pa ki s0) (min 1 n)))) (by rw [(nI_eq0 (by omega)).mp c_4]; rfl) ?_
      exact hJ_21 ls (lv_sub hl [0, 1] rfl)
    · skip
      refine lv_aload_n hx hb dX8_keepsTree_7 rfl (lv_at hl 0 rfl) ?_
      refine lv_iload_n hx hb dX8_keepsTree_8 rfl (lv_at hl 1 rfl) ?_
      refine lv_iconst (v := 1) hx hb dX8_keepsTree_9 (by decide) ?_
      refine cpV (ci := 10) (T0 := TX8) (N := 27) (As := [.int s0, .int 1]) (rest := []) ⟨hx, hb, hml, hown, hts⟩ (c_X8_isIn l G b th n mf cc kn sc fc so la lq wq  s0 1 ) (cwV 2 hts gX8_keepsTree_X8_isIn rfl rfl rfl ⟨rfl, hd_X8_isIn⟩ ⟨Nat.le_of_ble_eq_true rfl, Nat.le_of_ble_eq_true rfl⟩) hKK hP [0] rfl rfl rfl rfl hl.1 rfl (Nat.le_of_ble_eq_true rfl) dX8_keepsTree_10 ⟨Nat.zero_le _, Nat.zero_le _⟩ ?_
      refine lv_if_eq (tgt := 20) hx hb dX8_keepsTree_13 (by decide) (fun c_13 => ?_) (fun c_13 => ?_)
      · skip
        refine lv_iconst (v := 0) hx hb dX8_keepsTree_20 (by decide) ?_
        refine stI (y := (bI (allU (treB (nI n) pa ki s0) (min 1 n)))) (by rw [Nat.min_eq_left (Nat.pos_of_ne_zero (fun z => c_4 (by rw [z]; rfl)))]; show (0 : Int32) = bI (true && isInB (nI n) s0 1); rw [bI_0.mp c_13]; rfl) ?_
        exact hJ_21 ls (lv_sub hl [0, 1] rfl)
      · skip
        refine lv_iconst (v := 1) hx hb dX8_keepsTree_16 (by decide) ?_
        refine lv_goto (tgt := 21) hx hb dX8_keepsTree_17 (by decide) ?_
        refine stI (y := (bI (allU (treB (nI n) pa ki s0) (min 1 n)))) (by rw [Nat.min_eq_left (Nat.pos_of_ne_zero (fun z => c_4 (by rw [z]; rfl)))]; show (1 : Int32) = bI (true && isInB (nI n) s0 1); rw [bI_n0 c_13]; rfl) ?_
        exact hJ_21 ls (lv_sub hl [0, 1] rfl)

theorem iX8_keepsFormulas_X8 : ∀ w ∈ u_ws RX8 TX8 27, w ∈ wsX8_keepsFormulas := by decide +kernel
theorem fX8_keepsFormulas_1 : Cond.fieldLink RX8 81 "FeatureSolveModel" "formulas" "I" ∈ wsX8_keepsFormulas := by decide +kernel
theorem fX8_keepsFormulas_2 : Cond.fieldLink RX8 32 "FeatureSolveModel" "as" "[I" ∈ wsX8_keepsFormulas := by decide +kernel
theorem hd_X8_holds : yX8_holds.cls ≠ "java/lang/invoke/MethodHandle" ∧ yX8_holds.cls ≠ "java/lang/invoke/VarHandle" ∧ (parseMethodDescriptor yX8_holds.desc).map (fun d => d.parameters.length) = some 2 := by decide +kernel
theorem fX8_keepsFormulas_3 : Cond.fieldLink RX8 35 "FeatureSolveModel" "bs" "[I" ∈ wsX8_keepsFormulas := by decide +kernel
theorem fX8_keepsFormulas_4 : Cond.fieldLink RX8 29 "FeatureSolveModel" "ops" "[I" ∈ wsX8_keepsFormulas := by decide +kernel
set_option maxHeartbeats 4000000 in
set_option maxRecDepth 100000 in
/-- keepsFormulas(set) -/
theorem c_X8_keepsFormulas (l : Launch) (G : GG) (b : Nat → Nat) (th : Int32) (n mf cc : Nat) (kn : Bool) (sc fc : Nat) (so : Bool) (la lq : Int32) (wq : Nat) (op fa fb : Nat → Int32) (s0 : Int32) (hm : mf ≤ 40) : Met l yX8_keepsFormulas wsX8_keepsFormulas (rmK 2) (va_Pc [.ref (b 0), .int s0] (PS G [(oX8 (b 0) th (b 1) (b 2) (b 3) (b 4) (b 5) (b 6) (nI n) (b 8) (b 9) (b 10) (nI mf) (b 12) (b 13) (b 14) (nI cc) (bI kn) (b 17) (nI sc) (b 19) (nI fc) (b 21) (bI so) la lq (b 25) (nI wq)), (cI G (b 8) 40 op), (cI G (b 9) 40 fa), (cI G (b 10) 40 fb)])) (QcRead (bI (allZ (mfrB (nI n) op fa fb s0) mf))) 0 0 (fun _ => False) := by
  refine Met.ofW (cc := cX8_keepsFormulas) (maxL := 6) (ret := (some .boolean)) (by decide) rfl ?_
  intro p e s m args below meth c s₁ B hml hv
  obtain ⟨rfl, hP, hKK⟩ := hv
  have hx := B.exec
  have hb := B.bytes
  have hr := B.returns
  have hts := atoms_spec (ws := wsX8_keepsFormulas) B.pre
  have hown : s.vm.findClass RX8 = some m.cls := findClass_of_methodNamed B.named
  have hlocks := B.notSynchronized
  have hK := hKK.1
  have hl := lv_entry ([.ref (b 0), .int s0]) (n := 6) (Nat.le_of_ble_eq_true rfl)
  rw [lg_entry_eq]
  generalize (lg_sl ([.ref (b 0), .int s0]) ++ List.replicate (6 - (lg_sl ([.ref (b 0), .int s0])).length) Slot.unset).toArray = ls at hl ⊢
  have hl : lv_has ls 6 [(0, .ref (b 0)), (1, .int s0)] := hl
  refine lv_iconst (v := 1) hx hb dX8_keepsFormulas_0 (by decide) ?_
  refine lv_istore_n (lv' := [(2, .int 1), (0, .ref (b 0)), (1, .int s0)]) hx hb dX8_keepsFormulas_1 rfl hl (by decide) rfl (fun ls hl => ?_)
  refine lv_iconst (v := 0) hx hb dX8_keepsFormulas_2 (by decide) ?_
  refine lv_istore_n (lv' := [(3, .int 0), (2, .int 1), (0, .ref (b 0)), (1, .int s0)]) hx hb dX8_keepsFormulas_3 rfl hl (by decide) rfl (fun ls hl => ?_)
  refine loopJ (nL := 6) (I := fun (jx : Nat) => jx ≤ mf) (μ := fun (jx : Nat) => mf - jx) (lv := fun (jx : Nat) => [(0, .ref (b 0)), (1, .int s0), (2, .int (bI (allZ (mfrB (nI n) op fa fb s0) jx))), (3, .int (nI jx))]) (pc' := 4) (fun xv9 hI ih_4 ls hl => ?_) 0 (Nat.zero_le _) ls (lv_sub hl [2, 3, 1, 0] rfl)
  obtain ⟨jx, rfl⟩ : ∃ y, y = xv9 := ⟨_, rfl⟩
  have hI : jx ≤ mf := hI
  have hl : lv_has ls 6 [(0, .ref (b 0)), (1, .int s0), (2, .int (bI (allZ (mfrB (nI n) op fa fb s0) jx))), (3, .int (nI jx))] := hl
  refine lv_iload_n hx hb dX8_keepsFormulas_4 rfl (lv_at hl 3 rfl) ?_
  refine lv_aload_n hx hb dX8_keepsFormulas_5 rfl (lv_at hl 0 rfl) ?_
  refine va_get (D := G.1) (ci := 10) (v := .int (nI mf)) (C := RX8) (T := TX8) (N := 27) hx hb hts iX8_keepsFormulas_X8 hown hK hP 0 rfl rfl 11 (by decide) (hts _ fX8_keepsFormulas_1) (fun _ h9 => h9) rfl dX8_keepsFormulas_6 ?_
  refine lv_icmp_ge (tgt := 144) hx hb dX8_keepsFormulas_9 (by decide) (fun c_9 => ?_) (fun c_9 => ?_)
  · skip
    have hj : jx = mf := by have := (nI_leI (a := mf) (b := jx) (by omega) (by omega)).mp c_9; omega
    refine lv_iload_n hx hb dX8_keepsFormulas_144 rfl (lv_at hl 2 rfl) ?_
    exact pret hx hb hr hlocks (bI_nar _) (by rw [hj]) dX8_keepsFormulas_145
  · skip
    have hj : jx < mf := Nat.lt_of_not_le (fun z => c_9 ((nI_leI (a := mf) (b := jx) (by omega) (by omega)).mpr z))
    refine lv_iload_n hx hb dX8_keepsFormulas_12 rfl (lv_at hl 2 rfl) ?_
    refine lv_if_eq (tgt := 144) hx hb dX8_keepsFormulas_13 (by decide) (fun c_13 => ?_) (fun c_13 => ?_)
    · skip
      refine lv_iload_n hx hb dX8_keepsFormulas_144 rfl (lv_at hl 2 rfl) ?_
      exact pret hx hb hr hlocks (bI_nar _) (by rw [bI_0.mp c_13, allZ_down (bI_0.mp c_13) mf (by omega)]) dX8_keepsFormulas_145
    · skip
      have hall := bI_n0 c_13
      refine lv_aload_n hx hb dX8_keepsFormulas_16 rfl (lv_at hl 0 rfl) ?_
      refine lv_iload_n hx hb dX8_keepsFormulas_17 rfl (lv_at hl 1 rfl) ?_
      refine lv_aload_n hx hb dX8_keepsFormulas_18 rfl (lv_at hl 0 rfl) ?_
      refine va_get (D := G.1) (ci := 10) (v := .ref (b 9)) (C := RX8) (T := TX8) (N := 27) hx hb hts iX8_keepsFormulas_X8 hown hK hP 0 rfl rfl 9 (by decide) (hts _ fX8_keepsFormulas_2) (fun _ h9 => h9) rfl dX8_keepsFormulas_19 ?_
      refine lv_iload_n hx hb dX8_keepsFormulas_22 rfl (lv_at hl 3 rfl) ?_
      refine aldI hx hb hK hP 2 (k := jx) rfl (rfl) (by omega) (by decide) dX8_keepsFormulas_23 ?_
      refine cpV (ci := 10) (T0 := TX8) (N := 27) (As := [.int s0, .int (fa jx)]) (rest := []) ⟨hx, hb, hml, hown, hts⟩ (c_X8_holds l G b th n mf cc kn sc fc so la lq wq  s0 (fa jx) ) (cwV 2 hts gX8_keepsFormulas_X8_holds rfl rfl rfl ⟨rfl, hd_X8_holds⟩ ⟨Nat.le_of_ble_eq_true rfl, Nat.le_of_ble_eq_true rfl⟩) hKK hP [0] rfl rfl rfl rfl hl.1 rfl (Nat.le_of_ble_eq_true rfl) dX8_keepsFormulas_24 ⟨Nat.zero_le _, Nat.zero_le _⟩ ?_
      refine lv_istore (lv' := [(4, .int (bI (litB (nI n) s0 (fa jx)))), (0, .ref (b 0)), (1, .int s0), (2, .int (bI (allZ (mfrB (nI n) op fa fb s0) jx))), (3, .int (nI jx))]) hx hb dX8_keepsFormulas_27 hl (by decide) rfl (fun ls hl => ?_)
      refine lv_aload_n hx hb dX8_keepsFormulas_29 rfl (lv_at hl 1 rfl) ?_
      refine lv_iload_n hx hb dX8_keepsFormulas_30 rfl (lv_at hl 2 rfl) ?_
      refine lv_aload_n hx hb dX8_keepsFormulas_31 rfl (lv_at hl 1 rfl) ?_
      refine va_get (D := G.1) (ci := 10) (v := .ref (b 10)) (C := RX8) (T := TX8) (N := 27) hx hb hts iX8_keepsFormulas_X8 hown hK hP 0 rfl rfl 10 (by decide) (hts _ fX8_keepsFormulas_3) (fun _ h9 => h9) rfl dX8_keepsFormulas_32 ?_
      refine lv_iload_n hx hb dX8_keepsFormulas_35 rfl (lv_at hl 4 rfl) ?_
      refine aldI hx hb hK hP 3 (k := jx) rfl (rfl) (by omega) (by decide) dX8_keepsFormulas_36 ?_
      refine cpV (ci := 10) (T0 := TX8) (N := 27) (As := [.int s0, .int (fb jx)]) (rest := []) ⟨hx, hb, hml, hown, hts⟩ (c_X8_holds l G b th n mf cc kn sc fc so la lq wq  s0 (fb jx) ) (cwV 2 hts gX8_keepsFormulas_X8_holds rfl rfl rfl ⟨rfl, hd_X8_holds⟩ ⟨Nat.le_of_ble_eq_true rfl, Nat.le_of_ble_eq_true rfl⟩) hKK hP [0] rfl rfl rfl rfl hl.1 rfl (Nat.le_of_ble_eq_true rfl) dX8_keepsFormulas_37 ⟨Nat.zero_le _, Nat.zero_le _⟩ ?_
      refine lv_istore (lv' := [(5, .int (bI (litB (nI n) s0 (fb jx)))), (4, .int (bI (litB (nI n) s0 (fa jx)))), (0, .ref (b 0)), (1, .int s0), (2, .int (bI (allZ (mfrB (nI n) op fa fb s0) jx))), (3, .int (nI jx))]) hx hb dX8_keepsFormulas_40 hl (by decide) rfl (fun ls hl => ?_)
      refine cutJ (nL := 6) (lv := [(0, .ref (b 0)), (1, .int s0), (2, .int (bI (allZ (mfrB (nI n) op fa fb s0) jx))), (3, .int (nI jx))]) (pc' := 137) (st' := [.int (bI (mfrB (nI n) op fa fb s0 jx))]) (fun ls hl => ?_) (fun hJ_137 => ?_)
      · skip
        refine stI (y := bI (allZ (mfrB (nI n) op fa fb s0) (jx + 1))) (by show _ = bI (allZ (mfrB (nI n) op fa fb s0) jx && mfrB (nI n) op fa fb s0 jx); rw [hall]; rfl) ?_
        refine lv_istore_n (lv' := [(2, .int (bI (allZ (mfrB (nI n) op fa fb s0) (jx + 1)))), (0, .ref (b 0)), (1, .int s0), (3, .int (nI jx))]) hx hb dX8_keepsFormulas_137 rfl hl (by decide) rfl (fun ls hl => ?_)
        refine lv_iinc (v := nI (jx + 1)) (lv' := [(3, .int (nI (jx + 1))), (2, .int (bI (allZ (mfrB (nI n) op fa fb s0) (jx + 1)))), (0, .ref (b 0)), (1, .int s0)]) hx hb dX8_keepsFormulas_138 hl (k := 3) rfl (nI_1 jx) (by decide) rfl (fun ls hl => ?_)
        refine lv_goto (tgt := 4) hx hb dX8_keepsFormulas_141 (by decide) ?_
        exact ih_4 (jx + 1) (hj) (by show mf - (jx + 1) < mf - jx; omega) ls (lv_sub hl [2, 3, 1, 0] rfl)
      · skip
        refine lv_aload_n hx hb dX8_keepsFormulas_42 rfl (lv_at hl 2 rfl) ?_
        refine va_get (D := G.1) (ci := 10) (v := .ref (b 8)) (C := RX8) (T := TX8) (N := 27) hx hb hts iX8_keepsFormulas_X8 hown hK hP 0 rfl rfl 8 (by decide) (hts _ fX8_keepsFormulas_4) (fun _ h9 => h9) rfl dX8_keepsFormulas_43 ?_
        refine lv_iload_n hx hb dX8_keepsFormulas_46 rfl (lv_at hl 5 rfl) ?_
        refine aldI hx hb hK hP 1 (k := jx) rfl (rfl) (by omega) (by decide) dX8_keepsFormulas_47 ?_
        refine lv_if_ne (tgt := 69) hx hb dX8_keepsFormulas_48 (by decide) (fun c_48 => ?_) (fun c_48 => ?_)
        · skip
          refine lv_aload_n hx hb dX8_keepsFormulas_69 rfl (lv_at hl 2 rfl) ?_
          refine va_get (D := G.1) (ci := 10) (v := .ref (b 8)) (C := RX8) (T := TX8) (N := 27) hx hb hts iX8_keepsFormulas_X8 hown hK hP 0 rfl rfl 8 (by decide) (hts _ fX8_keepsFormulas_4) (fun _ h9 => h9) rfl dX8_keepsFormulas_70 ?_
          refine lv_iload_n hx hb dX8_keepsFormulas_73 rfl (lv_at hl 5 rfl) ?_
          refine aldI hx hb hK hP 1 (k := jx) rfl (rfl) (by omega) (by decide) dX8_keepsFormulas_74 ?_
          refine lv_iconst (v := 1) hx hb dX8_keepsFormulas_75 (by decide) ?_
          refine lv_icmp_ne (tgt := 97) hx hb dX8_keepsFormulas_76 (by decide) (fun c_76 => ?_) (fun c_76 => ?_)
          · skip
            refine lv_aload_n hx hb dX8_keepsFormulas_97 rfl (lv_at hl 2 rfl) ?_
            refine va_get (D := G.1) (ci := 10) (v := .ref (b 8)) (C := RX8) (T := TX8) (N := 27) hx hb hts iX8_keepsFormulas_X8 hown hK hP 0 rfl rfl 8 (by decide) (hts _ fX8_keepsFormulas_4) (fun _ h9 => h9) rfl dX8_keepsFormulas_98 ?_
            refine lv_iload_n hx hb dX8_keepsFormulas_101 rfl (lv_at hl 5 rfl) ?_
            refine aldI hx hb hK hP 1 (k := jx) rfl (rfl) (by omega) (by decide) dX8_keepsFormulas_102 ?_
            refine lv_iconst (v := 2) hx hb dX8_keepsFormulas_103 (by decide) ?_
            refine lv_icmp_ne (tgt := 125) hx hb dX8_keepsFormulas_104 (by decide) (fun c_104 => ?_) (fun c_104 => ?_)
            · skip
              refine lv_iload hx hb dX8_keepsFormulas_125 (lv_at hl 1 rfl) ?_
              refine lv_iload hx hb dX8_keepsFormulas_127 (lv_at hl 0 rfl) ?_
              refine lv_icmp_ne (tgt := 136) hx hb dX8_keepsFormulas_129 (by decide) (fun c_129 => ?_) (fun c_129 => ?_)
              · skip
                refine lv_iconst (v := 0) hx hb dX8_keepsFormulas_136 (by decide) ?_
                refine stI (y := (bI (mfrB (nI n) op fa fb s0 jx))) (by simp only [mfrB, holdsB, if_neg c_48, if_neg c_76, if_neg c_104]; revert c_129; cases litB (nI n) s0 (fa jx) <;> cases litB (nI n) s0 (fb jx) <;> decide) ?_
                exact hJ_137 ls (lv_sub hl [2, 3, 4, 5] rfl)
              · skip
                refine lv_iconst (v := 1) hx hb dX8_keepsFormulas_132 (by decide) ?_
                refine lv_goto (tgt := 137) hx hb dX8_keepsFormulas_133 (by decide) ?_
                refine stI (y := (bI (mfrB (nI n) op fa fb s0 jx))) (by simp only [mfrB, holdsB, if_neg c_48, if_neg c_76, if_neg c_104]; revert c_129; cases litB (nI n) s0 (fa jx) <;> cases litB (nI n) s0 (fb jx) <;> decide) ?_
                exact hJ_137 ls (lv_sub hl [2, 3, 4, 5] rfl)
            · skip
              refine lv_iload hx hb dX8_keepsFormulas_107 (lv_at hl 1 rfl) ?_
              refine lv_if_ne (tgt := 117) hx hb dX8_keepsFormulas_109 (by decide) (fun c_109 => ?_) (fun c_109 => ?_)
              · skip
                refine lv_iconst (v := 1) hx hb dX8_keepsFormulas_117 (by decide) ?_
                refine lv_goto (tgt := 137) hx hb dX8_keepsFormulas_118 (by decide) ?_
                refine stI (y := (bI (mfrB (nI n) op fa fb s0 jx))) (by simp only [mfrB, holdsB, if_neg c_48, if_neg c_76, if_pos c_104]; revert c_109; cases litB (nI n) s0 (fa jx) <;> cases litB (nI n) s0 (fb jx) <;> decide) ?_
                exact hJ_137 ls (lv_sub hl [2, 3, 4, 5] rfl)
              · skip
                refine lv_iload hx hb dX8_keepsFormulas_112 (lv_at hl 0 rfl) ?_
                refine lv_if_eq (tgt := 121) hx hb dX8_keepsFormulas_114 (by decide) (fun c_114 => ?_) (fun c_114 => ?_)
                · skip
                  refine lv_iconst (v := 0) hx hb dX8_keepsFormulas_121 (by decide) ?_
                  refine lv_goto (tgt := 137) hx hb dX8_keepsFormulas_122 (by decide) ?_
                  refine stI (y := (bI (mfrB (nI n) op fa fb s0 jx))) (by simp only [mfrB, holdsB, if_neg c_48, if_neg c_76, if_pos c_104]; revert c_109 c_114; cases litB (nI n) s0 (fa jx) <;> cases litB (nI n) s0 (fb jx) <;> decide) ?_
                  exact hJ_137 ls (lv_sub hl [2, 3, 4, 5] rfl)
                · skip
                  refine lv_iconst (v := 1) hx hb dX8_keepsFormulas_117 (by decide) ?_
                  refine lv_goto (tgt := 137) hx hb dX8_keepsFormulas_118 (by decide) ?_
                  refine stI (y := (bI (mfrB (nI n) op fa fb s0 jx))) (by simp only [mfrB, holdsB, if_neg c_48, if_neg c_76, if_pos c_104]; revert c_109 c_114; cases litB (nI n) s0 (fa jx) <;> cases litB (nI n) s0 (fb jx) <;> decide) ?_
                  exact hJ_137 ls (lv_sub hl [2, 3, 4, 5] rfl)
          · skip
            refine lv_iload hx hb dX8_keepsFormulas_79 (lv_at hl 1 rfl) ?_
            refine lv_if_eq (tgt := 89) hx hb dX8_keepsFormulas_81 (by decide) (fun c_81 => ?_) (fun c_81 => ?_)
            · skip
              refine lv_iconst (v := 1) hx hb dX8_keepsFormulas_89 (by decide) ?_
              refine lv_goto (tgt := 137) hx hb dX8_keepsFormulas_90 (by decide) ?_
              refine stI (y := (bI (mfrB (nI n) op fa fb s0 jx))) (by simp only [mfrB, holdsB, if_neg c_48, if_pos c_76]; revert c_81; cases litB (nI n) s0 (fa jx) <;> cases litB (nI n) s0 (fb jx) <;> decide) ?_
              exact hJ_137 ls (lv_sub hl [2, 3, 4, 5] rfl)
            · skip
              refine lv_iload hx hb dX8_keepsFormulas_84 (lv_at hl 0 rfl) ?_
              refine lv_if_ne (tgt := 93) hx hb dX8_keepsFormulas_86 (by decide) (fun c_86 => ?_) (fun c_86 => ?_)
              · skip
                refine lv_iconst (v := 0) hx hb dX8_keepsFormulas_93 (by decide) ?_
                refine lv_goto (tgt := 137) hx hb dX8_keepsFormulas_94 (by decide) ?_
                refine stI (y := (bI (mfrB (nI n) op fa fb s0 jx))) (by simp only [mfrB, holdsB, if_neg c_48, if_pos c_76]; revert c_81 c_86; cases litB (nI n) s0 (fa jx) <;> cases litB (nI n) s0 (fb jx) <;> decide) ?_
                exact hJ_137 ls (lv_sub hl [2, 3, 4, 5] rfl)
              · skip
                refine lv_iconst (v := 1) hx hb dX8_keepsFormulas_89 (by decide) ?_
                refine lv_goto (tgt := 137) hx hb dX8_keepsFormulas_90 (by decide) ?_
                refine stI (y := (bI (mfrB (nI n) op fa fb s0 jx))) (by simp only [mfrB, holdsB, if_neg c_48, if_pos c_76]; revert c_81 c_86; cases litB (nI n) s0 (fa jx) <;> cases litB (nI n) s0 (fb jx) <;> decide) ?_
                exact hJ_137 ls (lv_sub hl [2, 3, 4, 5] rfl)
        · skip
          refine lv_iload hx hb dX8_keepsFormulas_51 (lv_at hl 1 rfl) ?_
          refine lv_if_eq (tgt := 61) hx hb dX8_keepsFormulas_53 (by decide) (fun c_53 => ?_) (fun c_53 => ?_)
          · skip
            refine lv_iconst (v := 1) hx hb dX8_keepsFormulas_61 (by decide) ?_
            refine lv_goto (tgt := 137) hx hb dX8_keepsFormulas_62 (by decide) ?_
            refine stI (y := (bI (mfrB (nI n) op fa fb s0 jx))) (by simp only [mfrB, holdsB, if_pos c_48]; revert c_53; cases litB (nI n) s0 (fa jx) <;> cases litB (nI n) s0 (fb jx) <;> decide) ?_
            exact hJ_137 ls (lv_sub hl [2, 3, 4, 5] rfl)
          · skip
            refine lv_iload hx hb dX8_keepsFormulas_56 (lv_at hl 0 rfl) ?_
            refine lv_if_eq (tgt := 65) hx hb dX8_keepsFormulas_58 (by decide) (fun c_58 => ?_) (fun c_58 => ?_)
            · skip
              refine lv_iconst (v := 0) hx hb dX8_keepsFormulas_65 (by decide) ?_
              refine lv_goto (tgt := 137) hx hb dX8_keepsFormulas_66 (by decide) ?_
              refine stI (y := (bI (mfrB (nI n) op fa fb s0 jx))) (by simp only [mfrB, holdsB, if_pos c_48]; revert c_53 c_58; cases litB (nI n) s0 (fa jx) <;> cases litB (nI n) s0 (fb jx) <;> decide) ?_
              exact hJ_137 ls (lv_sub hl [2, 3, 4, 5] rfl)
            · skip
              refine lv_iconst (v := 1) hx hb dX8_keepsFormulas_61 (by decide) ?_
              refine lv_goto (tgt := 137) hx hb dX8_keepsFormulas_62 (by decide) ?_
              refine stI (y := (bI (mfrB (nI n) op fa fb s0 jx))) (by simp only [mfrB, holdsB, if_pos c_48]; revert c_53 c_58; cases litB (nI n) s0 (fa jx) <;> cases litB (nI n) s0 (fb jx) <;> decide) ?_
              exact hJ_137 ls (lv_sub hl [2, 3, 4, 5] rfl)

theorem iX8_keepsLimits_X8 : ∀ w ∈ u_ws RX8 TX8 27, w ∈ wsX8_keepsLimits := by decide +kernel
theorem fX8_keepsLimits_1 : Cond.fieldLink RX8 63 "FeatureSolveModel" "features" "I" ∈ wsX8_keepsLimits := by decide +kernel
theorem fX8_keepsLimits_2 : Cond.fieldLink RX8 38 "FeatureSolveModel" "limited" "[Z" ∈ wsX8_keepsLimits := by decide +kernel
theorem fX8_keepsLimits_3 : Cond.fieldLink RX8 41 "FeatureSolveModel" "limits" "[I" ∈ wsX8_keepsLimits := by decide +kernel
theorem fX8_keepsLimits_4 : Cond.fieldLink RX8 26 "FeatureSolveModel" "sums" "[I" ∈ wsX8_keepsLimits := by decide +kernel
set_option maxHeartbeats 4000000 in
set_option maxRecDepth 100000 in
/-- keepsLimits(set) -/
theorem c_X8_keepsLimits (l : Launch) (G : GG) (b : Nat → Nat) (th : Int32) (n mf cc : Nat) (kn : Bool) (sc fc : Nat) (so : Bool) (la lq : Int32) (wq : Nat) (sm ld lm : Nat → Int32) (s0 : Int32) (hn : n ≤ 14) : Met l yX8_keepsLimits wsX8_keepsLimits (rmK 1) (va_Pc [.ref (b 0), .int s0] (PS G [(oX8 (b 0) th (b 1) (b 2) (b 3) (b 4) (b 5) (b 6) (nI n) (b 8) (b 9) (b 10) (nI mf) (b 12) (b 13) (b 14) (nI cc) (bI kn) (b 17) (nI sc) (b 19) (nI fc) (b 21) (bI so) la lq (b 25) (nI wq)), (cI G (b 6) 60 sm), (cZ G (b 12) 4 ld), (cI G (b 13) 4 lm)])) (QcRead (bI (allZ (mcaB n sm ld lm s0) 4))) 0 0 (fun _ => False) := by
  refine Met.ofW (cc := cX8_keepsLimits) (maxL := 6) (ret := (some .boolean)) (by decide) rfl ?_
  intro p e s m args below meth c s₁ B hml hv
  obtain ⟨rfl, hP, hKK⟩ := hv
  have hx := B.exec
  have hb := B.bytes
  have hr := B.returns
  have hts := atoms_spec (ws := wsX8_keepsLimits) B.pre
  have hown : s.vm.findClass RX8 = some m.cls := findClass_of_methodNamed B.named
  have hlocks := B.notSynchronized
  have hK := hKK.1
  have hl := lv_entry ([.ref (b 0), .int s0]) (n := 6) (Nat.le_of_ble_eq_true rfl)
  rw [lg_entry_eq]
  generalize (lg_sl ([.ref (b 0), .int s0]) ++ List.replicate (6 - (lg_sl ([.ref (b 0), .int s0])).length) Slot.unset).toArray = ls at hl ⊢
  have hl : lv_has ls 6 [(0, .ref (b 0)), (1, .int s0)] := hl
  refine lv_iconst (v := 1) hx hb dX8_keepsLimits_0 (by decide) ?_
  refine lv_istore_n (lv' := [(2, .int 1), (0, .ref (b 0)), (1, .int s0)]) hx hb dX8_keepsLimits_1 rfl hl (by decide) rfl (fun ls hl => ?_)
  refine lv_iconst (v := 0) hx hb dX8_keepsLimits_2 (by decide) ?_
  refine lv_istore_n (lv' := [(3, .int 0), (2, .int 1), (0, .ref (b 0)), (1, .int s0)]) hx hb dX8_keepsLimits_3 rfl hl (by decide) rfl (fun ls hl => ?_)
  refine loopJ (nL := 6) (I := fun (kx : Nat) => kx ≤ 4) (μ := fun (kx : Nat) => 4 - kx) (lv := fun (kx : Nat) => [(0, .ref (b 0)), (1, .int s0), (2, .int (bI (allZ (mcaB n sm ld lm s0) kx))), (3, .int (nI kx))]) (pc' := 4) (fun xv9 hI ih_4 ls hl => ?_) 0 (Nat.zero_le _) ls (lv_sub hl [2, 3, 1, 0] rfl)
  obtain ⟨kx, rfl⟩ : ∃ y, y = xv9 := ⟨_, rfl⟩
  have hI : kx ≤ 4 := hI
  have hl : lv_has ls 6 [(0, .ref (b 0)), (1, .int s0), (2, .int (bI (allZ (mcaB n sm ld lm s0) kx))), (3, .int (nI kx))] := hl
  refine lv_iload_n hx hb dX8_keepsLimits_4 rfl (lv_at hl 3 rfl) ?_
  refine lv_iconst (v := 4) hx hb dX8_keepsLimits_5 (by decide) ?_
  refine lv_icmp_ge (tgt := 97) hx hb dX8_keepsLimits_6 (by decide) (fun c_6 => ?_) (fun c_6 => ?_)
  · skip
    have hk4 : kx = 4 := Nat.le_antisymm hI ((nI_leI (a := 4) (by decide) (by omega)).mp c_6)
    refine lv_iload_n hx hb dX8_keepsLimits_97 rfl (lv_at hl 2 rfl) ?_
    exact pret hx hb hr hlocks (bI_nar _) (by rw [hk4]) dX8_keepsLimits_98
  · skip
    have hk4 : kx < 4 := Nat.lt_of_not_le (fun z => c_6 ((nI_leI (a := 4) (by decide) (by omega)).mpr z))
    refine lv_iconst (v := 0) hx hb dX8_keepsLimits_9 (by decide) ?_
    refine lv_istore (lv' := [(4, .int 0), (0, .ref (b 0)), (1, .int s0), (2, .int (bI (allZ (mcaB n sm ld lm s0) kx))), (3, .int (nI kx))]) hx hb dX8_keepsLimits_10 hl (by decide) rfl (fun ls hl => ?_)
    refine lv_iconst (v := 1) hx hb dX8_keepsLimits_12 (by decide) ?_
    refine lv_istore (lv' := [(5, .int 1), (4, .int 0), (0, .ref (b 0)), (1, .int s0), (2, .int (bI (allZ (mcaB n sm ld lm s0) kx))), (3, .int (nI kx))]) hx hb dX8_keepsLimits_13 hl (by decide) rfl (fun ls hl => ?_)
    refine loopJ (nL := 6) (I := fun (jx : Nat) => jx ≤ n) (μ := fun (jx : Nat) => n - jx) (lv := fun (jx : Nat) => [(0, .ref (b 0)), (1, .int s0), (2, .int (bI (allZ (mcaB n sm ld lm s0) kx))), (3, .int (nI kx)), (4, .int (sumT (fun f => if isInB (nI n) s0 (nI f) then sm (4 * f + kx) else 0) jx)), (5, .int (nI (jx + 1)))]) (pc' := 15) (fun xv9 hI ih_15 ls hl => ?_) 0 (Nat.zero_le _) ls (lv_sub hl [2, 3, 4, 5, 1, 0] rfl)
    obtain ⟨jx, rfl⟩ : ∃ y, y = xv9 := ⟨_, rfl⟩
    have hI : jx ≤ n := hI
    have hl : lv_has ls 6 [(0, .ref (b 0)), (1, .int s0), (2, .int (bI (allZ (mcaB n sm ld lm s0) kx))), (3, .int (nI kx)), (4, .int (sumT (fun f => if isInB (nI n) s0 (nI f) then sm (4 * f + kx) else 0) jx)), (5, .int (nI (jx + 1)))] := hl
    refine lv_iload hx hb dX8_keepsLimits_15 (lv_at hl 5 rfl) ?_
    refine lv_aload_n hx hb dX8_keepsLimits_17 rfl (lv_at hl 0 rfl) ?_
    refine va_get (D := G.1) (ci := 10) (v := .int (nI n)) (C := RX8) (T := TX8) (N := 27) hx hb hts iX8_keepsLimits_X8 hown hK hP 0 rfl rfl 7 (by decide) (hts _ fX8_keepsLimits_1) (fun _ h9 => h9) rfl dX8_keepsLimits_18 ?_
    refine lv_icmp_gt (tgt := 61) hx hb dX8_keepsLimits_21 (by decide) (fun c_21 => ?_) (fun c_21 => ?_)
    · skip
      have hj : jx = n := by have := (nI_ltI (a := n) (b := jx + 1) (by omega) (by omega)).mp c_21; omega
      refine lv_iload_n hx hb dX8_keepsLimits_61 rfl (lv_at hl 2 rfl) ?_
      refine lv_if_eq (tgt := 89) hx hb dX8_keepsLimits_62 (by decide) (fun c_62 => ?_) (fun c_62 => ?_)
      · skip
        refine lv_iconst (v := 0) hx hb dX8_keepsLimits_89 (by decide) ?_
        refine stI (y := bI (allZ (mcaB n sm ld lm s0) (kx + 1))) (by show _ = bI (allZ (mcaB n sm ld lm s0) kx && mcaB n sm ld lm s0 kx); rw [bI_0.mp c_62]; rfl) ?_
        refine lv_istore_n (lv' := [(2, .int (bI (allZ (mcaB n sm ld lm s0) (kx + 1)))), (0, .ref (b 0)), (1, .int s0), (3, .int (nI kx)), (4, .int (sumT (fun f => if isInB (nI n) s0 (nI f) then sm (4 * f + kx) else 0) jx)), (5, .int (nI (jx + 1)))]) hx hb dX8_keepsLimits_90 rfl hl (by decide) rfl (fun ls hl => ?_)
        refine lv_iinc (v := nI (kx + 1)) (lv' := [(3, .int (nI (kx + 1))), (2, .int (bI (allZ (mcaB n sm ld lm s0) (kx + 1)))), (0, .ref (b 0)), (1, .int s0), (4, .int (sumT (fun f => if isInB (nI n) s0 (nI f) then sm (4 * f + kx) else 0) jx)), (5, .int (nI (jx + 1)))]) hx hb dX8_keepsLimits_91 hl (k := 3) rfl (nI_1 kx) (by decide) rfl (fun ls hl => ?_)
        refine lv_goto (tgt := 4) hx hb dX8_keepsLimits_94 (by decide) ?_
        exact ih_4 (kx + 1) (hk4) (by show 4 - (kx + 1) < 4 - kx; omega) ls (lv_sub hl [2, 3, 1, 0] rfl)
      · skip
        refine lv_aload_n hx hb dX8_keepsLimits_65 rfl (lv_at hl 0 rfl) ?_
        refine va_get (D := G.1) (ci := 10) (v := .ref (b 12)) (C := RX8) (T := TX8) (N := 27) hx hb hts iX8_keepsLimits_X8 hown hK hP 0 rfl rfl 12 (by decide) (hts _ fX8_keepsLimits_2) (fun _ h9 => h9) rfl dX8_keepsLimits_66 ?_
        refine lv_iload_n hx hb dX8_keepsLimits_69 rfl (lv_at hl 3 rfl) ?_
        refine aldZ hx hb hK hP 2 (k := kx) rfl (rfl) (by omega) (by decide) dX8_keepsLimits_70 ?_
        refine lv_if_eq (tgt := 85) hx hb dX8_keepsLimits_71 (by decide) (fun c_71 => ?_) (fun c_71 => ?_)
        · skip
          refine lv_iconst (v := 1) hx hb dX8_keepsLimits_85 (by decide) ?_
          refine lv_goto (tgt := 90) hx hb dX8_keepsLimits_86 (by decide) ?_
          refine stI (y := bI (allZ (mcaB n sm ld lm s0) (kx + 1))) (by show _ = bI (allZ (mcaB n sm ld lm s0) kx && mcaB n sm ld lm s0 kx); rw [bI_n0 c_62]; unfold mcaB; rw [if_pos c_71]; rfl) ?_
          refine lv_istore_n (lv' := [(2, .int (bI (allZ (mcaB n sm ld lm s0) (kx + 1)))), (0, .ref (b 0)), (1, .int s0), (3, .int (nI kx)), (4, .int (sumT (fun f => if isInB (nI n) s0 (nI f) then sm (4 * f + kx) else 0) jx)), (5, .int (nI (jx + 1)))]) hx hb dX8_keepsLimits_90 rfl hl (by decide) rfl (fun ls hl => ?_)
          refine lv_iinc (v := nI (kx + 1)) (lv' := [(3, .int (nI (kx + 1))), (2, .int (bI (allZ (mcaB n sm ld lm s0) (kx + 1)))), (0, .ref (b 0)), (1, .int s0), (4, .int (sumT (fun f => if isInB (nI n) s0 (nI f) then sm (4 * f + kx) else 0) jx)), (5, .int (nI (jx + 1)))]) hx hb dX8_keepsLimits_91 hl (k := 3) rfl (nI_1 kx) (by decide) rfl (fun ls hl => ?_)
          refine lv_goto (tgt := 4) hx hb dX8_keepsLimits_94 (by decide) ?_
          exact ih_4 (kx + 1) (hk4) (by show 4 - (kx + 1) < 4 - kx; omega) ls (lv_sub hl [2, 3, 1, 0] rfl)
        · skip
          refine lv_iload hx hb dX8_keepsLimits_74 (lv_at hl 4 rfl) ?_
          refine lv_aload_n hx hb dX8_keepsLimits_76 rfl (lv_at hl 0 rfl) ?_
          refine va_get (D := G.1) (ci := 10) (v := .ref (b 13)) (C := RX8) (T := TX8) (N := 27) hx hb hts iX8_keepsLimits_X8 hown hK hP 0 rfl rfl 13 (by decide) (hts _ fX8_keepsLimits_3) (fun _ h9 => h9) rfl dX8_keepsLimits_77 ?_
          refine lv_iload_n hx hb dX8_keepsLimits_80 rfl (lv_at hl 3 rfl) ?_
          refine aldI hx hb hK hP 3 (k := kx) rfl (rfl) (by omega) (by decide) dX8_keepsLimits_81 ?_
          refine lv_icmp_gt (tgt := 89) hx hb dX8_keepsLimits_82 (by decide) (fun c_82 => ?_) (fun c_82 => ?_)
          · skip
            refine lv_iconst (v := 0) hx hb dX8_keepsLimits_89 (by decide) ?_
            refine stI (y := bI (allZ (mcaB n sm ld lm s0) (kx + 1))) (by show _ = bI (allZ (mcaB n sm ld lm s0) kx && mcaB n sm ld lm s0 kx); rw [bI_n0 c_62]; unfold mcaB; rw [if_neg c_71]; rw [hj] at c_82; exact bI_no _ decide_eq_true_iff (fun z => i_nlt.mpr z c_82)) ?_
            refine lv_istore_n (lv' := [(2, .int (bI (allZ (mcaB n sm ld lm s0) (kx + 1)))), (0, .ref (b 0)), (1, .int s0), (3, .int (nI kx)), (4, .int (sumT (fun f => if isInB (nI n) s0 (nI f) then sm (4 * f + kx) else 0) jx)), (5, .int (nI (jx + 1)))]) hx hb dX8_keepsLimits_90 rfl hl (by decide) rfl (fun ls hl => ?_)
            refine lv_iinc (v := nI (kx + 1)) (lv' := [(3, .int (nI (kx + 1))), (2, .int (bI (allZ (mcaB n sm ld lm s0) (kx + 1)))), (0, .ref (b 0)), (1, .int s0), (4, .int (sumT (fun f => if isInB (nI n) s0 (nI f) then sm (4 * f + kx) else 0) jx)), (5, .int (nI (jx + 1)))]) hx hb dX8_keepsLimits_91 hl (k := 3) rfl (nI_1 kx) (by decide) rfl (fun ls hl => ?_)
            refine lv_goto (tgt := 4) hx hb dX8_keepsLimits_94 (by decide) ?_
            exact ih_4 (kx + 1) (hk4) (by show 4 - (kx + 1) < 4 - kx; omega) ls (lv_sub hl [2, 3, 1, 0] rfl)
          · skip
            refine lv_iconst (v := 1) hx hb dX8_keepsLimits_85 (by decide) ?_
            refine lv_goto (tgt := 90) hx hb dX8_keepsLimits_86 (by decide) ?_
            refine stI (y := bI (allZ (mcaB n sm ld lm s0) (kx + 1))) (by show _ = bI (allZ (mcaB n sm ld lm s0) kx && mcaB n sm ld lm s0 kx); rw [bI_n0 c_62]; unfold mcaB; rw [if_neg c_71]; rw [hj] at c_82; exact bI_of _ decide_eq_true_iff (i_nlt.mp c_82)) ?_
            refine lv_istore_n (lv' := [(2, .int (bI (allZ (mcaB n sm ld lm s0) (kx + 1)))), (0, .ref (b 0)), (1, .int s0), (3, .int (nI kx)), (4, .int (sumT (fun f => if isInB (nI n) s0 (nI f) then sm (4 * f + kx) else 0) jx)), (5, .int (nI (jx + 1)))]) hx hb dX8_keepsLimits_90 rfl hl (by decide) rfl (fun ls hl => ?_)
            refine lv_iinc (v := nI (kx + 1)) (lv' := [(3, .int (nI (kx + 1))), (2, .int (bI (allZ (mcaB n sm ld lm s0) (kx + 1)))), (0, .ref (b 0)), (1, .int s0), (4, .int (sumT (fun f => if isInB (nI n) s0 (nI f) then sm (4 * f + kx) else 0) jx)), (5, .int (nI (jx + 1)))]) hx hb dX8_keepsLimits_91 hl (k := 3) rfl (nI_1 kx) (by decide) rfl (fun ls hl => ?_)
            refine lv_goto (tgt := 4) hx hb dX8_keepsLimits_94 (by decide) ?_
            exact ih_4 (kx + 1) (hk4) (by show 4 - (kx + 1) < 4 - kx; omega) ls (lv_sub hl [2, 3, 1, 0] rfl)
    · skip
      have hj : jx < n := by have := mt (nI_ltI (a := n) (b := jx + 1) (by omega) (by omega)).mpr c_21; omega
      refine lv_aload_n hx hb dX8_keepsLimits_24 rfl (lv_at hl 0 rfl) ?_
      refine lv_iload_n hx hb dX8_keepsLimits_25 rfl (lv_at hl 1 rfl) ?_
      refine lv_iload hx hb dX8_keepsLimits_26 (lv_at hl 5 rfl) ?_
      refine cpV (ci := 10) (T0 := TX8) (N := 27) (As := [.int s0, .int (nI (jx + 1))]) (rest := []) ⟨hx, hb, hml, hown, hts⟩ (c_X8_isIn l G b th n mf cc kn sc fc so la lq wq  s0 (nI (jx + 1)) ) (cwV 2 hts gX8_keepsLimits_X8_isIn rfl rfl rfl ⟨rfl, hd_X8_isIn⟩ ⟨Nat.le_of_ble_eq_true rfl, Nat.le_of_ble_eq_true rfl⟩) hKK hP [0] rfl rfl rfl rfl hl.1 rfl (Nat.le_of_ble_eq_true rfl) dX8_keepsLimits_28 ⟨Nat.zero_le _, Nat.zero_le _⟩ ?_
      refine lv_if_eq (tgt := 51) hx hb dX8_keepsLimits_31 (by decide) (fun c_31 => ?_) (fun c_31 => ?_)
      · skip
        refine lv_iload hx hb dX8_keepsLimits_51 (lv_at hl 4 rfl) ?_
        refine stI (y := sumT (fun f => if isInB (nI n) s0 (nI f) then sm (4 * f + kx) else 0) (jx + 1)) (by show _ = sumT (fun f => if isInB (nI n) s0 (nI f) then sm (4 * f + kx) else 0) jx + (if isInB (nI n) s0 (nI (jx + 1)) then sm (4 * (jx + 1) + kx) else 0); rw [bI_0.mp c_31]; simp) ?_
        refine lv_istore (lv' := [(4, .int (sumT (fun f => if isInB (nI n) s0 (nI f) then sm (4 * f + kx) else 0) (jx + 1))), (0, .ref (b 0)), (1, .int s0), (2, .int (bI (allZ (mcaB n sm ld lm s0) kx))), (3, .int (nI kx)), (5, .int (nI (jx + 1)))]) hx hb dX8_keepsLimits_53 hl (by decide) rfl (fun ls hl => ?_)
        refine lv_iinc (v := nI (jx + 1 + 1)) (lv' := [(5, .int (nI (jx + 1 + 1))), (4, .int (sumT (fun f => if isInB (nI n) s0 (nI f) then sm (4 * f + kx) else 0) (jx + 1))), (0, .ref (b 0)), (1, .int s0), (2, .int (bI (allZ (mcaB n sm ld lm s0) kx))), (3, .int (nI kx))]) hx hb dX8_keepsLimits_55 hl (k := 5) rfl (nI_1 (jx + 1)) (by decide) rfl (fun ls hl => ?_)
        refine lv_goto (tgt := 15) hx hb dX8_keepsLimits_58 (by decide) ?_
        exact ih_15 (jx + 1) (hj) (by show n - (jx + 1) < n - jx; omega) ls (lv_sub hl [2, 3, 4, 5, 1, 0] rfl)
      · skip
        refine lv_iload hx hb dX8_keepsLimits_34 (lv_at hl 4 rfl) ?_
        refine lv_aload_n hx hb dX8_keepsLimits_36 rfl (lv_at hl 0 rfl) ?_
        refine va_get (D := G.1) (ci := 10) (v := .ref (b 6)) (C := RX8) (T := TX8) (N := 27) hx hb hts iX8_keepsLimits_X8 hown hK hP 0 rfl rfl 6 (by decide) (hts _ fX8_keepsLimits_4) (fun _ h9 => h9) rfl dX8_keepsLimits_37 ?_
        refine lv_iconst (v := 4) hx hb dX8_keepsLimits_40 (by decide) ?_
        refine lv_iload hx hb dX8_keepsLimits_41 (lv_at hl 5 rfl) ?_
        refine lv_imul hx hb dX8_keepsLimits_43 ?_
        refine lv_iload_n hx hb dX8_keepsLimits_44 rfl (lv_at hl 3 rfl) ?_
        refine lv_iadd hx hb dX8_keepsLimits_45 ?_
        refine aldI hx hb hK hP 1 (k := 4 * (jx + 1) + kx) rfl (by rw [show (4 : Int32) = nI 4 from rfl, pk_mul, nI_add]) (by omega) (by decide) dX8_keepsLimits_46 ?_
        refine lv_iadd hx hb dX8_keepsLimits_47 ?_
        refine lv_goto (tgt := 53) hx hb dX8_keepsLimits_48 (by decide) ?_
        refine stI (y := sumT (fun f => if isInB (nI n) s0 (nI f) then sm (4 * f + kx) else 0) (jx + 1)) (by show _ = sumT (fun f => if isInB (nI n) s0 (nI f) then sm (4 * f + kx) else 0) jx + (if isInB (nI n) s0 (nI (jx + 1)) then sm (4 * (jx + 1) + kx) else 0); rw [bI_n0 c_31]; rfl) ?_
        refine lv_istore (lv' := [(4, .int (sumT (fun f => if isInB (nI n) s0 (nI f) then sm (4 * f + kx) else 0) (jx + 1))), (0, .ref (b 0)), (1, .int s0), (2, .int (bI (allZ (mcaB n sm ld lm s0) kx))), (3, .int (nI kx)), (5, .int (nI (jx + 1)))]) hx hb dX8_keepsLimits_53 hl (by decide) rfl (fun ls hl => ?_)
        refine lv_iinc (v := nI (jx + 1 + 1)) (lv' := [(5, .int (nI (jx + 1 + 1))), (4, .int (sumT (fun f => if isInB (nI n) s0 (nI f) then sm (4 * f + kx) else 0) (jx + 1))), (0, .ref (b 0)), (1, .int s0), (2, .int (bI (allZ (mcaB n sm ld lm s0) kx))), (3, .int (nI kx))]) hx hb dX8_keepsLimits_55 hl (k := 5) rfl (nI_1 (jx + 1)) (by decide) rfl (fun ls hl => ?_)
        refine lv_goto (tgt := 15) hx hb dX8_keepsLimits_58 (by decide) ?_
        exact ih_15 (jx + 1) (hj) (by show n - (jx + 1) < n - jx; omega) ls (lv_sub hl [2, 3, 4, 5, 1, 0] rfl)

theorem iX8_keepsChoices_X8 : ∀ w ∈ u_ws RX8 TX8 27, w ∈ wsX8_keepsChoices := by decide +kernel
theorem fX8_keepsChoices_1 : Cond.fieldLink RX8 84 "FeatureSolveModel" "choiceCount" "I" ∈ wsX8_keepsChoices := by decide +kernel
theorem fX8_keepsChoices_2 : Cond.fieldLink RX8 44 "FeatureSolveModel" "choices" "[I" ∈ wsX8_keepsChoices := by decide +kernel
set_option maxHeartbeats 4000000 in
set_option maxRecDepth 100000 in
/-- keepsChoices(set, without) -/
theorem c_X8_keepsChoices (l : Launch) (G : GG) (b : Nat → Nat) (th : Int32) (n mf cc : Nat) (kn : Bool) (sc fc : Nat) (so : Bool) (la lq : Int32) (wq : Nat) (ch : Nat → Int32) (s0 wo : Int32) (hc : cc ≤ 14) : Met l yX8_keepsChoices wsX8_keepsChoices (rmK 2) (va_Pc [.ref (b 0), .int s0, .int wo] (PS G [(oX8 (b 0) th (b 1) (b 2) (b 3) (b 4) (b 5) (b 6) (nI n) (b 8) (b 9) (b 10) (nI mf) (b 12) (b 13) (b 14) (nI cc) (bI kn) (b 17) (nI sc) (b 19) (nI fc) (b 21) (bI so) la lq (b 25) (nI wq)), (cI G (b 14) 14 ch)])) (QcRead (bI (allZ (chB (nI n) ch wo s0) cc))) 0 0 (fun _ => False) := by
  refine Met.ofW (cc := cX8_keepsChoices) (maxL := 5) (ret := (some .boolean)) (by decide) rfl ?_
  intro p e s m args below meth c s₁ B hml hv
  obtain ⟨rfl, hP, hKK⟩ := hv
  have hx := B.exec
  have hb := B.bytes
  have hr := B.returns
  have hts := atoms_spec (ws := wsX8_keepsChoices) B.pre
  have hown : s.vm.findClass RX8 = some m.cls := findClass_of_methodNamed B.named
  have hlocks := B.notSynchronized
  have hK := hKK.1
  have hl := lv_entry ([.ref (b 0), .int s0, .int wo]) (n := 5) (Nat.le_of_ble_eq_true rfl)
  rw [lg_entry_eq]
  generalize (lg_sl ([.ref (b 0), .int s0, .int wo]) ++ List.replicate (5 - (lg_sl ([.ref (b 0), .int s0, .int wo])).length) Slot.unset).toArray = ls at hl ⊢
  have hl : lv_has ls 5 [(0, .ref (b 0)), (1, .int s0), (2, .int wo)] := hl
  refine lv_iconst (v := 1) hx hb dX8_keepsChoices_0 (by decide) ?_
  refine lv_istore_n (lv' := [(3, .int 1), (0, .ref (b 0)), (1, .int s0), (2, .int wo)]) hx hb dX8_keepsChoices_1 rfl hl (by decide) rfl (fun ls hl => ?_)
  refine lv_iconst (v := 0) hx hb dX8_keepsChoices_2 (by decide) ?_
  refine lv_istore (lv' := [(4, .int 0), (3, .int 1), (0, .ref (b 0)), (1, .int s0), (2, .int wo)]) hx hb dX8_keepsChoices_3 hl (by decide) rfl (fun ls hl => ?_)
  refine loopJ (nL := 5) (I := fun (jx : Nat) => jx ≤ cc) (μ := fun (jx : Nat) => cc - jx) (lv := fun (jx : Nat) => [(0, .ref (b 0)), (1, .int s0), (2, .int wo), (3, .int (bI (allZ (chB (nI n) ch wo s0) jx))), (4, .int (nI jx))]) (pc' := 5) (fun xv9 hI ih_5 ls hl => ?_) 0 (Nat.zero_le _) ls (lv_sub hl [2, 3, 4, 1, 0] rfl)
  obtain ⟨jx, rfl⟩ : ∃ y, y = xv9 := ⟨_, rfl⟩
  have hI : jx ≤ cc := hI
  have hl : lv_has ls 5 [(0, .ref (b 0)), (1, .int s0), (2, .int wo), (3, .int (bI (allZ (chB (nI n) ch wo s0) jx))), (4, .int (nI jx))] := hl
  refine lv_iload hx hb dX8_keepsChoices_5 (lv_at hl 4 rfl) ?_
  refine lv_aload_n hx hb dX8_keepsChoices_7 rfl (lv_at hl 0 rfl) ?_
  refine va_get (D := G.1) (ci := 10) (v := .int (nI cc)) (C := RX8) (T := TX8) (N := 27) hx hb hts iX8_keepsChoices_X8 hown hK hP 0 rfl rfl 15 (by decide) (hts _ fX8_keepsChoices_1) (fun _ h9 => h9) rfl dX8_keepsChoices_8 ?_
  refine lv_icmp_ge (tgt := 55) hx hb dX8_keepsChoices_11 (by decide) (fun c_11 => ?_) (fun c_11 => ?_)
  · skip
    have hj : jx = cc := by have := (nI_leI (a := cc) (b := jx) (by omega) (by omega)).mp c_11; omega
    refine lv_iload_n hx hb dX8_keepsChoices_55 rfl (lv_at hl 3 rfl) ?_
    exact pret hx hb hr hlocks (bI_nar _) (by rw [hj]) dX8_keepsChoices_56
  · skip
    have hj : jx < cc := Nat.lt_of_not_le (fun z => c_11 ((nI_leI (a := cc) (b := jx) (by omega) (by omega)).mpr z))
    refine lv_iload_n hx hb dX8_keepsChoices_14 rfl (lv_at hl 3 rfl) ?_
    refine lv_if_eq (tgt := 55) hx hb dX8_keepsChoices_15 (by decide) (fun c_15 => ?_) (fun c_15 => ?_)
    · skip
      refine lv_iload_n hx hb dX8_keepsChoices_55 rfl (lv_at hl 3 rfl) ?_
      exact pret hx hb hr hlocks (bI_nar _) (by rw [bI_0.mp c_15, allZ_down (bI_0.mp c_15) cc (by omega)]) dX8_keepsChoices_56
    · skip
      have hall := bI_n0 c_15
      refine lv_iload_n hx hb dX8_keepsChoices_18 rfl (lv_at hl 2 rfl) ?_
      refine lv_iload hx hb dX8_keepsChoices_19 (lv_at hl 4 rfl) ?_
      refine lv_ishr hx hb dX8_keepsChoices_21 ?_
      refine lv_iconst (v := 1) hx hb dX8_keepsChoices_22 (by decide) ?_
      refine lv_iand hx hb dX8_keepsChoices_23 ?_
      refine lv_iconst (v := 1) hx hb dX8_keepsChoices_24 (by decide) ?_
      refine lv_icmp_eq (tgt := 43) hx hb dX8_keepsChoices_25 (by decide) (fun c_25 => ?_) (fun c_25 => ?_)
      · skip
        refine lv_iconst (v := 1) hx hb dX8_keepsChoices_43 (by decide) ?_
        refine lv_goto (tgt := 48) hx hb dX8_keepsChoices_44 (by decide) ?_
        refine stI (y := bI (allZ (chB (nI n) ch wo s0) (jx + 1))) (by show _ = bI (allZ (chB (nI n) ch wo s0) jx && chB (nI n) ch wo s0 jx); rw [hall]; unfold chB; rw [if_pos c_25]; rfl) ?_
        refine lv_istore_n (lv' := [(3, .int (bI (allZ (chB (nI n) ch wo s0) (jx + 1)))), (0, .ref (b 0)), (1, .int s0), (2, .int wo), (4, .int (nI jx))]) hx hb dX8_keepsChoices_48 rfl hl (by decide) rfl (fun ls hl => ?_)
        refine lv_iinc (v := nI (jx + 1)) (lv' := [(4, .int (nI (jx + 1))), (3, .int (bI (allZ (chB (nI n) ch wo s0) (jx + 1)))), (0, .ref (b 0)), (1, .int s0), (2, .int wo)]) hx hb dX8_keepsChoices_49 hl (k := 4) rfl (nI_1 jx) (by decide) rfl (fun ls hl => ?_)
        refine lv_goto (tgt := 5) hx hb dX8_keepsChoices_52 (by decide) ?_
        exact ih_5 (jx + 1) (hj) (by show cc - (jx + 1) < cc - jx; omega) ls (lv_sub hl [2, 3, 4, 1, 0] rfl)
      · skip
        refine lv_aload_n hx hb dX8_keepsChoices_28 rfl (lv_at hl 0 rfl) ?_
        refine lv_iload_n hx hb dX8_keepsChoices_29 rfl (lv_at hl 1 rfl) ?_
        refine lv_aload_n hx hb dX8_keepsChoices_30 rfl (lv_at hl 0 rfl) ?_
        refine va_get (D := G.1) (ci := 10) (v := .ref (b 14)) (C := RX8) (T := TX8) (N := 27) hx hb hts iX8_keepsChoices_X8 hown hK hP 0 rfl rfl 14 (by decide) (hts _ fX8_keepsChoices_2) (fun _ h9 => h9) rfl dX8_keepsChoices_31 ?_
        refine lv_iload hx hb dX8_keepsChoices_34 (lv_at hl 4 rfl) ?_
        refine aldI hx hb hK hP 1 (k := jx) rfl (rfl) (by omega) (by decide) dX8_keepsChoices_36 ?_
        refine cpV (ci := 10) (T0 := TX8) (N := 27) (As := [.int s0, .int (ch jx)]) (rest := []) ⟨hx, hb, hml, hown, hts⟩ (c_X8_holds l G b th n mf cc kn sc fc so la lq wq  s0 (ch jx) ) (cwV 2 hts gX8_keepsChoices_X8_holds rfl rfl rfl ⟨rfl, hd_X8_holds⟩ ⟨Nat.le_of_ble_eq_true rfl, Nat.le_of_ble_eq_true rfl⟩) hKK hP [0] rfl rfl rfl rfl hl.1 rfl (Nat.le_of_ble_eq_true rfl) dX8_keepsChoices_37 ⟨Nat.zero_le _, Nat.zero_le _⟩ ?_
        refine lv_if_eq (tgt := 47) hx hb dX8_keepsChoices_40 (by decide) (fun c_40 => ?_) (fun c_40 => ?_)
        · skip
          refine lv_iconst (v := 0) hx hb dX8_keepsChoices_47 (by decide) ?_
          refine stI (y := bI (allZ (chB (nI n) ch wo s0) (jx + 1))) (by show _ = bI (allZ (chB (nI n) ch wo s0) jx && chB (nI n) ch wo s0 jx); rw [hall]; unfold chB; rw [if_neg c_25, bI_0.mp c_40]; rfl) ?_
          refine lv_istore_n (lv' := [(3, .int (bI (allZ (chB (nI n) ch wo s0) (jx + 1)))), (0, .ref (b 0)), (1, .int s0), (2, .int wo), (4, .int (nI jx))]) hx hb dX8_keepsChoices_48 rfl hl (by decide) rfl (fun ls hl => ?_)
          refine lv_iinc (v := nI (jx + 1)) (lv' := [(4, .int (nI (jx + 1))), (3, .int (bI (allZ (chB (nI n) ch wo s0) (jx + 1)))), (0, .ref (b 0)), (1, .int s0), (2, .int wo)]) hx hb dX8_keepsChoices_49 hl (k := 4) rfl (nI_1 jx) (by decide) rfl (fun ls hl => ?_)
          refine lv_goto (tgt := 5) hx hb dX8_keepsChoices_52 (by decide) ?_
          exact ih_5 (jx + 1) (hj) (by show cc - (jx + 1) < cc - jx; omega) ls (lv_sub hl [2, 3, 4, 1, 0] rfl)
        · skip
          refine lv_iconst (v := 1) hx hb dX8_keepsChoices_43 (by decide) ?_
          refine lv_goto (tgt := 48) hx hb dX8_keepsChoices_44 (by decide) ?_
          refine stI (y := bI (allZ (chB (nI n) ch wo s0) (jx + 1))) (by show _ = bI (allZ (chB (nI n) ch wo s0) jx && chB (nI n) ch wo s0 jx); rw [hall]; unfold chB; rw [if_neg c_25, bI_n0 c_40]; rfl) ?_
          refine lv_istore_n (lv' := [(3, .int (bI (allZ (chB (nI n) ch wo s0) (jx + 1)))), (0, .ref (b 0)), (1, .int s0), (2, .int wo), (4, .int (nI jx))]) hx hb dX8_keepsChoices_48 rfl hl (by decide) rfl (fun ls hl => ?_)
          refine lv_iinc (v := nI (jx + 1)) (lv' := [(4, .int (nI (jx + 1))), (3, .int (bI (allZ (chB (nI n) ch wo s0) (jx + 1)))), (0, .ref (b 0)), (1, .int s0), (2, .int wo)]) hx hb dX8_keepsChoices_49 hl (k := 4) rfl (nI_1 jx) (by decide) rfl (fun ls hl => ?_)
          refine lv_goto (tgt := 5) hx hb dX8_keepsChoices_52 (by decide) ?_
          exact ih_5 (jx + 1) (hj) (by show cc - (jx + 1) < cc - jx; omega) ls (lv_sub hl [2, 3, 4, 1, 0] rfl)
