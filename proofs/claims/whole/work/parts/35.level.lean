/-! FeatureSolve.level: an answer, or an exception of its own -/
def nmsE : List String := ["java/lang/IndexOutOfBoundsException", "java/lang/RuntimeException", "java/lang/Exception"]
def lvG : List Cond := (vx_at0 RX7 164 RJx00060 nmsE).filter goodWord
def lvB : List Cond := (vx_at0 RX7 164 RJx00060 nmsE).filter (fun w => !goodWord w)
def wsLv : List Cond := wsX7_level ++ lvG
theorem lvB_tab : lvB.all (fun w => w.onTables) = true := by decide +kernel
theorem lv_good : ∀ w ∈ Cond.classLink RX7 162 RJx00060 :: Cond.initialized RJx00060 :: vx_at0 RX7 164 RJx00060 nmsE, vx_ot w = true := by decide +kernel
theorem goodIn_app1 {b1 b2 ws : List Cond} (h : GoodIn b1 ws) : GoodIn (b1 ++ b2) ws := fun w hw => ⟨List.mem_append_left _ (h w hw).1, (h w hw).2⟩
/-- the start of a method that may throw: a world, the tables, what Throwable's constructor asks -/
def PL (G : GG) (ws : va_W) (U : State) : Prop := va_P G.1 vwCl ws U.heap ∧ KK G U ∧ (∀ w ∈ lvB, w.before #[] U = true) ∧ vx_Zq Bundle.tN "UNASSIGNED_STACK" Bundle.steD (fun _ => False) U U.heap ∧ vx_Zq Bundle.tN "SUPPRESSED_SENTINEL" Bundle.listD (fun _ => False) U U.heap
theorem lvB_at {s U : State} {a' : Array Value} (hvm : s.vm = U.vm) {args : Array Value} (h : ∀ w ∈ lvB, w.before args s = true) : ∀ w ∈ lvB, w.before a' U = true := fun w hw => va_tabs (List.all_eq_true.mp lvB_tab w hw) hvm (h w hw)
theorem PL_blind {G : GG} {ws : va_W} {av : List Value} : FrameBlind (va_Pc av (PL G ws)) := fun a U g mk q => ⟨q.1, q.2.1, q.2.2.1.calling, lvB_at (s := U) (U := U.calling g mk a) (args := #[]) rfl q.2.2.2.1, vx_Zq.moved (u := U) (U := U.calling g mk a) (Vm.Alike.refl U.vm) q.2.2.2.2.1, vx_Zq.moved (u := U) (U := U.calling g mk a) (Vm.Alike.refl U.vm) q.2.2.2.2.2⟩
abbrev QlV (v : Int32) (ok : Prop) : Array Value → State → Outcome → State → Prop := va_Qi (fun r (_ : Unit) => ok ∧ r = v) (fun _ _ => True) (fun _ => False)
abbrev XlV (bad : Prop) : String → State → State → Prop := vx_X (fun (_ : Unit) => bad) (fun E _ _ => E = RJx00060) (fun _ => False)
theorem fX7_level_0 : Cond.classLink RX7 162 RJx00060 ∈ wsLv := by decide +kernel
theorem fX7_level_1 : Cond.initialized RJx00060 ∈ wsLv := by decide +kernel
theorem iX7_level_X7 : ∀ w ∈ u_ws RX7 TX7 7, w ∈ wsLv := by decide +kernel
theorem fX7_level_3 : Cond.fieldLink RX7 20 "FeatureSolve" "tree" "LFeatureSolve$Tree;" ∈ wsLv := by decide +kernel
theorem iX7_level_X5 : ∀ w ∈ u_ws RX5 TX5 8, w ∈ wsLv := by decide +kernel
theorem fX7_level_5 : Cond.fieldLink RX7 58 "FeatureSolve$Tree" "size" "I" ∈ wsLv := by decide +kernel
theorem hd_X5_above : yX5_above.cls ≠ "java/lang/invoke/MethodHandle" ∧ yX5_above.cls ≠ "java/lang/invoke/VarHandle" ∧ (parseMethodDescriptor yX5_above.desc).map (fun d => d.parameters.length) = some 1 := by decide +kernel
set_option maxHeartbeats 4000000 in
set_option maxRecDepth 100000 in
/-- level(i) -/
theorem c_X7_level (l : Launch) (hl0 : l.stackTraces = false) (G : GG) (a : Nat → Nat) (n : Nat) (bd : Int32) (dp : Nat → Int32) (i : Int32) (hn : n ≤ 14) : vx_Met l yX7_level wsLv (rmI 7 1 6) (va_Pc [.ref (a 0), .int i] (PL G [(oX7 (a 0) (a 1) (a 2) (a 9) (a 15) (a 19) (a 21) (a 23)), (oX5 (a 2) (nI n) (a 3) (a 4) (a 5) (a 6) (a 7) (a 8) bd), (cI G (a 4) 15 dp)])) (QlV (dp (i.toNatClampNeg + 1)) (¬ i < 0 ∧ i < nI n)) (XlV (i < 0 ∨ ¬ i < nI n)) 1 6 (fun _ => False) := by
  refine vx_ofW (cc := cX7_level) (maxL := 2) (ret := some .int) (by decide) rfl ?_
  intro p e s m args below meth c s₁ B hml hT hv
  obtain ⟨rfl, hP, hKK, hBl, hU, hN⟩ := hv
  have hx := B.exec
  have hb := B.bytes
  have hr := B.returns
  have hts := atoms_spec (ws := wsLv) B.pre
  have hown : s.vm.findClass RX7 = some m.cls := findClass_of_methodNamed B.named
  have hlocks := B.notSynchronized
  have hK := hKK.1
  have hl := lv_entry ([.ref (a 0), .int i]) (n := 2) (Nat.le_of_ble_eq_true rfl)
  rw [lg_entry_eq]
  generalize (lg_sl ([.ref (a 0), .int i]) ++ List.replicate (2 - (lg_sl ([.ref (a 0), .int i])).length) Slot.unset).toArray = ls at hl ⊢
  have hl : lv_has ls 2 [(0, .ref (a 0)), (1, .int i)] := hl
  have hat : ∀ w ∈ vx_at0 RX7 164 RJx00060 nmsE, w.before #[Value.ref (a 0), Value.int i] s = true := vx_hat (fun w hw => hts w (List.mem_append_right _ hw)) (fun w hw => hw) (lvB_at rfl hBl)
  refine lv_iload_n hx hb dX7_level_0 rfl (lv_at hl 1 rfl) ?_
  refine lv_if_lt (tgt := 15) hx hb dX7_level_1 (by decide) (fun c_1 => ?_) (fun c_1 => ?_)
  · skip
    exact vx_throw0 (names := nmsE) (ik := 162) (ic := 164) hx hb hl0 hown (by decide +kernel) (by decide +kernel) (hts _ fX7_level_0) (hts _ fX7_level_1) hat lv_good hU hN va_S.rf (hl.1.trans hml.symm) dX7_level_15 dX7_level_18 dX7_level_19 dX7_level_22 (fun x h => (hT x h).elim) (Nat.le_of_ble_eq_true rfl) (Nat.le_of_ble_eq_true rfl) (Nat.le_of_ble_eq_true rfl) (Nat.le_of_ble_eq_true rfl) hlocks (fun t _ hz hk => ⟨(), Or.inl c_1, rfl, hz, fun q h _ => hk q h⟩) (fun _ h => nomatch h) (Nat.le_of_ble_eq_true rfl) (Nat.le_of_ble_eq_true rfl)
  · skip
    refine lv_iload_n hx hb dX7_level_4 rfl (lv_at hl 1 rfl) ?_
    refine lv_aload_n hx hb dX7_level_5 rfl (lv_at hl 0 rfl) ?_
    refine va_get (D := G.1) (ci := 9) (v := .ref (a 2)) (C := RX7) (T := TX7) (N := 7) hx hb hts iX7_level_X7 hown hK hP 0 rfl rfl 1 (by decide) (hts _ fX7_level_3) (fun _ h9 => h9) rfl dX7_level_6 ?_
    refine va_get (D := G.1) (ci := 7) (v := .int (nI n)) (C := RX5) (T := TX5) (N := 8) hx hb hts iX7_level_X5 hown hK hP 1 rfl rfl 0 (by decide) (hts _ fX7_level_5) (fun _ h9 => h9) rfl dX7_level_9 ?_
    refine lv_icmp_lt (tgt := 23) hx hb dX7_level_12 (by decide) (fun c_12 => ?_) (fun c_12 => ?_)
    · skip
      have hix := nat_lt (w := n) (by omega) c_1 (i_nle.mpr c_12)
      refine lv_aload_n hx hb dX7_level_23 rfl (lv_at hl 0 rfl) ?_
      refine va_get (D := G.1) (ci := 9) (v := .ref (a 2)) (C := RX7) (T := TX7) (N := 7) hx hb hts iX7_level_X7 hown hK hP 0 rfl rfl 1 (by decide) (hts _ fX7_level_3) (fun _ h9 => h9) rfl dX7_level_24 ?_
      refine lv_iload_n hx hb dX7_level_27 rfl (lv_at hl 1 rfl) ?_
      refine lv_iconst (v := 1) hx hb dX7_level_28 (by decide) ?_
      refine lv_iadd hx hb dX7_level_29 ?_
      refine stI (y := nI (i.toNatClampNeg + 1)) (by rw [← nI_1, ← hix.1]) ?_
      refine cpV (ci := 7) (T0 := TX5) (N := 8) (As := [.int (nI (i.toNatClampNeg + 1))]) (rest := []) ⟨hx, hb, hml, hown, hts⟩ (c_X5_above l G (a 2) (nI n) (a 3) (a 4) (a 5) (a 6) (a 7) (a 8) bd dp (i.toNatClampNeg + 1) (by omega)) (cwV 1 hts (goodIn_app1 gX7_level_X5_above) rfl rfl rfl ⟨rfl, hd_X5_above⟩ ⟨Nat.le_of_ble_eq_true rfl, Nat.le_of_ble_eq_true rfl⟩) hKK hP [1, 2] rfl rfl rfl rfl hl.1 rfl (Nat.le_of_ble_eq_true rfl) dX7_level_30 ⟨Nat.zero_le _, Nat.zero_le _⟩ ?_
      exact vx_ret (W.widen (k := 1) (n := 6) (Nat.zero_le _) (Nat.zero_le _) (W.iret (v := dp (i.toNatClampNeg + 1)) hx hb hr (fun t ht hW => ⟨⟨_, (), rfl, ⟨⟨c_1, c_12⟩, rfl⟩, trivial⟩, va_S.rf.F ht⟩) (fun _ h => nomatch h) dX7_level_33))
    · skip
      exact vx_throw0 (names := nmsE) (ik := 162) (ic := 164) hx hb hl0 hown (by decide +kernel) (by decide +kernel) (hts _ fX7_level_0) (hts _ fX7_level_1) hat lv_good hU hN va_S.rf (hl.1.trans hml.symm) dX7_level_15 dX7_level_18 dX7_level_19 dX7_level_22 (fun x h => (hT x h).elim) (Nat.le_of_ble_eq_true rfl) (Nat.le_of_ble_eq_true rfl) (Nat.le_of_ble_eq_true rfl) (Nat.le_of_ble_eq_true rfl) hlocks (fun t _ hz hk => ⟨(), Or.inr c_12, rfl, hz, fun q h _ => hk q h⟩) (fun _ h => nomatch h) (Nat.le_of_ble_eq_true rfl) (Nat.le_of_ble_eq_true rfl)
