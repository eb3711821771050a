/-! the law's helper: what FeatureSolve.level answers goes into a row, 1 is the answer where it throws -/
theorem lvB_kind : lvB.all (fun w => match w with | .declares _ => true | .castable _ _ => true | _ => false) = true := by decide +kernel
theorem lvB_warm {s U : State} (hW : s.WarmedH U.vm) (h : ∀ w ∈ lvB, w.before #[] s = true) : ∀ w ∈ lvB, w.before #[] U = true := by
  intro w hw
  have h1 := List.all_eq_true.mp lvB_kind w hw
  have h2 := h w hw
  have h3 := List.all_eq_true.mp lvB_tab w hw
  have key : w.before #[] (s.setVm U.vm) = true := by
    cases w with
    | declares x => rw [Cond.declares_setVm hW.alike]; exact h2
    | castable x y => rw [Cond.castable_setVm hW.alike]; exact h2
    | _ => exact absurd h1 Bool.false_ne_true
  exact va_tabs h3 (rfl : (s.setVm U.vm).vm = U.vm) key
theorem PL_warm {G : GG} {ws : va_W} {s U : State} (hW : s.WarmedH U.vm) (hU : U.heap = s.heap) (h : PL G ws s) : PL G ws U := ⟨by rw [hU]; exact h.1, h.2.1.warm hW, lvB_warm hW h.2.2.1, by rw [hU]; exact vx_Zq.moved hW.alike h.2.2.2.1, by rw [hU]; exact vx_Zq.moved hW.alike h.2.2.2.2⟩
theorem PL_sub {G : GG} {ws wc : va_W} {is : List Nat} {U : State} (hC : is.map (fun i => ws[i]?) = wc.map some) (h : PL G ws U) : PL G wc U := ⟨h.1.pick hC, h.2⟩
abbrev cJr (cJ : ClassId) (o : Nat) (f : Nat → Int64) : Nat × va_E := (o, .inl (cJ, 1, .inr (.inl f)))
def wsLL : List Cond := wsL_level ++ lvG
theorem gLL_X7_level : GoodIn wsLL (wsV RL 7 RX7 yX7_level wsLv) := goodIn_app (goodIn_app1 (goodIn_of _ (by decide +kernel))) (goodIn_app (goodIn_app1 ggL_level_X7_level) (goodIn_sub (fun _ h => List.mem_append_right _ h) (by decide +kernel)))
theorem hd_X7_level : yX7_level.cls ≠ "java/lang/invoke/MethodHandle" ∧ yX7_level.cls ≠ "java/lang/invoke/VarHandle" ∧ (parseMethodDescriptor yX7_level.desc).map (fun d => d.parameters.length) = some 1 := by decide +kernel
theorem fLL_1 : Cond.classLink RL 13 RJx00060 ∈ wsLL := by decide +kernel
theorem fLL_2 : Cond.castable RJx00060 RJx00060 ∈ lvB := by decide +kernel
/-- the helper's start: the class's cells that level reads, a row of one long -/
def PLO (G : GG) (cJ : ClassId) (ws : va_W) (U : State) : Prop := PL G ws U ∧ va_D (fun _ => True) ws ∧ va_K G.1 vwCl [(cJ, .long)] U
theorem PLO_blind {G : GG} {cJ : ClassId} {ws : va_W} {av : List Value} : FrameBlind (va_Pc av (PLO G cJ ws)) := fun a U g mk q => ⟨q.1, (PL_blind (av := av) a U g mk ⟨q.1, q.2.1⟩).2, q.2.2.1, va_K.moved (u := U) (U := U.calling g mk a) (Vm.Alike.refl U.vm) q.2.2.2⟩
def lvPost (n : Nat) (dp : Nat → Int32) (i : Int32) (r : Int32) (u : Nat → Int64) : Prop := ((¬ i < 0 ∧ i < nI n) ∧ r = 0 ∧ u 0 = (dp (i.toNatClampNeg + 1)).toInt64) ∨ ((i < 0 ∨ ¬ i < nI n) ∧ r = 1)
set_option maxHeartbeats 4000000 in
set_option maxRecDepth 100000 in
theorem c_L_level (l : Launch) (hl0 : l.stackTraces = false) (G : GG) (cJ : ClassId) (a : Nat → Nat) (n : Nat) (bd : Int32) (dp : Nat → Int32) (i : Int32) (o : Nat) (f0 : Nat → Int64) (hn : n ≤ 14) : Met l yL_level wsLL (rmI 9 1 6) (va_Pc [.ref (a 0), .int i, .ref o] (PLO G cJ [(oX7 (a 0) (a 1) (a 2) (a 9) (a 15) (a 19) (a 21) (a 23)), (oX5 (a 2) (nI n) (a 3) (a 4) (a 5) (a 6) (a 7) (a 8) bd), (cI G (a 4) 15 dp), cJr cJ o f0])) (va_Qi (lvPost n dp i) (fun u U => va_P G.1 vwCl [cJr cJ o u] U.heap) (fun q => q = o)) 1 6 (fun q => q = o) := by
  refine va_MetW (cc := cL_level) (maxL := 4) (ret := some .int) (hh := [(0, 9, 12, 13)]) (by decide) rfl ?_
  intro p e s m args below meth c s₁ B hml hv
  obtain ⟨rfl, hPL, hD0, hKJ⟩ := hv
  have hx := B.exec
  have hb := B.bytes
  have hr := B.returns
  have hts := atoms_spec (ws := wsLL) B.pre
  have hown : s.vm.findClass RL = some m.cls := findClass_of_methodNamed B.named
  have hlocks := B.notSynchronized
  have hP := hPL.1
  have hKK := hPL.2.1
  have hT : c.exceptionTable.toList = tableOf [(0, 9, 12, 13)] := vx_table (x := yL_level) B (hts _ List.mem_cons_self)
  have hD : va_D (fun q => q = o) [cJr cJ o f0] := ⟨fun i j p q hi hj _ => by
    have h1 := (List.getElem?_eq_some_iff.mp hi).1
    have h2 := (List.getElem?_eq_some_iff.mp hj).1
    simp at h1 h2
    omega, fun k q hk => by
    have h1 : k < 1 := (List.getElem?_eq_some_iff.mp hk).1
    rw [show k = 0 by omega] at hk
    cases hk
    rfl⟩
  have hS : va_S (fun q => q = o) s.heap s.heap [] := va_S.rf
  have hl := lv_entry ([.ref (a 0), .int i, .ref o]) (n := 4) (Nat.le_of_ble_eq_true rfl)
  rw [lg_entry_eq]
  generalize (lg_sl ([.ref (a 0), .int i, .ref o]) ++ List.replicate (4 - (lg_sl ([.ref (a 0), .int i, .ref o])).length) Slot.unset).toArray = ls at hl ⊢
  have hl : lv_has ls 4 [(0, .ref (a 0)), (1, .int i), (2, .ref o)] := hl
  refine lv_aload_n hx hb dL_level_0 rfl (lv_at hl 2 rfl) ?_
  refine lv_iconst (v := 0) hx hb dL_level_1 (by decide) ?_
  refine lv_aload_n hx hb dL_level_2 rfl (lv_at hl 0 rfl) ?_
  refine lv_iload_n hx hb dL_level_3 rfl (lv_at hl 1 rfl) ?_
  have hC : ([0, 1, 2] : List Nat).map (fun i => ([(oX7 (a 0) (a 1) (a 2) (a 9) (a 15) (a 19) (a 21) (a 23)), (oX5 (a 2) (nI n) (a 3) (a 4) (a 5) (a 6) (a 7) (a 8) bd), (cI G (a 4) 15 dp), cJr cJ o f0] : va_W)[i]?) = ([(oX7 (a 0) (a 1) (a 2) (a 9) (a 15) (a 19) (a 21) (a 23)), (oX5 (a 2) (nI n) (a 3) (a 4) (a 5) (a 6) (a 7) (a 8) bd), (cI G (a 4) 15 dp)] : va_W).map some := rfl
  have hPc := PL_sub hC hPL
  have hO : va_P G.1 vwCl [cJr cJ o f0] s.heap := hP.pick (is := [3]) rfl
  refine vx_calli (A0 := fun q => q = o) (vx_runV (As := [.int i]) (rest := [.int 0, .ref o]) ⟨hx, hb, hml, hown, hts⟩ (c_X7_level l hl0 G a n bd dp i hn) (cwV 1 hts gLL_X7_level rfl rfl rfl ⟨rfl, hd_X7_level⟩ ⟨Nat.le_of_ble_eq_true rfl, Nat.le_of_ble_eq_true rfl⟩) ⟨PL_blind, va_recv (ci := 9) (q0 := 0) hKK.1 hPc.1 (show vwCl[9]? = some (RX7, TX7, 7) from rfl) rfl, fun U hU hW => ⟨rfl, PL_warm hW hU hPc⟩⟩ rfl rfl hl.1 rfl (lv_room (Nat.le_of_ble_eq_true rfl)) dL_level_4 ⟨Nat.le_of_ble_eq_true rfl, Nat.le_of_ble_eq_true rfl⟩) hS (fun _ _ h => h.elim) (fun _ h => h.elim) (fun _ _ h => h.elim) ?_ ?_
  · intro E ce q9 _ t H1 locs1 ht hvm hbad hE hz hk hS1 hce hcv hcl
    have hE' : E = RJx00060 := hE
    subst hE'
    refine vx_catch (own := RL) (name := RJx00060) (E := RJx00060) hown [] ⟨0, 9, 12, 13⟩ [] hT (fun z h => nomatch h) (by decide) (by decide) (hts _ fLL_1) (lvB_at (s := s) (U := s) rfl hPL.2.2.1 _ fLL_2) hce hcv hcl ?_
    refine lv_astore_n (lv' := [(3, .ref q9), (0, .ref (a 0)), (1, .int i), (2, .ref o)]) hx hb dL_level_12 rfl hl (by decide) rfl (fun ls hl => ?_)
    refine lv_iconst (v := 1) hx hb dL_level_13 (by decide) ?_
    have hO1 : va_P G.1 vwCl [cJr cJ o f0] H1 := hO.kept (fun k x hx => hk _ (hO k x hx).lt (fun h => h))
    exact W.iret (v := 1) hx hb hr (fun t ht hW => ⟨⟨1, f0, rfl, Or.inr ⟨hbad, rfl⟩, by show va_P _ _ _ t.heap; rw [ht]; exact hO1⟩, hS1.F ht⟩) hS1.2.2 dL_level_14
  · intro r u t H1 locs1 ht hvm hp hB hz hk hS1
    have hO1 : va_P G.1 vwCl [cJr cJ o f0] H1 := hO.kept (fun k x hx => hk _ (hO k x hx).lt (fun h => h))
    refine lv_i2l (v := r.toInt64) hx hb dL_level_7 rfl ?_
    refine va_last hx hb hKJ hO1 hD hS1 0 0 rfl rfl (in_of (n := 1) (by decide) (by decide) (by decide)) dL_level_8 (fun H2 locs2 hP2 hD2 hS2 => ?_)
    refine lv_goto (tgt := 15) hx hb dL_level_9 (by decide) ?_
    refine lv_iconst (v := 0) hx hb dL_level_15 (by decide) ?_
    exact W.iret (v := 0) hx hb hr (fun t ht hW => ⟨⟨0, vp_updL f0 (Int32.toNatClampNeg 0) r.toInt64, rfl, Or.inl ⟨hp.1, rfl, by rw [← hp.2]; rfl⟩, by show va_P _ _ _ t.heap; rw [ht]; exact hP2⟩, hS2.F ht⟩) hS2.2.2 dL_level_16
