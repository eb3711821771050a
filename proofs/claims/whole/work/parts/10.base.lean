/-! what every contract here says of the tables: the classes, the two array classes, the private members of nest mates -/
def nestL : List (String × Nat × MethodName) := [(RX7, 9, yX6_init), (RX6, 11, yX5_init), (RX6, 20, yX1_init), (RX6, 27, yX4_init), (RX7, 33, yX0_init), (RX7, 40, yX2_init), (RX7, 47, yX3_init), (RX5, 38, yX7_put), (RX5, 42, yX7_at), (RX5, 46, yX7_bit), (RX1, 39, yX7_bit), (RX1, 31, yX7_put), (RX4, 18, yX7_put), (RX0, 15, yX7_at), (RX0, 27, yX7_put), (RX0, 34, yX7_bit), (RX6, 55, yX7_put), (RX6, 47, yX7_at), (RX6, 74, yX7_bit), (RX1, 42, yX7_at), (RX4, 22, yX7_at), (RX4, 26, yX7_bit), (RX3, 19, yX7_put), (RX2, 22, yX7_put), (RX3, 23, yX7_at), (RX2, 26, yX7_at)]
def KN (U : State) : Prop := ∀ q ∈ nestL, va_Nw (.methodLinkNest q.1 q.2.1 q.2.2 RX7) U
theorem KN.nth {U : State} (h : KN U) (i : Nat) {q : String × Nat × MethodName} (hq : nestL[i]? = some q) : va_Nw (.methodLinkNest q.1 q.2.1 q.2.2 RX7) U := h q (List.mem_of_getElem? hq)
abbrev GG : Type := va_G × ClassId × ClassId
def KK (G : GG) (U : State) : Prop := va_K G.1 vwCl [(G.2.1, .int), (G.2.2, .boolean)] U ∧ KN U
theorem KK.warm {G : GG} {s U : State} (hW : s.WarmedH U.vm) (h : KK G s) : KK G U := ⟨va_K.moved hW.alike h.1, fun q hq => va_Nw.warmM hW (h.2 q hq)⟩
theorem KK.calling {G : GG} {U : State} {g : JFrame} {mk : MethodId} {a : Array Value} (h : KK G U) : KK G (U.calling g mk a) := ⟨va_K.moved (u := U) (U := U.calling g mk a) (Vm.Alike.refl U.vm) h.1, fun q hq => va_Nw.same rfl rfl (h.2 q hq)⟩
/-- a reader's start -/
def PS (G : GG) (ws : va_W) (U : State) : Prop := va_P G.1 vwCl ws U.heap ∧ KK G U
theorem PS_blind {G : GG} {ws : va_W} {av : List Value} : FrameBlind (va_Pc av (PS G ws)) := fun a U g mk q => ⟨q.1, q.2.1, q.2.2.calling⟩
/-- a writer's start -/
def PM (G : GG) (ws : va_W) (U : State) : Prop := va_P G.1 vwCl ws U.heap ∧ va_D (fun _ => True) ws ∧ KK G U
theorem PM_blind {G : GG} {ws : va_W} {av : List Value} : FrameBlind (va_Pc av (PM G ws)) := fun a U g mk q => ⟨q.1, q.2.1, q.2.2.1, q.2.2.2.calling⟩
abbrev rmK (k : Nat) : Room := { frames := k, cells := 0, slots := 0, locals := 40 * k }
def adr (wc : va_W) : Nat → Prop := fun q => ∃ e ∈ wc, e.1 = q
/-- a writer's end: its cells hold what 'w1' says, nothing else has changed -/
def QG {S : Type} (G : GG) (wc : va_W) (post : S → Prop) (ov : S → Option Value) (w1 : S → va_W) : Array Value → State → Outcome → State → Prop := fun _ st o t => ∃ u : S, o = .returned (ov u) ∧ post u ∧ va_P G.1 vwCl (w1 u) t.heap ∧ st.heap.size ≤ t.heap.size ∧ ∀ q : Nat, q < st.heap.size → ¬ adr wc q → t.heap[q]? = st.heap[q]?
def PD (G : GG) (A : Nat → Prop) (ws : va_W) (H : Heap) : Prop := va_P G.1 vwCl ws H ∧ va_D A ws
def sets (ws : va_W) (is : List Nat) (es : va_W) : va_W := (is.zip es).foldl (fun w q => w.set q.1 q.2) ws
theorem sets_get : ∀ (is : List Nat) (es ws : va_W), is.length = es.length → va_nd is = true → (∀ i ∈ is, i < ws.length) → ∀ (k : Nat) (q : Nat × va_E), (sets ws is es)[k]? = some q → (∃ j : Nat, is[j]? = some k ∧ es[j]? = some q) ∨ (k ∉ is ∧ ws[k]? = some q)
  | [], es, ws, _, _, _, k, q, h => Or.inr ⟨List.not_mem_nil, by simpa [sets] using h⟩
  | i :: is, [], ws, hl, _, _, k, q, h => by simp at hl
  | i :: is, e :: es, ws, hl, hn, hi, k, q, h => by
    simp only [va_nd, Bool.and_eq_true, decide_eq_true_eq] at hn
    have h1 : (sets (ws.set i e) is es)[k]? = some q := by simpa [sets] using h
    rcases sets_get is es (ws.set i e) (by simpa using hl) hn.2 (fun j hj => by rw [List.length_set]; exact hi j (List.mem_cons_of_mem _ hj)) k q h1 with ⟨j, a, b⟩ | ⟨a, b⟩
    · exact Or.inl ⟨j + 1, by simpa using a, by simpa using b⟩
    · have hlt := hi i List.mem_cons_self
      by_cases hk : k = i
      · subst hk
        rw [List.getElem?_set_self hlt] at b
        exact Or.inl ⟨0, rfl, by simpa using b⟩
      · rw [List.getElem?_set_ne (Ne.symm hk)] at b
        exact Or.inr ⟨fun z => (List.mem_cons.mp z).elim hk a, b⟩
theorem map_some {ws wc : va_W} {is : List Nat} (h : is.map (fun i => ws[i]?) = wc.map some) : ∀ (k : Nat) (q : Nat × va_E), wc[k]? = some q → ∃ i, is[k]? = some i ∧ ws[i]? = some q := by
  intro k q hq
  have h1 : (is.map (fun i => ws[i]?))[k]? = some (some q) := by rw [h, List.getElem?_map, hq]; rfl
  rw [List.getElem?_map] at h1
  cases hi : is[k]? with
  | none => rw [hi] at h1; cases h1
  | some i => rw [hi] at h1; exact ⟨i, rfl, Option.some.inj h1⟩
theorem map_some' {ws wc : va_W} {is : List Nat} (h : is.map (fun i => ws[i]?) = wc.map some) : ∀ (k i : Nat), is[k]? = some i → ∃ q, wc[k]? = some q ∧ ws[i]? = some q := by
  intro k i hi
  have h1 : (wc.map some)[k]? = some (ws[i]?) := by rw [← h, List.getElem?_map, hi]; rfl
  rw [List.getElem?_map] at h1
  cases hq : wc[k]? with
  | none => rw [hq] at h1; cases h1
  | some q => rw [hq] at h1; exact ⟨q, rfl, (Option.some.inj h1).symm⟩
theorem va_P.pick {D : va_G} {cl : List vw_C} {ws wc : va_W} {H : Heap} (h : va_P D cl ws H) {is : List Nat} (hC : is.map (fun i => ws[i]?) = wc.map some) : va_P D cl wc H := fun k q hk => by
  obtain ⟨i, -, hi⟩ := map_some hC k q hk
  exact h i q hi
theorem va_D.same {A : Nat → Prop} {ws ws' : va_W} (hD : va_D A ws) (h : ws'.map (·.1) = ws.map (·.1)) : va_D A ws' := by
  have key : ∀ (k : Nat) (q : Nat × va_E), ws'[k]? = some q → ∃ q0, ws[k]? = some q0 ∧ q0.1 = q.1 := by
    intro k q hk
    have h1 : (ws.map (·.1))[k]? = some q.1 := by rw [← h, List.getElem?_map, hk]; rfl
    rw [List.getElem?_map] at h1
    cases hq : ws[k]? with
    | none => rw [hq] at h1; cases h1
    | some q0 => rw [hq] at h1; exact ⟨q0, rfl, Option.some.inj h1⟩
  refine ⟨fun i j x y hi hj hxy => ?_, fun k q hk => ?_⟩
  · obtain ⟨x0, h1, h2⟩ := key i x hi
    obtain ⟨y0, h3, h4⟩ := key j y hj
    exact hD.1 i j x0 y0 h1 h3 (h2.trans (hxy.trans h4.symm))
  · obtain ⟨q0, h1, h2⟩ := key k q hk
    rw [← h2]
    exact hD.2 k q0 h1
theorem va_D.own {ws : va_W} {A : Nat → Prop} (h : va_D A ws) : va_D (adr ws) ws := ⟨h.1, fun k q hk => ⟨q, List.mem_of_getElem? hk, rfl⟩⟩
theorem adr_in {A : Nat → Prop} {ws wc : va_W} (hD : va_D A ws) {is : List Nat} (hC : is.map (fun i => ws[i]?) = wc.map some) : ∀ q, adr wc q → A q := by
  rintro q ⟨e, he, rfl⟩
  obtain ⟨k, hk⟩ := List.getElem?_of_mem he
  obtain ⟨i, -, hi⟩ := map_some hC k e hk
  exact hD.2 i e hi
/-- behind a writer's call: its cells are new at their places, the others as they were -/
theorem world_back {A : Nat → Prop} {D : va_G} {cl : List vw_C} {ws wc w1 : va_W} {H H1 : Heap} (hP : va_P D cl ws H) (hD : va_D A ws) {is : List Nat} (hC : is.map (fun i => ws[i]?) = wc.map some) (hn : va_nd is = true) (ha : w1.map (·.1) = wc.map (·.1))
    (hk : ∀ q : Nat, q < H.size → ¬ adr wc q → H1[q]? = H[q]?) (hP1 : va_P D cl w1 H1) : va_P D cl (sets ws is w1) H1 := by
  have hlen : is.length = w1.length := by
    have h1 := congrArg List.length hC
    have h2 := congrArg List.length ha
    simp at h1 h2
    omega
  intro k q hq
  rcases sets_get is w1 ws hlen hn (fun i hi => by
    obtain ⟨j, hj⟩ := List.getElem?_of_mem hi
    obtain ⟨q, -, h⟩ := map_some' hC j i hj
    exact (List.getElem?_eq_some_iff.mp h).1) k q hq with ⟨j, a, b⟩ | ⟨a, b⟩
  · exact hP1 j q b
  · refine (hP k q b).kept (hk q.1 (hP k q b).lt ?_)
    rintro ⟨e, he, heq⟩
    obtain ⟨j, hj⟩ := List.getElem?_of_mem he
    obtain ⟨i, h1, h2⟩ := map_some hC j e hj
    have := hD.1 i k e q h2 b heq
    subst this
    exact a (List.mem_of_getElem? h1)
section CG
variable {p : Program} {l : Launch} {e : Env} {R : Room} {s : State} {m : MethodId} {args : Array Value} {below : List Frame} {meth : Method} {c : Code} {H : Heap} {locs : List Loc} {cells slots : Nat} {Q : State → Prop}
variable {Ts w : List Cond} {cc bytes : ByteArray} {nL maxL index n k : Nat} {own C host : String} {y : MethodName} {ret : Option FieldType} {b : Addr} {As rest st : List Value} {pc : Nat} {ls : Array Slot} {G : GG} {wc ws : va_W} {r : Int32} {A : Nat → Prop} {H0 : Heap} {a : Array Value} {ci N : Nat} {T0 : u_T} {fs : List Value}
theorem cpV (S : CallFix p m c cc nL s args Ts own) (hM : Met l y w (rmK k) (va_Pc (.ref b :: As) (PS G wc)) (QcRead r) 0 0 (fun _ => False)) (cw : CallW R s args own C index y bytes maxL ret w (rmK k) 0 0 n) (hK : KK G s) (hP : va_P G.1 vwCl ws H) (is : List Nat) (hC : is.map (fun i => ws[i]?) = wc.map some) (hc : vwCl[ci]? = some (C, T0, N)) (he : wc[0]? = some (b, .inr (ci, fs)))
    (hn : As.length = n) (hsize : ls.size = nL) (hst : st = As.reverse ++ .ref b :: rest) (hW : (rest.map fun v => v.category).sum ≤ 8) (hdg : decode cc pc = .ok (.invokevirtual index, 3)) (hf : cells ≤ R.cells ∧ slots ≤ R.slots)
    (kk : W p l e R s m args below meth c H locs cells slots Q (F0 m (pc + 3) ls (.int r :: rest))) : W p l e R s m args below meth c H locs cells slots Q (F0 m pc ls st) := by
  subst hst
  have hPc := hP.pick hC
  exact W.callR (W.runV S hM cw ⟨PS_blind, va_recv hK.1 hPc hc he, fun U hU hW => ⟨rfl, by rw [hU]; exact hPc, hK.warm hW⟩⟩ rfl hn hsize rfl (lv_room hW) hdg hf) kk
theorem cpS (S : CallFix p m c cc nL s args Ts own) (hM : Met l y w (rmK k) (va_Pc As (PS G wc)) (QcRead r) 0 0 (fun _ => False)) (cw : CallB R s args own index y bytes maxL ret w (rmK k) 0 0 n ∧ (Cond.static y).before args s = true) (hK : KK G s) (hP : va_P G.1 vwCl ws H) (is : List Nat) (hC : is.map (fun i => ws[i]?) = wc.map some)
    (hn : As.length = n) (hsize : ls.size = nL) (hst : st = As.reverse ++ rest) (hW : (rest.map fun v => v.category).sum ≤ 8) (hdg : decode cc pc = .ok (.invokestatic index, 3)) (hf : cells ≤ R.cells ∧ slots ≤ R.slots)
    (kk : W p l e R s m args below meth c H locs cells slots Q (F0 m (pc + 3) ls (.int r :: rest))) : W p l e R s m args below meth c H locs cells slots Q (F0 m pc ls st) := by
  subst hst
  have hPc := hP.pick hC
  exact W.callR (W.runS S hM cw ⟨PS_blind, fun U hU hW => ⟨rfl, by rw [hU]; exact hPc, hK.warm hW⟩⟩ rfl hn hsize rfl (lv_room hW) hdg hf) kk
theorem cpN (S : CallFix p m c cc nL s args Ts own) (hM : Met l y w (rmK k) (va_Pc As (PS G wc)) (QcRead r) 0 0 (fun _ => False)) (cw : va_CN R s args own index y host bytes maxL ret w (rmK k) 0 0 n ∧ (Cond.static y).before args s = true ∧ True) (hK : KK G s) (hP : va_P G.1 vwCl ws H) (is : List Nat) (hC : is.map (fun i => ws[i]?) = wc.map some)
    (hn : As.length = n) (hsize : ls.size = nL) (hst : st = As.reverse ++ rest) (hW : (rest.map fun v => v.category).sum ≤ 8) (hdg : decode cc pc = .ok (.invokestatic index, 3)) (hf : cells ≤ R.cells ∧ slots ≤ R.slots)
    (kk : W p l e R s m args below meth c H locs cells slots Q (F0 m (pc + 3) ls (.int r :: rest))) : W p l e R s m args below meth c H locs cells slots Q (F0 m pc ls st) := by
  subst hst
  have hPc := hP.pick hC
  exact W.callR (va_Run.run (va_runSN S hM cw ⟨PS_blind, fun U hU hW => ⟨rfl, by rw [hU]; exact hPc, hK.warm hW⟩⟩ rfl hn hsize rfl (lv_room hW) hdg hf)) kk
variable {S0 : Type} {post : S0 → Prop} {ov : S0 → Option Value} {w1 : S0 → va_W}
theorem cgR (hr : CallRun p l e R s m args below meth c H locs cells slots 0 0 (F0 m pc ls st) rest (QG G wc post ov w1 a) (adr wc)) (hP : va_P G.1 vwCl ws H) (hD : va_D A ws) (hS : va_S A H0 H locs) {is : List Nat} (hC : is.map (fun i => ws[i]?) = wc.map some) (hnd : va_nd is = true) (ha : ∀ u, (w1 u).map (·.1) = wc.map (·.1)) (hs : ∀ u, (sets ws is (w1 u)).map (·.1) = ws.map (·.1))
    (kk : ∀ (u : S0) (H1 : Heap) (locs1 : List Loc), post u → va_P G.1 vwCl (sets ws is (w1 u)) H1 → va_D A (sets ws is (w1 u)) → va_S A H0 H1 locs1 → W p l e R s m args below meth c H1 locs1 cells slots Q (F0 m (pc + 3) ls ((ov u).toList ++ rest))) : W p l e R s m args below meth c H locs cells slots Q (F0 m pc ls st) := by
  intro T hT X
  obtain ⟨v, st₀, t, T', L, h0, X', hL, e1, ⟨u, hv, hp, hP1, hz, hk⟩, stp⟩ := hr T hT X
  cases hv
  rw [h0] at hz hk
  have hA := adr_in hD hC
  have hPn := world_back (H1 := T'.heap) hP hD hC hnd (ha u) (fun q h1 h2 => by rw [e1]; exact hk q h1 h2) (by rw [e1]; exact hP1)
  have hS1 : va_S A H0 T'.heap (locs ++ L) := ⟨Nat.le_trans hS.1 (by rw [e1]; exact hz), fun q h1 h2 => by rw [e1, hk q (Nat.lt_of_lt_of_le h1 hS.1) (fun z => h2 (hA q z))]; exact hS.2.1 q h1 h2, fun q hq => by
    rcases List.mem_append.mp hq with h | h
    · exact hS.2.2 q h
    · exact hA _ (hL q h)⟩
  obtain ⟨t2, a1, b1⟩ := kk u T'.heap (locs ++ L) hp hPn (hD.same (hs u)) hS1 T' rfl X'
  exact ⟨t2, stp t2 a1, b1⟩
theorem cgV (S : CallFix p m c cc nL s args Ts own) (hM : Met l y w (rmK k) (va_Pc (.ref b :: As) (PM G wc)) (QG G wc post ov w1) 0 0 (adr wc)) (cw : CallW R s args own C index y bytes maxL ret w (rmK k) 0 0 n) (hK : KK G s) (hP : va_P G.1 vwCl ws H) (hD : va_D A ws) (hS : va_S A H0 H locs) (is : List Nat) (hC : is.map (fun i => ws[i]?) = wc.map some) (hnd : va_nd is = true) (hc : vwCl[ci]? = some (C, T0, N)) (he : wc[0]? = some (b, .inr (ci, fs)))
    (hn : As.length = n) (hsize : ls.size = nL) (hst : st = As.reverse ++ .ref b :: rest) (hW : (rest.map fun v => v.category).sum ≤ 8) (hdg : decode cc pc = .ok (.invokevirtual index, 3)) (hf : cells ≤ R.cells ∧ slots ≤ R.slots) (ha : ∀ u, (w1 u).map (·.1) = wc.map (·.1)) (hs : ∀ u, (sets ws is (w1 u)).map (·.1) = ws.map (·.1))
    (kk : ∀ (u : S0) (H1 : Heap) (locs1 : List Loc), post u → va_P G.1 vwCl (sets ws is (w1 u)) H1 → va_D A (sets ws is (w1 u)) → va_S A H0 H1 locs1 → W p l e R s m args below meth c H1 locs1 cells slots Q (F0 m (pc + 3) ls ((ov u).toList ++ rest))) : W p l e R s m args below meth c H locs cells slots Q (F0 m pc ls st) := by
  subst hst
  have hPc := hP.pick hC
  exact cgR (W.runV S hM cw ⟨PM_blind, va_recv hK.1 hPc hc he, fun U hU hW => ⟨rfl, by rw [hU]; exact hPc, (hD.sub is hnd hC).weaken (fun _ _ _ _ => trivial), hK.warm hW⟩⟩ rfl hn hsize rfl (lv_room hW) hdg hf) hP hD hS hC hnd ha hs kk
theorem cgS (S : CallFix p m c cc nL s args Ts own) (hM : Met l y w (rmK k) (va_Pc As (PM G wc)) (QG G wc post ov w1) 0 0 (adr wc)) (cw : CallB R s args own index y bytes maxL ret w (rmK k) 0 0 n ∧ (Cond.static y).before args s = true) (hK : KK G s) (hP : va_P G.1 vwCl ws H) (hD : va_D A ws) (hS : va_S A H0 H locs) (is : List Nat) (hC : is.map (fun i => ws[i]?) = wc.map some) (hnd : va_nd is = true)
    (hn : As.length = n) (hsize : ls.size = nL) (hst : st = As.reverse ++ rest) (hW : (rest.map fun v => v.category).sum ≤ 8) (hdg : decode cc pc = .ok (.invokestatic index, 3)) (hf : cells ≤ R.cells ∧ slots ≤ R.slots) (ha : ∀ u, (w1 u).map (·.1) = wc.map (·.1)) (hs : ∀ u, (sets ws is (w1 u)).map (·.1) = ws.map (·.1))
    (kk : ∀ (u : S0) (H1 : Heap) (locs1 : List Loc), post u → va_P G.1 vwCl (sets ws is (w1 u)) H1 → va_D A (sets ws is (w1 u)) → va_S A H0 H1 locs1 → W p l e R s m args below meth c H1 locs1 cells slots Q (F0 m (pc + 3) ls ((ov u).toList ++ rest))) : W p l e R s m args below meth c H locs cells slots Q (F0 m pc ls st) := by
  subst hst
  have hPc := hP.pick hC
  exact cgR (W.runS S hM cw ⟨PM_blind, fun U hU hW => ⟨rfl, by rw [hU]; exact hPc, (hD.sub is hnd hC).weaken (fun _ _ _ _ => trivial), hK.warm hW⟩⟩ rfl hn hsize rfl (lv_room hW) hdg hf) hP hD hS hC hnd ha hs kk
theorem cgN (S : CallFix p m c cc nL s args Ts own) (hM : Met l y w (rmK k) (va_Pc As (PM G wc)) (QG G wc post ov w1) 0 0 (adr wc)) (cw : va_CN R s args own index y host bytes maxL ret w (rmK k) 0 0 n ∧ (Cond.static y).before args s = true ∧ True) (hK : KK G s) (hP : va_P G.1 vwCl ws H) (hD : va_D A ws) (hS : va_S A H0 H locs) (is : List Nat) (hC : is.map (fun i => ws[i]?) = wc.map some) (hnd : va_nd is = true)
    (hn : As.length = n) (hsize : ls.size = nL) (hst : st = As.reverse ++ rest) (hW : (rest.map fun v => v.category).sum ≤ 8) (hdg : decode cc pc = .ok (.invokestatic index, 3)) (hf : cells ≤ R.cells ∧ slots ≤ R.slots) (ha : ∀ u, (w1 u).map (·.1) = wc.map (·.1)) (hs : ∀ u, (sets ws is (w1 u)).map (·.1) = ws.map (·.1))
    (kk : ∀ (u : S0) (H1 : Heap) (locs1 : List Loc), post u → va_P G.1 vwCl (sets ws is (w1 u)) H1 → va_D A (sets ws is (w1 u)) → va_S A H0 H1 locs1 → W p l e R s m args below meth c H1 locs1 cells slots Q (F0 m (pc + 3) ls ((ov u).toList ++ rest))) : W p l e R s m args below meth c H locs cells slots Q (F0 m pc ls st) := by
  subst hst
  have hPc := hP.pick hC
  exact cgR (va_Run.run (va_runSN S hM cw ⟨PM_blind, fun U hU hW => ⟨rfl, by rw [hU]; exact hPc, (hD.sub is hnd hC).weaken (fun _ _ _ _ => trivial), hK.warm hW⟩⟩ rfl hn hsize rfl (lv_room hW) hdg hf)) hP hD hS hC hnd ha hs kk
/-- ends: a reader's -/
theorem pret {v : Int32} {ty : FieldType} (hx : p.tables.exec = Jvm.exec) (hb : c.code = cc) (hr : meth.sig.returnType = some ty) (hlocks : meth.locks = false) (hn : narrow ty (.int v) = .int v) (hv : v = r) (hdg : decode cc pc = .ok (.ireturn, 1)) : W p l e R s m args below meth c s.heap [] 0 0 (MQ below (QcRead r) args s 0 0 (fun _ => False)) (F0 m pc ls [.int v]) :=
  W.zret hx hb hr hn (fun t ht hW => ⟨by rw [hv], ht⟩) (fun q h => by cases h) hdg hlocks
/-- ends: a writer's -/
theorem gretv (hx : p.tables.exec = Jvm.exec) (hb : c.code = cc) (hr : meth.sig.returnType = none) (hlocks : meth.locks = false) (hA : adr wc = A) (hS : va_S A s.heap H locs) (u : S0) (ho : ov u = none) (hp : post u) (hP : va_P G.1 vwCl (w1 u) H) (hdg : decode cc pc = .ok (.return_, 1)) : W p l e R s m args below meth c H locs 0 0 (MQ below (QG G wc post ov w1) args s 0 0 A) (F0 m pc ls []) := by
  subst hA
  exact W.vret hx hb hr (fun t ht hW => ⟨u, by rw [ho], hp, by rw [ht]; exact hP, by rw [ht]; exact hS.1, fun q h1 h2 => by rw [ht]; exact hS.2.1 q h1 h2⟩) hS.2.2 hdg hlocks
theorem greti {v : Int32} {ty : FieldType} (hx : p.tables.exec = Jvm.exec) (hb : c.code = cc) (hr : meth.sig.returnType = some ty) (hlocks : meth.locks = false) (hn : narrow ty (.int v) = .int v) (hA : adr wc = A) (hS : va_S A s.heap H locs) (u : S0) (ho : ov u = some (.int v)) (hp : post u) (hP : va_P G.1 vwCl (w1 u) H) (hdg : decode cc pc = .ok (.ireturn, 1)) : W p l e R s m args below meth c H locs 0 0 (MQ below (QG G wc post ov w1) args s 0 0 A) (F0 m pc ls [.int v]) := by
  subst hA
  exact W.zret hx hb hr hn (fun t ht hW => ⟨u, by rw [ho], hp, by rw [ht]; exact hP, by rw [ht]; exact hS.1, fun q h1 h2 => by rw [ht]; exact hS.2.1 q h1 h2⟩) hS.2.2 hdg hlocks
theorem gretl {v : Int64} (hx : p.tables.exec = Jvm.exec) (hb : c.code = cc) (hr : meth.sig.returnType = some .long) (hlocks : meth.locks = false) (hA : adr wc = A) (hS : va_S A s.heap H locs) (u : S0) (ho : ov u = some (.long v)) (hp : post u) (hP : va_P G.1 vwCl (w1 u) H) (hdg : decode cc pc = .ok (.lreturn, 1)) : W p l e R s m args below meth c H locs 0 0 (MQ below (QG G wc post ov w1) args s 0 0 A) (F0 m pc ls [.long v]) := by
  subst hA
  exact W.lret hx hb hr (fun t ht hW => ⟨u, by rw [ho], hp, by rw [ht]; exact hP, by rw [ht]; exact hS.1, fun q h1 h2 => by rw [ht]; exact hS.2.1 q h1 h2⟩) hS.2.2 hdg hlocks
/-- cuts: what lies behind a place where roads meet is walked once -/
theorem cutJ {lv : List (Nat × Value)} {pc' : Nat} {st' : List Value} {g : JFrame} (k : ∀ ls : Array Slot, lv_has ls nL lv → W p l e R s m args below meth c H locs cells slots Q (F0 m pc' ls st')) (h : (∀ ls : Array Slot, lv_has ls nL lv → W p l e R s m args below meth c H locs cells slots Q (F0 m pc' ls st')) → W p l e R s m args below meth c H locs cells slots Q g) : W p l e R s m args below meth c H locs cells slots Q g := h k
theorem cutH {lv : List (Nat × Value)} {pc' : Nat} {st' : List Value} {g : JFrame} {wj : va_W} (k : ∀ (H1 : Heap) (locs1 : List Loc) (ls : Array Slot), va_P G.1 vwCl wj H1 → va_D A wj → va_S A H0 H1 locs1 → lv_has ls nL lv → W p l e R s m args below meth c H1 locs1 cells slots Q (F0 m pc' ls st')) (h : (∀ (H1 : Heap) (locs1 : List Loc) (ls : Array Slot), va_P G.1 vwCl wj H1 → va_D A wj → va_S A H0 H1 locs1 → lv_has ls nL lv → W p l e R s m args below meth c H1 locs1 cells slots Q (F0 m pc' ls st')) → W p l e R s m args below meth c H locs cells slots Q g) : W p l e R s m args below meth c H locs cells slots Q g := h k
/-- a loop whose body only reads: x is what changes from turn to turn -/
theorem loopJ {X : Type} (I : X → Prop) (μ : X → Nat) (lv : X → List (Nat × Value)) {pc' : Nat} (body : ∀ x, I x → (∀ y, I y → μ y < μ x → ∀ ls : Array Slot, lv_has ls nL (lv y) → W p l e R s m args below meth c H locs cells slots Q (F0 m pc' ls [])) → ∀ ls : Array Slot, lv_has ls nL (lv x) → W p l e R s m args below meth c H locs cells slots Q (F0 m pc' ls [])) : ∀ x, I x → ∀ ls : Array Slot, lv_has ls nL (lv x) → W p l e R s m args below meth c H locs cells slots Q (F0 m pc' ls []) := by
  have key : ∀ n x, μ x < n → I x → ∀ ls : Array Slot, lv_has ls nL (lv x) → W p l e R s m args below meth c H locs cells slots Q (F0 m pc' ls []) := by
    intro n
    induction n with
    | zero => intro x h; omega
    | succ n ih => intro x h hI ls hl; exact body x hI (fun y hy hlt ls hl => ih y (by omega) hy ls hl) ls hl
  exact fun x hI ls hl => key (μ x + 1) x (by omega) hI ls hl
theorem loopH {X : Type} (I : X → Prop) (μ : X → Nat) (lv : X → List (Nat × Value)) (wj : X → va_W) {pc' : Nat} (body : ∀ x, I x → (∀ y, I y → μ y < μ x → ∀ (H1 : Heap) (locs1 : List Loc) (ls : Array Slot), va_P G.1 vwCl (wj y) H1 → va_D A (wj y) → va_S A H0 H1 locs1 → lv_has ls nL (lv y) → W p l e R s m args below meth c H1 locs1 cells slots Q (F0 m pc' ls [])) → ∀ (H1 : Heap) (locs1 : List Loc) (ls : Array Slot), va_P G.1 vwCl (wj x) H1 → va_D A (wj x) → va_S A H0 H1 locs1 → lv_has ls nL (lv x) → W p l e R s m args below meth c H1 locs1 cells slots Q (F0 m pc' ls [])) : ∀ x, I x → ∀ (H1 : Heap) (locs1 : List Loc) (ls : Array Slot), va_P G.1 vwCl (wj x) H1 → va_D A (wj x) → va_S A H0 H1 locs1 → lv_has ls nL (lv x) → W p l e R s m args below meth c H1 locs1 cells slots Q (F0 m pc' ls []) := by
  have key : ∀ n x, μ x < n → I x → ∀ (H1 : Heap) (locs1 : List Loc) (ls : Array Slot), va_P G.1 vwCl (wj x) H1 → va_D A (wj x) → va_S A H0 H1 locs1 → lv_has ls nL (lv x) → W p l e R s m args below meth c H1 locs1 cells slots Q (F0 m pc' ls []) := by
    intro n
    induction n with
    | zero => intro x h; omega
    | succ n ih => intro x h hI H1 locs1 ls a1 a2 a3 hl; exact body x hI (fun y hy hlt H2 locs2 ls b1 b2 b3 hl => ih y (by omega) hy H2 locs2 ls b1 b2 b3 hl) H1 locs1 ls a1 a2 a3 hl
  exact fun x hI H1 locs1 ls a1 a2 a3 hl => key (μ x + 1) x (by omega) hI H1 locs1 ls a1 a2 a3 hl
theorem stI {e_1 : Env} {x y : Int32} (e : x = y) (k : W p l e_1 R s m args below meth c H locs cells slots Q (F0 m pc ls (.int y :: rest))) : W p l e_1 R s m args below meth c H locs cells slots Q (F0 m pc ls (.int x :: rest)) := e ▸ k
theorem aldI (hx : p.tables.exec = Jvm.exec) (hb : c.code = cc) (hK : va_K G.1 vwCl [(G.2.1, .int), (G.2.2, .boolean)] s) (hP : va_P G.1 vwCl ws H) (q0 : Nat) {k n : Nat} {f : Nat → Int32} {a : Nat} {i : Int32} (ha : ws[q0]? = some (a, .inl (G.2.1, n, .inl f))) (hi : i = nI k) (hk : k < n) (hn : n < 2 ^ 31) (hdg : decode cc pc = .ok (.iaload, 1)) (kk : W p l e R s m args below meth c H locs cells slots Q (F0 m (pc + 1) ls (.int (f k) :: rest))) : W p l e R s m args below meth c H locs cells slots Q (F0 m pc ls (.int i :: .ref a :: rest)) := by
  subst hi
  have h1 : (nI k).toNatClampNeg = k := nI_clamp (by omega)
  refine va_iald hx hb hK hP q0 0 ha rfl (vp_in_nI hk hn) hdg ?_
  rw [h1]; exact kk
theorem aldZ (hx : p.tables.exec = Jvm.exec) (hb : c.code = cc) (hK : va_K G.1 vwCl [(G.2.1, .int), (G.2.2, .boolean)] s) (hP : va_P G.1 vwCl ws H) (q0 : Nat) {k n : Nat} {f : Nat → Int32} {a : Nat} {i : Int32} (ha : ws[q0]? = some (a, .inl (G.2.2, n, .inl f))) (hi : i = nI k) (hk : k < n) (hn : n < 2 ^ 31) (hdg : decode cc pc = .ok (.baload, 1)) (kk : W p l e R s m args below meth c H locs cells slots Q (F0 m (pc + 1) ls (.int (f k) :: rest))) : W p l e R s m args below meth c H locs cells slots Q (F0 m pc ls (.int i :: .ref a :: rest)) := by
  subst hi
  have h1 : (nI k).toNatClampNeg = k := nI_clamp (by omega)
  refine va_zald hx hb hK hP q0 1 ha rfl (vp_in_nI hk hn) hdg ?_
  rw [h1]; exact kk
theorem astI (hx : p.tables.exec = Jvm.exec) (hb : c.code = cc) (hK : va_K G.1 vwCl [(G.2.1, .int), (G.2.2, .boolean)] s) (hP : va_P G.1 vwCl ws H) (hD : va_D A ws) (hS : va_S A H0 H locs) (q0 : Nat) {k n : Nat} {f : Nat → Int32} {a : Nat} {i x : Int32} (ha : ws[q0]? = some (a, .inl (G.2.1, n, .inl f))) (hi : i = nI k) (hk : k < n) (hn : n < 2 ^ 31) (hdg : decode cc pc = .ok (.iastore, 1))
    (kk : ∀ (H1 : Heap) (locs1 : List Loc), va_P G.1 vwCl (ws.set q0 (a, .inl (G.2.1, n, .inl (upd f k x)))) H1 → va_D A (ws.set q0 (a, .inl (G.2.1, n, .inl (upd f k x)))) → va_S A H0 H1 locs1 → W p l e R s m args below meth c H1 locs1 cells slots Q (F0 m (pc + 1) ls rest)) : W p l e R s m args below meth c H locs cells slots Q (F0 m pc ls (.int x :: .int i :: .ref a :: rest)) := by
  subst hi
  have h1 : (nI k).toNatClampNeg = k := nI_clamp (by omega)
  refine va_iast hx hb hK hP hD hS q0 0 ha rfl (vp_in_nI hk hn) hdg ?_
  rw [h1]; exact kk
theorem astZ (hx : p.tables.exec = Jvm.exec) (hb : c.code = cc) (hK : va_K G.1 vwCl [(G.2.1, .int), (G.2.2, .boolean)] s) (hP : va_P G.1 vwCl ws H) (hD : va_D A ws) (hS : va_S A H0 H locs) (q0 : Nat) {k n : Nat} {f : Nat → Int32} {a : Nat} {i x : Int32} (ha : ws[q0]? = some (a, .inl (G.2.2, n, .inl f))) (hi : i = nI k) (hk : k < n) (hn : n < 2 ^ 31) (hz : x = 0 ∨ x = 1) (hdg : decode cc pc = .ok (.bastore, 1))
    (kk : ∀ (H1 : Heap) (locs1 : List Loc), va_P G.1 vwCl (ws.set q0 (a, .inl (G.2.2, n, .inl (upd f k x)))) H1 → va_D A (ws.set q0 (a, .inl (G.2.2, n, .inl (upd f k x)))) → va_S A H0 H1 locs1 → W p l e R s m args below meth c H1 locs1 cells slots Q (F0 m (pc + 1) ls rest)) : W p l e R s m args below meth c H locs cells slots Q (F0 m pc ls (.int x :: .int i :: .ref a :: rest)) := by
  subst hi
  have h1 : (nI k).toNatClampNeg = k := nI_clamp (by omega)
  have h2 : vp_nar .boolean x = x := by rcases hz with rfl | rfl <;> rfl
  refine va_zast hx hb hK hP hD hS q0 1 ha rfl (vp_in_nI hk hn) hdg ?_
  rw [h1, h2]; exact kk
end CG
/-- a truth as the machine has it -/
def bI (b : Bool) : Int32 := if b then 1 else 0
theorem bI_t : bI true = 1 := rfl
theorem bI_f : bI false = 0 := rfl
theorem bI_nar (b : Bool) : narrow .boolean (.int (bI b)) = .int (bI b) := by cases b <;> rfl
theorem bI_fit (b : Bool) : fits .boolean (.int (bI b)) = true := by cases b <;> rfl
theorem bI_0 {b : Bool} : bI b = 0 ↔ b = false := by cases b <;> decide
theorem bI_n0 {b : Bool} (h : ¬ bI b = 0) : b = true := by cases b with
  | true => rfl
  | false => exact absurd rfl h
theorem bI_1 {b : Bool} : bI b = 1 ↔ b = true := by cases b <;> decide
theorem bI_of {P : Prop} (d : Bool) (h : d = true ↔ P) (hp : P) : (1 : Int32) = bI d := by rw [h.mpr hp]; rfl
theorem bI_no {P : Prop} (d : Bool) (h : d = true ↔ P) (hp : ¬ P) : (0 : Int32) = bI d := by
  cases hd : d with
  | false => rfl
  | true => exact absurd (h.mp hd) hp
