/-! a writer's call, the world behind it said out: fewer steps for Lean than 'sets' -/
def lk : va_W → Nat → Option (Nat × va_E)
  | [], _ => none
  | e :: _, 0 => some e
  | _ :: l, k + 1 => lk l k
theorem lk_eq : ∀ (ws : va_W) (k : Nat), lk ws k = ws[k]?
  | [], k => by simp [lk]
  | e :: l, 0 => rfl
  | e :: l, k + 1 => by rw [List.getElem?_cons_succ]; exact lk_eq l k
theorem lk_map {ws wc : va_W} {is : List Nat} (h : is.map (lk ws) = wc.map some) : is.map (fun i => ws[i]?) = wc.map some := by
  rw [← h]
  exact List.map_congr_left (fun i _ => (lk_eq ws i).symm)
theorem world_new {A : Nat → Prop} {D : va_G} {cl : List vw_C} {ws wc w1 NW : va_W} {H H1 : Heap} (hP : va_P D cl ws H) (hD : va_D A ws) {is isR : List Nat} (hC : is.map (lk ws) = wc.map some) (hN : is.map (lk NW) = w1.map some) {RL : List (Option (Nat × va_E))} (hR1 : isR.map (lk ws) = RL) (hR : isR.map (lk NW) = RL) {n : Nat} (hn : NW.length = n) (hcov : (List.range n).all (fun k => decide (k ∈ is) || (decide (k ∈ isR) && decide (k ∉ is))) = true)
    (hk : ∀ q : Nat, q < H.size → ¬ adr wc q → H1[q]? = H[q]?) (hP1 : va_P D cl w1 H1) : va_P D cl NW H1 := by
  have hC' := lk_map hC
  have hN' := lk_map hN
  intro k q hq
  have hkn : k < n := by rw [← hn]; exact (List.getElem?_eq_some_iff.mp hq).1
  have h1 := List.all_eq_true.mp hcov k (List.mem_range.mpr hkn)
  simp only [Bool.or_eq_true, Bool.and_eq_true, decide_eq_true_eq] at h1
  rcases h1 with h1 | ⟨h1, h2⟩
  · obtain ⟨j, hj⟩ := List.getElem?_of_mem h1
    obtain ⟨q', h3, h4⟩ := map_some' hN' j k hj
    rw [hq] at h4
    cases h4
    exact hP1 j q h3
  · obtain ⟨j, hj⟩ := List.getElem?_of_mem h1
    have h3 : (isR.map (lk NW))[j]? = (isR.map (lk ws))[j]? := by rw [hR, hR1]
    rw [List.getElem?_map, List.getElem?_map, hj] at h3
    have h4 : lk NW k = lk ws k := Option.some.inj h3
    rw [lk_eq, lk_eq, hq] at h4
    have h5 := h4.symm
    refine (hP k q h5).kept (hk q.1 (hP k q h5).lt ?_)
    rintro ⟨e, he, heq⟩
    obtain ⟨j2, hj2⟩ := List.getElem?_of_mem he
    obtain ⟨i, h6, h7⟩ := map_some hC' j2 e hj2
    have := hD.1 i k e q h7 h5 heq
    subst this
    exact h2 (List.mem_of_getElem? h6)
section CN
variable {p : Program} {l : Launch} {e : Env} {R : Room} {s : State} {m : MethodId} {args : Array Value} {below : List Frame} {meth : Method} {c : Code} {H : Heap} {locs : List Loc} {cells slots : Nat} {Q : State → Prop}
variable {Ts w : List Cond} {cc bytes : ByteArray} {nL maxL index n k : Nat} {own C host : String} {y : MethodName} {ret : Option FieldType} {b : Addr} {As rest st : List Value} {pc : Nat} {ls : Array Slot} {G : GG} {wc ws : va_W} {r : Int32} {A : Nat → Prop} {H0 : Heap} {a : Array Value} {ci N : Nat} {T0 : u_T} {fs : List Value}
variable {S0 : Type} {post : S0 → Prop} {ov : S0 → Option Value} {w1 NW : S0 → va_W}
theorem cnR (hr : CallRun p l e R s m args below meth c H locs cells slots 0 0 (F0 m pc ls st) rest (QG G wc post ov w1 a) (adr wc)) (hP : va_P G.1 vwCl ws H) (hD : va_D A ws) (hS : va_S A H0 H locs) {is isR : List Nat} {RL : List (Option (Nat × va_E))} {ads : List Nat} (hC : is.map (lk ws) = wc.map some) {nw : Nat} (hcov : (List.range nw).all (fun k => decide (k ∈ is) || (decide (k ∈ isR) && decide (k ∉ is))) = true) (hlen : ∀ u, (NW u).length = nw) (hN : ∀ u, is.map (lk (NW u)) = (w1 u).map some) (hR1 : isR.map (lk ws) = RL) (hR : ∀ u, isR.map (lk (NW u)) = RL) (hs1 : ws.map (·.1) = ads) (hs : ∀ u, (NW u).map (·.1) = ads)
    (kk : ∀ (u : S0) (H1 : Heap) (locs1 : List Loc), post u → va_P G.1 vwCl (NW u) H1 → va_D A (NW u) → va_S A H0 H1 locs1 → W p l e R s m args below meth c H1 locs1 cells slots Q (F0 m (pc + 3) ls ((ov u).toList ++ rest))) : W p l e R s m args below meth c H locs cells slots Q (F0 m pc ls st) := by
  intro T hT X
  obtain ⟨v, st₀, t, T', L, h0, X', hL, e1, ⟨u, hv, hp, hP1, hz, hk⟩, stp⟩ := hr T hT X
  cases hv
  rw [h0] at hz hk
  have hA := adr_in hD (lk_map hC)
  have hPn := world_new (H1 := T'.heap) hP hD hC (hN u) hR1 (hR u) (hlen u) hcov (fun q h1 h2 => by rw [e1]; exact hk q h1 h2) (by rw [e1]; exact hP1)
  have hS1 : va_S A H0 T'.heap (locs ++ L) := ⟨Nat.le_trans hS.1 (by rw [e1]; exact hz), fun q h1 h2 => by rw [e1, hk q (Nat.lt_of_lt_of_le h1 hS.1) (fun z => h2 (hA q z))]; exact hS.2.1 q h1 h2, fun q hq => by
    rcases List.mem_append.mp hq with h | h
    · exact hS.2.2 q h
    · exact hA _ (hL q h)⟩
  obtain ⟨t2, a1, b1⟩ := kk u T'.heap (locs ++ L) hp hPn (hD.same ((hs u).trans hs1.symm)) hS1 T' rfl X'
  exact ⟨t2, stp t2 a1, b1⟩
theorem cnV (S : CallFix p m c cc nL s args Ts own) (hM : Met l y w (rmK k) (va_Pc (.ref b :: As) (PM G wc)) (QG G wc post ov w1) 0 0 (adr wc)) (cw : CallW R s args own C index y bytes maxL ret w (rmK k) 0 0 n) (hK : KK G s) (hP : va_P G.1 vwCl ws H) (hD : va_D A ws) (hS : va_S A H0 H locs) (is isR : List Nat) (NW : S0 → va_W) (RL : List (Option (Nat × va_E))) (ads : List Nat) (hC : is.map (lk ws) = wc.map some) (hnd : va_nd is = true) {nw : Nat} (hcov : (List.range nw).all (fun k => decide (k ∈ is) || (decide (k ∈ isR) && decide (k ∉ is))) = true) (hc : vwCl[ci]? = some (C, T0, N)) (he : wc[0]? = some (b, .inr (ci, fs)))
    (hn : As.length = n) (hsize : ls.size = nL) (hst : st = As.reverse ++ .ref b :: rest) (hW : (rest.map fun v => v.category).sum ≤ 8) (hdg : decode cc pc = .ok (.invokevirtual index, 3)) (hf : cells ≤ R.cells ∧ slots ≤ R.slots) (hlen : ∀ u, (NW u).length = nw) (hN : ∀ u, is.map (lk (NW u)) = (w1 u).map some) (hR1 : isR.map (lk ws) = RL) (hR : ∀ u, isR.map (lk (NW u)) = RL) (hs1 : ws.map (·.1) = ads) (hs : ∀ u, (NW u).map (·.1) = ads)
    (kk : ∀ (u : S0) (H1 : Heap) (locs1 : List Loc), post u → va_P G.1 vwCl (NW u) H1 → va_D A (NW u) → va_S A H0 H1 locs1 → W p l e R s m args below meth c H1 locs1 cells slots Q (F0 m (pc + 3) ls ((ov u).toList ++ rest))) : W p l e R s m args below meth c H locs cells slots Q (F0 m pc ls st) := by
  subst hst
  have hPc := hP.pick (lk_map hC)
  exact cnR (W.runV S hM cw ⟨PM_blind, va_recv hK.1 hPc hc he, fun U hU hW => ⟨rfl, by rw [hU]; exact hPc, (hD.sub is hnd (lk_map hC)).weaken (fun _ _ _ _ => trivial), hK.warm hW⟩⟩ rfl hn hsize rfl (lv_room hW) hdg hf) hP hD hS hC hcov hlen hN hR1 hR hs1 hs kk
theorem cnS (S : CallFix p m c cc nL s args Ts own) (hM : Met l y w (rmK k) (va_Pc As (PM G wc)) (QG G wc post ov w1) 0 0 (adr wc)) (cw : CallB R s args own index y bytes maxL ret w (rmK k) 0 0 n ∧ (Cond.static y).before args s = true) (hK : KK G s) (hP : va_P G.1 vwCl ws H) (hD : va_D A ws) (hS : va_S A H0 H locs) (is isR : List Nat) (NW : S0 → va_W) (RL : List (Option (Nat × va_E))) (ads : List Nat) (hC : is.map (lk ws) = wc.map some) (hnd : va_nd is = true) {nw : Nat} (hcov : (List.range nw).all (fun k => decide (k ∈ is) || (decide (k ∈ isR) && decide (k ∉ is))) = true)
    (hn : As.length = n) (hsize : ls.size = nL) (hst : st = As.reverse ++ rest) (hW : (rest.map fun v => v.category).sum ≤ 8) (hdg : decode cc pc = .ok (.invokestatic index, 3)) (hf : cells ≤ R.cells ∧ slots ≤ R.slots) (hlen : ∀ u, (NW u).length = nw) (hN : ∀ u, is.map (lk (NW u)) = (w1 u).map some) (hR1 : isR.map (lk ws) = RL) (hR : ∀ u, isR.map (lk (NW u)) = RL) (hs1 : ws.map (·.1) = ads) (hs : ∀ u, (NW u).map (·.1) = ads)
    (kk : ∀ (u : S0) (H1 : Heap) (locs1 : List Loc), post u → va_P G.1 vwCl (NW u) H1 → va_D A (NW u) → va_S A H0 H1 locs1 → W p l e R s m args below meth c H1 locs1 cells slots Q (F0 m (pc + 3) ls ((ov u).toList ++ rest))) : W p l e R s m args below meth c H locs cells slots Q (F0 m pc ls st) := by
  subst hst
  have hPc := hP.pick (lk_map hC)
  exact cnR (W.runS S hM cw ⟨PM_blind, fun U hU hW => ⟨rfl, by rw [hU]; exact hPc, (hD.sub is hnd (lk_map hC)).weaken (fun _ _ _ _ => trivial), hK.warm hW⟩⟩ rfl hn hsize rfl (lv_room hW) hdg hf) hP hD hS hC hcov hlen hN hR1 hR hs1 hs kk
theorem cnN (S : CallFix p m c cc nL s args Ts own) (hM : Met l y w (rmK k) (va_Pc As (PM G wc)) (QG G wc post ov w1) 0 0 (adr wc)) (cw : va_CN R s args own index y host bytes maxL ret w (rmK k) 0 0 n ∧ (Cond.static y).before args s = true ∧ True) (hK : KK G s) (hP : va_P G.1 vwCl ws H) (hD : va_D A ws) (hS : va_S A H0 H locs) (is isR : List Nat) (NW : S0 → va_W) (RL : List (Option (Nat × va_E))) (ads : List Nat) (hC : is.map (lk ws) = wc.map some) (hnd : va_nd is = true) {nw : Nat} (hcov : (List.range nw).all (fun k => decide (k ∈ is) || (decide (k ∈ isR) && decide (k ∉ is))) = true)
    (hn : As.length = n) (hsize : ls.size = nL) (hst : st = As.reverse ++ rest) (hW : (rest.map fun v => v.category).sum ≤ 8) (hdg : decode cc pc = .ok (.invokestatic index, 3)) (hf : cells ≤ R.cells ∧ slots ≤ R.slots) (hlen : ∀ u, (NW u).length = nw) (hN : ∀ u, is.map (lk (NW u)) = (w1 u).map some) (hR1 : isR.map (lk ws) = RL) (hR : ∀ u, isR.map (lk (NW u)) = RL) (hs1 : ws.map (·.1) = ads) (hs : ∀ u, (NW u).map (·.1) = ads)
    (kk : ∀ (u : S0) (H1 : Heap) (locs1 : List Loc), post u → va_P G.1 vwCl (NW u) H1 → va_D A (NW u) → va_S A H0 H1 locs1 → W p l e R s m args below meth c H1 locs1 cells slots Q (F0 m (pc + 3) ls ((ov u).toList ++ rest))) : W p l e R s m args below meth c H locs cells slots Q (F0 m pc ls st) := by
  subst hst
  have hPc := hP.pick (lk_map hC)
  exact cnR (va_Run.run (va_runSN S hM cw ⟨PM_blind, fun U hU hW => ⟨rfl, by rw [hU]; exact hPc, (hD.sub is hnd (lk_map hC)).weaken (fun _ _ _ _ => trivial), hK.warm hW⟩⟩ rfl hn hsize rfl (lv_room hW) hdg hf)) hP hD hS hC hcov hlen hN hR1 hR hs1 hs kk
end CN
