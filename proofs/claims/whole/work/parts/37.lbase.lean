/-! the law's world: the class's cells, the reference's cells, the row of one long -/
theorem P_left {D : va_G} {cl : List vw_C} {x y : va_W} {H : Heap} (h : va_P D cl (x ++ y) H) : va_P D cl x H := fun k q hk => h k q (by rw [List.getElem?_append_left (List.getElem?_eq_some_iff.mp hk).1]; exact hk)
theorem P_right {D : va_G} {cl : List vw_C} {x y : va_W} {H : Heap} (h : va_P D cl (x ++ y) H) : va_P D cl y H := fun k q hk => h (x.length + k) q (by rw [List.getElem?_append_right (Nat.le_add_right _ _), Nat.add_sub_cancel_left]; exact hk)
theorem D_left {A : Nat → Prop} {x y : va_W} (h : va_D A (x ++ y)) : va_D A x := ⟨fun i j p q hi hj e => h.1 i j p q (by rw [List.getElem?_append_left (List.getElem?_eq_some_iff.mp hi).1]; exact hi) (by rw [List.getElem?_append_left (List.getElem?_eq_some_iff.mp hj).1]; exact hj) e, fun k q hk => h.2 k q (by rw [List.getElem?_append_left (List.getElem?_eq_some_iff.mp hk).1]; exact hk)⟩
theorem D_right {A : Nat → Prop} {x y : va_W} (h : va_D A (x ++ y)) : va_D A y := ⟨fun i j p q hi hj e => by
    have := h.1 (x.length + i) (x.length + j) p q (by rw [List.getElem?_append_right (Nat.le_add_right _ _), Nat.add_sub_cancel_left]; exact hi) (by rw [List.getElem?_append_right (Nat.le_add_right _ _), Nat.add_sub_cancel_left]; exact hj) e
    omega, fun k q hk => h.2 (x.length + k) q (by rw [List.getElem?_append_right (Nat.le_add_right _ _), Nat.add_sub_cancel_left]; exact hk)⟩
theorem D_apart {A : Nat → Prop} {x y : va_W} (h : va_D A (x ++ y)) {p q : Nat × va_E} (hp : p ∈ x) (hq : q ∈ y) : p.1 ≠ q.1 := fun e => by
  obtain ⟨i, hi⟩ := List.getElem?_of_mem hp
  obtain ⟨j, hj⟩ := List.getElem?_of_mem hq
  have hl := (List.getElem?_eq_some_iff.mp hi).1
  have := h.1 i (x.length + j) p q (by rw [List.getElem?_append_left hl]; exact hi) (by rw [List.getElem?_append_right (Nat.le_add_right _ _), Nat.add_sub_cancel_left]; exact hj) e
  omega
theorem P_off {D : va_G} {cl : List vw_C} {x wc : va_W} {H H1 : Heap} (h : va_P D cl x H) (hk : ∀ q : Nat, q < H.size → ¬ adr wc q → H1[q]? = H[q]?) (ha : ∀ p ∈ x, ∀ q ∈ wc, p.1 ≠ q.1) : va_P D cl x H1 := h.kept (fun k p hp => hk p.1 (h k p hp).lt (fun ⟨e, he, heq⟩ => ha p (List.mem_of_getElem? hp) e he heq.symm))
section CL
variable {p : Program} {l : Launch} {e : Env} {R : Room} {s : State} {m : MethodId} {args : Array Value} {below : List Frame} {meth : Method} {c : Code} {H : Heap} {locs : List Loc} {cells slots : Nat} {Q : State → Prop}
variable {Ts w : List Cond} {cc bytes : ByteArray} {nL maxL index n k : Nat} {own C : String} {y : MethodName} {ret : Option FieldType} {b : Addr} {As rest st : List Value} {pc : Nat} {ls : Array Slot} {G : GG} {wc wl wr : va_W} {A : Nat → Prop} {H0 : Heap} {a : Array Value} {ci N : Nat} {T0 : u_T} {fs : List Value}
variable {S0 : Type} {post : S0 → Prop} {ov : S0 → Option Value} {w1 : S0 → va_W}
theorem cnL (hr : CallRun p l e R s m args below meth c H locs cells slots 0 0 (F0 m pc ls st) rest (QG G wc post ov w1 a) (adr wc)) (hP : va_P G.1 vwCl (wl ++ (wc ++ wr)) H) (hD : va_D A (wl ++ (wc ++ wr))) (hS : va_S A H0 H locs) (hs : ∀ u, (w1 u).map (·.1) = wc.map (·.1))
    (kk : ∀ (u : S0) (H1 : Heap) (locs1 : List Loc), post u → va_P G.1 vwCl (wl ++ (w1 u ++ wr)) H1 → va_D A (wl ++ (w1 u ++ wr)) → va_S A H0 H1 locs1 → W p l e R s m args below meth c H1 locs1 cells slots Q (F0 m (pc + 3) ls ((ov u).toList ++ rest))) : W p l e R s m args below meth c H locs cells slots Q (F0 m pc ls st) := by
  intro T hT X
  obtain ⟨v, st₀, t, T', L, h0, X', hL, e1, ⟨u, hv, hp, hP1, hz, hk⟩, stp⟩ := hr T hT X
  cases hv
  rw [h0] at hz hk
  have hDc := D_left (D_right hD)
  have hA : ∀ q, adr wc q → A q := by
    rintro q ⟨e, he, rfl⟩
    obtain ⟨i, hi⟩ := List.getElem?_of_mem he
    exact hDc.2 i e hi
  have hk' : ∀ q : Nat, q < H.size → ¬ adr wc q → T'.heap[q]? = H[q]? := fun q h1 h2 => by rw [e1]; exact hk q h1 h2
  have hPl := P_off (P_left hP) hk' (fun p hp q hq => D_apart hD hp (List.mem_append_left _ hq))
  have hPr := P_off (P_right (P_right hP)) hk' (fun p hp q hq => (D_apart (D_right hD) hq hp).symm)
  have hPn : va_P G.1 vwCl (wl ++ (w1 u ++ wr)) T'.heap := hPl.app (va_P.app (by rw [e1]; exact hP1) hPr)
  have hS1 : va_S A H0 T'.heap (locs ++ L) := ⟨Nat.le_trans hS.1 (by rw [e1]; exact hz), fun q h1 h2 => by rw [e1, hk q (Nat.lt_of_lt_of_le h1 hS.1) (fun z => h2 (hA q z))]; exact hS.2.1 q h1 h2, fun q hq => by
    rcases List.mem_append.mp hq with h | h
    · exact hS.2.2 q h
    · exact hA _ (hL q h)⟩
  have hDn : va_D A (wl ++ (w1 u ++ wr)) := hD.same (by rw [List.map_append, List.map_append, hs, ← List.map_append, ← List.map_append])
  obtain ⟨t2, a1, b1⟩ := kk u T'.heap (locs ++ L) hp hPn hDn hS1 T' rfl X'
  exact ⟨t2, stp t2 a1, b1⟩
theorem cnLV (S : CallFix p m c cc nL s args Ts own) (hM : Met l y w (rmK k) (va_Pc (.ref b :: As) (PM G wc)) (QG G wc post ov w1) 0 0 (adr wc)) (cw : CallW R s args own C index y bytes maxL ret w (rmK k) 0 0 n) (hK : KK G s) (hP : va_P G.1 vwCl (wl ++ (wc ++ wr)) H) (hD : va_D A (wl ++ (wc ++ wr))) (hS : va_S A H0 H locs) (hc : vwCl[ci]? = some (C, T0, N)) (he : wc[0]? = some (b, .inr (ci, fs)))
    (hn : As.length = n) (hsize : ls.size = nL) (hst : st = As.reverse ++ .ref b :: rest) (hW : (rest.map fun v => v.category).sum ≤ 8) (hdg : decode cc pc = .ok (.invokevirtual index, 3)) (hf : cells ≤ R.cells ∧ slots ≤ R.slots) (hs : ∀ u, (w1 u).map (·.1) = wc.map (·.1))
    (kk : ∀ (u : S0) (H1 : Heap) (locs1 : List Loc), post u → va_P G.1 vwCl (wl ++ (w1 u ++ wr)) H1 → va_D A (wl ++ (w1 u ++ wr)) → va_S A H0 H1 locs1 → W p l e R s m args below meth c H1 locs1 cells slots Q (F0 m (pc + 3) ls ((ov u).toList ++ rest))) : W p l e R s m args below meth c H locs cells slots Q (F0 m pc ls st) := by
  subst hst
  have hPc := P_left (P_right hP)
  have hDc := D_left (D_right hD)
  exact cnL (W.runV S hM cw ⟨PM_blind, va_recv hK.1 hPc hc he, fun U hU hW => ⟨rfl, by rw [hU]; exact hPc, hDc.weaken (fun _ _ _ _ => trivial), hK.warm hW⟩⟩ rfl hn hsize rfl (lv_room hW) hdg hf) hP hD hS hs kk
end CL
theorem cW_adr (G : GG) (a : Nat → Nat) (t : CS) : (cW G a t).map (·.1) = (List.range 25).map a := by
  obtain ⟨n, mf, bd, zN, ub, cs, mu, mn, la, fq, rq, r⟩ := t
  rfl
theorem mW_adr (G : GG) (b : Nat → Nat) (t : MS) : (mW G b t).map (·.1) = [b 0, b 1, b 2, b 3, b 4, b 5, b 6, b 8, b 9, b 10, b 12, b 13, b 14, b 17, b 19, b 21, b 25] := by
  obtain ⟨th, n, mf, cc, kn, sc, fc, so, la, lq, wq, q⟩ := t
  rfl
