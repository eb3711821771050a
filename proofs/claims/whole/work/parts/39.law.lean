theorem fLaw_c : Cond.constantLong RL 56 4294967295 ∈ wsL_law := by decide +kernel
theorem nI_addk {x : Nat} (k : Nat) : nI x + nI k = nI (x + k) := nI_add _ _
theorem gLw_level : GoodIn lw_tbl (va_wsS RL 71 yL_level wsLL) := goodIn_of _ (by decide +kernel)
theorem hd_L_level : yL_level.cls ≠ "java/lang/invoke/MethodHandle" ∧ yL_level.cls ≠ "java/lang/invoke/VarHandle" ∧ (parseMethodDescriptor yL_level.desc).map (fun d => d.parameters.length) = some 3 := by decide +kernel
theorem P_lvl {G : GG} {a : Nat → Nat} {n mf : Nat} {bd : Int32} {zN : Nat} {ub : Bool} {cs : Nat} {mu mn la : Int32} {fq rq : Nat} {r : Nat → Nat → Int32} {M : va_W} {cJ : ClassId} {o : Nat} {f : Nat → Int64} {H : Heap} (h : va_P G.1 vwCl (cW G a (n, mf, bd, zN, ub, cs, mu, mn, la, fq, rq, r) ++ (M ++ [cJr cJ o f])) H) : va_P G.1 vwCl [(oX7 (a 0) (a 1) (a 2) (a 9) (a 15) (a 19) (a 21) (a 23)), (oX5 (a 2) (nI n) (a 3) (a 4) (a 5) (a 6) (a 7) (a 8) bd), (cI G (a 4) 15 (r 4)), cJr cJ o f] H := va_P.app (w1 := [(oX7 (a 0) (a 1) (a 2) (a 9) (a 15) (a 19) (a 21) (a 23)), (oX5 (a 2) (nI n) (a 3) (a 4) (a 5) (a 6) (a 7) (a 8) bd), (cI G (a 4) 15 (r 4))]) ((P_left h).pick (is := [0, 2, 4]) rfl) (P_right (P_right h))
theorem D_lvl {G : GG} {a : Nat → Nat} {n mf : Nat} {bd : Int32} {zN : Nat} {ub : Bool} {cs : Nat} {mu mn la : Int32} {fq rq : Nat} {r : Nat → Nat → Int32} {M : va_W} {cJ : ClassId} {o : Nat} {f : Nat → Int64} {A : Nat → Prop} (h : va_D A (cW G a (n, mf, bd, zN, ub, cs, mu, mn, la, fq, rq, r) ++ (M ++ [cJr cJ o f]))) : va_D (fun _ => True) [(oX7 (a 0) (a 1) (a 2) (a 9) (a 15) (a 19) (a 21) (a 23)), (oX5 (a 2) (nI n) (a 3) (a 4) (a 5) (a 6) (a 7) (a 8) bd), (cI G (a 4) 15 (r 4)), cJr cJ o f] := by
  have h1 : va_D (fun _ => True) ([(oX7 (a 0) (a 1) (a 2) (a 9) (a 15) (a 19) (a 21) (a 23)), (oX5 (a 2) (nI n) (a 3) (a 4) (a 5) (a 6) (a 7) (a 8) bd), (cI G (a 4) 15 (r 4))] ++ [cJr cJ o f]) := va_D.app (((D_left h).sub [0, 2, 4] (by decide) rfl).weaken (fun _ _ _ _ => trivial)) ((D_right (D_right h)).weaken (fun _ _ _ _ => trivial)) (fun i j x y hx hy => by
    have hx' : x ∈ cW G a (n, mf, bd, zN, ub, cs, mu, mn, la, fq, rq, r) := by
      have hm := List.mem_of_getElem? hx
      rcases List.mem_cons.mp hm with rfl | hm
      · exact List.mem_of_getElem? (i := 0) rfl
      · rcases List.mem_cons.mp hm with rfl | hm
        · exact List.mem_of_getElem? (i := 2) rfl
        · rcases List.mem_cons.mp hm with rfl | hm
          · exact List.mem_of_getElem? (i := 4) rfl
          · cases hm
    exact D_apart h hx' (List.mem_append_right _ (List.mem_of_getElem? hy)))
  exact h1
theorem P_out {G : GG} {C M : va_W} {A : Nat → Prop} {cJ : ClassId} {o : Nat} {f f2 : Nat → Int64} {H H1 : Heap} (hP : va_P G.1 vwCl (C ++ (M ++ [cJr cJ o f])) H) (hD : va_D A (C ++ (M ++ [cJr cJ o f]))) (hk : ∀ q : Nat, q < H.size → ¬ q = o → H1[q]? = H[q]?) (hB : va_P G.1 vwCl [cJr cJ o f2] H1) : va_P G.1 vwCl (C ++ (M ++ [cJr cJ o f2])) H1 :=
  va_P.app ((P_left hP).kept (fun k p hp => hk p.1 ((P_left hP) k p hp).lt (D_apart hD (List.mem_of_getElem? hp) (List.mem_append_right _ (List.mem_singleton.mpr rfl)) : p.1 ≠ (cJr cJ o f).1))) (va_P.app ((P_left (P_right hP)).kept (fun k p hp => hk p.1 ((P_left (P_right hP)) k p hp).lt (D_apart (D_right hD) (List.mem_of_getElem? hp) (List.mem_singleton.mpr rfl) : p.1 ≠ (cJr cJ o f).1))) hB)
theorem hd_X7_feature : yX7_feature.cls ≠ "java/lang/invoke/MethodHandle" ∧ yX7_feature.cls ≠ "java/lang/invoke/VarHandle" ∧ (parseMethodDescriptor yX7_feature.desc).map (fun d => d.parameters.length) = some 2 := by decide +kernel
theorem hd_X8_feature : yX8_feature.cls ≠ "java/lang/invoke/MethodHandle" ∧ yX8_feature.cls ≠ "java/lang/invoke/VarHandle" ∧ (parseMethodDescriptor yX8_feature.desc).map (fun d => d.parameters.length) = some 2 := by decide +kernel
theorem hd_X7_group : yX7_group.cls ≠ "java/lang/invoke/MethodHandle" ∧ yX7_group.cls ≠ "java/lang/invoke/VarHandle" ∧ (parseMethodDescriptor yX7_group.desc).map (fun d => d.parameters.length) = some 3 := by decide +kernel
theorem hd_X8_group : yX8_group.cls ≠ "java/lang/invoke/MethodHandle" ∧ yX8_group.cls ≠ "java/lang/invoke/VarHandle" ∧ (parseMethodDescriptor yX8_group.desc).map (fun d => d.parameters.length) = some 3 := by decide +kernel
theorem hd_X7_formula : yX7_formula.cls ≠ "java/lang/invoke/MethodHandle" ∧ yX7_formula.cls ≠ "java/lang/invoke/VarHandle" ∧ (parseMethodDescriptor yX7_formula.desc).map (fun d => d.parameters.length) = some 3 := by decide +kernel
theorem hd_X8_formula : yX8_formula.cls ≠ "java/lang/invoke/MethodHandle" ∧ yX8_formula.cls ≠ "java/lang/invoke/VarHandle" ∧ (parseMethodDescriptor yX8_formula.desc).map (fun d => d.parameters.length) = some 3 := by decide +kernel
theorem hd_X7_attribute : yX7_attribute.cls ≠ "java/lang/invoke/MethodHandle" ∧ yX7_attribute.cls ≠ "java/lang/invoke/VarHandle" ∧ (parseMethodDescriptor yX7_attribute.desc).map (fun d => d.parameters.length) = some 3 := by decide +kernel
theorem hd_X8_attribute : yX8_attribute.cls ≠ "java/lang/invoke/MethodHandle" ∧ yX8_attribute.cls ≠ "java/lang/invoke/VarHandle" ∧ (parseMethodDescriptor yX8_attribute.desc).map (fun d => d.parameters.length) = some 3 := by decide +kernel
theorem hd_X7_choose : yX7_choose.cls ≠ "java/lang/invoke/MethodHandle" ∧ yX7_choose.cls ≠ "java/lang/invoke/VarHandle" ∧ (parseMethodDescriptor yX7_choose.desc).map (fun d => d.parameters.length) = some 2 := by decide +kernel
theorem hd_X8_choose : yX8_choose.cls ≠ "java/lang/invoke/MethodHandle" ∧ yX8_choose.cls ≠ "java/lang/invoke/VarHandle" ∧ (parseMethodDescriptor yX8_choose.desc).map (fun d => d.parameters.length) = some 2 := by decide +kernel
theorem hd_X7_solve : yX7_solve.cls ≠ "java/lang/invoke/MethodHandle" ∧ yX7_solve.cls ≠ "java/lang/invoke/VarHandle" ∧ (parseMethodDescriptor yX7_solve.desc).map (fun d => d.parameters.length) = some 0 := by decide +kernel
theorem hd_X8_solve : yX8_solve.cls ≠ "java/lang/invoke/MethodHandle" ∧ yX8_solve.cls ≠ "java/lang/invoke/VarHandle" ∧ (parseMethodDescriptor yX8_solve.desc).map (fun d => d.parameters.length) = some 0 := by decide +kernel
theorem hd_X7_chosen : yX7_chosen.cls ≠ "java/lang/invoke/MethodHandle" ∧ yX7_chosen.cls ≠ "java/lang/invoke/VarHandle" ∧ (parseMethodDescriptor yX7_chosen.desc).map (fun d => d.parameters.length) = some 1 := by decide +kernel
theorem hd_X8_chosen : yX8_chosen.cls ≠ "java/lang/invoke/MethodHandle" ∧ yX8_chosen.cls ≠ "java/lang/invoke/VarHandle" ∧ (parseMethodDescriptor yX8_chosen.desc).map (fun d => d.parameters.length) = some 1 := by decide +kernel
theorem hd_X7_why : yX7_why.cls ≠ "java/lang/invoke/MethodHandle" ∧ yX7_why.cls ≠ "java/lang/invoke/VarHandle" ∧ (parseMethodDescriptor yX7_why.desc).map (fun d => d.parameters.length) = some 1 := by decide +kernel
theorem hd_X8_why : yX8_why.cls ≠ "java/lang/invoke/MethodHandle" ∧ yX8_why.cls ≠ "java/lang/invoke/VarHandle" ∧ (parseMethodDescriptor yX8_why.desc).map (fun d => d.parameters.length) = some 1 := by decide +kernel
theorem hd_X7_count : yX7_count.cls ≠ "java/lang/invoke/MethodHandle" ∧ yX7_count.cls ≠ "java/lang/invoke/VarHandle" ∧ (parseMethodDescriptor yX7_count.desc).map (fun d => d.parameters.length) = some 1 := by decide +kernel
theorem hd_X8_count : yX8_count.cls ≠ "java/lang/invoke/MethodHandle" ∧ yX8_count.cls ≠ "java/lang/invoke/VarHandle" ∧ (parseMethodDescriptor yX8_count.desc).map (fun d => d.parameters.length) = some 1 := by decide +kernel
theorem hd_X7_forces : yX7_forces.cls ≠ "java/lang/invoke/MethodHandle" ∧ yX7_forces.cls ≠ "java/lang/invoke/VarHandle" ∧ (parseMethodDescriptor yX7_forces.desc).map (fun d => d.parameters.length) = some 2 := by decide +kernel
theorem hd_X8_forces : yX8_forces.cls ≠ "java/lang/invoke/MethodHandle" ∧ yX8_forces.cls ≠ "java/lang/invoke/VarHandle" ∧ (parseMethodDescriptor yX8_forces.desc).map (fun d => d.parameters.length) = some 2 := by decide +kernel
theorem hd_X7_differ : yX7_differ.cls ≠ "java/lang/invoke/MethodHandle" ∧ yX7_differ.cls ≠ "java/lang/invoke/VarHandle" ∧ (parseMethodDescriptor yX7_differ.desc).map (fun d => d.parameters.length) = some 2 := by decide +kernel
theorem hd_X8_differ : yX8_differ.cls ≠ "java/lang/invoke/MethodHandle" ∧ yX8_differ.cls ≠ "java/lang/invoke/VarHandle" ∧ (parseMethodDescriptor yX8_differ.desc).map (fun d => d.parameters.length) = some 2 := by decide +kernel
theorem hd_X8_level : yX8_level.cls ≠ "java/lang/invoke/MethodHandle" ∧ yX8_level.cls ≠ "java/lang/invoke/VarHandle" ∧ (parseMethodDescriptor yX8_level.desc).map (fun d => d.parameters.length) = some 1 := by decide +kernel
theorem hd_X8_thrown : yX8_thrown.cls ≠ "java/lang/invoke/MethodHandle" ∧ yX8_thrown.cls ≠ "java/lang/invoke/VarHandle" ∧ (parseMethodDescriptor yX8_thrown.desc).map (fun d => d.parameters.length) = some 0 := by decide +kernel
set_option maxHeartbeats 8000000 in
set_option maxRecDepth 100000 in
/-- THE LAW'S LOOP -/
theorem law_loop {p : Program} {l : Launch} {e : Env} {s : State} {m : MethodId} {below : List Frame} {meth : Method} {c : Code} {b L : Nat} {xs : Nat → Int32} (hL : L ≤ 2048) (C0 : lw_At p s m meth c b L xs) (hl0 : l.stackTraces = false) {Sim : CS → MS → Prop} (hsim : SimOk Sim) {G : GG} {cJ : ClassId} {a bb : Nat → Nat} {o : Nat} (hKK : KK G s) (hKJ : va_K G.1 vwCl [(cJ, .long)] s) (hBl : ∀ w ∈ lvB, w.before #[] s = true) (hU : vx_Zq Bundle.tN "UNASSIGNED_STACK" Bundle.steD (fun q : Nat => s.heap.size ≤ q) s s.heap) (hN : vx_Zq Bundle.tN "SUPPRESSED_SENTINEL" Bundle.listD (fun q : Nat => s.heap.size ≤ q) s s.heap) :
    ∀ (nn jx : Nat), 513 ≤ jx + nn → jx ≤ 512 → ∀ (t : CS) (t' : MS), Sim t t' → ∀ (f : Nat → Int64) (H : Heap) (locs : List Loc), va_P G.1 vwCl (cW G a t ++ (mW G bb t' ++ [cJr cJ o f])) H → va_D (fun q : Nat => s.heap.size ≤ q) (cW G a t ++ (mW G bb t' ++ [cJr cJ o f])) → va_S (fun q : Nat => s.heap.size ≤ q) s.heap H locs → ∀ (ls : Array Slot), lv_has ls 7 [(0, .ref b), (1, .ref (a 0)), (2, .ref (bb 0)), (3, .ref o), (4, .int (nI (4 * jx)))] → W p l e room_1 s m #[Value.ref b] below meth c H locs (43 + jx) (25917 + 6 * jx) (lw_Z below #[Value.ref b] s) (F0 m 23 ls []) := by
  obtain ⟨hx, hb, hr, hml, hown, hts, hX, hbl, hlocks, hgv⟩ := C0
  have htsL : ∀ w ∈ wsL_law, w.before #[Value.ref b] s = true := fun w h => hts w (wsL_law_in w h)
  have hbA : ¬ (fun q : Nat => s.heap.size ≤ q) b := Nat.not_le.mpr hbl
  obtain ⟨hs_pre, hs_init, hs_feature, hs_group, hs_formula, hs_attrib, hs_solve, hs_chosen, hs_why, hs_count, hs_forces, hs_differ, hs_choose, hs_level⟩ := hsim
  intro nn
  induction nn with
  | zero => intro jx h1 h2; exact absurd h1 (by omega)
  | succ nn ih =>
    intro jx hjn hj5 t t' hS9 f H locs hP hD hS ls hl
    obtain ⟨n, mf, bd, zN, ub, cs, mu, mn, la, fq, rq, r⟩ := t
    obtain ⟨th, np, mp, cc, kn, sc, fc, so, lb, lq, wq, q⟩ := t'
    have hpre := hs_pre _ _ hS9
    obtain ⟨L0, hcs0, hcc0, hL0, hr1, hr2, hcap1, hcap2⟩ := hpre.2.2.2.2.2.2.2.2.2.2.2
    have hcs : cs ≤ 14 := by omega
    have hcc : cc ≤ 14 := by omega
    refine lv_iload hx hb dL_law_23 (lv_at hl 4 rfl) ?_
    refine lv_aload_n hx hb dL_law_25 rfl (lv_at hl 0 rfl) ?_
    refine va_slen hx hb hX hbl hbA hS dL_law_26 ?_
    refine lv_iconst (v := 4) hx hb dL_law_27 (by decide) ?_
    refine lv_isub hx hb dL_law_28 ?_
    refine lv_icmp_gt (tgt := 594) hx hb dL_law_29 (by decide) (fun c_29 => ?_) (fun c_29 => ?_)
    · refine lv_iconst (v := 1) hx hb dL_law_594 (by decide) ?_
      refine va_forget (fun q hq => hS.2.2 q hq) ?_
      refine W.widen (k := 3116) (n := 144707) (by omega) (by omega) ?_
      exact lw_ret hx hb hr hlocks dL_law_595
    · have hlt : 4 * jx + 4 ≤ L := law_end hL hj5 c_29
      refine lv_aload_n hx hb dL_law_32 rfl (lv_at hl 0 rfl) ?_
      refine lv_iload hx hb dL_law_33 (lv_at hl 4 rfl) ?_
      refine va_sld hx hb hX hbl hbA hS (vp_in_nI (show 4 * jx < L by omega) (by omega)) dL_law_35 ?_
      refine lv_bipush (v := 15) hx hb dL_law_36 (by decide) ?_
      refine lv_iand hx hb dL_law_38 ?_
      refine lv_topi (fun cx ecx => ?_)
      by_cases hc0 : cx = 0
      · subst hc0
        refine lv_tableIn (off := 61) (tgt := 100) hx hb dL_law_39 (by decide) (by decide) rfl (by decide) ?_
        refine lv_aload_n hx hb dL_law_100 rfl (lv_at hl 1 rfl) ?_
        refine lv_aload_n hx hb dL_law_101 rfl (lv_at hl 0 rfl) ?_
        refine lv_iload hx hb dL_law_102 (lv_at hl 4 rfl) ?_
        refine lv_iconst (v := 1) hx hb dL_law_104 (by decide) ?_
        refine lv_iadd hx hb dL_law_105 ?_
        refine stI (y := nI (4 * jx + 1)) (nI_addk 1) ?_
        refine va_sld hx hb hX hbl hbA hS (vp_in_nI (show 4 * jx + 1 < L by omega) (by omega)) dL_law_106 ?_
        refine lv_aload_n hx hb dL_law_107 rfl (lv_at hl 0 rfl) ?_
        refine lv_iload hx hb dL_law_108 (lv_at hl 4 rfl) ?_
        refine lv_iconst (v := 2) hx hb dL_law_110 (by decide) ?_
        refine lv_iadd hx hb dL_law_111 ?_
        refine stI (y := nI (4 * jx + 2)) (nI_addk 2) ?_
        refine va_sld hx hb hX hbl hbA hS (vp_in_nI (show 4 * jx + 2 < L by omega) (by omega)) dL_law_112 ?_
        refine cnLV (wl := []) (wc := cW G a (n, mf, bd, zN, ub, cs, mu, mn, la, fq, rq, r)) (wr := mW G bb (th, np, mp, cc, kn, sc, fc, so, lb, lq, wq, q) ++ [cJr cJ o f]) (ci := 9) (T0 := TX7) (N := 7) (As := [.int (xs (nI (4 * jx + 1)).toNatClampNeg), .int (xs (nI (4 * jx + 2)).toNatClampNeg)]) (rest := []) ⟨hx, hb, hml, hown, htsL⟩ (c_X7_feature l G a n mf bd zN ub cs mu mn la fq rq r (xs (nI (4 * jx + 1)).toNatClampNeg) (xs (nI (4 * jx + 2)).toNatClampNeg) hpre.1) (cwV 2 htsL gL_law_X7_feature rfl rfl rfl ⟨rfl, hd_X7_feature⟩ ⟨(Nat.le_of_ble_eq_true rfl), (Nat.le_of_ble_eq_true rfl)⟩) hKK hP hD hS rfl rfl rfl hl.1 rfl (Nat.le_of_ble_eq_true rfl) dL_law_113 ⟨by show _ ≤ 3116; omega, by show _ ≤ 144707; omega⟩ (fun u => (cW_adr G a u.2).trans (cW_adr G a _).symm) (fun u1 H locs hp1 hP hD hS => ?_)
        have hP : va_P G.1 vwCl (cW G a u1.2 ++ (mW G bb (th, np, mp, cc, kn, sc, fc, so, lb, lq, wq, q) ++ [cJr cJ o f])) H := hP
        have hD : va_D (fun q : Nat => s.heap.size ≤ q) (cW G a u1.2 ++ (mW G bb (th, np, mp, cc, kn, sc, fc, so, lb, lq, wq, q) ++ [cJr cJ o f])) := hD
        refine lv_aload_n hx hb dL_law_116 rfl (lv_at hl 2 rfl) ?_
        refine lv_aload_n hx hb dL_law_117 rfl (lv_at hl 0 rfl) ?_
        refine lv_iload hx hb dL_law_118 (lv_at hl 4 rfl) ?_
        refine lv_iconst (v := 1) hx hb dL_law_120 (by decide) ?_
        refine lv_iadd hx hb dL_law_121 ?_
        refine stI (y := nI (4 * jx + 1)) (nI_addk 1) ?_
        refine va_sld hx hb hX hbl hbA hS (vp_in_nI (show 4 * jx + 1 < L by omega) (by omega)) dL_law_122 ?_
        refine lv_aload_n hx hb dL_law_123 rfl (lv_at hl 0 rfl) ?_
        refine lv_iload hx hb dL_law_124 (lv_at hl 4 rfl) ?_
        refine lv_iconst (v := 2) hx hb dL_law_126 (by decide) ?_
        refine lv_iadd hx hb dL_law_127 ?_
        refine stI (y := nI (4 * jx + 2)) (nI_addk 2) ?_
        refine va_sld hx hb hX hbl hbA hS (vp_in_nI (show 4 * jx + 2 < L by omega) (by omega)) dL_law_128 ?_
        refine cnLV (wl := cW G a u1.2) (wc := mW G bb (th, np, mp, cc, kn, sc, fc, so, lb, lq, wq, q)) (wr := [cJr cJ o f]) (ci := 10) (T0 := TX8) (N := 27) (As := [.int (xs (nI (4 * jx + 1)).toNatClampNeg), .int (xs (nI (4 * jx + 2)).toNatClampNeg)]) (rest := [.int u1.1]) ⟨hx, hb, hml, hown, htsL⟩ (c_X8_feature l G bb th np mp cc kn sc fc so lb lq wq q (xs (nI (4 * jx + 1)).toNatClampNeg) (xs (nI (4 * jx + 2)).toNatClampNeg) hpre.2.2.2.2.2.1) (cwV 2 htsL gL_law_X8_feature rfl rfl rfl ⟨rfl, hd_X8_feature⟩ ⟨(Nat.le_of_ble_eq_true rfl), (Nat.le_of_ble_eq_true rfl)⟩) hKK hP hD hS rfl rfl rfl hl.1 rfl (Nat.le_of_ble_eq_true rfl) dL_law_129 ⟨by show _ ≤ 3116; omega, by show _ ≤ 144707; omega⟩ (fun u => (mW_adr G bb u.2).trans (mW_adr G bb _).symm) (fun u2 H locs hp2 hP hD hS => ?_)
        have hP : va_P G.1 vwCl (cW G a u1.2 ++ (mW G bb u2.2 ++ [cJr cJ o f])) H := hP
        have hD : va_D (fun q : Nat => s.heap.size ≤ q) (cW G a u1.2 ++ (mW G bb u2.2 ++ [cJr cJ o f])) := hD
        have hq := hs_feature _ _ _ _ _ _ _ _ _ _ _ _ _ _ _ _ _ _ _ _ _ _ _ _ hS9 (xs (nI (4 * jx + 1)).toNatClampNeg) (xs (nI (4 * jx + 2)).toNatClampNeg) u1 u2 hp1 hp2
        refine lv_icmp_eq (tgt := 588) hx hb dL_law_132 (by decide) (fun cq => ?_) (fun cq => absurd hq.1 cq)
        refine lv_iinc (v := nI (4 * (jx + 1))) (lv' := [(4, .int (nI (4 * (jx + 1)))), (0, .ref b), (1, .ref (a 0)), (2, .ref (bb 0)), (3, .ref o)]) hx hb dL_law_588 hl (k := 4) rfl (nI_addk 4) (by decide) rfl (fun ls hl => ?_)
        refine lv_goto (tgt := 23) hx hb dL_law_591 (by decide) ?_
        refine W.widen (k := 43 + jx + 1) (n := 25917 + 6 * jx + 6) (Nat.le_succ _) (by omega) ?_
        exact ih (jx + 1) (by omega) (by omega) u1.2 u2.2 (hq.2) f H _ hP hD hS ls (lv_sub hl [1, 2, 3, 4, 0] rfl)
      by_cases hc1 : cx = 1
      · subst hc1
        refine lv_tableIn (off := 98) (tgt := 137) hx hb dL_law_39 (by decide) (by decide) rfl (by decide) ?_
        refine lv_aload_n hx hb dL_law_137 rfl (lv_at hl 1 rfl) ?_
        refine lv_aload_n hx hb dL_law_138 rfl (lv_at hl 0 rfl) ?_
        refine lv_iload hx hb dL_law_139 (lv_at hl 4 rfl) ?_
        refine lv_iconst (v := 1) hx hb dL_law_141 (by decide) ?_
        refine lv_iadd hx hb dL_law_142 ?_
        refine stI (y := nI (4 * jx + 1)) (nI_addk 1) ?_
        refine va_sld hx hb hX hbl hbA hS (vp_in_nI (show 4 * jx + 1 < L by omega) (by omega)) dL_law_143 ?_
        refine lv_aload_n hx hb dL_law_144 rfl (lv_at hl 0 rfl) ?_
        refine lv_iload hx hb dL_law_145 (lv_at hl 4 rfl) ?_
        refine lv_iconst (v := 2) hx hb dL_law_147 (by decide) ?_
        refine lv_iadd hx hb dL_law_148 ?_
        refine stI (y := nI (4 * jx + 2)) (nI_addk 2) ?_
        refine va_sld hx hb hX hbl hbA hS (vp_in_nI (show 4 * jx + 2 < L by omega) (by omega)) dL_law_149 ?_
        refine lv_aload_n hx hb dL_law_150 rfl (lv_at hl 0 rfl) ?_
        refine lv_iload hx hb dL_law_151 (lv_at hl 4 rfl) ?_
        refine lv_iconst (v := 3) hx hb dL_law_153 (by decide) ?_
        refine lv_iadd hx hb dL_law_154 ?_
        refine stI (y := nI (4 * jx + 3)) (nI_addk 3) ?_
        refine va_sld hx hb hX hbl hbA hS (vp_in_nI (show 4 * jx + 3 < L by omega) (by omega)) dL_law_155 ?_
        refine cnLV (wl := []) (wc := cW G a (n, mf, bd, zN, ub, cs, mu, mn, la, fq, rq, r)) (wr := mW G bb (th, np, mp, cc, kn, sc, fc, so, lb, lq, wq, q) ++ [cJr cJ o f]) (ci := 9) (T0 := TX7) (N := 7) (As := [.int (xs (nI (4 * jx + 1)).toNatClampNeg), .int (xs (nI (4 * jx + 2)).toNatClampNeg), .int (xs (nI (4 * jx + 3)).toNatClampNeg)]) (rest := []) ⟨hx, hb, hml, hown, htsL⟩ (c_X7_group l G a n mf bd zN ub cs mu mn la fq rq r (xs (nI (4 * jx + 1)).toNatClampNeg) (xs (nI (4 * jx + 2)).toNatClampNeg) (xs (nI (4 * jx + 3)).toNatClampNeg) hpre.1) (cwV 3 htsL gL_law_X7_group rfl rfl rfl ⟨rfl, hd_X7_group⟩ ⟨(Nat.le_of_ble_eq_true rfl), (Nat.le_of_ble_eq_true rfl)⟩) hKK hP hD hS rfl rfl rfl hl.1 rfl (Nat.le_of_ble_eq_true rfl) dL_law_156 ⟨by show _ ≤ 3116; omega, by show _ ≤ 144707; omega⟩ (fun u => (cW_adr G a u.2).trans (cW_adr G a _).symm) (fun u1 H locs hp1 hP hD hS => ?_)
        have hP : va_P G.1 vwCl (cW G a u1.2 ++ (mW G bb (th, np, mp, cc, kn, sc, fc, so, lb, lq, wq, q) ++ [cJr cJ o f])) H := hP
        have hD : va_D (fun q : Nat => s.heap.size ≤ q) (cW G a u1.2 ++ (mW G bb (th, np, mp, cc, kn, sc, fc, so, lb, lq, wq, q) ++ [cJr cJ o f])) := hD
        refine lv_aload_n hx hb dL_law_159 rfl (lv_at hl 2 rfl) ?_
        refine lv_aload_n hx hb dL_law_160 rfl (lv_at hl 0 rfl) ?_
        refine lv_iload hx hb dL_law_161 (lv_at hl 4 rfl) ?_
        refine lv_iconst (v := 1) hx hb dL_law_163 (by decide) ?_
        refine lv_iadd hx hb dL_law_164 ?_
        refine stI (y := nI (4 * jx + 1)) (nI_addk 1) ?_
        refine va_sld hx hb hX hbl hbA hS (vp_in_nI (show 4 * jx + 1 < L by omega) (by omega)) dL_law_165 ?_
        refine lv_aload_n hx hb dL_law_166 rfl (lv_at hl 0 rfl) ?_
        refine lv_iload hx hb dL_law_167 (lv_at hl 4 rfl) ?_
        refine lv_iconst (v := 2) hx hb dL_law_169 (by decide) ?_
        refine lv_iadd hx hb dL_law_170 ?_
        refine stI (y := nI (4 * jx + 2)) (nI_addk 2) ?_
        refine va_sld hx hb hX hbl hbA hS (vp_in_nI (show 4 * jx + 2 < L by omega) (by omega)) dL_law_171 ?_
        refine lv_aload_n hx hb dL_law_172 rfl (lv_at hl 0 rfl) ?_
        refine lv_iload hx hb dL_law_173 (lv_at hl 4 rfl) ?_
        refine lv_iconst (v := 3) hx hb dL_law_175 (by decide) ?_
        refine lv_iadd hx hb dL_law_176 ?_
        refine stI (y := nI (4 * jx + 3)) (nI_addk 3) ?_
        refine va_sld hx hb hX hbl hbA hS (vp_in_nI (show 4 * jx + 3 < L by omega) (by omega)) dL_law_177 ?_
        refine cnLV (wl := cW G a u1.2) (wc := mW G bb (th, np, mp, cc, kn, sc, fc, so, lb, lq, wq, q)) (wr := [cJr cJ o f]) (ci := 10) (T0 := TX8) (N := 27) (As := [.int (xs (nI (4 * jx + 1)).toNatClampNeg), .int (xs (nI (4 * jx + 2)).toNatClampNeg), .int (xs (nI (4 * jx + 3)).toNatClampNeg)]) (rest := [.int u1.1]) ⟨hx, hb, hml, hown, htsL⟩ (c_X8_group l G bb th np mp cc kn sc fc so lb lq wq q (xs (nI (4 * jx + 1)).toNatClampNeg) (xs (nI (4 * jx + 2)).toNatClampNeg) (xs (nI (4 * jx + 3)).toNatClampNeg) hpre.2.2.2.2.2.1) (cwV 3 htsL gL_law_X8_group rfl rfl rfl ⟨rfl, hd_X8_group⟩ ⟨(Nat.le_of_ble_eq_true rfl), (Nat.le_of_ble_eq_true rfl)⟩) hKK hP hD hS rfl rfl rfl hl.1 rfl (Nat.le_of_ble_eq_true rfl) dL_law_178 ⟨by show _ ≤ 3116; omega, by show _ ≤ 144707; omega⟩ (fun u => (mW_adr G bb u.2).trans (mW_adr G bb _).symm) (fun u2 H locs hp2 hP hD hS => ?_)
        have hP : va_P G.1 vwCl (cW G a u1.2 ++ (mW G bb u2.2 ++ [cJr cJ o f])) H := hP
        have hD : va_D (fun q : Nat => s.heap.size ≤ q) (cW G a u1.2 ++ (mW G bb u2.2 ++ [cJr cJ o f])) := hD
        have hq := hs_group _ _ _ _ _ _ _ _ _ _ _ _ _ _ _ _ _ _ _ _ _ _ _ _ hS9 (xs (nI (4 * jx + 1)).toNatClampNeg) (xs (nI (4 * jx + 2)).toNatClampNeg) (xs (nI (4 * jx + 3)).toNatClampNeg) u1 u2 hp1 hp2
        refine lv_icmp_eq (tgt := 588) hx hb dL_law_181 (by decide) (fun cq => ?_) (fun cq => absurd hq.1 cq)
        refine lv_iinc (v := nI (4 * (jx + 1))) (lv' := [(4, .int (nI (4 * (jx + 1)))), (0, .ref b), (1, .ref (a 0)), (2, .ref (bb 0)), (3, .ref o)]) hx hb dL_law_588 hl (k := 4) rfl (nI_addk 4) (by decide) rfl (fun ls hl => ?_)
        refine lv_goto (tgt := 23) hx hb dL_law_591 (by decide) ?_
        refine W.widen (k := 43 + jx + 1) (n := 25917 + 6 * jx + 6) (Nat.le_succ _) (by omega) ?_
        exact ih (jx + 1) (by omega) (by omega) u1.2 u2.2 (hq.2) f H _ hP hD hS ls (lv_sub hl [1, 2, 3, 4, 0] rfl)
      by_cases hc2 : cx = 2
      · subst hc2
        refine lv_tableIn (off := 147) (tgt := 186) hx hb dL_law_39 (by decide) (by decide) rfl (by decide) ?_
        refine lv_aload_n hx hb dL_law_186 rfl (lv_at hl 1 rfl) ?_
        refine lv_aload_n hx hb dL_law_187 rfl (lv_at hl 0 rfl) ?_
        refine lv_iload hx hb dL_law_188 (lv_at hl 4 rfl) ?_
        refine lv_iconst (v := 1) hx hb dL_law_190 (by decide) ?_
        refine lv_iadd hx hb dL_law_191 ?_
        refine stI (y := nI (4 * jx + 1)) (nI_addk 1) ?_
        refine va_sld hx hb hX hbl hbA hS (vp_in_nI (show 4 * jx + 1 < L by omega) (by omega)) dL_law_192 ?_
        refine lv_aload_n hx hb dL_law_193 rfl (lv_at hl 0 rfl) ?_
        refine lv_iload hx hb dL_law_194 (lv_at hl 4 rfl) ?_
        refine lv_iconst (v := 2) hx hb dL_law_196 (by decide) ?_
        refine lv_iadd hx hb dL_law_197 ?_
        refine stI (y := nI (4 * jx + 2)) (nI_addk 2) ?_
        refine va_sld hx hb hX hbl hbA hS (vp_in_nI (show 4 * jx + 2 < L by omega) (by omega)) dL_law_198 ?_
        refine lv_aload_n hx hb dL_law_199 rfl (lv_at hl 0 rfl) ?_
        refine lv_iload hx hb dL_law_200 (lv_at hl 4 rfl) ?_
        refine lv_iconst (v := 3) hx hb dL_law_202 (by decide) ?_
        refine lv_iadd hx hb dL_law_203 ?_
        refine stI (y := nI (4 * jx + 3)) (nI_addk 3) ?_
        refine va_sld hx hb hX hbl hbA hS (vp_in_nI (show 4 * jx + 3 < L by omega) (by omega)) dL_law_204 ?_
        refine cnLV (wl := []) (wc := cW G a (n, mf, bd, zN, ub, cs, mu, mn, la, fq, rq, r)) (wr := mW G bb (th, np, mp, cc, kn, sc, fc, so, lb, lq, wq, q) ++ [cJr cJ o f]) (ci := 9) (T0 := TX7) (N := 7) (As := [.int (xs (nI (4 * jx + 1)).toNatClampNeg), .int (xs (nI (4 * jx + 2)).toNatClampNeg), .int (xs (nI (4 * jx + 3)).toNatClampNeg)]) (rest := []) ⟨hx, hb, hml, hown, htsL⟩ (c_X7_formula l G a n mf bd zN ub cs mu mn la fq rq r (xs (nI (4 * jx + 1)).toNatClampNeg) (xs (nI (4 * jx + 2)).toNatClampNeg) (xs (nI (4 * jx + 3)).toNatClampNeg) hpre.1 hpre.2.1) (cwV 3 htsL gL_law_X7_formula rfl rfl rfl ⟨rfl, hd_X7_formula⟩ ⟨(Nat.le_of_ble_eq_true rfl), (Nat.le_of_ble_eq_true rfl)⟩) hKK hP hD hS rfl rfl rfl hl.1 rfl (Nat.le_of_ble_eq_true rfl) dL_law_205 ⟨by show _ ≤ 3116; omega, by show _ ≤ 144707; omega⟩ (fun u => (cW_adr G a u.2).trans (cW_adr G a _).symm) (fun u1 H locs hp1 hP hD hS => ?_)
        have hP : va_P G.1 vwCl (cW G a u1.2 ++ (mW G bb (th, np, mp, cc, kn, sc, fc, so, lb, lq, wq, q) ++ [cJr cJ o f])) H := hP
        have hD : va_D (fun q : Nat => s.heap.size ≤ q) (cW G a u1.2 ++ (mW G bb (th, np, mp, cc, kn, sc, fc, so, lb, lq, wq, q) ++ [cJr cJ o f])) := hD
        refine lv_aload_n hx hb dL_law_208 rfl (lv_at hl 2 rfl) ?_
        refine lv_aload_n hx hb dL_law_209 rfl (lv_at hl 0 rfl) ?_
        refine lv_iload hx hb dL_law_210 (lv_at hl 4 rfl) ?_
        refine lv_iconst (v := 1) hx hb dL_law_212 (by decide) ?_
        refine lv_iadd hx hb dL_law_213 ?_
        refine stI (y := nI (4 * jx + 1)) (nI_addk 1) ?_
        refine va_sld hx hb hX hbl hbA hS (vp_in_nI (show 4 * jx + 1 < L by omega) (by omega)) dL_law_214 ?_
        refine lv_aload_n hx hb dL_law_215 rfl (lv_at hl 0 rfl) ?_
        refine lv_iload hx hb dL_law_216 (lv_at hl 4 rfl) ?_
        refine lv_iconst (v := 2) hx hb dL_law_218 (by decide) ?_
        refine lv_iadd hx hb dL_law_219 ?_
        refine stI (y := nI (4 * jx + 2)) (nI_addk 2) ?_
        refine va_sld hx hb hX hbl hbA hS (vp_in_nI (show 4 * jx + 2 < L by omega) (by omega)) dL_law_220 ?_
        refine lv_aload_n hx hb dL_law_221 rfl (lv_at hl 0 rfl) ?_
        refine lv_iload hx hb dL_law_222 (lv_at hl 4 rfl) ?_
        refine lv_iconst (v := 3) hx hb dL_law_224 (by decide) ?_
        refine lv_iadd hx hb dL_law_225 ?_
        refine stI (y := nI (4 * jx + 3)) (nI_addk 3) ?_
        refine va_sld hx hb hX hbl hbA hS (vp_in_nI (show 4 * jx + 3 < L by omega) (by omega)) dL_law_226 ?_
        refine cnLV (wl := cW G a u1.2) (wc := mW G bb (th, np, mp, cc, kn, sc, fc, so, lb, lq, wq, q)) (wr := [cJr cJ o f]) (ci := 10) (T0 := TX8) (N := 27) (As := [.int (xs (nI (4 * jx + 1)).toNatClampNeg), .int (xs (nI (4 * jx + 2)).toNatClampNeg), .int (xs (nI (4 * jx + 3)).toNatClampNeg)]) (rest := [.int u1.1]) ⟨hx, hb, hml, hown, htsL⟩ (c_X8_formula l G bb th np mp cc kn sc fc so lb lq wq q (xs (nI (4 * jx + 1)).toNatClampNeg) (xs (nI (4 * jx + 2)).toNatClampNeg) (xs (nI (4 * jx + 3)).toNatClampNeg) hpre.2.2.2.2.2.1 hpre.2.2.2.2.2.2.1) (cwV 3 htsL gL_law_X8_formula rfl rfl rfl ⟨rfl, hd_X8_formula⟩ ⟨(Nat.le_of_ble_eq_true rfl), (Nat.le_of_ble_eq_true rfl)⟩) hKK hP hD hS rfl rfl rfl hl.1 rfl (Nat.le_of_ble_eq_true rfl) dL_law_227 ⟨by show _ ≤ 3116; omega, by show _ ≤ 144707; omega⟩ (fun u => (mW_adr G bb u.2).trans (mW_adr G bb _).symm) (fun u2 H locs hp2 hP hD hS => ?_)
        have hP : va_P G.1 vwCl (cW G a u1.2 ++ (mW G bb u2.2 ++ [cJr cJ o f])) H := hP
        have hD : va_D (fun q : Nat => s.heap.size ≤ q) (cW G a u1.2 ++ (mW G bb u2.2 ++ [cJr cJ o f])) := hD
        have hq := hs_formula _ _ _ _ _ _ _ _ _ _ _ _ _ _ _ _ _ _ _ _ _ _ _ _ hS9 (xs (nI (4 * jx + 1)).toNatClampNeg) (xs (nI (4 * jx + 2)).toNatClampNeg) (xs (nI (4 * jx + 3)).toNatClampNeg) u1 u2 hp1 hp2
        refine lv_icmp_eq (tgt := 588) hx hb dL_law_230 (by decide) (fun cq => ?_) (fun cq => absurd hq.1 cq)
        refine lv_iinc (v := nI (4 * (jx + 1))) (lv' := [(4, .int (nI (4 * (jx + 1)))), (0, .ref b), (1, .ref (a 0)), (2, .ref (bb 0)), (3, .ref o)]) hx hb dL_law_588 hl (k := 4) rfl (nI_addk 4) (by decide) rfl (fun ls hl => ?_)
        refine lv_goto (tgt := 23) hx hb dL_law_591 (by decide) ?_
        refine W.widen (k := 43 + jx + 1) (n := 25917 + 6 * jx + 6) (Nat.le_succ _) (by omega) ?_
        exact ih (jx + 1) (by omega) (by omega) u1.2 u2.2 (hq.2) f H _ hP hD hS ls (lv_sub hl [1, 2, 3, 4, 0] rfl)
      by_cases hc3 : cx = 3
      · subst hc3
        refine lv_tableIn (off := 196) (tgt := 235) hx hb dL_law_39 (by decide) (by decide) rfl (by decide) ?_
        refine lv_aload_n hx hb dL_law_235 rfl (lv_at hl 1 rfl) ?_
        refine lv_aload_n hx hb dL_law_236 rfl (lv_at hl 0 rfl) ?_
        refine lv_iload hx hb dL_law_237 (lv_at hl 4 rfl) ?_
        refine lv_iconst (v := 1) hx hb dL_law_239 (by decide) ?_
        refine lv_iadd hx hb dL_law_240 ?_
        refine stI (y := nI (4 * jx + 1)) (nI_addk 1) ?_
        refine va_sld hx hb hX hbl hbA hS (vp_in_nI (show 4 * jx + 1 < L by omega) (by omega)) dL_law_241 ?_
        refine lv_aload_n hx hb dL_law_242 rfl (lv_at hl 0 rfl) ?_
        refine lv_iload hx hb dL_law_243 (lv_at hl 4 rfl) ?_
        refine lv_iconst (v := 2) hx hb dL_law_245 (by decide) ?_
        refine lv_iadd hx hb dL_law_246 ?_
        refine stI (y := nI (4 * jx + 2)) (nI_addk 2) ?_
        refine va_sld hx hb hX hbl hbA hS (vp_in_nI (show 4 * jx + 2 < L by omega) (by omega)) dL_law_247 ?_
        refine lv_aload_n hx hb dL_law_248 rfl (lv_at hl 0 rfl) ?_
        refine lv_iload hx hb dL_law_249 (lv_at hl 4 rfl) ?_
        refine lv_iconst (v := 3) hx hb dL_law_251 (by decide) ?_
        refine lv_iadd hx hb dL_law_252 ?_
        refine stI (y := nI (4 * jx + 3)) (nI_addk 3) ?_
        refine va_sld hx hb hX hbl hbA hS (vp_in_nI (show 4 * jx + 3 < L by omega) (by omega)) dL_law_253 ?_
        refine cnLV (wl := []) (wc := cW G a (n, mf, bd, zN, ub, cs, mu, mn, la, fq, rq, r)) (wr := mW G bb (th, np, mp, cc, kn, sc, fc, so, lb, lq, wq, q) ++ [cJr cJ o f]) (ci := 9) (T0 := TX7) (N := 7) (As := [.int (xs (nI (4 * jx + 1)).toNatClampNeg), .int (xs (nI (4 * jx + 2)).toNatClampNeg), .int (xs (nI (4 * jx + 3)).toNatClampNeg)]) (rest := []) ⟨hx, hb, hml, hown, htsL⟩ (c_X7_attribute l G a n mf bd zN ub cs mu mn la fq rq r (xs (nI (4 * jx + 1)).toNatClampNeg) (xs (nI (4 * jx + 2)).toNatClampNeg) (xs (nI (4 * jx + 3)).toNatClampNeg) hpre.1) (cwV 3 htsL gL_law_X7_attribute rfl rfl rfl ⟨rfl, hd_X7_attribute⟩ ⟨(Nat.le_of_ble_eq_true rfl), (Nat.le_of_ble_eq_true rfl)⟩) hKK hP hD hS rfl rfl rfl hl.1 rfl (Nat.le_of_ble_eq_true rfl) dL_law_254 ⟨by show _ ≤ 3116; omega, by show _ ≤ 144707; omega⟩ (fun u => (cW_adr G a u.2).trans (cW_adr G a _).symm) (fun u1 H locs hp1 hP hD hS => ?_)
        have hP : va_P G.1 vwCl (cW G a u1.2 ++ (mW G bb (th, np, mp, cc, kn, sc, fc, so, lb, lq, wq, q) ++ [cJr cJ o f])) H := hP
        have hD : va_D (fun q : Nat => s.heap.size ≤ q) (cW G a u1.2 ++ (mW G bb (th, np, mp, cc, kn, sc, fc, so, lb, lq, wq, q) ++ [cJr cJ o f])) := hD
        refine lv_aload_n hx hb dL_law_257 rfl (lv_at hl 2 rfl) ?_
        refine lv_aload_n hx hb dL_law_258 rfl (lv_at hl 0 rfl) ?_
        refine lv_iload hx hb dL_law_259 (lv_at hl 4 rfl) ?_
        refine lv_iconst (v := 1) hx hb dL_law_261 (by decide) ?_
        refine lv_iadd hx hb dL_law_262 ?_
        refine stI (y := nI (4 * jx + 1)) (nI_addk 1) ?_
        refine va_sld hx hb hX hbl hbA hS (vp_in_nI (show 4 * jx + 1 < L by omega) (by omega)) dL_law_263 ?_
        refine lv_aload_n hx hb dL_law_264 rfl (lv_at hl 0 rfl) ?_
        refine lv_iload hx hb dL_law_265 (lv_at hl 4 rfl) ?_
        refine lv_iconst (v := 2) hx hb dL_law_267 (by decide) ?_
        refine lv_iadd hx hb dL_law_268 ?_
        refine stI (y := nI (4 * jx + 2)) (nI_addk 2) ?_
        refine va_sld hx hb hX hbl hbA hS (vp_in_nI (show 4 * jx + 2 < L by omega) (by omega)) dL_law_269 ?_
        refine lv_aload_n hx hb dL_law_270 rfl (lv_at hl 0 rfl) ?_
        refine lv_iload hx hb dL_law_271 (lv_at hl 4 rfl) ?_
        refine lv_iconst (v := 3) hx hb dL_law_273 (by decide) ?_
        refine lv_iadd hx hb dL_law_274 ?_
        refine stI (y := nI (4 * jx + 3)) (nI_addk 3) ?_
        refine va_sld hx hb hX hbl hbA hS (vp_in_nI (show 4 * jx + 3 < L by omega) (by omega)) dL_law_275 ?_
        refine cnLV (wl := cW G a u1.2) (wc := mW G bb (th, np, mp, cc, kn, sc, fc, so, lb, lq, wq, q)) (wr := [cJr cJ o f]) (ci := 10) (T0 := TX8) (N := 27) (As := [.int (xs (nI (4 * jx + 1)).toNatClampNeg), .int (xs (nI (4 * jx + 2)).toNatClampNeg), .int (xs (nI (4 * jx + 3)).toNatClampNeg)]) (rest := [.int u1.1]) ⟨hx, hb, hml, hown, htsL⟩ (c_X8_attribute l G bb th np mp cc kn sc fc so lb lq wq q (xs (nI (4 * jx + 1)).toNatClampNeg) (xs (nI (4 * jx + 2)).toNatClampNeg) (xs (nI (4 * jx + 3)).toNatClampNeg) hpre.2.2.2.2.2.1) (cwV 3 htsL gL_law_X8_attribute rfl rfl rfl ⟨rfl, hd_X8_attribute⟩ ⟨(Nat.le_of_ble_eq_true rfl), (Nat.le_of_ble_eq_true rfl)⟩) hKK hP hD hS rfl rfl rfl hl.1 rfl (Nat.le_of_ble_eq_true rfl) dL_law_276 ⟨by show _ ≤ 3116; omega, by show _ ≤ 144707; omega⟩ (fun u => (mW_adr G bb u.2).trans (mW_adr G bb _).symm) (fun u2 H locs hp2 hP hD hS => ?_)
        have hP : va_P G.1 vwCl (cW G a u1.2 ++ (mW G bb u2.2 ++ [cJr cJ o f])) H := hP
        have hD : va_D (fun q : Nat => s.heap.size ≤ q) (cW G a u1.2 ++ (mW G bb u2.2 ++ [cJr cJ o f])) := hD
        have hq := hs_attrib _ _ _ _ _ _ _ _ _ _ _ _ _ _ _ _ _ _ _ _ _ _ _ _ hS9 (xs (nI (4 * jx + 1)).toNatClampNeg) (xs (nI (4 * jx + 2)).toNatClampNeg) (xs (nI (4 * jx + 3)).toNatClampNeg) u1 u2 hp1 hp2
        refine lv_icmp_eq (tgt := 588) hx hb dL_law_279 (by decide) (fun cq => ?_) (fun cq => absurd hq.1 cq)
        refine lv_iinc (v := nI (4 * (jx + 1))) (lv' := [(4, .int (nI (4 * (jx + 1)))), (0, .ref b), (1, .ref (a 0)), (2, .ref (bb 0)), (3, .ref o)]) hx hb dL_law_588 hl (k := 4) rfl (nI_addk 4) (by decide) rfl (fun ls hl => ?_)
        refine lv_goto (tgt := 23) hx hb dL_law_591 (by decide) ?_
        refine W.widen (k := 43 + jx + 1) (n := 25917 + 6 * jx + 6) (Nat.le_succ _) (by omega) ?_
        exact ih (jx + 1) (by omega) (by omega) u1.2 u2.2 (hq.2) f H _ hP hD hS ls (lv_sub hl [1, 2, 3, 4, 0] rfl)
      by_cases hc4 : cx = 4
      · subst hc4
        refine lv_tableIn (off := 245) (tgt := 284) hx hb dL_law_39 (by decide) (by decide) rfl (by decide) ?_
        subst hcs0 hcc0
        refine lv_aload_n hx hb dL_law_284 rfl (lv_at hl 1 rfl) ?_
        refine lv_aload_n hx hb dL_law_285 rfl (lv_at hl 0 rfl) ?_
        refine lv_iload hx hb dL_law_286 (lv_at hl 4 rfl) ?_
        refine lv_iconst (v := 1) hx hb dL_law_288 (by decide) ?_
        refine lv_iadd hx hb dL_law_289 ?_
        refine stI (y := nI (4 * jx + 1)) (nI_addk 1) ?_
        refine va_sld hx hb hX hbl hbA hS (vp_in_nI (show 4 * jx + 1 < L by omega) (by omega)) dL_law_290 ?_
        refine lv_aload_n hx hb dL_law_291 rfl (lv_at hl 0 rfl) ?_
        refine lv_iload hx hb dL_law_292 (lv_at hl 4 rfl) ?_
        refine lv_iconst (v := 2) hx hb dL_law_294 (by decide) ?_
        refine lv_iadd hx hb dL_law_295 ?_
        refine stI (y := nI (4 * jx + 2)) (nI_addk 2) ?_
        refine va_sld hx hb hX hbl hbA hS (vp_in_nI (show 4 * jx + 2 < L by omega) (by omega)) dL_law_296 ?_
        refine cutJ (nL := 7) (lv := [(0, .ref b), (1, .ref (a 0)), (2, .ref (bb 0)), (3, .ref o), (4, .int (nI (4 * jx)))]) (pc' := 305) (st' := [.int (bI (decide (¬ (xs (nI (4 * jx + 2)).toNatClampNeg) = 0))), .int (xs (nI (4 * jx + 1)).toNatClampNeg), .ref (a 0)]) (fun ls hl => ?_) (fun hJ => ?_)
        rotate_left
        · refine lv_if_eq (tgt := 304) hx hb dL_law_297 (by decide) (fun cz => ?_) (fun cz => ?_)
          · refine lv_iconst (v := 0) hx hb dL_law_304 (by decide) ?_
            refine stI (y := bI (decide (¬ (xs (nI (4 * jx + 2)).toNatClampNeg) = 0))) (bI_no _ decide_eq_true_iff (fun z => z cz)) ?_
            exact hJ ls (lv_sub hl [0, 1, 2, 3, 4] rfl)
          · refine lv_iconst (v := 1) hx hb dL_law_300 (by decide) ?_
            refine lv_goto (tgt := 305) hx hb dL_law_301 (by decide) ?_
            refine stI (y := bI (decide (¬ (xs (nI (4 * jx + 2)).toNatClampNeg) = 0))) (bI_of _ decide_eq_true_iff cz) ?_
            exact hJ ls (lv_sub hl [0, 1, 2, 3, 4] rfl)
        refine cnLV (wl := []) (wc := cW G a (n, mf, bd, zN, ub, L0.length, mu, mn, la, fq, rq, r)) (wr := mW G bb (th, np, mp, L0.length, kn, sc, fc, so, lb, lq, wq, q) ++ [cJr cJ o f]) (ci := 9) (T0 := TX7) (N := 7) (As := [.int (xs (nI (4 * jx + 1)).toNatClampNeg), .int (bI (decide (¬ (xs (nI (4 * jx + 2)).toNatClampNeg) = 0)))]) (rest := []) ⟨hx, hb, hml, hown, htsL⟩ (c_X7_choose l G a n mf bd zN ub L0 mu mn la fq rq r (xs (nI (4 * jx + 1)).toNatClampNeg) (decide (¬ (xs (nI (4 * jx + 2)).toNatClampNeg) = 0)) hL0 hr1 (hcap1 _)) (cwV 2 htsL gL_law_X7_choose rfl rfl rfl ⟨rfl, hd_X7_choose⟩ ⟨(Nat.le_of_ble_eq_true rfl), (Nat.le_of_ble_eq_true rfl)⟩) hKK hP hD hS rfl rfl rfl hl.1 rfl (Nat.le_of_ble_eq_true rfl) dL_law_305 ⟨by show _ ≤ 3116; omega, by show _ ≤ 144707; omega⟩ (fun u => (cW_adr G a u.2).trans (cW_adr G a _).symm) (fun u1 H locs hp1 hP hD hS => ?_)
        have hP : va_P G.1 vwCl (cW G a u1.2 ++ (mW G bb (th, np, mp, L0.length, kn, sc, fc, so, lb, lq, wq, q) ++ [cJr cJ o f])) H := hP
        have hD : va_D (fun q : Nat => s.heap.size ≤ q) (cW G a u1.2 ++ (mW G bb (th, np, mp, L0.length, kn, sc, fc, so, lb, lq, wq, q) ++ [cJr cJ o f])) := hD
        refine lv_aload_n hx hb dL_law_308 rfl (lv_at hl 2 rfl) ?_
        refine lv_aload_n hx hb dL_law_309 rfl (lv_at hl 0 rfl) ?_
        refine lv_iload hx hb dL_law_310 (lv_at hl 4 rfl) ?_
        refine lv_iconst (v := 1) hx hb dL_law_312 (by decide) ?_
        refine lv_iadd hx hb dL_law_313 ?_
        refine stI (y := nI (4 * jx + 1)) (nI_addk 1) ?_
        refine va_sld hx hb hX hbl hbA hS (vp_in_nI (show 4 * jx + 1 < L by omega) (by omega)) dL_law_314 ?_
        refine lv_aload_n hx hb dL_law_315 rfl (lv_at hl 0 rfl) ?_
        refine lv_iload hx hb dL_law_316 (lv_at hl 4 rfl) ?_
        refine lv_iconst (v := 2) hx hb dL_law_318 (by decide) ?_
        refine lv_iadd hx hb dL_law_319 ?_
        refine stI (y := nI (4 * jx + 2)) (nI_addk 2) ?_
        refine va_sld hx hb hX hbl hbA hS (vp_in_nI (show 4 * jx + 2 < L by omega) (by omega)) dL_law_320 ?_
        refine cutJ (nL := 7) (lv := [(0, .ref b), (1, .ref (a 0)), (2, .ref (bb 0)), (3, .ref o), (4, .int (nI (4 * jx)))]) (pc' := 329) (st' := [.int (bI (decide (¬ (xs (nI (4 * jx + 2)).toNatClampNeg) = 0))), .int (xs (nI (4 * jx + 1)).toNatClampNeg), .ref (bb 0), .int u1.1]) (fun ls hl => ?_) (fun hJ => ?_)
        rotate_left
        · refine lv_if_eq (tgt := 328) hx hb dL_law_321 (by decide) (fun cz => ?_) (fun cz => ?_)
          · refine lv_iconst (v := 0) hx hb dL_law_328 (by decide) ?_
            refine stI (y := bI (decide (¬ (xs (nI (4 * jx + 2)).toNatClampNeg) = 0))) (bI_no _ decide_eq_true_iff (fun z => z cz)) ?_
            exact hJ ls (lv_sub hl [0, 1, 2, 3, 4] rfl)
          · refine lv_iconst (v := 1) hx hb dL_law_324 (by decide) ?_
            refine lv_goto (tgt := 329) hx hb dL_law_325 (by decide) ?_
            refine stI (y := bI (decide (¬ (xs (nI (4 * jx + 2)).toNatClampNeg) = 0))) (bI_of _ decide_eq_true_iff cz) ?_
            exact hJ ls (lv_sub hl [0, 1, 2, 3, 4] rfl)
        refine cnLV (wl := cW G a u1.2) (wc := mW G bb (th, np, mp, L0.length, kn, sc, fc, so, lb, lq, wq, q)) (wr := [cJr cJ o f]) (ci := 10) (T0 := TX8) (N := 27) (As := [.int (xs (nI (4 * jx + 1)).toNatClampNeg), .int (bI (decide (¬ (xs (nI (4 * jx + 2)).toNatClampNeg) = 0)))]) (rest := [.int u1.1]) ⟨hx, hb, hml, hown, htsL⟩ (c_X8_choose l G bb th np mp L0 kn sc fc so lb lq wq q (xs (nI (4 * jx + 1)).toNatClampNeg) (decide (¬ (xs (nI (4 * jx + 2)).toNatClampNeg) = 0)) hpre.2.2.2.2.2.1 hL0 hr2 hcap2) (cwV 2 htsL gL_law_X8_choose rfl rfl rfl ⟨rfl, hd_X8_choose⟩ ⟨(Nat.le_of_ble_eq_true rfl), (Nat.le_of_ble_eq_true rfl)⟩) hKK hP hD hS rfl rfl rfl hl.1 rfl (Nat.le_of_ble_eq_true rfl) dL_law_329 ⟨by show _ ≤ 3116; omega, by show _ ≤ 144707; omega⟩ (fun u => (mW_adr G bb u.2).trans (mW_adr G bb _).symm) (fun u2 H locs hp2 hP hD hS => ?_)
        have hP : va_P G.1 vwCl (cW G a u1.2 ++ (mW G bb u2.2 ++ [cJr cJ o f])) H := hP
        have hD : va_D (fun q : Nat => s.heap.size ≤ q) (cW G a u1.2 ++ (mW G bb u2.2 ++ [cJr cJ o f])) := hD
        have hq := hs_choose _ _ _ _ _ _ _ _ _ _ _ _ _ _ _ _ _ _ _ _ _ _ _ _ L0 rfl rfl hr1 hr2 hS9 (xs (nI (4 * jx + 1)).toNatClampNeg) (decide (¬ (xs (nI (4 * jx + 2)).toNatClampNeg) = 0)) u1 u2 hp1 hp2
        refine lv_icmp_eq (tgt := 588) hx hb dL_law_332 (by decide) (fun cq => ?_) (fun cq => absurd hq.1 cq)
        refine lv_iinc (v := nI (4 * (jx + 1))) (lv' := [(4, .int (nI (4 * (jx + 1)))), (0, .ref b), (1, .ref (a 0)), (2, .ref (bb 0)), (3, .ref o)]) hx hb dL_law_588 hl (k := 4) rfl (nI_addk 4) (by decide) rfl (fun ls hl => ?_)
        refine lv_goto (tgt := 23) hx hb dL_law_591 (by decide) ?_
        refine W.widen (k := 43 + jx + 1) (n := 25917 + 6 * jx + 6) (Nat.le_succ _) (by omega) ?_
        exact ih (jx + 1) (by omega) (by omega) u1.2 u2.2 (hq.2) f H _ hP hD hS ls (lv_sub hl [1, 2, 3, 4, 0] rfl)
      by_cases hc5 : cx = 5
      · subst hc5
        refine lv_tableIn (off := 298) (tgt := 337) hx hb dL_law_39 (by decide) (by decide) rfl (by decide) ?_
        refine lv_aload_n hx hb dL_law_337 rfl (lv_at hl 1 rfl) ?_
        refine cnLV (wl := []) (wc := cW G a (n, mf, bd, zN, ub, cs, mu, mn, la, fq, rq, r)) (wr := mW G bb (th, np, mp, cc, kn, sc, fc, so, lb, lq, wq, q) ++ [cJr cJ o f]) (ci := 9) (T0 := TX7) (N := 7) (As := []) (rest := []) ⟨hx, hb, hml, hown, htsL⟩ (c_X7_solve l G a n mf bd zN ub cs mu mn la fq rq r  hcs hpre.2.2.2.1 hpre.2.2.1) (cwV 0 htsL gL_law_X7_solve rfl rfl rfl ⟨rfl, hd_X7_solve⟩ ⟨(Nat.le_of_ble_eq_true rfl), (Nat.le_of_ble_eq_true rfl)⟩) hKK hP hD hS rfl rfl rfl hl.1 rfl (Nat.le_of_ble_eq_true rfl) dL_law_338 ⟨by show _ ≤ 3116; omega, by show _ ≤ 144707; omega⟩ (fun u => (cW_adr G a u.2).trans (cW_adr G a _).symm) (fun u1 H locs hp1 hP hD hS => ?_)
        have hP : va_P G.1 vwCl (cW G a u1.2 ++ (mW G bb (th, np, mp, cc, kn, sc, fc, so, lb, lq, wq, q) ++ [cJr cJ o f])) H := hP
        have hD : va_D (fun q : Nat => s.heap.size ≤ q) (cW G a u1.2 ++ (mW G bb (th, np, mp, cc, kn, sc, fc, so, lb, lq, wq, q) ++ [cJr cJ o f])) := hD
        refine lv_aload_n hx hb dL_law_341 rfl (lv_at hl 2 rfl) ?_
        refine cnLV (wl := cW G a u1.2) (wc := mW G bb (th, np, mp, cc, kn, sc, fc, so, lb, lq, wq, q)) (wr := [cJr cJ o f]) (ci := 10) (T0 := TX8) (N := 27) (As := []) (rest := [.int u1.1]) ⟨hx, hb, hml, hown, htsL⟩ (c_X8_solve l G bb th np mp cc kn sc fc so lb lq wq q  hcc hpre.2.2.2.2.2.2.2.2.1 hpre.2.2.2.2.2.2.2.1) (cwV 0 htsL gL_law_X8_solve rfl rfl rfl ⟨rfl, hd_X8_solve⟩ ⟨(Nat.le_of_ble_eq_true rfl), (Nat.le_of_ble_eq_true rfl)⟩) hKK hP hD hS rfl rfl rfl hl.1 rfl (Nat.le_of_ble_eq_true rfl) dL_law_342 ⟨by show _ ≤ 3116; omega, by show _ ≤ 144707; omega⟩ (fun u => (mW_adr G bb u.2).trans (mW_adr G bb _).symm) (fun u2 H locs hp2 hP hD hS => ?_)
        have hP : va_P G.1 vwCl (cW G a u1.2 ++ (mW G bb u2.2 ++ [cJr cJ o f])) H := hP
        have hD : va_D (fun q : Nat => s.heap.size ≤ q) (cW G a u1.2 ++ (mW G bb u2.2 ++ [cJr cJ o f])) := hD
        have hq := hs_solve _ _ _ _ _ _ _ _ _ _ _ _ _ _ _ _ _ _ _ _ _ _ _ _ hS9  u1 u2 hp1 hp2
        refine lv_icmp_eq (tgt := 588) hx hb dL_law_345 (by decide) (fun cq => ?_) (fun cq => absurd hq.1 cq)
        refine lv_iinc (v := nI (4 * (jx + 1))) (lv' := [(4, .int (nI (4 * (jx + 1)))), (0, .ref b), (1, .ref (a 0)), (2, .ref (bb 0)), (3, .ref o)]) hx hb dL_law_588 hl (k := 4) rfl (nI_addk 4) (by decide) rfl (fun ls hl => ?_)
        refine lv_goto (tgt := 23) hx hb dL_law_591 (by decide) ?_
        refine W.widen (k := 43 + jx + 1) (n := 25917 + 6 * jx + 6) (Nat.le_succ _) (by omega) ?_
        exact ih (jx + 1) (by omega) (by omega) u1.2 u2.2 (hq.2) f H _ hP hD hS ls (lv_sub hl [1, 2, 3, 4, 0] rfl)
      by_cases hc6 : cx = 6
      · subst hc6
        refine lv_tableIn (off := 311) (tgt := 350) hx hb dL_law_39 (by decide) (by decide) rfl (by decide) ?_
        refine lv_aload_n hx hb dL_law_350 rfl (lv_at hl 1 rfl) ?_
        refine lv_aload_n hx hb dL_law_351 rfl (lv_at hl 0 rfl) ?_
        refine lv_iload hx hb dL_law_352 (lv_at hl 4 rfl) ?_
        refine lv_iconst (v := 1) hx hb dL_law_354 (by decide) ?_
        refine lv_iadd hx hb dL_law_355 ?_
        refine stI (y := nI (4 * jx + 1)) (nI_addk 1) ?_
        refine va_sld hx hb hX hbl hbA hS (vp_in_nI (show 4 * jx + 1 < L by omega) (by omega)) dL_law_356 ?_
        refine cnLV (wl := []) (wc := cW G a (n, mf, bd, zN, ub, cs, mu, mn, la, fq, rq, r)) (wr := mW G bb (th, np, mp, cc, kn, sc, fc, so, lb, lq, wq, q) ++ [cJr cJ o f]) (ci := 9) (T0 := TX7) (N := 7) (As := [.int (xs (nI (4 * jx + 1)).toNatClampNeg)]) (rest := []) ⟨hx, hb, hml, hown, htsL⟩ (c_X7_chosen l G a n mf bd zN ub cs mu mn la fq rq r (xs (nI (4 * jx + 1)).toNatClampNeg) ) (cwV 1 htsL gL_law_X7_chosen rfl rfl rfl ⟨rfl, hd_X7_chosen⟩ ⟨(Nat.le_of_ble_eq_true rfl), (Nat.le_of_ble_eq_true rfl)⟩) hKK hP hD hS rfl rfl rfl hl.1 rfl (Nat.le_of_ble_eq_true rfl) dL_law_357 ⟨by show _ ≤ 3116; omega, by show _ ≤ 144707; omega⟩ (fun u => (cW_adr G a u.2).trans (cW_adr G a _).symm) (fun u1 H locs hp1 hP hD hS => ?_)
        have hP : va_P G.1 vwCl (cW G a u1.2 ++ (mW G bb (th, np, mp, cc, kn, sc, fc, so, lb, lq, wq, q) ++ [cJr cJ o f])) H := hP
        have hD : va_D (fun q : Nat => s.heap.size ≤ q) (cW G a u1.2 ++ (mW G bb (th, np, mp, cc, kn, sc, fc, so, lb, lq, wq, q) ++ [cJr cJ o f])) := hD
        refine lv_aload_n hx hb dL_law_360 rfl (lv_at hl 2 rfl) ?_
        refine lv_aload_n hx hb dL_law_361 rfl (lv_at hl 0 rfl) ?_
        refine lv_iload hx hb dL_law_362 (lv_at hl 4 rfl) ?_
        refine lv_iconst (v := 1) hx hb dL_law_364 (by decide) ?_
        refine lv_iadd hx hb dL_law_365 ?_
        refine stI (y := nI (4 * jx + 1)) (nI_addk 1) ?_
        refine va_sld hx hb hX hbl hbA hS (vp_in_nI (show 4 * jx + 1 < L by omega) (by omega)) dL_law_366 ?_
        refine cnLV (wl := cW G a u1.2) (wc := mW G bb (th, np, mp, cc, kn, sc, fc, so, lb, lq, wq, q)) (wr := [cJr cJ o f]) (ci := 10) (T0 := TX8) (N := 27) (As := [.int (xs (nI (4 * jx + 1)).toNatClampNeg)]) (rest := [.int u1.1]) ⟨hx, hb, hml, hown, htsL⟩ (c_X8_chosen l G bb th np mp cc kn sc fc so lb lq wq q (xs (nI (4 * jx + 1)).toNatClampNeg) ) (cwV 1 htsL gL_law_X8_chosen rfl rfl rfl ⟨rfl, hd_X8_chosen⟩ ⟨(Nat.le_of_ble_eq_true rfl), (Nat.le_of_ble_eq_true rfl)⟩) hKK hP hD hS rfl rfl rfl hl.1 rfl (Nat.le_of_ble_eq_true rfl) dL_law_367 ⟨by show _ ≤ 3116; omega, by show _ ≤ 144707; omega⟩ (fun u => (mW_adr G bb u.2).trans (mW_adr G bb _).symm) (fun u2 H locs hp2 hP hD hS => ?_)
        have hP : va_P G.1 vwCl (cW G a u1.2 ++ (mW G bb u2.2 ++ [cJr cJ o f])) H := hP
        have hD : va_D (fun q : Nat => s.heap.size ≤ q) (cW G a u1.2 ++ (mW G bb u2.2 ++ [cJr cJ o f])) := hD
        have hq := hs_chosen _ _ _ _ _ _ _ _ _ _ _ _ _ _ _ _ _ _ _ _ _ _ _ _ hS9 (xs (nI (4 * jx + 1)).toNatClampNeg) u1 u2 hp1 hp2
        refine lv_icmp_eq (tgt := 588) hx hb dL_law_370 (by decide) (fun cq => ?_) (fun cq => absurd hq.1 cq)
        refine lv_iinc (v := nI (4 * (jx + 1))) (lv' := [(4, .int (nI (4 * (jx + 1)))), (0, .ref b), (1, .ref (a 0)), (2, .ref (bb 0)), (3, .ref o)]) hx hb dL_law_588 hl (k := 4) rfl (nI_addk 4) (by decide) rfl (fun ls hl => ?_)
        refine lv_goto (tgt := 23) hx hb dL_law_591 (by decide) ?_
        refine W.widen (k := 43 + jx + 1) (n := 25917 + 6 * jx + 6) (Nat.le_succ _) (by omega) ?_
        exact ih (jx + 1) (by omega) (by omega) u1.2 u2.2 (hq.2) f H _ hP hD hS ls (lv_sub hl [1, 2, 3, 4, 0] rfl)
      by_cases hc7 : cx = 7
      · subst hc7
        refine lv_tableIn (off := 336) (tgt := 375) hx hb dL_law_39 (by decide) (by decide) rfl (by decide) ?_
        refine lv_aload_n hx hb dL_law_375 rfl (lv_at hl 1 rfl) ?_
        refine lv_aload_n hx hb dL_law_376 rfl (lv_at hl 0 rfl) ?_
        refine lv_iload hx hb dL_law_377 (lv_at hl 4 rfl) ?_
        refine lv_iconst (v := 1) hx hb dL_law_379 (by decide) ?_
        refine lv_iadd hx hb dL_law_380 ?_
        refine stI (y := nI (4 * jx + 1)) (nI_addk 1) ?_
        refine va_sld hx hb hX hbl hbA hS (vp_in_nI (show 4 * jx + 1 < L by omega) (by omega)) dL_law_381 ?_
        refine cnLV (wl := []) (wc := cW G a (n, mf, bd, zN, ub, cs, mu, mn, la, fq, rq, r)) (wr := mW G bb (th, np, mp, cc, kn, sc, fc, so, lb, lq, wq, q) ++ [cJr cJ o f]) (ci := 9) (T0 := TX7) (N := 7) (As := [.int (xs (nI (4 * jx + 1)).toNatClampNeg)]) (rest := []) ⟨hx, hb, hml, hown, htsL⟩ (c_X7_why l G a n mf bd zN ub cs mu mn la fq rq r (xs (nI (4 * jx + 1)).toNatClampNeg) hpre.2.2.2.2.1) (cwV 1 htsL gL_law_X7_why rfl rfl rfl ⟨rfl, hd_X7_why⟩ ⟨(Nat.le_of_ble_eq_true rfl), (Nat.le_of_ble_eq_true rfl)⟩) hKK hP hD hS rfl rfl rfl hl.1 rfl (Nat.le_of_ble_eq_true rfl) dL_law_382 ⟨by show _ ≤ 3116; omega, by show _ ≤ 144707; omega⟩ (fun u => (cW_adr G a u.2).trans (cW_adr G a _).symm) (fun u1 H locs hp1 hP hD hS => ?_)
        have hP : va_P G.1 vwCl (cW G a u1.2 ++ (mW G bb (th, np, mp, cc, kn, sc, fc, so, lb, lq, wq, q) ++ [cJr cJ o f])) H := hP
        have hD : va_D (fun q : Nat => s.heap.size ≤ q) (cW G a u1.2 ++ (mW G bb (th, np, mp, cc, kn, sc, fc, so, lb, lq, wq, q) ++ [cJr cJ o f])) := hD
        refine lv_aload_n hx hb dL_law_385 rfl (lv_at hl 2 rfl) ?_
        refine lv_aload_n hx hb dL_law_386 rfl (lv_at hl 0 rfl) ?_
        refine lv_iload hx hb dL_law_387 (lv_at hl 4 rfl) ?_
        refine lv_iconst (v := 1) hx hb dL_law_389 (by decide) ?_
        refine lv_iadd hx hb dL_law_390 ?_
        refine stI (y := nI (4 * jx + 1)) (nI_addk 1) ?_
        refine va_sld hx hb hX hbl hbA hS (vp_in_nI (show 4 * jx + 1 < L by omega) (by omega)) dL_law_391 ?_
        refine cnLV (wl := cW G a u1.2) (wc := mW G bb (th, np, mp, cc, kn, sc, fc, so, lb, lq, wq, q)) (wr := [cJr cJ o f]) (ci := 10) (T0 := TX8) (N := 27) (As := [.int (xs (nI (4 * jx + 1)).toNatClampNeg)]) (rest := [.int u1.1]) ⟨hx, hb, hml, hown, htsL⟩ (c_X8_why l G bb th np mp cc kn sc fc so lb lq wq q (xs (nI (4 * jx + 1)).toNatClampNeg) hpre.2.2.2.2.2.2.2.2.2.1) (cwV 1 htsL gL_law_X8_why rfl rfl rfl ⟨rfl, hd_X8_why⟩ ⟨(Nat.le_of_ble_eq_true rfl), (Nat.le_of_ble_eq_true rfl)⟩) hKK hP hD hS rfl rfl rfl hl.1 rfl (Nat.le_of_ble_eq_true rfl) dL_law_392 ⟨by show _ ≤ 3116; omega, by show _ ≤ 144707; omega⟩ (fun u => (mW_adr G bb u.2).trans (mW_adr G bb _).symm) (fun u2 H locs hp2 hP hD hS => ?_)
        have hP : va_P G.1 vwCl (cW G a u1.2 ++ (mW G bb u2.2 ++ [cJr cJ o f])) H := hP
        have hD : va_D (fun q : Nat => s.heap.size ≤ q) (cW G a u1.2 ++ (mW G bb u2.2 ++ [cJr cJ o f])) := hD
        have hq := hs_why _ _ _ _ _ _ _ _ _ _ _ _ _ _ _ _ _ _ _ _ _ _ _ _ hS9 (xs (nI (4 * jx + 1)).toNatClampNeg) u1 u2 hp1 hp2
        refine lv_icmp_eq (tgt := 588) hx hb dL_law_395 (by decide) (fun cq => ?_) (fun cq => absurd hq.1 cq)
        refine lv_iinc (v := nI (4 * (jx + 1))) (lv' := [(4, .int (nI (4 * (jx + 1)))), (0, .ref b), (1, .ref (a 0)), (2, .ref (bb 0)), (3, .ref o)]) hx hb dL_law_588 hl (k := 4) rfl (nI_addk 4) (by decide) rfl (fun ls hl => ?_)
        refine lv_goto (tgt := 23) hx hb dL_law_591 (by decide) ?_
        refine W.widen (k := 43 + jx + 1) (n := 25917 + 6 * jx + 6) (Nat.le_succ _) (by omega) ?_
        exact ih (jx + 1) (by omega) (by omega) u1.2 u2.2 (hq.2) f H _ hP hD hS ls (lv_sub hl [1, 2, 3, 4, 0] rfl)
      by_cases hc8 : cx = 8
      · subst hc8
        refine lv_tableIn (off := 361) (tgt := 400) hx hb dL_law_39 (by decide) (by decide) rfl (by decide) ?_
        refine lv_aload_n hx hb dL_law_400 rfl (lv_at hl 1 rfl) ?_
        refine lv_aload_n hx hb dL_law_401 rfl (lv_at hl 0 rfl) ?_
        refine lv_iload hx hb dL_law_402 (lv_at hl 4 rfl) ?_
        refine lv_iconst (v := 1) hx hb dL_law_404 (by decide) ?_
        refine lv_iadd hx hb dL_law_405 ?_
        refine stI (y := nI (4 * jx + 1)) (nI_addk 1) ?_
        refine va_sld hx hb hX hbl hbA hS (vp_in_nI (show 4 * jx + 1 < L by omega) (by omega)) dL_law_406 ?_
        refine lv_i2l (v := ((xs (nI (4 * jx + 1)).toNatClampNeg) : Int32).toInt64) hx hb dL_law_407 rfl ?_
        refine lv_bipush (v := 32) hx hb dL_law_408 (by decide) ?_
        refine lv_lshl (v := (((xs (nI (4 * jx + 1)).toNatClampNeg) : Int32).toInt64 : Int64) <<< ((32 : Int32).toInt64 &&& 63)) hx hb dL_law_410 rfl ?_
        refine lv_aload_n hx hb dL_law_411 rfl (lv_at hl 0 rfl) ?_
        refine lv_iload hx hb dL_law_412 (lv_at hl 4 rfl) ?_
        refine lv_iconst (v := 2) hx hb dL_law_414 (by decide) ?_
        refine lv_iadd hx hb dL_law_415 ?_
        refine stI (y := nI (4 * jx + 2)) (nI_addk 2) ?_
        refine va_sld hx hb hX hbl hbA hS (vp_in_nI (show 4 * jx + 2 < L by omega) (by omega)) dL_law_416 ?_
        refine lv_i2l (v := ((xs (nI (4 * jx + 2)).toNatClampNeg) : Int32).toInt64) hx hb dL_law_417 rfl ?_
        refine lv_ldc2 hx hb hown (htsL _ fLaw_c) dL_law_418 ?_
        refine lv_land hx hb dL_law_421 ?_
        refine lv_lor hx hb dL_law_422 ?_
        refine cnLV (wl := []) (wc := cW G a (n, mf, bd, zN, ub, cs, mu, mn, la, fq, rq, r)) (wr := mW G bb (th, np, mp, cc, kn, sc, fc, so, lb, lq, wq, q) ++ [cJr cJ o f]) (ci := 9) (T0 := TX7) (N := 7) (As := [.long (((((xs (nI (4 * jx + 1)).toNatClampNeg) : Int32).toInt64 : Int64) <<< ((32 : Int32).toInt64 &&& 63)) ||| (((xs (nI (4 * jx + 2)).toNatClampNeg) : Int32).toInt64 &&& 4294967295))]) (rest := []) ⟨hx, hb, hml, hown, htsL⟩ (c_X7_count l G a n mf bd zN ub cs mu mn la fq rq r (((((xs (nI (4 * jx + 1)).toNatClampNeg) : Int32).toInt64 : Int64) <<< ((32 : Int32).toInt64 &&& 63)) ||| (((xs (nI (4 * jx + 2)).toNatClampNeg) : Int32).toInt64 &&& 4294967295)) hpre.2.2.1) (cwV 1 htsL gL_law_X7_count rfl rfl rfl ⟨rfl, hd_X7_count⟩ ⟨(Nat.le_of_ble_eq_true rfl), (Nat.le_of_ble_eq_true rfl)⟩) hKK hP hD hS rfl rfl rfl hl.1 rfl (Nat.le_of_ble_eq_true rfl) dL_law_423 ⟨by show _ ≤ 3116; omega, by show _ ≤ 144707; omega⟩ (fun u => (cW_adr G a u.2).trans (cW_adr G a _).symm) (fun u1 H locs hp1 hP hD hS => ?_)
        have hP : va_P G.1 vwCl (cW G a u1.2 ++ (mW G bb (th, np, mp, cc, kn, sc, fc, so, lb, lq, wq, q) ++ [cJr cJ o f])) H := hP
        have hD : va_D (fun q : Nat => s.heap.size ≤ q) (cW G a u1.2 ++ (mW G bb (th, np, mp, cc, kn, sc, fc, so, lb, lq, wq, q) ++ [cJr cJ o f])) := hD
        refine lv_aload_n hx hb dL_law_426 rfl (lv_at hl 2 rfl) ?_
        refine lv_aload_n hx hb dL_law_427 rfl (lv_at hl 0 rfl) ?_
        refine lv_iload hx hb dL_law_428 (lv_at hl 4 rfl) ?_
        refine lv_iconst (v := 1) hx hb dL_law_430 (by decide) ?_
        refine lv_iadd hx hb dL_law_431 ?_
        refine stI (y := nI (4 * jx + 1)) (nI_addk 1) ?_
        refine va_sld hx hb hX hbl hbA hS (vp_in_nI (show 4 * jx + 1 < L by omega) (by omega)) dL_law_432 ?_
        refine lv_i2l (v := ((xs (nI (4 * jx + 1)).toNatClampNeg) : Int32).toInt64) hx hb dL_law_433 rfl ?_
        refine lv_bipush (v := 32) hx hb dL_law_434 (by decide) ?_
        refine lv_lshl (v := (((xs (nI (4 * jx + 1)).toNatClampNeg) : Int32).toInt64 : Int64) <<< ((32 : Int32).toInt64 &&& 63)) hx hb dL_law_436 rfl ?_
        refine lv_aload_n hx hb dL_law_437 rfl (lv_at hl 0 rfl) ?_
        refine lv_iload hx hb dL_law_438 (lv_at hl 4 rfl) ?_
        refine lv_iconst (v := 2) hx hb dL_law_440 (by decide) ?_
        refine lv_iadd hx hb dL_law_441 ?_
        refine stI (y := nI (4 * jx + 2)) (nI_addk 2) ?_
        refine va_sld hx hb hX hbl hbA hS (vp_in_nI (show 4 * jx + 2 < L by omega) (by omega)) dL_law_442 ?_
        refine lv_i2l (v := ((xs (nI (4 * jx + 2)).toNatClampNeg) : Int32).toInt64) hx hb dL_law_443 rfl ?_
        refine lv_ldc2 hx hb hown (htsL _ fLaw_c) dL_law_444 ?_
        refine lv_land hx hb dL_law_447 ?_
        refine lv_lor hx hb dL_law_448 ?_
        refine cnLV (wl := cW G a u1.2) (wc := mW G bb (th, np, mp, cc, kn, sc, fc, so, lb, lq, wq, q)) (wr := [cJr cJ o f]) (ci := 10) (T0 := TX8) (N := 27) (As := [.long (((((xs (nI (4 * jx + 1)).toNatClampNeg) : Int32).toInt64 : Int64) <<< ((32 : Int32).toInt64 &&& 63)) ||| (((xs (nI (4 * jx + 2)).toNatClampNeg) : Int32).toInt64 &&& 4294967295))]) (rest := [.long u1.1]) ⟨hx, hb, hml, hown, htsL⟩ (c_X8_count l G bb th np mp cc kn sc fc so lb lq wq q (((((xs (nI (4 * jx + 1)).toNatClampNeg) : Int32).toInt64 : Int64) <<< ((32 : Int32).toInt64 &&& 63)) ||| (((xs (nI (4 * jx + 2)).toNatClampNeg) : Int32).toInt64 &&& 4294967295)) hcc hpre.2.2.2.2.2.2.2.1) (cwV 1 htsL gL_law_X8_count rfl rfl rfl ⟨rfl, hd_X8_count⟩ ⟨(Nat.le_of_ble_eq_true rfl), (Nat.le_of_ble_eq_true rfl)⟩) hKK hP hD hS rfl rfl rfl hl.1 rfl (Nat.le_of_ble_eq_true rfl) dL_law_449 ⟨by show _ ≤ 3116; omega, by show _ ≤ 144707; omega⟩ (fun u => (mW_adr G bb u.2).trans (mW_adr G bb _).symm) (fun u2 H locs hp2 hP hD hS => ?_)
        have hP : va_P G.1 vwCl (cW G a u1.2 ++ (mW G bb u2.2 ++ [cJr cJ o f])) H := hP
        have hD : va_D (fun q : Nat => s.heap.size ≤ q) (cW G a u1.2 ++ (mW G bb u2.2 ++ [cJr cJ o f])) := hD
        refine W.lcmp hx hb dL_law_452 ?_
        have hq := hs_count _ _ _ _ _ _ _ _ _ _ _ _ _ _ _ _ _ _ _ _ _ _ _ _ hS9 (((((xs (nI (4 * jx + 1)).toNatClampNeg) : Int32).toInt64 : Int64) <<< ((32 : Int32).toInt64 &&& 63)) ||| (((xs (nI (4 * jx + 2)).toNatClampNeg) : Int32).toInt64 &&& 4294967295)) u1 u2 hp1 hp2
        refine lv_if_eq (tgt := 588) hx hb dL_law_453 (by decide) (fun cq => ?_) (fun cq => absurd (by rw [hq.1]; exact lg_cmp_self _) cq)
        refine lv_iinc (v := nI (4 * (jx + 1))) (lv' := [(4, .int (nI (4 * (jx + 1)))), (0, .ref b), (1, .ref (a 0)), (2, .ref (bb 0)), (3, .ref o)]) hx hb dL_law_588 hl (k := 4) rfl (nI_addk 4) (by decide) rfl (fun ls hl => ?_)
        refine lv_goto (tgt := 23) hx hb dL_law_591 (by decide) ?_
        refine W.widen (k := 43 + jx + 1) (n := 25917 + 6 * jx + 6) (Nat.le_succ _) (by omega) ?_
        exact ih (jx + 1) (by omega) (by omega) u1.2 u2.2 (hq.2) f H _ hP hD hS ls (lv_sub hl [1, 2, 3, 4, 0] rfl)
      by_cases hc9 : cx = 9
      · subst hc9
        refine lv_tableIn (off := 419) (tgt := 458) hx hb dL_law_39 (by decide) (by decide) rfl (by decide) ?_
        refine lv_aload_n hx hb dL_law_458 rfl (lv_at hl 1 rfl) ?_
        refine lv_aload_n hx hb dL_law_459 rfl (lv_at hl 0 rfl) ?_
        refine lv_iload hx hb dL_law_460 (lv_at hl 4 rfl) ?_
        refine lv_iconst (v := 1) hx hb dL_law_462 (by decide) ?_
        refine lv_iadd hx hb dL_law_463 ?_
        refine stI (y := nI (4 * jx + 1)) (nI_addk 1) ?_
        refine va_sld hx hb hX hbl hbA hS (vp_in_nI (show 4 * jx + 1 < L by omega) (by omega)) dL_law_464 ?_
        refine lv_aload_n hx hb dL_law_465 rfl (lv_at hl 0 rfl) ?_
        refine lv_iload hx hb dL_law_466 (lv_at hl 4 rfl) ?_
        refine lv_iconst (v := 2) hx hb dL_law_468 (by decide) ?_
        refine lv_iadd hx hb dL_law_469 ?_
        refine stI (y := nI (4 * jx + 2)) (nI_addk 2) ?_
        refine va_sld hx hb hX hbl hbA hS (vp_in_nI (show 4 * jx + 2 < L by omega) (by omega)) dL_law_470 ?_
        refine cnLV (wl := []) (wc := cW G a (n, mf, bd, zN, ub, cs, mu, mn, la, fq, rq, r)) (wr := mW G bb (th, np, mp, cc, kn, sc, fc, so, lb, lq, wq, q) ++ [cJr cJ o f]) (ci := 9) (T0 := TX7) (N := 7) (As := [.int (xs (nI (4 * jx + 1)).toNatClampNeg), .int (xs (nI (4 * jx + 2)).toNatClampNeg)]) (rest := []) ⟨hx, hb, hml, hown, htsL⟩ (c_X7_forces l G a n mf bd zN ub cs mu mn la fq rq r (xs (nI (4 * jx + 1)).toNatClampNeg) (xs (nI (4 * jx + 2)).toNatClampNeg) hpre.2.2.1) (cwV 2 htsL gL_law_X7_forces rfl rfl rfl ⟨rfl, hd_X7_forces⟩ ⟨(Nat.le_of_ble_eq_true rfl), (Nat.le_of_ble_eq_true rfl)⟩) hKK hP hD hS rfl rfl rfl hl.1 rfl (Nat.le_of_ble_eq_true rfl) dL_law_471 ⟨by show _ ≤ 3116; omega, by show _ ≤ 144707; omega⟩ (fun u => (cW_adr G a u.2).trans (cW_adr G a _).symm) (fun u1 H locs hp1 hP hD hS => ?_)
        have hP : va_P G.1 vwCl (cW G a u1.2 ++ (mW G bb (th, np, mp, cc, kn, sc, fc, so, lb, lq, wq, q) ++ [cJr cJ o f])) H := hP
        have hD : va_D (fun q : Nat => s.heap.size ≤ q) (cW G a u1.2 ++ (mW G bb (th, np, mp, cc, kn, sc, fc, so, lb, lq, wq, q) ++ [cJr cJ o f])) := hD
        refine lv_aload_n hx hb dL_law_474 rfl (lv_at hl 2 rfl) ?_
        refine lv_aload_n hx hb dL_law_475 rfl (lv_at hl 0 rfl) ?_
        refine lv_iload hx hb dL_law_476 (lv_at hl 4 rfl) ?_
        refine lv_iconst (v := 1) hx hb dL_law_478 (by decide) ?_
        refine lv_iadd hx hb dL_law_479 ?_
        refine stI (y := nI (4 * jx + 1)) (nI_addk 1) ?_
        refine va_sld hx hb hX hbl hbA hS (vp_in_nI (show 4 * jx + 1 < L by omega) (by omega)) dL_law_480 ?_
        refine lv_aload_n hx hb dL_law_481 rfl (lv_at hl 0 rfl) ?_
        refine lv_iload hx hb dL_law_482 (lv_at hl 4 rfl) ?_
        refine lv_iconst (v := 2) hx hb dL_law_484 (by decide) ?_
        refine lv_iadd hx hb dL_law_485 ?_
        refine stI (y := nI (4 * jx + 2)) (nI_addk 2) ?_
        refine va_sld hx hb hX hbl hbA hS (vp_in_nI (show 4 * jx + 2 < L by omega) (by omega)) dL_law_486 ?_
        refine cnLV (wl := cW G a u1.2) (wc := mW G bb (th, np, mp, cc, kn, sc, fc, so, lb, lq, wq, q)) (wr := [cJr cJ o f]) (ci := 10) (T0 := TX8) (N := 27) (As := [.int (xs (nI (4 * jx + 1)).toNatClampNeg), .int (xs (nI (4 * jx + 2)).toNatClampNeg)]) (rest := [.int u1.1]) ⟨hx, hb, hml, hown, htsL⟩ (c_X8_forces l G bb th np mp cc kn sc fc so lb lq wq q (xs (nI (4 * jx + 1)).toNatClampNeg) (xs (nI (4 * jx + 2)).toNatClampNeg) hcc hpre.2.2.2.2.2.2.2.1) (cwV 2 htsL gL_law_X8_forces rfl rfl rfl ⟨rfl, hd_X8_forces⟩ ⟨(Nat.le_of_ble_eq_true rfl), (Nat.le_of_ble_eq_true rfl)⟩) hKK hP hD hS rfl rfl rfl hl.1 rfl (Nat.le_of_ble_eq_true rfl) dL_law_487 ⟨by show _ ≤ 3116; omega, by show _ ≤ 144707; omega⟩ (fun u => (mW_adr G bb u.2).trans (mW_adr G bb _).symm) (fun u2 H locs hp2 hP hD hS => ?_)
        have hP : va_P G.1 vwCl (cW G a u1.2 ++ (mW G bb u2.2 ++ [cJr cJ o f])) H := hP
        have hD : va_D (fun q : Nat => s.heap.size ≤ q) (cW G a u1.2 ++ (mW G bb u2.2 ++ [cJr cJ o f])) := hD
        have hq := hs_forces _ _ _ _ _ _ _ _ _ _ _ _ _ _ _ _ _ _ _ _ _ _ _ _ hS9 (xs (nI (4 * jx + 1)).toNatClampNeg) (xs (nI (4 * jx + 2)).toNatClampNeg) u1 u2 hp1 hp2
        refine lv_icmp_eq (tgt := 588) hx hb dL_law_490 (by decide) (fun cq => ?_) (fun cq => absurd hq.1 cq)
        refine lv_iinc (v := nI (4 * (jx + 1))) (lv' := [(4, .int (nI (4 * (jx + 1)))), (0, .ref b), (1, .ref (a 0)), (2, .ref (bb 0)), (3, .ref o)]) hx hb dL_law_588 hl (k := 4) rfl (nI_addk 4) (by decide) rfl (fun ls hl => ?_)
        refine lv_goto (tgt := 23) hx hb dL_law_591 (by decide) ?_
        refine W.widen (k := 43 + jx + 1) (n := 25917 + 6 * jx + 6) (Nat.le_succ _) (by omega) ?_
        exact ih (jx + 1) (by omega) (by omega) u1.2 u2.2 (hq.2) f H _ hP hD hS ls (lv_sub hl [1, 2, 3, 4, 0] rfl)
      by_cases hc10 : cx = 10
      · subst hc10
        refine lv_tableIn (off := 456) (tgt := 495) hx hb dL_law_39 (by decide) (by decide) rfl (by decide) ?_
        refine lv_aload_n hx hb dL_law_495 rfl (lv_at hl 1 rfl) ?_
        refine lv_aload_n hx hb dL_law_496 rfl (lv_at hl 0 rfl) ?_
        refine lv_iload hx hb dL_law_497 (lv_at hl 4 rfl) ?_
        refine lv_iconst (v := 1) hx hb dL_law_499 (by decide) ?_
        refine lv_iadd hx hb dL_law_500 ?_
        refine stI (y := nI (4 * jx + 1)) (nI_addk 1) ?_
        refine va_sld hx hb hX hbl hbA hS (vp_in_nI (show 4 * jx + 1 < L by omega) (by omega)) dL_law_501 ?_
        refine lv_aload_n hx hb dL_law_502 rfl (lv_at hl 0 rfl) ?_
        refine lv_iload hx hb dL_law_503 (lv_at hl 4 rfl) ?_
        refine lv_iconst (v := 2) hx hb dL_law_505 (by decide) ?_
        refine lv_iadd hx hb dL_law_506 ?_
        refine stI (y := nI (4 * jx + 2)) (nI_addk 2) ?_
        refine va_sld hx hb hX hbl hbA hS (vp_in_nI (show 4 * jx + 2 < L by omega) (by omega)) dL_law_507 ?_
        refine cnLV (wl := []) (wc := cW G a (n, mf, bd, zN, ub, cs, mu, mn, la, fq, rq, r)) (wr := mW G bb (th, np, mp, cc, kn, sc, fc, so, lb, lq, wq, q) ++ [cJr cJ o f]) (ci := 9) (T0 := TX7) (N := 7) (As := [.int (xs (nI (4 * jx + 1)).toNatClampNeg), .int (xs (nI (4 * jx + 2)).toNatClampNeg)]) (rest := []) ⟨hx, hb, hml, hown, htsL⟩ (c_X7_differ l G a n mf bd zN ub cs mu mn la fq rq r (xs (nI (4 * jx + 1)).toNatClampNeg) (xs (nI (4 * jx + 2)).toNatClampNeg) hpre.2.2.2.1) (cwV 2 htsL gL_law_X7_differ rfl rfl rfl ⟨rfl, hd_X7_differ⟩ ⟨(Nat.le_of_ble_eq_true rfl), (Nat.le_of_ble_eq_true rfl)⟩) hKK hP hD hS rfl rfl rfl hl.1 rfl (Nat.le_of_ble_eq_true rfl) dL_law_508 ⟨by show _ ≤ 3116; omega, by show _ ≤ 144707; omega⟩ (fun u => (cW_adr G a u.2).trans (cW_adr G a _).symm) (fun u1 H locs hp1 hP hD hS => ?_)
        have hP : va_P G.1 vwCl (cW G a u1.2 ++ (mW G bb (th, np, mp, cc, kn, sc, fc, so, lb, lq, wq, q) ++ [cJr cJ o f])) H := hP
        have hD : va_D (fun q : Nat => s.heap.size ≤ q) (cW G a u1.2 ++ (mW G bb (th, np, mp, cc, kn, sc, fc, so, lb, lq, wq, q) ++ [cJr cJ o f])) := hD
        refine lv_aload_n hx hb dL_law_511 rfl (lv_at hl 2 rfl) ?_
        refine lv_aload_n hx hb dL_law_512 rfl (lv_at hl 0 rfl) ?_
        refine lv_iload hx hb dL_law_513 (lv_at hl 4 rfl) ?_
        refine lv_iconst (v := 1) hx hb dL_law_515 (by decide) ?_
        refine lv_iadd hx hb dL_law_516 ?_
        refine stI (y := nI (4 * jx + 1)) (nI_addk 1) ?_
        refine va_sld hx hb hX hbl hbA hS (vp_in_nI (show 4 * jx + 1 < L by omega) (by omega)) dL_law_517 ?_
        refine lv_aload_n hx hb dL_law_518 rfl (lv_at hl 0 rfl) ?_
        refine lv_iload hx hb dL_law_519 (lv_at hl 4 rfl) ?_
        refine lv_iconst (v := 2) hx hb dL_law_521 (by decide) ?_
        refine lv_iadd hx hb dL_law_522 ?_
        refine stI (y := nI (4 * jx + 2)) (nI_addk 2) ?_
        refine va_sld hx hb hX hbl hbA hS (vp_in_nI (show 4 * jx + 2 < L by omega) (by omega)) dL_law_523 ?_
        refine cnLV (wl := cW G a u1.2) (wc := mW G bb (th, np, mp, cc, kn, sc, fc, so, lb, lq, wq, q)) (wr := [cJr cJ o f]) (ci := 10) (T0 := TX8) (N := 27) (As := [.int (xs (nI (4 * jx + 1)).toNatClampNeg), .int (xs (nI (4 * jx + 2)).toNatClampNeg)]) (rest := [.int u1.1]) ⟨hx, hb, hml, hown, htsL⟩ (c_X8_differ l G bb th np mp cc kn sc fc so lb lq wq q (xs (nI (4 * jx + 1)).toNatClampNeg) (xs (nI (4 * jx + 2)).toNatClampNeg) hpre.2.2.2.2.2.2.2.2.1) (cwV 2 htsL gL_law_X8_differ rfl rfl rfl ⟨rfl, hd_X8_differ⟩ ⟨(Nat.le_of_ble_eq_true rfl), (Nat.le_of_ble_eq_true rfl)⟩) hKK hP hD hS rfl rfl rfl hl.1 rfl (Nat.le_of_ble_eq_true rfl) dL_law_524 ⟨by show _ ≤ 3116; omega, by show _ ≤ 144707; omega⟩ (fun u => (mW_adr G bb u.2).trans (mW_adr G bb _).symm) (fun u2 H locs hp2 hP hD hS => ?_)
        have hP : va_P G.1 vwCl (cW G a u1.2 ++ (mW G bb u2.2 ++ [cJr cJ o f])) H := hP
        have hD : va_D (fun q : Nat => s.heap.size ≤ q) (cW G a u1.2 ++ (mW G bb u2.2 ++ [cJr cJ o f])) := hD
        have hq := hs_differ _ _ _ _ _ _ _ _ _ _ _ _ _ _ _ _ _ _ _ _ _ _ _ _ hS9 (xs (nI (4 * jx + 1)).toNatClampNeg) (xs (nI (4 * jx + 2)).toNatClampNeg) u1 u2 hp1 hp2
        refine lv_icmp_eq (tgt := 588) hx hb dL_law_527 (by decide) (fun cq => ?_) (fun cq => absurd hq.1 cq)
        refine lv_iinc (v := nI (4 * (jx + 1))) (lv' := [(4, .int (nI (4 * (jx + 1)))), (0, .ref b), (1, .ref (a 0)), (2, .ref (bb 0)), (3, .ref o)]) hx hb dL_law_588 hl (k := 4) rfl (nI_addk 4) (by decide) rfl (fun ls hl => ?_)
        refine lv_goto (tgt := 23) hx hb dL_law_591 (by decide) ?_
        refine W.widen (k := 43 + jx + 1) (n := 25917 + 6 * jx + 6) (Nat.le_succ _) (by omega) ?_
        exact ih (jx + 1) (by omega) (by omega) u1.2 u2.2 (hq.2) f H _ hP hD hS ls (lv_sub hl [1, 2, 3, 4, 0] rfl)
      by_cases hc11 : cx = 11
      · subst hc11
        refine lv_tableIn (off := 493) (tgt := 532) hx hb dL_law_39 (by decide) (by decide) rfl (by decide) ?_
        refine lv_aload_n hx hb dL_law_532 rfl (lv_at hl 1 rfl) ?_
        refine lv_aload_n hx hb dL_law_533 rfl (lv_at hl 0 rfl) ?_
        refine lv_iload hx hb dL_law_534 (lv_at hl 4 rfl) ?_
        refine lv_iconst (v := 1) hx hb dL_law_536 (by decide) ?_
        refine lv_iadd hx hb dL_law_537 ?_
        refine stI (y := nI (4 * jx + 1)) (nI_addk 1) ?_
        refine va_sld hx hb hX hbl hbA hS (vp_in_nI (show 4 * jx + 1 < L by omega) (by omega)) dL_law_538 ?_
        refine lv_aload_n hx hb dL_law_539 rfl (lv_at hl 3 rfl) ?_
        have hPc := P_lvl hP
        have hO1 : va_P G.1 vwCl [cJr cJ o f] H := P_right (P_right hP)
        have hDc := D_lvl hD
        have hoA : s.heap.size ≤ o := (D_right (D_right hD)).2 0 _ rfl
        have hU1 := vx_Zq.narrow (B := fun _ => False) (vx_Zq.kept hU hS.2.1) (fun _ h => h.elim)
        have hN1 := vx_Zq.narrow (B := fun _ => False) (vx_Zq.kept hN hS.2.1) (fun _ h => h.elim)
        refine va_calli (vx_runSW (As := [.ref (a 0), .int (xs (nI (4 * jx + 1)).toNatClampNeg), .ref o]) (rest := []) ⟨hx, hb, hml, hown, hts⟩ (c_L_level l hl0 G cJ a n bd (r 4) (xs (nI (4 * jx + 1)).toNatClampNeg) o f hpre.1) (vx_cwSW 3 hts gLw_level rfl rfl rfl hd_L_level ⟨(Nat.le_of_ble_eq_true rfl), (Nat.le_of_ble_eq_true rfl)⟩) ⟨PLO_blind, fun U hUh hW => ⟨rfl, ⟨by rw [hUh]; exact hPc, hKK.warm hW, lvB_warm hW hBl, by rw [hUh]; exact vx_Zq.moved hW.alike hU1, by rw [hUh]; exact vx_Zq.moved hW.alike hN1⟩, hDc, va_K.moved hW.alike hKJ⟩⟩ rfl rfl hl.1 rfl (lv_room (Nat.le_of_ble_eq_true rfl)) dL_law_540 ⟨by show _ ≤ 3116; omega, by show _ ≤ 144707; omega⟩) hS (fun q _ h => by rw [h]; exact hoA) (fun q h => by rw [h]; exact hoA) (fun r5 f2 t H1 locs1 ht hvm hp1 hB hz1 hk1 hS1 => ?_)
        have hB1 : va_P G.1 vwCl [cJr cJ o f2] H1 := by rw [← ht]; exact hB
        have hP : va_P G.1 vwCl (cW G a (n, mf, bd, zN, ub, cs, mu, mn, la, fq, rq, r) ++ (mW G bb (th, np, mp, cc, kn, sc, fc, so, lb, lq, wq, q) ++ [cJr cJ o f2])) H1 := P_out hP hD hk1 hB1
        have hD : va_D (fun q : Nat => s.heap.size ≤ q) (cW G a (n, mf, bd, zN, ub, cs, mu, mn, la, fq, rq, r) ++ (mW G bb (th, np, mp, cc, kn, sc, fc, so, lb, lq, wq, q) ++ [cJr cJ o f2])) := hD.same (by rw [List.map_append, List.map_append, List.map_append, List.map_append]; rfl)
        generalize H1 = H at hP hS1 ⊢
        have hS := hS1
        refine lv_istore (lv' := [(5, .int r5), (0, .ref b), (1, .ref (a 0)), (2, .ref (bb 0)), (3, .ref o), (4, .int (nI (4 * jx)))]) hx hb dL_law_543 hl (by decide) rfl (fun ls hl => ?_)
        refine lv_aload_n hx hb dL_law_545 rfl (lv_at hl 3 rfl) ?_
        refine lv_aload_n hx hb dL_law_546 rfl (lv_at hl 1 rfl) ?_
        refine lv_iload hx hb dL_law_547 (lv_at hl 5 rfl) ?_
        refine lv_iconst (v := 1) hx hb dL_law_549 (by decide) ?_
        refine lv_iadd hx hb dL_law_550 ?_
        refine stI (y := nI (4 * jx + 1)) (nI_addk 1) ?_
        refine va_sld hx hb hX hbl hbA hS (vp_in_nI (show 4 * jx + 1 < L by omega) (by omega)) dL_law_551 ?_
        refine cnLV (wl := cW G a (n, mf, bd, zN, ub, cs, mu, mn, la, fq, rq, r)) (wc := mW G bb (th, np, mp, cc, kn, sc, fc, so, lb, lq, wq, q)) (wr := [cJr cJ o f2]) (ci := 10) (T0 := TX8) (N := 27) (As := [.int (xs (nI (4 * jx + 1)).toNatClampNeg)]) (rest := []) ⟨hx, hb, hml, hown, htsL⟩ (c_X8_level l G bb th np mp cc kn sc fc so lb lq wq q (xs (nI (4 * jx + 1)).toNatClampNeg) hpre.2.2.2.2.2.1 hpre.2.2.2.2.2.2.2.2.2.2.1) (cwV 1 htsL gL_law_X8_level rfl rfl rfl ⟨rfl, hd_X8_level⟩ ⟨(Nat.le_of_ble_eq_true rfl), (Nat.le_of_ble_eq_true rfl)⟩) hKK hP hD hS rfl rfl rfl hl.1 rfl (Nat.le_of_ble_eq_true rfl) dL_law_552 ⟨by show _ ≤ 3116; omega, by show _ ≤ 144707; omega⟩ (fun u => (mW_adr G bb u.2).trans (mW_adr G bb _).symm) (fun u2 H locs hp2 hP hD hS => ?_)
        obtain ⟨v2, th2, n2, m2, cc2, kn2, sc2, fc2, so2, lb2, lq2, wq2, q2⟩ := u2
        have hP : va_P G.1 vwCl (cW G a (n, mf, bd, zN, ub, cs, mu, mn, la, fq, rq, r) ++ (mW G bb (th2, n2, m2, cc2, kn2, sc2, fc2, so2, lb2, lq2, wq2, q2) ++ [cJr cJ o f2])) H := hP
        have hD : va_D (fun q : Nat => s.heap.size ≤ q) (cW G a (n, mf, bd, zN, ub, cs, mu, mn, la, fq, rq, r) ++ (mW G bb (th2, n2, m2, cc2, kn2, sc2, fc2, so2, lb2, lq2, wq2, q2) ++ [cJr cJ o f2])) := hD
        refine lv_istore (lv' := [(6, .int v2), (5, .int r5), (0, .ref b), (1, .ref (a 0)), (2, .ref (bb 0)), (3, .ref o), (4, .int (nI (4 * jx)))]) hx hb dL_law_555 hl (by decide) rfl (fun ls hl => ?_)
        have hq := hs_level _ _ _ _ _ _ _ _ _ _ _ _ _ _ _ _ _ _ _ _ _ _ _ _ hS9 (xs (nI (4 * jx + 1)).toNatClampNeg) (v2, th2, n2, m2, cc2, kn2, sc2, fc2, so2, lb2, lq2, wq2, q2) hp2
        refine lv_aload_n hx hb dL_law_557 rfl (lv_at hl 4 rfl) ?_
        refine cpV (As := []) (rest := []) ⟨hx, hb, hml, hown, htsL⟩ (c_X8_thrown l G bb th2 n2 m2 cc2 kn2 sc2 fc2 so2 lb2 lq2 wq2) (cwV 0 htsL gL_law_X8_thrown rfl rfl rfl ⟨rfl, hd_X8_thrown⟩ ⟨(Nat.le_of_ble_eq_true rfl), (Nat.le_of_ble_eq_true rfl)⟩) hKK hP [25] rfl (ci := 10) (T0 := TX8) (N := 27) rfl rfl rfl hl.1 rfl (Nat.le_of_ble_eq_true rfl) dL_law_558 ⟨by show _ ≤ 3116; omega, by show _ ≤ 144707; omega⟩ ?_
        refine lv_iload hx hb dL_law_561 (lv_at hl 1 rfl) ?_
        rcases hp1 with ⟨hok, hr5, hf2⟩ | ⟨hbad, hr5⟩
        · subst hr5
          have hv := (hq.1 hok)
          have hth : th2 = 0 := hv.2
          refine lv_icmp_eq (tgt := 568) hx hb dL_law_563 (by decide) (fun cq => ?_) (fun cq => absurd hth cq)
          refine lv_iload hx hb dL_law_568 (lv_at hl 1 rfl) ?_
          refine lv_if_ne (tgt := 585) hx hb dL_law_570 (by decide) (fun cz => absurd rfl cz) (fun cz => ?_)
          refine lv_aload_n hx hb dL_law_573 rfl (lv_at hl 5 rfl) ?_
          refine lv_iconst (v := 0) hx hb dL_law_574 (by decide) ?_
          refine va_lald hx hb hKJ (P_right (P_right hP)) 0 0 rfl rfl (in_of (n := 1) (by decide) (by decide) (by decide)) dL_law_575 ?_
          refine lv_iload hx hb dL_law_576 (lv_at hl 0 rfl) ?_
          refine lv_i2l (v := (v2 : Int32).toInt64) hx hb dL_law_578 rfl ?_
          refine W.lcmp hx hb dL_law_579 ?_
          have hv2 : v2 = r 4 ((xs (nI (4 * jx + 1)).toNatClampNeg).toNatClampNeg + 1) := hv.1
          refine lv_if_eq (tgt := 585) hx hb dL_law_580 (by decide) (fun cq2 => ?_) (fun cq2 => absurd (by rw [hv2, show f2 (Int32.toNatClampNeg 0) = f2 0 from rfl, hf2]; exact lg_cmp_self _) cq2)
          refine lv_goto (tgt := 588) hx hb dL_law_585 (by decide) ?_
          refine lv_iinc (v := nI (4 * (jx + 1))) (lv' := [(4, .int (nI (4 * (jx + 1)))), (6, .int v2), (5, .int 0), (0, .ref b), (1, .ref (a 0)), (2, .ref (bb 0)), (3, .ref o)]) hx hb dL_law_588 hl (k := 6) rfl (nI_addk 4) (by decide) rfl (fun ls hl => ?_)
          refine lv_goto (tgt := 23) hx hb dL_law_591 (by decide) ?_
          exact ih (jx + 1) (by omega) (by omega) (n, mf, bd, zN, ub, cs, mu, mn, la, fq, rq, r) (th2, n2, m2, cc2, kn2, sc2, fc2, so2, lb2, lq2, wq2, q2) (hq.2.2) f2 H _ hP hD hS ls (lv_sub hl [3, 4, 5, 6, 0] rfl)
        · subst hr5
          have hth : th2 = 1 := hq.2.1 hbad
          refine lv_icmp_eq (tgt := 568) hx hb dL_law_563 (by decide) (fun cq => ?_) (fun cq => absurd hth cq)
          refine lv_iload hx hb dL_law_568 (lv_at hl 1 rfl) ?_
          refine lv_if_ne (tgt := 585) hx hb dL_law_570 (by decide) (fun cz => ?_) (fun cz => absurd cz (by decide))
          refine lv_goto (tgt := 588) hx hb dL_law_585 (by decide) ?_
          refine lv_iinc (v := nI (4 * (jx + 1))) (lv' := [(4, .int (nI (4 * (jx + 1)))), (6, .int v2), (5, .int 1), (0, .ref b), (1, .ref (a 0)), (2, .ref (bb 0)), (3, .ref o)]) hx hb dL_law_588 hl (k := 6) rfl (nI_addk 4) (by decide) rfl (fun ls hl => ?_)
          refine lv_goto (tgt := 23) hx hb dL_law_591 (by decide) ?_
          exact ih (jx + 1) (by omega) (by omega) (n, mf, bd, zN, ub, cs, mu, mn, la, fq, rq, r) (th2, n2, m2, cc2, kn2, sc2, fc2, so2, lb2, lq2, wq2, q2) (hq.2.2) f2 H _ hP hD hS ls (lv_sub hl [3, 4, 5, 6, 0] rfl)
      refine lv_tableOut (tgt := 588) hx hb dL_law_39 (by have h0 := mt Int32.toInt_inj.mp hc0; have e0 : (0 : Int32).toInt = 0 := rfl; have h1 := mt Int32.toInt_inj.mp hc1; have e1 : (1 : Int32).toInt = 1 := rfl; have h2 := mt Int32.toInt_inj.mp hc2; have e2 : (2 : Int32).toInt = 2 := rfl; have h3 := mt Int32.toInt_inj.mp hc3; have e3 : (3 : Int32).toInt = 3 := rfl; have h4 := mt Int32.toInt_inj.mp hc4; have e4 : (4 : Int32).toInt = 4 := rfl; have h5 := mt Int32.toInt_inj.mp hc5; have e5 : (5 : Int32).toInt = 5 := rfl; have h6 := mt Int32.toInt_inj.mp hc6; have e6 : (6 : Int32).toInt = 6 := rfl; have h7 := mt Int32.toInt_inj.mp hc7; have e7 : (7 : Int32).toInt = 7 := rfl; have h8 := mt Int32.toInt_inj.mp hc8; have e8 : (8 : Int32).toInt = 8 := rfl; have h9 := mt Int32.toInt_inj.mp hc9; have e9 : (9 : Int32).toInt = 9 := rfl; have h10 := mt Int32.toInt_inj.mp hc10; have e10 : (10 : Int32).toInt = 10 := rfl; have h11 := mt Int32.toInt_inj.mp hc11; have e11 : (11 : Int32).toInt = 11 := rfl; omega) (by decide) ?_
      refine lv_iinc (v := nI (4 * (jx + 1))) (lv' := [(4, .int (nI (4 * (jx + 1)))), (0, .ref b), (1, .ref (a 0)), (2, .ref (bb 0)), (3, .ref o)]) hx hb dL_law_588 hl (k := 4) rfl (nI_addk 4) (by decide) rfl (fun ls hl => ?_)
      refine lv_goto (tgt := 23) hx hb dL_law_591 (by decide) ?_
      refine W.widen (k := 43 + jx + 1) (n := 25917 + 6 * jx + 6) (Nat.le_succ _) (by omega) ?_
      exact ih (jx + 1) (by omega) (by omega) (n, mf, bd, zN, ub, cs, mu, mn, la, fq, rq, r) (th, np, mp, cc, kn, sc, fc, so, lb, lq, wq, q) (hS9) f H _ hP hD hS ls (lv_sub hl [1, 2, 3, 4, 0] rfl)
