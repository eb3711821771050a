/-! the law from its entry -/
section CJ
variable {p : Program} {l : Launch} {e : Env} {R : Room} {s : State} {m : MethodId} {args : Array Value} {below : List Frame} {meth : Method} {c : Code} {H : Heap} {locs : List Loc} {cells slots : Nat} {Q : State → Prop}
variable {Ts w : List Cond} {cc bytes : ByteArray} {nL maxL index : Nat} {own : String} {y : MethodName} {b : Addr} {rest : List Value} {pc : Nat} {ls : Array Slot} {G : GG} {wc ws wr : va_W} {A : Nat → Prop} {H0 : Heap}
variable {S0 : Type} {post : S0 → Prop} {w1 : S0 → va_W}
theorem cnJ (S : CallFix p m c cc nL s args Ts own) {mc ms f : Nat} (hM : ∀ sz, Met l y w (rmI f mc ms) (va_Pc [.ref b] (PnW G wc sz)) (QnW G (va_A wc sz) post w1) mc ms (va_A wc sz)) (cw : CallB R s args own index y bytes maxL none w (rmI f mc ms) mc ms 0 ∧ y.name = "<init>" ∧ (Cond.instanceMethod y).before args s = true) (hK : KK G s) (hP : va_P G.1 vwCl ws H) (hD : va_D A ws) (hS : va_S A H0 H locs) (hA : ∀ q, H0.size ≤ q → A q) (isC isR : List Nat) (hC : isC.map (fun i => ws[i]?) = wc.map some) (hR : isR.map (fun i => ws[i]?) = wr.map some) (hnC : va_nd isC = true) (hn : va_nd isR = true) (hdis : ∀ i ∈ isR, i ∉ isC)
    (hsize : ls.size = nL) (hW : (rest.map fun v => v.category).sum ≤ 8) (hdg : decode cc pc = .ok (.invokespecial index, 3)) (hf : cells + mc ≤ R.cells ∧ slots + ms ≤ R.slots)
    (kk : ∀ (u : S0) (H1 : Heap) (locs1 : List Loc), post u → va_P G.1 vwCl (wr ++ w1 u) H1 → va_D A (wr ++ w1 u) → va_S A H0 H1 locs1 → W p l e R s m args below meth c H1 locs1 (cells + mc) (slots + ms) Q (F0 m (pc + 3) ls rest)) : W p l e R s m args below meth c H locs cells slots Q (F0 m pc ls (.ref b :: rest)) := by
  have hPc := hP.pick hC
  have hDc := hD.sub isC hnC hC
  have hFc := va_free hD hS hA isC hC
  refine va_callv (va_runI (As := []) (rest := rest) S (hM H.size) cw ⟨PnW_blind, fun U hU hW => ⟨rfl, by rw [hU], by rw [hU]; exact hPc, hDc.weaken (fun _ _ _ _ => trivial), hK.warm hW⟩⟩ rfl rfl hsize rfl (lv_room hW) hdg hf) hS (fun q _ h => hFc q h) hFc (fun u t H1 locs1 ht hvm hp hB hz1 hk1 hS1 => ?_)
  obtain ⟨hP1, hD1⟩ := hB
  rw [ht] at hP1
  obtain ⟨hP2, hD2⟩ := va_join hP hD isC isR hC hR hn hdis hk1 hFc hP1 hD1
  exact kk u H1 locs1 hp hP2 hD2 hS1
end CJ
theorem nest_tbl : ∀ q ∈ nestL, Cond.methodLinkNest q.1 q.2.1 q.2.2 RX7 ∈ lw_tbl := by decide +kernel
theorem lvB_tbl : ∀ w ∈ lvB, w ∈ lw_tbl := by decide +kernel
theorem tb_1 : Cond.arrayClass .int ∈ lw_tbl := by decide +kernel
theorem tb_2 : Cond.arrayClass .boolean ∈ lw_tbl := by decide +kernel
theorem tb_3 : Cond.arrayClass .long ∈ lw_tbl := by decide +kernel
theorem tb_u1 : Cond.laysStatic Bundle.tN "UNASSIGNED_STACK" Bundle.steD ∈ lw_tbl := by decide +kernel
theorem tb_u2 : Cond.laysStatic Bundle.tN "SUPPRESSED_SENTINEL" Bundle.listD ∈ lw_tbl := by decide +kernel
theorem tb_u3 : Cond.initialized Bundle.tN ∈ lw_tbl := by decide +kernel
theorem fl_u1 : Cond.isRef (.static Bundle.tN "UNASSIGNED_STACK" Bundle.steD) ∈ flatC (Jvm.Cond.and given_1 narrow_1) := by decide +kernel
theorem fl_u2 : Cond.isRef (.static Bundle.tN "SUPPRESSED_SENTINEL" Bundle.listD) ∈ flatC (Jvm.Cond.and given_1 narrow_1) := by decide +kernel
theorem ti_0 : Cond.instantiable RJ0 4 ∈ lw_tbl := by decide +kernel
theorem ti_1 : Cond.instantiable RJx00060 6 ∈ lw_tbl := by decide +kernel
theorem ti_2 : Cond.instantiable RX0 4 ∈ lw_tbl := by decide +kernel
theorem ti_3 : Cond.instantiable RX1 6 ∈ lw_tbl := by decide +kernel
theorem ti_4 : Cond.instantiable RX2 3 ∈ lw_tbl := by decide +kernel
theorem ti_5 : Cond.instantiable RX3 2 ∈ lw_tbl := by decide +kernel
theorem ti_6 : Cond.instantiable RX4 2 ∈ lw_tbl := by decide +kernel
theorem ti_7 : Cond.instantiable RX5 8 ∈ lw_tbl := by decide +kernel
theorem ti_8 : Cond.instantiable RX6 6 ∈ lw_tbl := by decide +kernel
theorem ti_9 : Cond.instantiable RX7 7 ∈ lw_tbl := by decide +kernel
theorem ti_10 : Cond.instantiable RX8 27 ∈ lw_tbl := by decide +kernel
theorem tl_1 : Cond.classLink RL 8 RX7 ∈ wsL_law := by decide +kernel
theorem tl_2 : Cond.initialized RX7 ∈ wsL_law := by decide +kernel
theorem tl_3 : Cond.methodLink RL 15 yX7_init ∈ wsL_law := by decide +kernel
theorem tl_4 : Cond.instanceMethod yX7_init ∈ wsL_law := by decide +kernel
theorem tl_5 : Cond.classLink RL 16 RX8 ∈ wsL_law := by decide +kernel
theorem tl_6 : Cond.initialized RX8 ∈ wsL_law := by decide +kernel
theorem tl_7 : Cond.methodLink RL 18 yX8_init ∈ wsL_law := by decide +kernel
theorem tl_8 : Cond.instanceMethod yX8_init ∈ wsL_law := by decide +kernel
theorem hd_X7_init : yX7_init.cls ≠ "java/lang/invoke/MethodHandle" ∧ yX7_init.cls ≠ "java/lang/invoke/VarHandle" ∧ (parseMethodDescriptor yX7_init.desc).map (fun d => d.parameters.length) = some 0 := by decide +kernel
theorem hd_X8_init : yX8_init.cls ≠ "java/lang/invoke/MethodHandle" ∧ yX8_init.cls ≠ "java/lang/invoke/VarHandle" ∧ (parseMethodDescriptor yX8_init.desc).map (fun d => d.parameters.length) = some 0 := by decide +kernel
theorem K_of {args : Array Value} {s : State} (hts : ∀ w ∈ lw_tbl, w.before args s = true) : ∃ G : GG, KK G s := by
  obtain ⟨c0, i0, k0⟩ := u_known (n := 4) hts inJ0 (hts _ ti_0)
  obtain ⟨c1, i1, k1⟩ := u_known (n := 6) hts inJx00060 (hts _ ti_1)
  obtain ⟨c2, i2, k2⟩ := u_known (n := 4) hts inX0 (hts _ ti_2)
  obtain ⟨c3, i3, k3⟩ := u_known (n := 6) hts inX1 (hts _ ti_3)
  obtain ⟨c4, i4, k4⟩ := u_known (n := 3) hts inX2 (hts _ ti_4)
  obtain ⟨c5, i5, k5⟩ := u_known (n := 2) hts inX3 (hts _ ti_5)
  obtain ⟨c6, i6, k6⟩ := u_known (n := 2) hts inX4 (hts _ ti_6)
  obtain ⟨c7, i7, k7⟩ := u_known (n := 8) hts inX5 (hts _ ti_7)
  obtain ⟨c8, i8, k8⟩ := u_known (n := 6) hts inX6 (hts _ ti_8)
  obtain ⟨c9, i9, k9⟩ := u_known (n := 7) hts inX7 (hts _ ti_9)
  obtain ⟨c10, i10, k10⟩ := u_known (n := 27) hts inX8 (hts _ ti_10)
  obtain ⟨a1, kA1, p1, f1, g1, e1⟩ := Cond.arrayClass_spec (hts _ tb_1)
  obtain ⟨a2, kA2, p2, f2, g2, e2⟩ := Cond.arrayClass_spec (hts _ tb_2)
  refine ⟨((fun k => match k with | 0 => c0 | 1 => c1 | 2 => c2 | 3 => c3 | 4 => c4 | 5 => c5 | 6 => c6 | 7 => c7 | 8 => c8 | 9 => c9 | _ => c10, fun k => match k with | 0 => i0 | 1 => i1 | 2 => i2 | 3 => i3 | 4 => i4 | 5 => i5 | 6 => i6 | 7 => i7 | 8 => i8 | 9 => i9 | _ => i10), a1, a2), ⟨?_, ?_⟩, ?_⟩
  · intro k q hq
    match k, hq with
    | 0, hq => cases hq; exact k0
    | 1, hq => cases hq; exact k1
    | 2, hq => cases hq; exact k2
    | 3, hq => cases hq; exact k3
    | 4, hq => cases hq; exact k4
    | 5, hq => cases hq; exact k5
    | 6, hq => cases hq; exact k6
    | 7, hq => cases hq; exact k7
    | 8, hq => cases hq; exact k8
    | 9, hq => cases hq; exact k9
    | 10, hq => cases hq; exact k10
    | k + 11, hq => simp [vwCl] at hq
  · intro k q hq
    match k, hq with
    | 0, hq => cases hq; exact ⟨fun n z => ⟨fun k h => (by cases h), kA1, g1, p1, e1⟩, f1⟩
    | 1, hq => cases hq; exact ⟨fun n z => ⟨fun k h => (by cases h), kA2, g2, p2, e2⟩, f2⟩
    | k + 2, hq => simp at hq
  · exact fun q hq => va_Nw.of rfl (hts _ (nest_tbl q hq))
set_option maxHeartbeats 4000000 in
set_option maxRecDepth 100000 in
theorem law_start {p : Program} {e : Env} {s : State} {m : MethodId} {below : List Frame} {meth : Method} {c : Code} (l : Launch) (hflags : l.flags = flags0) {b L : Nat} {xs : Nat → Int32} (hL : L ≤ 2048) (C0 : lw_At p s m meth c b L xs) {Sim : CS → MS → Prop} (hsim : SimOk Sim) : W p l e room_1 s m #[Value.ref b] below meth c s.heap [] 0 0 (lw_Z below #[Value.ref b] s) (entryFrame m ([Value.ref b] : List Value).toArray 7) := by
  obtain ⟨hx, hb, hr, hml, hown, hts, hX, hbl, hlocks, hgv⟩ := id C0
  have hl0 : l.stackTraces = false := by unfold Launch.stackTraces; rw [hflags]; decide
  have htsL : ∀ w ∈ wsL_law, w.before #[Value.ref b] s = true := fun w h => hts w (wsL_law_in w h)
  obtain ⟨G, hKK⟩ := K_of hts
  have hK := hKK.1
  have hA : ∀ q : Nat, s.heap.size ≤ q → (fun q : Nat => s.heap.size ≤ q) q := fun _ h => h
  have hBl : ∀ w ∈ lvB, w.before #[] s = true := lvB_at (s := s) (U := s) rfl (fun w hw => hts w (lvB_tbl w hw))
  have hnA : ∀ a : Nat, a < s.heap.size → ¬ (fun q : Nat => s.heap.size ≤ q) a := fun a h => Nat.not_le.mpr h
  have hU := vx_Zqof (hts _ tb_u1) (hts _ tb_u3) (flat_of_before _ hgv _ fl_u1) hnA
  have hN := vx_Zqof (hts _ tb_u2) (hts _ tb_u3) (flat_of_before _ hgv _ fl_u2) hnA
  have hS : va_S (fun q : Nat => s.heap.size ≤ q) s.heap s.heap [] := va_S.rf
  have hP : va_P G.1 vwCl [] s.heap := fun k q h => by simp at h
  have hD : va_D (fun q : Nat => s.heap.size ≤ q) [] := ⟨fun i j p q h => by simp at h, fun k q h => by simp at h⟩
  have hl := lv_entry ([.ref b]) (n := 7) (Nat.le_of_ble_eq_true rfl)
  rw [lg_entry_eq]
  generalize (lg_sl ([.ref b]) ++ List.replicate (7 - (lg_sl ([.ref b])).length) Slot.unset).toArray = ls at hl ⊢
  have hl : lv_has ls 7 [(0, .ref b)] := hl
  refine va_new (ci := 9) (fs := [.null, .null, .null, .null, .null, .null, .null]) (C := RX7) (T := TX7) (N := 7) hx hb hts inX7 tyX7 tyX7_ok hown (htsL _ tl_1) (hts _ ti_9) (htsL _ tl_2) hK hP hD hS hA rfl (fun j hj => by rcases (show j = 0 ∨ j = 1 ∨ j = 2 ∨ j = 3 ∨ j = 4 ∨ j = 5 ∨ j = 6 by omega) with rfl | rfl | rfl | rfl | rfl | rfl | rfl <;> rfl) (Nat.le_of_ble_eq_true rfl) (Nat.le_of_ble_eq_true rfl) dL_law_0 (fun q0 H hP hD hS => ?_)
  refine lv_dup hx hb dL_law_3 rfl ?_
  refine cnJ (rest := [.ref q0]) ⟨hx, hb, hml, hown, hts⟩ (c_X7_init l G q0) (cwI 0 htsL gL_law_X7_init rfl rfl rfl (htsL _ tl_2) (htsL _ tl_3) (htsL _ tl_4) rfl hd_X7_init ⟨Nat.le_of_ble_eq_true rfl, Nat.le_of_ble_eq_true rfl⟩) hKK hP hD hS hA [0] [] (wr := []) rfl rfl (by decide) (by decide) (by decide) hl.1 (Nat.le_of_ble_eq_true rfl) dL_law_4 ⟨Nat.le_of_ble_eq_true rfl, Nat.le_of_ble_eq_true rfl⟩ (fun a H1 locs1 ha hP1 hD1 hS1 => ?_)
  have ha : a 0 = q0 := ha
  subst ha
  have hP : va_P G.1 vwCl (cW G a cS0) H1 := hP1
  have hD : va_D (fun q : Nat => s.heap.size ≤ q) (cW G a cS0) := hD1
  have hS := hS1
  refine lv_astore_n (lv' := [(1, .ref (a 0)), (0, .ref b)]) hx hb dL_law_7 rfl hl (by decide) rfl (fun ls hl => ?_)
  refine va_new (ci := 10) (fs := [.int 0, .null, .null, .null, .null, .null, .null, .int 0, .null, .null, .null, .int 0, .null, .null, .null, .int 0, .int 0, .null, .int 0, .null, .int 0, .null, .int 0, .int 0, .int 0, .null, .int 0]) (C := RX8) (T := TX8) (N := 27) hx hb hts inX8 tyX8 tyX8_ok hown (htsL _ tl_5) (hts _ ti_10) (htsL _ tl_6) hK hP hD hS hA rfl (fun j hj => by rcases (show j = 0 ∨ j = 1 ∨ j = 2 ∨ j = 3 ∨ j = 4 ∨ j = 5 ∨ j = 6 ∨ j = 7 ∨ j = 8 ∨ j = 9 ∨ j = 10 ∨ j = 11 ∨ j = 12 ∨ j = 13 ∨ j = 14 ∨ j = 15 ∨ j = 16 ∨ j = 17 ∨ j = 18 ∨ j = 19 ∨ j = 20 ∨ j = 21 ∨ j = 22 ∨ j = 23 ∨ j = 24 ∨ j = 25 ∨ j = 26 by omega) with rfl | rfl | rfl | rfl | rfl | rfl | rfl | rfl | rfl | rfl | rfl | rfl | rfl | rfl | rfl | rfl | rfl | rfl | rfl | rfl | rfl | rfl | rfl | rfl | rfl | rfl | rfl <;> rfl) (Nat.le_of_ble_eq_true rfl) (Nat.le_of_ble_eq_true rfl) dL_law_8 (fun q1 H hP hD hS => ?_)
  refine lv_dup hx hb dL_law_11 rfl ?_
  refine cnJ (rest := [.ref q1]) ⟨hx, hb, hml, hown, hts⟩ (c_X8_init l G q1) (cwI 0 htsL gL_law_X8_init rfl rfl rfl (htsL _ tl_6) (htsL _ tl_7) (htsL _ tl_8) rfl hd_X8_init ⟨Nat.le_of_ble_eq_true rfl, Nat.le_of_ble_eq_true rfl⟩) hKK hP hD hS hA [25] [0, 1, 2, 3, 4, 5, 6, 7, 8, 9, 10, 11, 12, 13, 14, 15, 16, 17, 18, 19, 20, 21, 22, 23, 24] (wr := cW G a cS0) rfl rfl (by decide) (by decide) (by decide) hl.1 (Nat.le_of_ble_eq_true rfl) dL_law_12 ⟨Nat.le_of_ble_eq_true rfl, Nat.le_of_ble_eq_true rfl⟩ (fun bb H2 locs2 ha hP2 hD2 hS2 => ?_)
  have ha : bb 0 = q1 := ha
  subst ha
  have hP : va_P G.1 vwCl (cW G a cS0 ++ mW G bb mS0) H2 := hP2
  have hD : va_D (fun q : Nat => s.heap.size ≤ q) (cW G a cS0 ++ mW G bb mS0) := hD2
  have hS := hS2
  refine lv_astore_n (lv' := [(2, .ref (bb 0)), (1, .ref (a 0)), (0, .ref b)]) hx hb dL_law_15 rfl hl (by decide) rfl (fun ls hl => ?_)
  refine lv_iconst (v := 1) hx hb dL_law_16 (by decide) ?_
  refine va_newa (atype := .long) hx hb (hts _ tb_3) rfl hK hP hD hS hA (a0 := (1, .inr (.inl (fun _ => 0)))) (fun _ => rfl) (by decide) rfl (Nat.le_of_ble_eq_true rfl) (Nat.le_of_ble_eq_true rfl) (Nat.le_of_ble_eq_true rfl) dL_law_17 (fun o cJ H hK3 hP hD hS => ?_)
  have hKJ : va_K G.1 vwCl [(cJ, .long)] s := hK3.sub [2] rfl
  have hP : va_P G.1 vwCl (cW G a cS0 ++ (mW G bb mS0 ++ [cJr cJ o (fun _ => 0)])) H := by rw [← List.append_assoc]; exact hP
  have hD : va_D (fun q : Nat => s.heap.size ≤ q) (cW G a cS0 ++ (mW G bb mS0 ++ [cJr cJ o (fun _ => 0)])) := by rw [← List.append_assoc]; exact hD
  refine lv_astore_n (lv' := [(3, .ref o), (2, .ref (bb 0)), (1, .ref (a 0)), (0, .ref b)]) hx hb dL_law_19 rfl hl (by decide) rfl (fun ls hl => ?_)
  refine lv_iconst (v := 0) hx hb dL_law_20 (by decide) ?_
  refine lv_istore (lv' := [(4, .int 0), (3, .ref o), (2, .ref (bb 0)), (1, .ref (a 0)), (0, .ref b)]) hx hb dL_law_21 hl (by decide) rfl (fun ls hl => ?_)
  exact law_loop hL C0 hl0 hsim hKK hKJ hBl hU hN 513 0 (Nat.le_refl _) (Nat.zero_le _) cS0 mS0 hsim.2.1 _ H _ hP hD hS ls (lv_sub hl [4, 3, 2, 1, 0] rfl)
