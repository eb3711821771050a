theorem iX6_branch_X6 : ∀ w ∈ u_ws RX6 TX6 6, w ∈ wsX6_branch := by decide +kernel
theorem fX6_branch_1 : Cond.fieldLink RX6 43 "FeatureSolve$Variants" "size" "I" ∈ wsX6_branch := by decide +kernel
theorem fX6_branch_2 : Cond.fieldLink RX6 32 "FeatureSolve$Variants" "row" "[I" ∈ wsX6_branch := by decide +kernel
theorem fX6_branch_3 : Cond.initialized RX7 ∈ wsX6_branch := by decide +kernel
theorem fX6_branch_4 : Cond.static yX7_at ∈ wsX6_branch := by decide +kernel
theorem fX6_branch_5 : Cond.fieldLink RX6 12 "FeatureSolve$Variants" "tree" "LFeatureSolve$Tree;" ∈ wsX6_branch := by decide +kernel
theorem hd_X5_mayBeOut : yX5_mayBeOut.cls ≠ "java/lang/invoke/MethodHandle" ∧ yX5_mayBeOut.cls ≠ "java/lang/invoke/VarHandle" ∧ (parseMethodDescriptor yX5_mayBeOut.desc).map (fun d => d.parameters.length) = some 2 := by decide +kernel
theorem hd_X5_mayBeIn : yX5_mayBeIn.cls ≠ "java/lang/invoke/MethodHandle" ∧ yX5_mayBeIn.cls ≠ "java/lang/invoke/VarHandle" ∧ (parseMethodDescriptor yX5_mayBeIn.desc).map (fun d => d.parameters.length) = some 2 := by decide +kernel
theorem fX6_branch_6 : Cond.static yX7_bit ∈ wsX6_branch := by decide +kernel
theorem fX6_branch_7 : Cond.static yX7_put ∈ wsX6_branch := by decide +kernel
set_option maxHeartbeats 4000000 in
set_option maxRecDepth 100000 in
/-- Variants.branch(f) -/
theorem c_X6_branch (l : Launch) (G : GG) (a : Nat → Nat) (r : Nat → Nat → Int32) (n : Nat) (bd u0 : Int32) (ro : Nat → Int32) (L : List Int32) (f : Nat) (hf : f < 15) (hr0 : rowIs ro L) (hok : brOk (r 3) (r 5) f L) (hsz : (brL (r 3) (r 5) f L).length ≤ 8192) : Met l yX6_branch wsX6_branch (rmK 2) (va_Pc [.ref (a 1), .int (nI f)] (PM G [(oX6 (a 1) (a 2) (a 9) (a 15) (a 18) (nI L.length) u0), (oX5 (a 2) (nI n) (a 3) (a 4) (a 5) (a 6) (a 7) (a 8) bd), (cI G (a 3) 15 (r 3)), (cI G (a 5) 15 (r 5)), (cI G (a 18) 8192 ro)])) (QG (S := Nat → Int32) G [(oX6 (a 1) (a 2) (a 9) (a 15) (a 18) (nI L.length) u0), (oX5 (a 2) (nI n) (a 3) (a 4) (a 5) (a 6) (a 7) (a 8) bd), (cI G (a 3) 15 (r 3)), (cI G (a 5) 15 (r 5)), (cI G (a 18) 8192 ro)] (fun u => rowIs u (brL (r 3) (r 5) f L)) (fun u => none) (fun u => [(oX6 (a 1) (a 2) (a 9) (a 15) (a 18) (nI (brL (r 3) (r 5) f L).length) u0), (oX5 (a 2) (nI n) (a 3) (a 4) (a 5) (a 6) (a 7) (a 8) bd), (cI G (a 3) 15 (r 3)), (cI G (a 5) 15 (r 5)), (cI G (a 18) 8192 u)])) 0 0 (adr [(oX6 (a 1) (a 2) (a 9) (a 15) (a 18) (nI L.length) u0), (oX5 (a 2) (nI n) (a 3) (a 4) (a 5) (a 6) (a 7) (a 8) bd), (cI G (a 3) 15 (r 3)), (cI G (a 5) 15 (r 5)), (cI G (a 18) 8192 ro)]) := by
  refine Met.ofW (cc := cX6_branch) (maxL := 6) (ret := none) (by decide) rfl ?_
  intro p e s m args below meth c s₁ B hml hv
  obtain ⟨rfl, hP, hD0, hKK⟩ := hv
  have hx := B.exec
  have hb := B.bytes
  have hr := B.returns
  have hts := atoms_spec (ws := wsX6_branch) B.pre
  have hown : s.vm.findClass RX6 = some m.cls := findClass_of_methodNamed B.named
  have hlocks := B.notSynchronized
  have hK := hKK.1
  generalize hAe : adr [(oX6 (a 1) (a 2) (a 9) (a 15) (a 18) (nI L.length) u0), (oX5 (a 2) (nI n) (a 3) (a 4) (a 5) (a 6) (a 7) (a 8) bd), (cI G (a 3) 15 (r 3)), (cI G (a 5) 15 (r 5)), (cI G (a 18) 8192 ro)] = A
  have hD : va_D A [(oX6 (a 1) (a 2) (a 9) (a 15) (a 18) (nI L.length) u0), (oX5 (a 2) (nI n) (a 3) (a 4) (a 5) (a 6) (a 7) (a 8) bd), (cI G (a 3) 15 (r 3)), (cI G (a 5) 15 (r 5)), (cI G (a 18) 8192 ro)] := by rw [← hAe]; exact hD0.own
  have hS : va_S A s.heap s.heap [] := va_S.rf
  have hP : va_P G.1 vwCl [(oX6 (a 1) (a 2) (a 9) (a 15) (a 18) (nI L.length) u0), (oX5 (a 2) (nI n) (a 3) (a 4) (a 5) (a 6) (a 7) (a 8) bd), (cI G (a 3) 15 (r 3)), (cI G (a 5) 15 (r 5)), (cI G (a 18) 8192 ro)] s.heap := hP
  have hl := lv_entry ([.ref (a 1), .int (nI f)]) (n := 6) (Nat.le_of_ble_eq_true rfl)
  rw [lg_entry_eq]
  generalize (lg_sl ([.ref (a 1), .int (nI f)]) ++ List.replicate (6 - (lg_sl ([.ref (a 1), .int (nI f)])).length) Slot.unset).toArray = ls at hl ⊢
  have hl : lv_has ls 6 [(0, .ref (a 1)), (1, .int (nI f))] := hl
  have hge : L.length ≤ 8192 := by have h9 := brN_ge hok (Nat.le_refl L.length); rw [brN_len] at h9; omega
  refine lv_aload_n hx hb dX6_branch_0 rfl (lv_at hl 0 rfl) ?_
  refine va_get (D := G.1) (ci := 8) (v := .int (nI L.length)) (C := RX6) (T := TX6) (N := 6) hx hb hts iX6_branch_X6 hown hK hP 0 rfl rfl 4 (by decide) (hts _ fX6_branch_1) (fun _ h9 => h9) rfl dX6_branch_1 ?_
  refine lv_istore_n (lv' := [(2, .int (nI L.length)), (0, .ref (a 1)), (1, .int (nI f))]) hx hb dX6_branch_4 rfl hl (by decide) rfl (fun ls hl => ?_)
  refine lv_iconst (v := 0) hx hb dX6_branch_5 (by decide) ?_
  refine lv_istore_n (lv' := [(3, .int 0), (2, .int (nI L.length)), (0, .ref (a 1)), (1, .int (nI f))]) hx hb dX6_branch_6 rfl hl (by decide) rfl (fun ls hl => ?_)
  refine loopJ (nL := 6) (I := fun (jx : Nat) => jx ≤ L.length) (μ := fun (jx : Nat) => L.length - jx) (lv := fun (jx : Nat) => [(0, .ref (a 1)), (1, .int (nI f)), (2, .int (nI (L.length - jx + brN (r 3) (r 5) f L jx))), (3, .int (nI jx))]) (pc' := 7) (fun xv9 hI ih_7 ls hl => ?_) 0 (Nat.zero_le _) ls (lv_sub hl [2, 3, 1, 0] (by show ([(0, .ref (a 1)), (1, .int (nI f)), (2, .int (nI L.length)), (3, .int 0)] : List (Nat × Value)) = [(0, .ref (a 1)), (1, .int (nI f)), (2, .int (nI (L.length - 0 + brN (r 3) (r 5) f L 0))), (3, .int (nI 0))]; rw [brN_0]; rfl))
  obtain ⟨jx, rfl⟩ : ∃ y, y = xv9 := ⟨_, rfl⟩
  have hI : jx ≤ L.length := hI
  have hl : lv_has ls 6 [(0, .ref (a 1)), (1, .int (nI f)), (2, .int (nI (L.length - jx + brN (r 3) (r 5) f L jx))), (3, .int (nI jx))] := hl
  refine lv_iload_n hx hb dX6_branch_7 rfl (lv_at hl 3 rfl) ?_
  refine lv_aload_n hx hb dX6_branch_8 rfl (lv_at hl 0 rfl) ?_
  refine va_get (D := G.1) (ci := 8) (v := .int (nI L.length)) (C := RX6) (T := TX6) (N := 6) hx hb hts iX6_branch_X6 hown hK hP 0 rfl rfl 4 (by decide) (hts _ fX6_branch_1) (fun _ h9 => h9) rfl dX6_branch_9 ?_
  refine lv_icmp_ge (tgt := 65) hx hb dX6_branch_12 (by decide) (fun c_12 => ?_) (fun c_12 => ?_)
  · skip
    have hj : jx = L.length := by have := (nI_leI (a := L.length) (b := jx) (by omega) (by omega)).mp c_12; omega
    have e1 : L.length - jx + brN (r 3) (r 5) f L jx = (brL (r 3) (r 5) f L).length := by rw [hj, brN_len]; omega
    refine lv_iload_n hx hb dX6_branch_65 rfl (lv_at hl 2 rfl) ?_
    refine lv_istore_n (lv' := [(3, .int (nI (L.length - jx + brN (r 3) (r 5) f L jx))), (0, .ref (a 1)), (1, .int (nI f)), (2, .int (nI (L.length - jx + brN (r 3) (r 5) f L jx)))]) hx hb dX6_branch_66 rfl hl (by decide) rfl (fun ls hl => ?_)
    refine lv_aload_n hx hb dX6_branch_67 rfl (lv_at hl 1 rfl) ?_
    refine va_get (D := G.1) (ci := 8) (v := .int (nI L.length)) (C := RX6) (T := TX6) (N := 6) hx hb hts iX6_branch_X6 hown hK hP 0 rfl rfl 4 (by decide) (hts _ fX6_branch_1) (fun _ h9 => h9) rfl dX6_branch_68 ?_
    refine lv_iconst (v := 1) hx hb dX6_branch_71 (by decide) ?_
    refine lv_isub hx hb dX6_branch_72 ?_
    refine lv_istore (lv' := [(4, .int ((nI L.length) - 1)), (3, .int (nI (L.length - jx + brN (r 3) (r 5) f L jx))), (0, .ref (a 1)), (1, .int (nI f)), (2, .int (nI (L.length - jx + brN (r 3) (r 5) f L jx)))]) hx hb dX6_branch_73 hl (by decide) rfl (fun ls hl => ?_)
    refine loopH (nL := 6) (I := fun (xv9 : Nat × (Nat → Int32)) => (fun (tx : Nat) (gx : Nat → Int32) => brI (r 3) (r 5) f L tx gx) xv9.1 xv9.2) (μ := fun (xv9 : Nat × (Nat → Int32)) => (fun (tx : Nat) (gx : Nat → Int32) => tx) xv9.1 xv9.2) (lv := fun (xv9 : Nat × (Nat → Int32)) => (fun (tx : Nat) (gx : Nat → Int32) => [(0, .ref (a 1)), (1, .int (nI f)), (2, .int (nI (brL (r 3) (r 5) f L).length)), (3, .int (nI (brN (r 3) (r 5) f L tx))), (4, .int (nI tx - 1))]) xv9.1 xv9.2) (wj := fun (xv9 : Nat × (Nat → Int32)) => (fun (tx : Nat) (gx : Nat → Int32) => [(oX6 (a 1) (a 2) (a 9) (a 15) (a 18) (nI L.length) u0), (oX5 (a 2) (nI n) (a 3) (a 4) (a 5) (a 6) (a 7) (a 8) bd), (cI G (a 3) 15 (r 3)), (cI G (a 5) 15 (r 5)), (cI G (a 18) 8192 gx)]) xv9.1 xv9.2) (pc' := 75) (fun xv9 hI ih_75 H locs ls hP hD hS hl => ?_) (⟨L.length, ro⟩) (brI_0 hr0) _ _ ls (hP) (hD) hS (lv_sub hl [2, 3, 4, 1, 0] (by show ([(0, .ref (a 1)), (1, .int (nI f)), (2, .int (nI (L.length - jx + brN (r 3) (r 5) f L jx))), (3, .int (nI (L.length - jx + brN (r 3) (r 5) f L jx))), (4, .int ((nI L.length) - 1))] : List (Nat × Value)) = [(0, .ref (a 1)), (1, .int (nI f)), (2, .int (nI (brL (r 3) (r 5) f L).length)), (3, .int (nI (brN (r 3) (r 5) f L L.length))), (4, .int (nI L.length - 1))]; rw [brN_len, e1]))
    obtain ⟨tx, gx⟩ := xv9
    have hI : brI (r 3) (r 5) f L tx gx := hI
    have hl : lv_has ls 6 [(0, .ref (a 1)), (1, .int (nI f)), (2, .int (nI (brL (r 3) (r 5) f L).length)), (3, .int (nI (brN (r 3) (r 5) f L tx))), (4, .int (nI tx - 1))] := hl
    have hPD : PD G A [(oX6 (a 1) (a 2) (a 9) (a 15) (a 18) (nI L.length) u0), (oX5 (a 2) (nI n) (a 3) (a 4) (a 5) (a 6) (a 7) (a 8) bd), (cI G (a 3) 15 (r 3)), (cI G (a 5) 15 (r 5)), (cI G (a 18) 8192 gx)] H := ⟨hP, hD⟩
    have hP := hPD.1
    have hD := hPD.2
    clear hPD
    have htl : tx ≤ L.length := hI.1
    have hNl := brN_le (kd := r 3) (pb := r 5) (f := f) htl
    refine lv_iload hx hb dX6_branch_75 (lv_at hl 4 rfl) ?_
    refine lv_if_lt (tgt := 154) hx hb dX6_branch_77 (by decide) (fun c_77 => ?_) (fun c_77 => ?_)
    · skip
      have ht : tx = 0 := (i_neg_iff (by omega)).mp c_77
      refine lv_aload_n hx hb dX6_branch_154 rfl (lv_at hl 0 rfl) ?_
      refine lv_iload_n hx hb dX6_branch_155 rfl (lv_at hl 2 rfl) ?_
      refine va_put (D := G.1) (ci := 8) (v := .int (nI (brL (r 3) (r 5) f L).length)) (ty := .int) (C := RX6) (T := TX6) (N := 6) hx hb hts iX6_branch_X6 tyX6 tyX6_ok nmX6 hown hK hP hD hS 0 rfl rfl 4 (by decide) (hts _ fX6_branch_1) (fun _ h9 => h9) rfl (by decide +kernel) rfl rfl (Nat.le_of_ble_eq_true rfl) dX6_branch_156 (fun H locs hP hD hS => ?_)
      have hPD : PD G A [(oX6 (a 1) (a 2) (a 9) (a 15) (a 18) (nI (brL (r 3) (r 5) f L).length) u0), (oX5 (a 2) (nI n) (a 3) (a 4) (a 5) (a 6) (a 7) (a 8) bd), (cI G (a 3) 15 (r 3)), (cI G (a 5) 15 (r 5)), (cI G (a 18) 8192 gx)] H := ⟨hP, hD⟩
      have hP := hPD.1
      have hD := hPD.2
      clear hPD
      exact gretv hx hb hr hlocks hAe hS (gx) (rfl) (by have h9 := hI; rw [ht] at h9; exact brI_end h9) (hP) dX6_branch_159
    · skip
      obtain ⟨ty, hty⟩ : ∃ q, tx = q + 1 := ⟨tx - 1, by have := mt (i_neg_iff (t := tx) (by omega)).mpr c_77; omega⟩
      have hgt := brN_ge hok htl
      refine lv_aload_n hx hb dX6_branch_80 rfl (lv_at hl 0 rfl) ?_
      refine va_get (D := G.1) (ci := 8) (v := .ref (a 18)) (C := RX6) (T := TX6) (N := 6) hx hb hts iX6_branch_X6 hown hK hP 0 rfl rfl 3 (by decide) (hts _ fX6_branch_2) (fun _ h9 => h9) rfl dX6_branch_81 ?_
      refine lv_iload hx hb dX6_branch_84 (lv_at hl 4 rfl) ?_
      refine cpN (As := [.ref (a 18), .int (nI tx - 1)]) (rest := []) ⟨hx, hb, hml, hown, hts⟩ (c_X7_atk l G (a 18) 8192 gx (nI tx - 1) ty (by rw [hty]; exact nI_pred ty) (by omega) (by decide)) ⟨va_cnB (own := RX6) (host := RX7) (index := 47) (y := yX7_at) 2 hts gX6_branch_X7_at_n47 rfl rfl rfl (hKK.2.nth 17 (q := (RX6, 47, yX7_at)) rfl) (hts _ fX6_branch_3) hd_X7_at ⟨Nat.le_of_ble_eq_true rfl, Nat.le_of_ble_eq_true rfl⟩, (hts _ fX6_branch_4), trivial⟩ hKK hP [4] rfl rfl hl.1 rfl (Nat.le_of_ble_eq_true rfl) dX6_branch_86 ⟨Nat.zero_le _, Nat.zero_le _⟩ ?_
      refine stI (y := L.getD ty 0) (hI.2.1 ty (by omega)) ?_
      refine lv_istore (lv' := [(5, .int (L.getD ty 0)), (0, .ref (a 1)), (1, .int (nI f)), (2, .int (nI (brL (r 3) (r 5) f L).length)), (3, .int (nI (brN (r 3) (r 5) f L tx))), (4, .int (nI tx - 1))]) hx hb dX6_branch_89 hl (by decide) rfl (fun ls hl => ?_)
      refine lv_aload_n hx hb dX6_branch_91 rfl (lv_at hl 1 rfl) ?_
      refine va_get (D := G.1) (ci := 8) (v := .ref (a 2)) (C := RX6) (T := TX6) (N := 6) hx hb hts iX6_branch_X6 hown hK hP 0 rfl rfl 0 (by decide) (hts _ fX6_branch_5) (fun _ h9 => h9) rfl dX6_branch_92 ?_
      refine lv_iload hx hb dX6_branch_95 (lv_at hl 0 rfl) ?_
      refine lv_iload_n hx hb dX6_branch_97 rfl (lv_at hl 2 rfl) ?_
      refine cpV (ci := 7) (T0 := TX5) (N := 8) (As := [.int (L.getD ty 0), .int (nI f)]) (rest := []) ⟨hx, hb, hml, hown, hts⟩ (c_X5_mayBeOut l G (a 2) (nI n) (a 3) (a 4) (a 5) (a 6) (a 7) (a 8) bd (r 3) (r 5) (L.getD ty 0) f (by omega)) (cwV 2 hts gX6_branch_X5_mayBeOut rfl rfl rfl ⟨rfl, hd_X5_mayBeOut⟩ ⟨Nat.le_of_ble_eq_true rfl, Nat.le_of_ble_eq_true rfl⟩) hKK hP [1, 2, 3] rfl rfl rfl rfl hl.1 rfl (Nat.le_of_ble_eq_true rfl) dX6_branch_98 ⟨Nat.zero_le _, Nat.zero_le _⟩ ?_
      refine lv_if_eq (tgt := 117) hx hb dX6_branch_101 (by decide) (fun c_101 => ?_) (fun c_101 => ?_)
      · skip
        refine lv_aload_n hx hb dX6_branch_117 rfl (lv_at hl 1 rfl) ?_
        refine va_get (D := G.1) (ci := 8) (v := .ref (a 2)) (C := RX6) (T := TX6) (N := 6) hx hb hts iX6_branch_X6 hown hK hP 0 rfl rfl 0 (by decide) (hts _ fX6_branch_5) (fun _ h9 => h9) rfl dX6_branch_118 ?_
        refine lv_iload hx hb dX6_branch_121 (lv_at hl 0 rfl) ?_
        refine lv_iload_n hx hb dX6_branch_123 rfl (lv_at hl 2 rfl) ?_
        refine cpV (ci := 7) (T0 := TX5) (N := 8) (As := [.int (L.getD ty 0), .int (nI f)]) (rest := []) ⟨hx, hb, hml, hown, hts⟩ (c_X5_mayBeIn l G (a 2) (nI n) (a 3) (a 4) (a 5) (a 6) (a 7) (a 8) bd (r 5) (L.getD ty 0) f (by omega)) (cwV 2 hts gX6_branch_X5_mayBeIn rfl rfl rfl ⟨rfl, hd_X5_mayBeIn⟩ ⟨Nat.le_of_ble_eq_true rfl, Nat.le_of_ble_eq_true rfl⟩) hKK hP [1, 3] rfl rfl rfl rfl hl.1 rfl (Nat.le_of_ble_eq_true rfl) dX6_branch_124 ⟨Nat.zero_le _, Nat.zero_le _⟩ ?_
        refine lv_if_eq (tgt := 148) hx hb dX6_branch_127 (by decide) (fun c_127 => ?_) (fun c_127 => ?_)
        · exact absurd (hok _ (getD_mem (show ty < L.length by omega))) (by rw [bI_0.mp c_101, bI_0.mp c_127]; decide)
        · skip
          have hbr : brN (r 3) (r 5) f L tx - 1 = brN (r 3) (r 5) f L ty ∧ brI (r 3) (r 5) f L ty (upd gx (brN (r 3) (r 5) f L tx - 1) (L.getD ty 0 ||| bitI (nI f))) := by
            rw [hty] at hI ⊢
            exact brI_one hI hok (brV_in (bI_n0 c_127) (bI_0.mp c_101))
          refine lv_iinc (v := nI (brN (r 3) (r 5) f L tx - 1)) (lv' := [(3, .int (nI (brN (r 3) (r 5) f L tx - 1))), (5, .int (L.getD ty 0)), (0, .ref (a 1)), (1, .int (nI f)), (2, .int (nI (brL (r 3) (r 5) f L).length)), (4, .int (nI tx - 1))]) hx hb dX6_branch_130 hl (k := 4) rfl (iinc_m1 (by omega)) (by decide) rfl (fun ls hl => ?_)
          refine lv_aload_n hx hb dX6_branch_133 rfl (lv_at hl 2 rfl) ?_
          refine va_get (D := G.1) (ci := 8) (v := .ref (a 18)) (C := RX6) (T := TX6) (N := 6) hx hb hts iX6_branch_X6 hown hK hP 0 rfl rfl 3 (by decide) (hts _ fX6_branch_2) (fun _ h9 => h9) rfl dX6_branch_134 ?_
          refine lv_iload_n hx hb dX6_branch_137 rfl (lv_at hl 0 rfl) ?_
          refine lv_iload hx hb dX6_branch_138 (lv_at hl 1 rfl) ?_
          refine lv_iload_n hx hb dX6_branch_140 rfl (lv_at hl 3 rfl) ?_
          refine cpN (As := [.int (nI f)]) (rest := [.int (L.getD ty 0), .int (nI (brN (r 3) (r 5) f L tx - 1)), .ref (a 18)]) ⟨hx, hb, hml, hown, hts⟩ (c_X7_bit l G (nI f)) ⟨va_cnB (own := RX6) (host := RX7) (index := 74) (y := yX7_bit) 1 hts gX6_branch_X7_bit_n74 rfl rfl rfl (hKK.2.nth 18 (q := (RX6, 74, yX7_bit)) rfl) (hts _ fX6_branch_3) hd_X7_bit ⟨Nat.le_of_ble_eq_true rfl, Nat.le_of_ble_eq_true rfl⟩, (hts _ fX6_branch_6), trivial⟩ hKK hP [] rfl rfl hl.1 rfl (Nat.le_of_ble_eq_true rfl) dX6_branch_141 ⟨Nat.zero_le _, Nat.zero_le _⟩ ?_
          refine lv_ior hx hb dX6_branch_144 ?_
          refine cnN (nw := 5) (As := [.ref (a 18), .int (nI (brN (r 3) (r 5) f L tx - 1)), .int ((L.getD ty 0) ||| (bitI (nI f)))]) (rest := []) ⟨hx, hb, hml, hown, hts⟩ (c_X7_putk l G (a 18) 8192 gx (nI (brN (r 3) (r 5) f L tx - 1)) ((L.getD ty 0) ||| (bitI (nI f))) (brN (r 3) (r 5) f L tx - 1) (rfl) (by omega) (by decide)) ⟨va_cnB (own := RX6) (host := RX7) (index := 55) (y := yX7_put) 3 hts gX6_branch_X7_put_n55 rfl rfl rfl (hKK.2.nth 16 (q := (RX6, 55, yX7_put)) rfl) (hts _ fX6_branch_3) hd_X7_put ⟨Nat.le_of_ble_eq_true rfl, Nat.le_of_ble_eq_true rfl⟩, (hts _ fX6_branch_7), trivial⟩ hKK hP hD hS [4] [0, 1, 2, 3] (fun _ => [(oX6 (a 1) (a 2) (a 9) (a 15) (a 18) (nI L.length) u0), (oX5 (a 2) (nI n) (a 3) (a 4) (a 5) (a 6) (a 7) (a 8) bd), (cI G (a 3) 15 (r 3)), (cI G (a 5) 15 (r 5)), (cI G (a 18) 8192 (upd gx (brN (r 3) (r 5) f L tx - 1) ((L.getD ty 0) ||| (bitI (nI f)))))]) [some (oX6 (a 1) (a 2) (a 9) (a 15) (a 18) (nI L.length) u0), some (oX5 (a 2) (nI n) (a 3) (a 4) (a 5) (a 6) (a 7) (a 8) bd), some (cI G (a 3) 15 (r 3)), some (cI G (a 5) 15 (r 5))] [a 1, a 2, a 3, a 5, (a 18)] rfl (by decide) (by decide) rfl hl.1 rfl (Nat.le_of_ble_eq_true rfl) dX6_branch_145 ⟨Nat.zero_le _, Nat.zero_le _⟩ (fun _ => rfl) (fun _ => rfl) rfl (fun _ => rfl) rfl (fun _ => rfl) (fun _ H locs _ hP hD hS => ?_)
          refine lv_iinc (v := nI ty - 1) (lv' := [(4, .int (nI ty - 1)), (3, .int (nI (brN (r 3) (r 5) f L tx - 1))), (5, .int (L.getD ty 0)), (0, .ref (a 1)), (1, .int (nI f)), (2, .int (nI (brL (r 3) (r 5) f L).length))]) hx hb dX6_branch_148 hl (k := 5) rfl (by rw [hty]; exact i_dec2 ty) (by decide) rfl (fun ls hl => ?_)
          refine lv_goto (tgt := 75) hx hb dX6_branch_151 (by decide) ?_
          exact ih_75 (⟨ty, upd gx (brN (r 3) (r 5) f L tx - 1) (L.getD ty 0 ||| bitI (nI f))⟩) (hbr.2) (by show ty < tx; omega) _ _ ls (hP) (hD) hS (lv_sub hl [3, 4, 5, 1, 0] (by show ([(0, .ref (a 1)), (1, .int (nI f)), (2, .int (nI (brL (r 3) (r 5) f L).length)), (3, .int (nI (brN (r 3) (r 5) f L tx - 1))), (4, .int (nI ty - 1))] : List (Nat × Value)) = [(0, .ref (a 1)), (1, .int (nI f)), (2, .int (nI (brL (r 3) (r 5) f L).length)), (3, .int (nI (brN (r 3) (r 5) f L ty))), (4, .int (nI ty - 1))]; rw [hbr.1]))
      · skip
        refine lv_iinc (v := nI (brN (r 3) (r 5) f L tx - 1)) (lv' := [(3, .int (nI (brN (r 3) (r 5) f L tx - 1))), (5, .int (L.getD ty 0)), (0, .ref (a 1)), (1, .int (nI f)), (2, .int (nI (brL (r 3) (r 5) f L).length)), (4, .int (nI tx - 1))]) hx hb dX6_branch_104 hl (k := 4) rfl (iinc_m1 (by omega)) (by decide) rfl (fun ls hl => ?_)
        refine lv_aload_n hx hb dX6_branch_107 rfl (lv_at hl 2 rfl) ?_
        refine va_get (D := G.1) (ci := 8) (v := .ref (a 18)) (C := RX6) (T := TX6) (N := 6) hx hb hts iX6_branch_X6 hown hK hP 0 rfl rfl 3 (by decide) (hts _ fX6_branch_2) (fun _ h9 => h9) rfl dX6_branch_108 ?_
        refine lv_iload_n hx hb dX6_branch_111 rfl (lv_at hl 0 rfl) ?_
        refine lv_iload hx hb dX6_branch_112 (lv_at hl 1 rfl) ?_
        refine cnN (nw := 5) (As := [.ref (a 18), .int (nI (brN (r 3) (r 5) f L tx - 1)), .int (L.getD ty 0)]) (rest := []) ⟨hx, hb, hml, hown, hts⟩ (c_X7_putk l G (a 18) 8192 gx (nI (brN (r 3) (r 5) f L tx - 1)) (L.getD ty 0) (brN (r 3) (r 5) f L tx - 1) (rfl) (by omega) (by decide)) ⟨va_cnB (own := RX6) (host := RX7) (index := 55) (y := yX7_put) 3 hts gX6_branch_X7_put_n55 rfl rfl rfl (hKK.2.nth 16 (q := (RX6, 55, yX7_put)) rfl) (hts _ fX6_branch_3) hd_X7_put ⟨Nat.le_of_ble_eq_true rfl, Nat.le_of_ble_eq_true rfl⟩, (hts _ fX6_branch_7), trivial⟩ hKK hP hD hS [4] [0, 1, 2, 3] (fun _ => [(oX6 (a 1) (a 2) (a 9) (a 15) (a 18) (nI L.length) u0), (oX5 (a 2) (nI n) (a 3) (a 4) (a 5) (a 6) (a 7) (a 8) bd), (cI G (a 3) 15 (r 3)), (cI G (a 5) 15 (r 5)), (cI G (a 18) 8192 (upd gx (brN (r 3) (r 5) f L tx - 1) (L.getD ty 0)))]) [some (oX6 (a 1) (a 2) (a 9) (a 15) (a 18) (nI L.length) u0), some (oX5 (a 2) (nI n) (a 3) (a 4) (a 5) (a 6) (a 7) (a 8) bd), some (cI G (a 3) 15 (r 3)), some (cI G (a 5) 15 (r 5))] [a 1, a 2, a 3, a 5, (a 18)] rfl (by decide) (by decide) rfl hl.1 rfl (Nat.le_of_ble_eq_true rfl) dX6_branch_114 ⟨Nat.zero_le _, Nat.zero_le _⟩ (fun _ => rfl) (fun _ => rfl) rfl (fun _ => rfl) rfl (fun _ => rfl) (fun _ H locs _ hP hD hS => ?_)
        refine lv_aload_n hx hb dX6_branch_117 rfl (lv_at hl 2 rfl) ?_
        refine va_get (D := G.1) (ci := 8) (v := .ref (a 2)) (C := RX6) (T := TX6) (N := 6) hx hb hts iX6_branch_X6 hown hK hP 0 rfl rfl 0 (by decide) (hts _ fX6_branch_5) (fun _ h9 => h9) rfl dX6_branch_118 ?_
        refine lv_iload hx hb dX6_branch_121 (lv_at hl 1 rfl) ?_
        refine lv_iload_n hx hb dX6_branch_123 rfl (lv_at hl 3 rfl) ?_
        refine cpV (ci := 7) (T0 := TX5) (N := 8) (As := [.int (L.getD ty 0), .int (nI f)]) (rest := []) ⟨hx, hb, hml, hown, hts⟩ (c_X5_mayBeIn l G (a 2) (nI n) (a 3) (a 4) (a 5) (a 6) (a 7) (a 8) bd (r 5) (L.getD ty 0) f (by omega)) (cwV 2 hts gX6_branch_X5_mayBeIn rfl rfl rfl ⟨rfl, hd_X5_mayBeIn⟩ ⟨Nat.le_of_ble_eq_true rfl, Nat.le_of_ble_eq_true rfl⟩) hKK hP [1, 3] rfl rfl rfl rfl hl.1 rfl (Nat.le_of_ble_eq_true rfl) dX6_branch_124 ⟨Nat.zero_le _, Nat.zero_le _⟩ ?_
        refine lv_if_eq (tgt := 148) hx hb dX6_branch_127 (by decide) (fun c_127 => ?_) (fun c_127 => ?_)
        · skip
          have hbr : brN (r 3) (r 5) f L tx - 1 = brN (r 3) (r 5) f L ty ∧ brI (r 3) (r 5) f L ty (upd gx (brN (r 3) (r 5) f L tx - 1) (L.getD ty 0)) := by
            rw [hty] at hI ⊢
            exact brI_one hI hok (brV_out (bI_0.mp c_127) (bI_n0 c_101))
          refine lv_iinc (v := nI ty - 1) (lv' := [(4, .int (nI ty - 1)), (3, .int (nI (brN (r 3) (r 5) f L tx - 1))), (5, .int (L.getD ty 0)), (0, .ref (a 1)), (1, .int (nI f)), (2, .int (nI (brL (r 3) (r 5) f L).length))]) hx hb dX6_branch_148 hl (k := 5) rfl (by rw [hty]; exact i_dec2 ty) (by decide) rfl (fun ls hl => ?_)
          refine lv_goto (tgt := 75) hx hb dX6_branch_151 (by decide) ?_
          exact ih_75 (⟨ty, upd gx (brN (r 3) (r 5) f L tx - 1) (L.getD ty 0)⟩) (hbr.2) (by show ty < tx; omega) _ _ ls (hP) (hD) hS (lv_sub hl [3, 4, 5, 1, 0] (by show ([(0, .ref (a 1)), (1, .int (nI f)), (2, .int (nI (brL (r 3) (r 5) f L).length)), (3, .int (nI (brN (r 3) (r 5) f L tx - 1))), (4, .int (nI ty - 1))] : List (Nat × Value)) = [(0, .ref (a 1)), (1, .int (nI f)), (2, .int (nI (brL (r 3) (r 5) f L).length)), (3, .int (nI (brN (r 3) (r 5) f L ty))), (4, .int (nI ty - 1))]; rw [hbr.1]))
        · skip
          have hbr : brN (r 3) (r 5) f L tx - 1 - 1 = brN (r 3) (r 5) f L ty ∧ brI (r 3) (r 5) f L ty (upd (upd gx (brN (r 3) (r 5) f L tx - 1) (L.getD ty 0)) (brN (r 3) (r 5) f L tx - 1 - 1) (L.getD ty 0 ||| bitI (nI f))) := by
            rw [hty] at hI ⊢
            exact brI_two hI hok (brV_two (bI_n0 c_127) (bI_n0 c_101))
          have hN2 : 2 ≤ brN (r 3) (r 5) f L tx := by
            have e9 := brN_s (kd := r 3) (pb := r 5) (f := f) (L := L) (t := ty) (by omega)
            rw [brV_two (bI_n0 c_127) (bI_n0 c_101), ← hty] at e9
            have e8 : brN (r 3) (r 5) f L tx = brN (r 3) (r 5) f L ty + 2 := e9
            omega
          refine lv_iinc (v := nI (brN (r 3) (r 5) f L tx - 1 - 1)) (lv' := [(3, .int (nI (brN (r 3) (r 5) f L tx - 1 - 1))), (5, .int (L.getD ty 0)), (0, .ref (a 1)), (1, .int (nI f)), (2, .int (nI (brL (r 3) (r 5) f L).length)), (4, .int (nI tx - 1))]) hx hb dX6_branch_130 hl (k := 0) rfl (iinc_m1 (by omega)) (by decide) rfl (fun ls hl => ?_)
          refine lv_aload_n hx hb dX6_branch_133 rfl (lv_at hl 2 rfl) ?_
          refine va_get (D := G.1) (ci := 8) (v := .ref (a 18)) (C := RX6) (T := TX6) (N := 6) hx hb hts iX6_branch_X6 hown hK hP 0 rfl rfl 3 (by decide) (hts _ fX6_branch_2) (fun _ h9 => h9) rfl dX6_branch_134 ?_
          refine lv_iload_n hx hb dX6_branch_137 rfl (lv_at hl 0 rfl) ?_
          refine lv_iload hx hb dX6_branch_138 (lv_at hl 1 rfl) ?_
          refine lv_iload_n hx hb dX6_branch_140 rfl (lv_at hl 3 rfl) ?_
          refine cpN (As := [.int (nI f)]) (rest := [.int (L.getD ty 0), .int (nI (brN (r 3) (r 5) f L tx - 1 - 1)), .ref (a 18)]) ⟨hx, hb, hml, hown, hts⟩ (c_X7_bit l G (nI f)) ⟨va_cnB (own := RX6) (host := RX7) (index := 74) (y := yX7_bit) 1 hts gX6_branch_X7_bit_n74 rfl rfl rfl (hKK.2.nth 18 (q := (RX6, 74, yX7_bit)) rfl) (hts _ fX6_branch_3) hd_X7_bit ⟨Nat.le_of_ble_eq_true rfl, Nat.le_of_ble_eq_true rfl⟩, (hts _ fX6_branch_6), trivial⟩ hKK hP [] rfl rfl hl.1 rfl (Nat.le_of_ble_eq_true rfl) dX6_branch_141 ⟨Nat.zero_le _, Nat.zero_le _⟩ ?_
          refine lv_ior hx hb dX6_branch_144 ?_
          refine cnN (nw := 5) (As := [.ref (a 18), .int (nI (brN (r 3) (r 5) f L tx - 1 - 1)), .int ((L.getD ty 0) ||| (bitI (nI f)))]) (rest := []) ⟨hx, hb, hml, hown, hts⟩ (c_X7_putk l G (a 18) 8192 (upd gx (brN (r 3) (r 5) f L tx - 1) (L.getD ty 0)) (nI (brN (r 3) (r 5) f L tx - 1 - 1)) ((L.getD ty 0) ||| (bitI (nI f))) (brN (r 3) (r 5) f L tx - 1 - 1) (rfl) (by omega) (by decide)) ⟨va_cnB (own := RX6) (host := RX7) (index := 55) (y := yX7_put) 3 hts gX6_branch_X7_put_n55 rfl rfl rfl (hKK.2.nth 16 (q := (RX6, 55, yX7_put)) rfl) (hts _ fX6_branch_3) hd_X7_put ⟨Nat.le_of_ble_eq_true rfl, Nat.le_of_ble_eq_true rfl⟩, (hts _ fX6_branch_7), trivial⟩ hKK hP hD hS [4] [0, 1, 2, 3] (fun _ => [(oX6 (a 1) (a 2) (a 9) (a 15) (a 18) (nI L.length) u0), (oX5 (a 2) (nI n) (a 3) (a 4) (a 5) (a 6) (a 7) (a 8) bd), (cI G (a 3) 15 (r 3)), (cI G (a 5) 15 (r 5)), (cI G (a 18) 8192 (upd (upd gx (brN (r 3) (r 5) f L tx - 1) (L.getD ty 0)) (brN (r 3) (r 5) f L tx - 1 - 1) ((L.getD ty 0) ||| (bitI (nI f)))))]) [some (oX6 (a 1) (a 2) (a 9) (a 15) (a 18) (nI L.length) u0), some (oX5 (a 2) (nI n) (a 3) (a 4) (a 5) (a 6) (a 7) (a 8) bd), some (cI G (a 3) 15 (r 3)), some (cI G (a 5) 15 (r 5))] [a 1, a 2, a 3, a 5, (a 18)] rfl (by decide) (by decide) rfl hl.1 rfl (Nat.le_of_ble_eq_true rfl) dX6_branch_145 ⟨Nat.zero_le _, Nat.zero_le _⟩ (fun _ => rfl) (fun _ => rfl) rfl (fun _ => rfl) rfl (fun _ => rfl) (fun _ H locs _ hP hD hS => ?_)
          refine lv_iinc (v := nI ty - 1) (lv' := [(4, .int (nI ty - 1)), (3, .int (nI (brN (r 3) (r 5) f L tx - 1 - 1))), (5, .int (L.getD ty 0)), (0, .ref (a 1)), (1, .int (nI f)), (2, .int (nI (brL (r 3) (r 5) f L).length))]) hx hb dX6_branch_148 hl (k := 5) rfl (by rw [hty]; exact i_dec2 ty) (by decide) rfl (fun ls hl => ?_)
          refine lv_goto (tgt := 75) hx hb dX6_branch_151 (by decide) ?_
          exact ih_75 (⟨ty, upd (upd gx (brN (r 3) (r 5) f L tx - 1) (L.getD ty 0)) (brN (r 3) (r 5) f L tx - 1 - 1) (L.getD ty 0 ||| bitI (nI f))⟩) (hbr.2) (by show ty < tx; omega) _ _ ls (hP) (hD) hS (lv_sub hl [3, 4, 5, 1, 0] (by show ([(0, .ref (a 1)), (1, .int (nI f)), (2, .int (nI (brL (r 3) (r 5) f L).length)), (3, .int (nI (brN (r 3) (r 5) f L tx - 1 - 1))), (4, .int (nI ty - 1))] : List (Nat × Value)) = [(0, .ref (a 1)), (1, .int (nI f)), (2, .int (nI (brL (r 3) (r 5) f L).length)), (3, .int (nI (brN (r 3) (r 5) f L ty))), (4, .int (nI ty - 1))]; rw [hbr.1]))
  · skip
    have hj : jx < L.length := Nat.lt_of_not_le (fun z => c_12 ((nI_leI (a := L.length) (b := jx) (by omega) (by omega)).mpr z))
    refine lv_aload_n hx hb dX6_branch_15 rfl (lv_at hl 0 rfl) ?_
    refine va_get (D := G.1) (ci := 8) (v := .ref (a 18)) (C := RX6) (T := TX6) (N := 6) hx hb hts iX6_branch_X6 hown hK hP 0 rfl rfl 3 (by decide) (hts _ fX6_branch_2) (fun _ h9 => h9) rfl dX6_branch_16 ?_
    refine lv_iload_n hx hb dX6_branch_19 rfl (lv_at hl 3 rfl) ?_
    refine cpN (As := [.ref (a 18), .int (nI jx)]) (rest := []) ⟨hx, hb, hml, hown, hts⟩ (c_X7_atk l G (a 18) 8192 ro (nI jx) jx (rfl) (by omega) (by decide)) ⟨va_cnB (own := RX6) (host := RX7) (index := 47) (y := yX7_at) 2 hts gX6_branch_X7_at_n47 rfl rfl rfl (hKK.2.nth 17 (q := (RX6, 47, yX7_at)) rfl) (hts _ fX6_branch_3) hd_X7_at ⟨Nat.le_of_ble_eq_true rfl, Nat.le_of_ble_eq_true rfl⟩, (hts _ fX6_branch_4), trivial⟩ hKK hP [4] rfl rfl hl.1 rfl (Nat.le_of_ble_eq_true rfl) dX6_branch_20 ⟨Nat.zero_le _, Nat.zero_le _⟩ ?_
    refine stI (y := L.getD jx 0) (hr0 jx hj) ?_
    refine lv_istore (lv' := [(4, .int (L.getD jx 0)), (0, .ref (a 1)), (1, .int (nI f)), (2, .int (nI (L.length - jx + brN (r 3) (r 5) f L jx))), (3, .int (nI jx))]) hx hb dX6_branch_23 hl (by decide) rfl (fun ls hl => ?_)
    refine lv_iload_n hx hb dX6_branch_25 rfl (lv_at hl 3 rfl) ?_
    refine cutJ (nL := 6) (lv := [(4, .int (L.getD jx 0)), (0, .ref (a 1)), (1, .int (nI f)), (2, .int (nI (L.length - jx + brN (r 3) (r 5) f L jx))), (3, .int (nI jx))]) (pc' := 57) (st' := [.int (nI (brB (r 3) (r 5) f (L.getD jx 0))), .int (nI (L.length - jx + brN (r 3) (r 5) f L jx))]) (fun ls hl => ?_) (fun hJ_57 => ?_)
    · skip
      refine lv_iadd hx hb dX6_branch_57 ?_
      refine stI (y := nI (L.length - (jx + 1) + brN (r 3) (r 5) f L (jx + 1))) (by rw [nI_add, brN_cnt hj hok]) ?_
      refine lv_istore_n (lv' := [(2, .int (nI (L.length - (jx + 1) + brN (r 3) (r 5) f L (jx + 1)))), (4, .int (L.getD jx 0)), (0, .ref (a 1)), (1, .int (nI f)), (3, .int (nI jx))]) hx hb dX6_branch_58 rfl hl (by decide) rfl (fun ls hl => ?_)
      refine lv_iinc (v := nI (jx + 1)) (lv' := [(3, .int (nI (jx + 1))), (2, .int (nI (L.length - (jx + 1) + brN (r 3) (r 5) f L (jx + 1)))), (4, .int (L.getD jx 0)), (0, .ref (a 1)), (1, .int (nI f))]) hx hb dX6_branch_59 hl (k := 4) rfl (nI_1 jx) (by decide) rfl (fun ls hl => ?_)
      refine lv_goto (tgt := 7) hx hb dX6_branch_62 (by decide) ?_
      exact ih_7 (jx + 1) (hj) (by show L.length - (jx + 1) < L.length - jx; omega) ls (lv_sub hl [3, 4, 1, 0] rfl)
    · skip
      refine lv_aload_n hx hb dX6_branch_26 rfl (lv_at hl 1 rfl) ?_
      refine va_get (D := G.1) (ci := 8) (v := .ref (a 2)) (C := RX6) (T := TX6) (N := 6) hx hb hts iX6_branch_X6 hown hK hP 0 rfl rfl 0 (by decide) (hts _ fX6_branch_5) (fun _ h9 => h9) rfl dX6_branch_27 ?_
      refine lv_iload hx hb dX6_branch_30 (lv_at hl 0 rfl) ?_
      refine lv_iload_n hx hb dX6_branch_32 rfl (lv_at hl 2 rfl) ?_
      refine cpV (ci := 7) (T0 := TX5) (N := 8) (As := [.int (L.getD jx 0), .int (nI f)]) (rest := [.int (nI (L.length - jx + brN (r 3) (r 5) f L jx))]) ⟨hx, hb, hml, hown, hts⟩ (c_X5_mayBeIn l G (a 2) (nI n) (a 3) (a 4) (a 5) (a 6) (a 7) (a 8) bd (r 5) (L.getD jx 0) f (by omega)) (cwV 2 hts gX6_branch_X5_mayBeIn rfl rfl rfl ⟨rfl, hd_X5_mayBeIn⟩ ⟨Nat.le_of_ble_eq_true rfl, Nat.le_of_ble_eq_true rfl⟩) hKK hP [1, 3] rfl rfl rfl rfl hl.1 rfl (Nat.le_of_ble_eq_true rfl) dX6_branch_33 ⟨Nat.zero_le _, Nat.zero_le _⟩ ?_
      refine lv_if_eq (tgt := 56) hx hb dX6_branch_36 (by decide) (fun c_36 => ?_) (fun c_36 => ?_)
      · skip
        refine lv_iconst (v := 0) hx hb dX6_branch_56 (by decide) ?_
        refine stI (y := (nI (brB (r 3) (r 5) f (L.getD jx 0)))) (by unfold brB; rw [bI_0.mp c_36]; rfl) ?_
        exact hJ_57 ls (lv_sub hl [0, 1, 2, 3, 4] rfl)
      · skip
        refine lv_aload_n hx hb dX6_branch_39 rfl (lv_at hl 1 rfl) ?_
        refine va_get (D := G.1) (ci := 8) (v := .ref (a 2)) (C := RX6) (T := TX6) (N := 6) hx hb hts iX6_branch_X6 hown hK hP 0 rfl rfl 0 (by decide) (hts _ fX6_branch_5) (fun _ h9 => h9) rfl dX6_branch_40 ?_
        refine lv_iload hx hb dX6_branch_43 (lv_at hl 0 rfl) ?_
        refine lv_iload_n hx hb dX6_branch_45 rfl (lv_at hl 2 rfl) ?_
        refine cpV (ci := 7) (T0 := TX5) (N := 8) (As := [.int (L.getD jx 0), .int (nI f)]) (rest := [.int (nI (L.length - jx + brN (r 3) (r 5) f L jx))]) ⟨hx, hb, hml, hown, hts⟩ (c_X5_mayBeOut l G (a 2) (nI n) (a 3) (a 4) (a 5) (a 6) (a 7) (a 8) bd (r 3) (r 5) (L.getD jx 0) f (by omega)) (cwV 2 hts gX6_branch_X5_mayBeOut rfl rfl rfl ⟨rfl, hd_X5_mayBeOut⟩ ⟨Nat.le_of_ble_eq_true rfl, Nat.le_of_ble_eq_true rfl⟩) hKK hP [1, 2, 3] rfl rfl rfl rfl hl.1 rfl (Nat.le_of_ble_eq_true rfl) dX6_branch_46 ⟨Nat.zero_le _, Nat.zero_le _⟩ ?_
        refine lv_if_eq (tgt := 56) hx hb dX6_branch_49 (by decide) (fun c_49 => ?_) (fun c_49 => ?_)
        · skip
          refine lv_iconst (v := 0) hx hb dX6_branch_56 (by decide) ?_
          refine stI (y := (nI (brB (r 3) (r 5) f (L.getD jx 0)))) (by unfold brB; rw [bI_0.mp c_49, Bool.and_false]; rfl) ?_
          exact hJ_57 ls (lv_sub hl [0, 1, 2, 3, 4] rfl)
        · skip
          refine lv_iconst (v := 1) hx hb dX6_branch_52 (by decide) ?_
          refine lv_goto (tgt := 57) hx hb dX6_branch_53 (by decide) ?_
          refine stI (y := (nI (brB (r 3) (r 5) f (L.getD jx 0)))) (by unfold brB; rw [bI_n0 c_36, bI_n0 c_49]; rfl) ?_
          exact hJ_57 ls (lv_sub hl [0, 1, 2, 3, 4] rfl)

theorem iX6_dropUnkept_X6 : ∀ w ∈ u_ws RX6 TX6 6, w ∈ wsX6_dropUnkept := by decide +kernel
theorem fX6_dropUnkept_1 : Cond.fieldLink RX6 43 "FeatureSolve$Variants" "size" "I" ∈ wsX6_dropUnkept := by decide +kernel
theorem fX6_dropUnkept_2 : Cond.fieldLink RX6 32 "FeatureSolve$Variants" "row" "[I" ∈ wsX6_dropUnkept := by decide +kernel
theorem fX6_dropUnkept_3 : Cond.initialized RX7 ∈ wsX6_dropUnkept := by decide +kernel
theorem fX6_dropUnkept_4 : Cond.static yX7_at ∈ wsX6_dropUnkept := by decide +kernel
theorem fX6_dropUnkept_5 : Cond.fieldLink RX6 12 "FeatureSolve$Variants" "tree" "LFeatureSolve$Tree;" ∈ wsX6_dropUnkept := by decide +kernel
theorem hd_X5_keepsGroups : yX5_keepsGroups.cls ≠ "java/lang/invoke/MethodHandle" ∧ yX5_keepsGroups.cls ≠ "java/lang/invoke/VarHandle" ∧ (parseMethodDescriptor yX5_keepsGroups.desc).map (fun d => d.parameters.length) = some 1 := by decide +kernel
theorem fX6_dropUnkept_6 : Cond.fieldLink RX6 21 "FeatureSolve$Variants" "formulas" "LFeatureSolve$Formulas;" ∈ wsX6_dropUnkept := by decide +kernel
theorem hd_X1_keeps : yX1_keeps.cls ≠ "java/lang/invoke/MethodHandle" ∧ yX1_keeps.cls ≠ "java/lang/invoke/VarHandle" ∧ (parseMethodDescriptor yX1_keeps.desc).map (fun d => d.parameters.length) = some 1 := by decide +kernel
theorem fX6_dropUnkept_7 : Cond.fieldLink RX6 28 "FeatureSolve$Variants" "sums" "LFeatureSolve$Sums;" ∈ wsX6_dropUnkept := by decide +kernel
theorem hd_X4_keeps : yX4_keeps.cls ≠ "java/lang/invoke/MethodHandle" ∧ yX4_keeps.cls ≠ "java/lang/invoke/VarHandle" ∧ (parseMethodDescriptor yX4_keeps.desc).map (fun d => d.parameters.length) = some 1 := by decide +kernel
theorem fX6_dropUnkept_8 : Cond.static yX7_put ∈ wsX6_dropUnkept := by decide +kernel
set_option maxHeartbeats 4000000 in
set_option maxRecDepth 100000 in
/-- Variants.dropUnkept() -/
theorem c_X6_dropUnkept (l : Launch) (G : GG) (a : Nat → Nat) (r : Nat → Nat → Int32) (n mf : Nat) (bd u0 : Int32) (ro : Nat → Int32) (L : List Int32) (hn : n ≤ 14) (hm : mf ≤ 40) (hr0 : rowIs ro L) (hL : L.length ≤ 8192) : Met l yX6_dropUnkept wsX6_dropUnkept (rmK 2) (va_Pc [.ref (a 1)] (PM G [(oX6 (a 1) (a 2) (a 9) (a 15) (a 18) (nI L.length) u0), (oX5 (a 2) (nI n) (a 3) (a 4) (a 5) (a 6) (a 7) (a 8) bd), (cI G (a 6) 15 (r 6)), (cI G (a 7) 15 (r 7)), (cI G (a 8) 15 (r 8)), (oX1 (a 9) (nI mf) (a 10) (a 11) (a 12) (a 13) (a 14)), (cI G (a 10) 40 (r 10)), (cI G (a 11) 40 (r 11)), (cI G (a 12) 40 (r 12)), (cI G (a 13) 40 (r 13)), (cI G (a 14) 40 (r 14)), (oX4 (a 15) (a 16) (a 17)), (cI G (a 16) 60 (r 16)), (cI G (a 17) 4 (r 17)), (cI G (a 18) 8192 ro)])) (QG (S := Nat → Int32) G [(oX6 (a 1) (a 2) (a 9) (a 15) (a 18) (nI L.length) u0), (oX5 (a 2) (nI n) (a 3) (a 4) (a 5) (a 6) (a 7) (a 8) bd), (cI G (a 6) 15 (r 6)), (cI G (a 7) 15 (r 7)), (cI G (a 8) 15 (r 8)), (oX1 (a 9) (nI mf) (a 10) (a 11) (a 12) (a 13) (a 14)), (cI G (a 10) 40 (r 10)), (cI G (a 11) 40 (r 11)), (cI G (a 12) 40 (r 12)), (cI G (a 13) 40 (r 13)), (cI G (a 14) 40 (r 14)), (oX4 (a 15) (a 16) (a 17)), (cI G (a 16) 60 (r 16)), (cI G (a 17) 4 (r 17)), (cI G (a 18) 8192 ro)] (fun u => rowIs u (L.filter (vKeep r bd n mf))) (fun u => none) (fun u => [(oX6 (a 1) (a 2) (a 9) (a 15) (a 18) (nI (L.filter (vKeep r bd n mf)).length) u0), (oX5 (a 2) (nI n) (a 3) (a 4) (a 5) (a 6) (a 7) (a 8) bd), (cI G (a 6) 15 (r 6)), (cI G (a 7) 15 (r 7)), (cI G (a 8) 15 (r 8)), (oX1 (a 9) (nI mf) (a 10) (a 11) (a 12) (a 13) (a 14)), (cI G (a 10) 40 (r 10)), (cI G (a 11) 40 (r 11)), (cI G (a 12) 40 (r 12)), (cI G (a 13) 40 (r 13)), (cI G (a 14) 40 (r 14)), (oX4 (a 15) (a 16) (a 17)), (cI G (a 16) 60 (r 16)), (cI G (a 17) 4 (r 17)), (cI G (a 18) 8192 u)])) 0 0 (adr [(oX6 (a 1) (a 2) (a 9) (a 15) (a 18) (nI L.length) u0), (oX5 (a 2) (nI n) (a 3) (a 4) (a 5) (a 6) (a 7) (a 8) bd), (cI G (a 6) 15 (r 6)), (cI G (a 7) 15 (r 7)), (cI G (a 8) 15 (r 8)), (oX1 (a 9) (nI mf) (a 10) (a 11) (a 12) (a 13) (a 14)), (cI G (a 10) 40 (r 10)), (cI G (a 11) 40 (r 11)), (cI G (a 12) 40 (r 12)), (cI G (a 13) 40 (r 13)), (cI G (a 14) 40 (r 14)), (oX4 (a 15) (a 16) (a 17)), (cI G (a 16) 60 (r 16)), (cI G (a 17) 4 (r 17)), (cI G (a 18) 8192 ro)]) := by
  refine Met.ofW (cc := cX6_dropUnkept) (maxL := 4) (ret := none) (by decide) rfl ?_
  intro p e s m args below meth c s₁ B hml hv
  obtain ⟨rfl, hP, hD0, hKK⟩ := hv
  have hx := B.exec
  have hb := B.bytes
  have hr := B.returns
  have hts := atoms_spec (ws := wsX6_dropUnkept) B.pre
  have hown : s.vm.findClass RX6 = some m.cls := findClass_of_methodNamed B.named
  have hlocks := B.notSynchronized
  have hK := hKK.1
  generalize hAe : adr [(oX6 (a 1) (a 2) (a 9) (a 15) (a 18) (nI L.length) u0), (oX5 (a 2) (nI n) (a 3) (a 4) (a 5) (a 6) (a 7) (a 8) bd), (cI G (a 6) 15 (r 6)), (cI G (a 7) 15 (r 7)), (cI G (a 8) 15 (r 8)), (oX1 (a 9) (nI mf) (a 10) (a 11) (a 12) (a 13) (a 14)), (cI G (a 10) 40 (r 10)), (cI G (a 11) 40 (r 11)), (cI G (a 12) 40 (r 12)), (cI G (a 13) 40 (r 13)), (cI G (a 14) 40 (r 14)), (oX4 (a 15) (a 16) (a 17)), (cI G (a 16) 60 (r 16)), (cI G (a 17) 4 (r 17)), (cI G (a 18) 8192 ro)] = A
  have hD : va_D A [(oX6 (a 1) (a 2) (a 9) (a 15) (a 18) (nI L.length) u0), (oX5 (a 2) (nI n) (a 3) (a 4) (a 5) (a 6) (a 7) (a 8) bd), (cI G (a 6) 15 (r 6)), (cI G (a 7) 15 (r 7)), (cI G (a 8) 15 (r 8)), (oX1 (a 9) (nI mf) (a 10) (a 11) (a 12) (a 13) (a 14)), (cI G (a 10) 40 (r 10)), (cI G (a 11) 40 (r 11)), (cI G (a 12) 40 (r 12)), (cI G (a 13) 40 (r 13)), (cI G (a 14) 40 (r 14)), (oX4 (a 15) (a 16) (a 17)), (cI G (a 16) 60 (r 16)), (cI G (a 17) 4 (r 17)), (cI G (a 18) 8192 ro)] := by rw [← hAe]; exact hD0.own
  have hS : va_S A s.heap s.heap [] := va_S.rf
  have hP : va_P G.1 vwCl [(oX6 (a 1) (a 2) (a 9) (a 15) (a 18) (nI L.length) u0), (oX5 (a 2) (nI n) (a 3) (a 4) (a 5) (a 6) (a 7) (a 8) bd), (cI G (a 6) 15 (r 6)), (cI G (a 7) 15 (r 7)), (cI G (a 8) 15 (r 8)), (oX1 (a 9) (nI mf) (a 10) (a 11) (a 12) (a 13) (a 14)), (cI G (a 10) 40 (r 10)), (cI G (a 11) 40 (r 11)), (cI G (a 12) 40 (r 12)), (cI G (a 13) 40 (r 13)), (cI G (a 14) 40 (r 14)), (oX4 (a 15) (a 16) (a 17)), (cI G (a 16) 60 (r 16)), (cI G (a 17) 4 (r 17)), (cI G (a 18) 8192 ro)] s.heap := hP
  have hl := lv_entry ([.ref (a 1)]) (n := 4) (Nat.le_of_ble_eq_true rfl)
  rw [lg_entry_eq]
  generalize (lg_sl ([.ref (a 1)]) ++ List.replicate (4 - (lg_sl ([.ref (a 1)])).length) Slot.unset).toArray = ls at hl ⊢
  have hl : lv_has ls 4 [(0, .ref (a 1))] := hl
  refine lv_iconst (v := 0) hx hb dX6_dropUnkept_0 (by decide) ?_
  refine lv_istore_n (lv' := [(1, .int 0), (0, .ref (a 1))]) hx hb dX6_dropUnkept_1 rfl hl (by decide) rfl (fun ls hl => ?_)
  refine lv_iconst (v := 0) hx hb dX6_dropUnkept_2 (by decide) ?_
  refine lv_istore_n (lv' := [(2, .int 0), (1, .int 0), (0, .ref (a 1))]) hx hb dX6_dropUnkept_3 rfl hl (by decide) rfl (fun ls hl => ?_)
  refine loopH (nL := 4) (I := fun (xv9 : Nat × (Nat → Int32)) => (fun (jx : Nat) (gx : Nat → Int32) => cmpI L (vKeep r bd n mf) jx gx) xv9.1 xv9.2) (μ := fun (xv9 : Nat × (Nat → Int32)) => (fun (jx : Nat) (gx : Nat → Int32) => L.length - jx) xv9.1 xv9.2) (lv := fun (xv9 : Nat × (Nat → Int32)) => (fun (jx : Nat) (gx : Nat → Int32) => [(0, .ref (a 1)), (1, .int (nI (cmpN L (vKeep r bd n mf) jx))), (2, .int (nI jx))]) xv9.1 xv9.2) (wj := fun (xv9 : Nat × (Nat → Int32)) => (fun (jx : Nat) (gx : Nat → Int32) => [(oX6 (a 1) (a 2) (a 9) (a 15) (a 18) (nI L.length) u0), (oX5 (a 2) (nI n) (a 3) (a 4) (a 5) (a 6) (a 7) (a 8) bd), (cI G (a 6) 15 (r 6)), (cI G (a 7) 15 (r 7)), (cI G (a 8) 15 (r 8)), (oX1 (a 9) (nI mf) (a 10) (a 11) (a 12) (a 13) (a 14)), (cI G (a 10) 40 (r 10)), (cI G (a 11) 40 (r 11)), (cI G (a 12) 40 (r 12)), (cI G (a 13) 40 (r 13)), (cI G (a 14) 40 (r 14)), (oX4 (a 15) (a 16) (a 17)), (cI G (a 16) 60 (r 16)), (cI G (a 17) 4 (r 17)), (cI G (a 18) 8192 gx)]) xv9.1 xv9.2) (pc' := 4) (fun xv9 hI ih_4 H locs ls hP hD hS hl => ?_) (⟨0, ro⟩) (cmpI_0 hr0) _ _ ls (hP) (hD) hS (lv_sub hl [2, 1, 0] rfl)
  obtain ⟨jx, gx⟩ := xv9
  have hI : cmpI L (vKeep r bd n mf) jx gx := hI
  have hl : lv_has ls 4 [(0, .ref (a 1)), (1, .int (nI (cmpN L (vKeep r bd n mf) jx))), (2, .int (nI jx))] := hl
  have hPD : PD G A [(oX6 (a 1) (a 2) (a 9) (a 15) (a 18) (nI L.length) u0), (oX5 (a 2) (nI n) (a 3) (a 4) (a 5) (a 6) (a 7) (a 8) bd), (cI G (a 6) 15 (r 6)), (cI G (a 7) 15 (r 7)), (cI G (a 8) 15 (r 8)), (oX1 (a 9) (nI mf) (a 10) (a 11) (a 12) (a 13) (a 14)), (cI G (a 10) 40 (r 10)), (cI G (a 11) 40 (r 11)), (cI G (a 12) 40 (r 12)), (cI G (a 13) 40 (r 13)), (cI G (a 14) 40 (r 14)), (oX4 (a 15) (a 16) (a 17)), (cI G (a 16) 60 (r 16)), (cI G (a 17) 4 (r 17)), (cI G (a 18) 8192 gx)] H := ⟨hP, hD⟩
  have hP := hPD.1
  have hD := hPD.2
  clear hPD
  have hjl : jx ≤ L.length := hI.1
  refine lv_iload_n hx hb dX6_dropUnkept_4 rfl (lv_at hl 2 rfl) ?_
  refine lv_aload_n hx hb dX6_dropUnkept_5 rfl (lv_at hl 0 rfl) ?_
  refine va_get (D := G.1) (ci := 8) (v := .int (nI L.length)) (C := RX6) (T := TX6) (N := 6) hx hb hts iX6_dropUnkept_X6 hown hK hP 0 rfl rfl 4 (by decide) (hts _ fX6_dropUnkept_1) (fun _ h9 => h9) rfl dX6_dropUnkept_6 ?_
  refine lv_icmp_ge (tgt := 72) hx hb dX6_dropUnkept_9 (by decide) (fun c_9 => ?_) (fun c_9 => ?_)
  · skip
    have hj : jx = L.length := Nat.le_antisymm hI.1 ((nI_leI (a := L.length) (b := jx) (by omega) (by omega)).mp c_9)
    refine lv_aload_n hx hb dX6_dropUnkept_72 rfl (lv_at hl 0 rfl) ?_
    refine lv_iload_n hx hb dX6_dropUnkept_73 rfl (lv_at hl 1 rfl) ?_
    refine va_put (D := G.1) (ci := 8) (v := .int (nI (cmpN L (vKeep r bd n mf) jx))) (ty := .int) (C := RX6) (T := TX6) (N := 6) hx hb hts iX6_dropUnkept_X6 tyX6 tyX6_ok nmX6 hown hK hP hD hS 0 rfl rfl 4 (by decide) (hts _ fX6_dropUnkept_1) (fun _ h9 => h9) rfl (by decide +kernel) rfl rfl (Nat.le_of_ble_eq_true rfl) dX6_dropUnkept_74 (fun H locs hP hD hS => ?_)
    have hPD : PD G A [(oX6 (a 1) (a 2) (a 9) (a 15) (a 18) (nI (cmpN L (vKeep r bd n mf) jx)) u0), (oX5 (a 2) (nI n) (a 3) (a 4) (a 5) (a 6) (a 7) (a 8) bd), (cI G (a 6) 15 (r 6)), (cI G (a 7) 15 (r 7)), (cI G (a 8) 15 (r 8)), (oX1 (a 9) (nI mf) (a 10) (a 11) (a 12) (a 13) (a 14)), (cI G (a 10) 40 (r 10)), (cI G (a 11) 40 (r 11)), (cI G (a 12) 40 (r 12)), (cI G (a 13) 40 (r 13)), (cI G (a 14) 40 (r 14)), (oX4 (a 15) (a 16) (a 17)), (cI G (a 16) 60 (r 16)), (cI G (a 17) 4 (r 17)), (cI G (a 18) 8192 gx)] H := ⟨hP, hD⟩
    have hP := hPD.1
    have hD := hPD.2
    clear hPD
    exact gretv hx hb hr hlocks hAe hS (gx) (rfl) (by have h9 := hI; rw [hj] at h9; exact cmpI_end h9) (by rw [← cmpN_end, ← hj]; exact hP) dX6_dropUnkept_77
  · skip
    have hj : jx < L.length := Nat.lt_of_not_le (fun z => c_9 ((nI_leI (a := L.length) (b := jx) (by omega) (by omega)).mpr z))
    have hcn := cmpN_le L (vKeep r bd n mf) jx
    refine lv_aload_n hx hb dX6_dropUnkept_12 rfl (lv_at hl 0 rfl) ?_
    refine va_get (D := G.1) (ci := 8) (v := .ref (a 18)) (C := RX6) (T := TX6) (N := 6) hx hb hts iX6_dropUnkept_X6 hown hK hP 0 rfl rfl 3 (by decide) (hts _ fX6_dropUnkept_2) (fun _ h9 => h9) rfl dX6_dropUnkept_13 ?_
    refine lv_iload_n hx hb dX6_dropUnkept_16 rfl (lv_at hl 2 rfl) ?_
    refine cpN (As := [.ref (a 18), .int (nI jx)]) (rest := []) ⟨hx, hb, hml, hown, hts⟩ (c_X7_atk l G (a 18) 8192 gx (nI jx) jx (rfl) (by omega) (by decide)) ⟨va_cnB (own := RX6) (host := RX7) (index := 47) (y := yX7_at) 2 hts gX6_dropUnkept_X7_at_n47 rfl rfl rfl (hKK.2.nth 17 (q := (RX6, 47, yX7_at)) rfl) (hts _ fX6_dropUnkept_3) hd_X7_at ⟨Nat.le_of_ble_eq_true rfl, Nat.le_of_ble_eq_true rfl⟩, (hts _ fX6_dropUnkept_4), trivial⟩ hKK hP [14] rfl rfl hl.1 rfl (Nat.le_of_ble_eq_true rfl) dX6_dropUnkept_17 ⟨Nat.zero_le _, Nat.zero_le _⟩ ?_
    refine stI (y := L.getD jx 0) (cmpI_read hI hj) ?_
    refine lv_istore_n (lv' := [(3, .int (L.getD jx 0)), (0, .ref (a 1)), (1, .int (nI (cmpN L (vKeep r bd n mf) jx))), (2, .int (nI jx))]) hx hb dX6_dropUnkept_20 rfl hl (by decide) rfl (fun ls hl => ?_)
    refine lv_aload_n hx hb dX6_dropUnkept_21 rfl (lv_at hl 1 rfl) ?_
    refine va_get (D := G.1) (ci := 8) (v := .ref (a 2)) (C := RX6) (T := TX6) (N := 6) hx hb hts iX6_dropUnkept_X6 hown hK hP 0 rfl rfl 0 (by decide) (hts _ fX6_dropUnkept_5) (fun _ h9 => h9) rfl dX6_dropUnkept_22 ?_
    refine lv_iload_n hx hb dX6_dropUnkept_25 rfl (lv_at hl 0 rfl) ?_
    refine cpV (ci := 7) (T0 := TX5) (N := 8) (As := [.int (L.getD jx 0)]) (rest := []) ⟨hx, hb, hml, hown, hts⟩ (c_X5_keepsGroups l G (a 2) n (a 3) (a 4) (a 5) (a 6) (a 7) (a 8) bd (r 6) (r 7) (r 8) (L.getD jx 0) hn) (cwV 1 hts gX6_dropUnkept_X5_keepsGroups rfl rfl rfl ⟨rfl, hd_X5_keepsGroups⟩ ⟨Nat.le_of_ble_eq_true rfl, Nat.le_of_ble_eq_true rfl⟩) hKK hP [1, 2, 3, 4] rfl rfl rfl rfl hl.1 rfl (Nat.le_of_ble_eq_true rfl) dX6_dropUnkept_26 ⟨Nat.zero_le _, Nat.zero_le _⟩ ?_
    refine lv_if_eq (tgt := 66) hx hb dX6_dropUnkept_29 (by decide) (fun c_29 => ?_) (fun c_29 => ?_)
    · skip
      have hd : vKeep r bd n mf (L.getD jx 0) = false := by unfold vKeep; rw [bI_0.mp c_29]; rfl
      refine lv_iinc (v := nI (jx + 1)) (lv' := [(2, .int (nI (jx + 1))), (3, .int (L.getD jx 0)), (0, .ref (a 1)), (1, .int (nI (cmpN L (vKeep r bd n mf) jx)))]) hx hb dX6_dropUnkept_66 hl (k := 3) rfl (nI_1 jx) (by decide) rfl (fun ls hl => ?_)
      refine lv_goto (tgt := 4) hx hb dX6_dropUnkept_69 (by decide) ?_
      exact ih_4 (⟨jx + 1, gx⟩) (cmpI_drop hI hj hd) (by show L.length - (jx + 1) < L.length - jx; omega) _ _ ls (hP) (hD) hS (lv_sub hl [2, 3, 0] (by show ([(0, .ref (a 1)), (1, .int (nI (cmpN L (vKeep r bd n mf) jx))), (2, .int (nI (jx + 1)))] : List (Nat × Value)) = [(0, .ref (a 1)), (1, .int (nI (cmpN L (vKeep r bd n mf) (jx + 1)))), (2, .int (nI (jx + 1)))]; rw [cmpN_drop hj hd]))
    · skip
      refine lv_aload_n hx hb dX6_dropUnkept_32 rfl (lv_at hl 1 rfl) ?_
      refine va_get (D := G.1) (ci := 8) (v := .ref (a 9)) (C := RX6) (T := TX6) (N := 6) hx hb hts iX6_dropUnkept_X6 hown hK hP 0 rfl rfl 1 (by decide) (hts _ fX6_dropUnkept_6) (fun _ h9 => h9) rfl dX6_dropUnkept_33 ?_
      refine lv_iload_n hx hb dX6_dropUnkept_36 rfl (lv_at hl 0 rfl) ?_
      refine cpV (ci := 3) (T0 := TX1) (N := 6) (As := [.int (L.getD jx 0)]) (rest := []) ⟨hx, hb, hml, hown, hts⟩ (c_X1_keeps l G (a 9) mf (a 10) (a 11) (a 12) (a 13) (a 14) (r 10) (r 11) (r 12) (r 13) (r 14) (L.getD jx 0) hm) (cwV 1 hts gX6_dropUnkept_X1_keeps rfl rfl rfl ⟨rfl, hd_X1_keeps⟩ ⟨Nat.le_of_ble_eq_true rfl, Nat.le_of_ble_eq_true rfl⟩) hKK hP [5, 6, 7, 8, 9, 10] rfl rfl rfl rfl hl.1 rfl (Nat.le_of_ble_eq_true rfl) dX6_dropUnkept_37 ⟨Nat.zero_le _, Nat.zero_le _⟩ ?_
      refine lv_if_eq (tgt := 66) hx hb dX6_dropUnkept_40 (by decide) (fun c_40 => ?_) (fun c_40 => ?_)
      · skip
        have hd : vKeep r bd n mf (L.getD jx 0) = false := by unfold vKeep; rw [bI_n0 c_29, bI_0.mp c_40]; rfl
        refine lv_iinc (v := nI (jx + 1)) (lv' := [(2, .int (nI (jx + 1))), (3, .int (L.getD jx 0)), (0, .ref (a 1)), (1, .int (nI (cmpN L (vKeep r bd n mf) jx)))]) hx hb dX6_dropUnkept_66 hl (k := 3) rfl (nI_1 jx) (by decide) rfl (fun ls hl => ?_)
        refine lv_goto (tgt := 4) hx hb dX6_dropUnkept_69 (by decide) ?_
        exact ih_4 (⟨jx + 1, gx⟩) (cmpI_drop hI hj hd) (by show L.length - (jx + 1) < L.length - jx; omega) _ _ ls (hP) (hD) hS (lv_sub hl [2, 3, 0] (by show ([(0, .ref (a 1)), (1, .int (nI (cmpN L (vKeep r bd n mf) jx))), (2, .int (nI (jx + 1)))] : List (Nat × Value)) = [(0, .ref (a 1)), (1, .int (nI (cmpN L (vKeep r bd n mf) (jx + 1)))), (2, .int (nI (jx + 1)))]; rw [cmpN_drop hj hd]))
      · skip
        refine lv_aload_n hx hb dX6_dropUnkept_43 rfl (lv_at hl 1 rfl) ?_
        refine va_get (D := G.1) (ci := 8) (v := .ref (a 15)) (C := RX6) (T := TX6) (N := 6) hx hb hts iX6_dropUnkept_X6 hown hK hP 0 rfl rfl 2 (by decide) (hts _ fX6_dropUnkept_7) (fun _ h9 => h9) rfl dX6_dropUnkept_44 ?_
        refine lv_iload_n hx hb dX6_dropUnkept_47 rfl (lv_at hl 0 rfl) ?_
        refine cpV (ci := 6) (T0 := TX4) (N := 2) (As := [.int (L.getD jx 0)]) (rest := []) ⟨hx, hb, hml, hown, hts⟩ (c_X4_keeps l G (a 15) (a 16) (a 17) (r 16) (r 17) (L.getD jx 0) ) (cwV 1 hts gX6_dropUnkept_X4_keeps rfl rfl rfl ⟨rfl, hd_X4_keeps⟩ ⟨Nat.le_of_ble_eq_true rfl, Nat.le_of_ble_eq_true rfl⟩) hKK hP [11, 12, 13] rfl rfl rfl rfl hl.1 rfl (Nat.le_of_ble_eq_true rfl) dX6_dropUnkept_48 ⟨Nat.zero_le _, Nat.zero_le _⟩ ?_
        refine lv_if_eq (tgt := 66) hx hb dX6_dropUnkept_51 (by decide) (fun c_51 => ?_) (fun c_51 => ?_)
        · skip
          have hd : vKeep r bd n mf (L.getD jx 0) = false := by unfold vKeep; rw [bI_n0 c_29, bI_n0 c_40, bI_0.mp c_51]; rfl
          refine lv_iinc (v := nI (jx + 1)) (lv' := [(2, .int (nI (jx + 1))), (3, .int (L.getD jx 0)), (0, .ref (a 1)), (1, .int (nI (cmpN L (vKeep r bd n mf) jx)))]) hx hb dX6_dropUnkept_66 hl (k := 3) rfl (nI_1 jx) (by decide) rfl (fun ls hl => ?_)
          refine lv_goto (tgt := 4) hx hb dX6_dropUnkept_69 (by decide) ?_
          exact ih_4 (⟨jx + 1, gx⟩) (cmpI_drop hI hj hd) (by show L.length - (jx + 1) < L.length - jx; omega) _ _ ls (hP) (hD) hS (lv_sub hl [2, 3, 0] (by show ([(0, .ref (a 1)), (1, .int (nI (cmpN L (vKeep r bd n mf) jx))), (2, .int (nI (jx + 1)))] : List (Nat × Value)) = [(0, .ref (a 1)), (1, .int (nI (cmpN L (vKeep r bd n mf) (jx + 1)))), (2, .int (nI (jx + 1)))]; rw [cmpN_drop hj hd]))
        · skip
          have hd : vKeep r bd n mf (L.getD jx 0) = true := by unfold vKeep; rw [bI_n0 c_29, bI_n0 c_40, bI_n0 c_51]; rfl
          refine lv_aload_n hx hb dX6_dropUnkept_54 rfl (lv_at hl 1 rfl) ?_
          refine va_get (D := G.1) (ci := 8) (v := .ref (a 18)) (C := RX6) (T := TX6) (N := 6) hx hb hts iX6_dropUnkept_X6 hown hK hP 0 rfl rfl 3 (by decide) (hts _ fX6_dropUnkept_2) (fun _ h9 => h9) rfl dX6_dropUnkept_55 ?_
          refine lv_iload_n hx hb dX6_dropUnkept_58 rfl (lv_at hl 2 rfl) ?_
          refine lv_iload_n hx hb dX6_dropUnkept_59 rfl (lv_at hl 0 rfl) ?_
          refine cnN (nw := 15) (As := [.ref (a 18), .int (nI (cmpN L (vKeep r bd n mf) jx)), .int (L.getD jx 0)]) (rest := []) ⟨hx, hb, hml, hown, hts⟩ (c_X7_putk l G (a 18) 8192 gx (nI (cmpN L (vKeep r bd n mf) jx)) (L.getD jx 0) (cmpN L (vKeep r bd n mf) jx) (rfl) (by omega) (by decide)) ⟨va_cnB (own := RX6) (host := RX7) (index := 55) (y := yX7_put) 3 hts gX6_dropUnkept_X7_put_n55 rfl rfl rfl (hKK.2.nth 16 (q := (RX6, 55, yX7_put)) rfl) (hts _ fX6_dropUnkept_3) hd_X7_put ⟨Nat.le_of_ble_eq_true rfl, Nat.le_of_ble_eq_true rfl⟩, (hts _ fX6_dropUnkept_8), trivial⟩ hKK hP hD hS [14] [0, 1, 2, 3, 4, 5, 6, 7, 8, 9, 10, 11, 12, 13] (fun _ => [(oX6 (a 1) (a 2) (a 9) (a 15) (a 18) (nI L.length) u0), (oX5 (a 2) (nI n) (a 3) (a 4) (a 5) (a 6) (a 7) (a 8) bd), (cI G (a 6) 15 (r 6)), (cI G (a 7) 15 (r 7)), (cI G (a 8) 15 (r 8)), (oX1 (a 9) (nI mf) (a 10) (a 11) (a 12) (a 13) (a 14)), (cI G (a 10) 40 (r 10)), (cI G (a 11) 40 (r 11)), (cI G (a 12) 40 (r 12)), (cI G (a 13) 40 (r 13)), (cI G (a 14) 40 (r 14)), (oX4 (a 15) (a 16) (a 17)), (cI G (a 16) 60 (r 16)), (cI G (a 17) 4 (r 17)), (cI G (a 18) 8192 (upd gx (cmpN L (vKeep r bd n mf) jx) (L.getD jx 0)))]) [some (oX6 (a 1) (a 2) (a 9) (a 15) (a 18) (nI L.length) u0), some (oX5 (a 2) (nI n) (a 3) (a 4) (a 5) (a 6) (a 7) (a 8) bd), some (cI G (a 6) 15 (r 6)), some (cI G (a 7) 15 (r 7)), some (cI G (a 8) 15 (r 8)), some (oX1 (a 9) (nI mf) (a 10) (a 11) (a 12) (a 13) (a 14)), some (cI G (a 10) 40 (r 10)), some (cI G (a 11) 40 (r 11)), some (cI G (a 12) 40 (r 12)), some (cI G (a 13) 40 (r 13)), some (cI G (a 14) 40 (r 14)), some (oX4 (a 15) (a 16) (a 17)), some (cI G (a 16) 60 (r 16)), some (cI G (a 17) 4 (r 17))] [a 1, a 2, a 6, a 7, a 8, a 9, a 10, a 11, a 12, a 13, a 14, a 15, a 16, a 17, (a 18)] rfl (by decide) (by decide) rfl hl.1 rfl (Nat.le_of_ble_eq_true rfl) dX6_dropUnkept_60 ⟨Nat.zero_le _, Nat.zero_le _⟩ (fun _ => rfl) (fun _ => rfl) rfl (fun _ => rfl) rfl (fun _ => rfl) (fun _ H locs _ hP hD hS => ?_)
          refine lv_iinc (v := nI (cmpN L (vKeep r bd n mf) jx + 1)) (lv' := [(1, .int (nI (cmpN L (vKeep r bd n mf) jx + 1))), (3, .int (L.getD jx 0)), (0, .ref (a 1)), (2, .int (nI jx))]) hx hb dX6_dropUnkept_63 hl (k := 2) rfl (nI_1 _) (by decide) rfl (fun ls hl => ?_)
          refine lv_iinc (v := nI (jx + 1)) (lv' := [(2, .int (nI (jx + 1))), (1, .int (nI (cmpN L (vKeep r bd n mf) jx + 1))), (3, .int (L.getD jx 0)), (0, .ref (a 1))]) hx hb dX6_dropUnkept_66 hl (k := 3) rfl (nI_1 jx) (by decide) rfl (fun ls hl => ?_)
          refine lv_goto (tgt := 4) hx hb dX6_dropUnkept_69 (by decide) ?_
          exact ih_4 (⟨jx + 1, upd gx (cmpN L (vKeep r bd n mf) jx) (L.getD jx 0)⟩) (cmpI_keep hI hj hd) (by show L.length - (jx + 1) < L.length - jx; omega) _ _ ls (hP) (hD) hS (lv_sub hl [3, 1, 0] (by show ([(0, .ref (a 1)), (1, .int (nI (cmpN L (vKeep r bd n mf) jx + 1))), (2, .int (nI (jx + 1)))] : List (Nat × Value)) = [(0, .ref (a 1)), (1, .int (nI (cmpN L (vKeep r bd n mf) (jx + 1)))), (2, .int (nI (jx + 1)))]; rw [cmpN_keep hj hd]))

theorem iX6_update_X6 : ∀ w ∈ u_ws RX6 TX6 6, w ∈ wsX6_update := by decide +kernel
theorem fX6_update_1 : Cond.fieldLink RX6 36 "FeatureSolve$Variants" "upToDate" "Z" ∈ wsX6_update := by decide +kernel
theorem fX6_update_2 : Cond.fieldLink RX6 32 "FeatureSolve$Variants" "row" "[I" ∈ wsX6_update := by decide +kernel
theorem fX6_update_3 : Cond.initialized RX7 ∈ wsX6_update := by decide +kernel
theorem fX6_update_4 : Cond.static yX7_put ∈ wsX6_update := by decide +kernel
theorem fX6_update_5 : Cond.fieldLink RX6 43 "FeatureSolve$Variants" "size" "I" ∈ wsX6_update := by decide +kernel
theorem fX6_update_6 : Cond.fieldLink RX6 12 "FeatureSolve$Variants" "tree" "LFeatureSolve$Tree;" ∈ wsX6_update := by decide +kernel
theorem iX6_update_X5 : ∀ w ∈ u_ws RX5 TX5 8, w ∈ wsX6_update := by decide +kernel
theorem fX6_update_8 : Cond.fieldLink RX6 59 "FeatureSolve$Tree" "size" "I" ∈ wsX6_update := by decide +kernel
theorem hd_X6_dropUnkept : yX6_dropUnkept.cls ≠ "java/lang/invoke/MethodHandle" ∧ yX6_dropUnkept.cls ≠ "java/lang/invoke/VarHandle" ∧ (parseMethodDescriptor yX6_dropUnkept.desc).map (fun d => d.parameters.length) = some 0 := by decide +kernel
theorem hd_X6_branch : yX6_branch.cls ≠ "java/lang/invoke/MethodHandle" ∧ yX6_branch.cls ≠ "java/lang/invoke/VarHandle" ∧ (parseMethodDescriptor yX6_branch.desc).map (fun d => d.parameters.length) = some 1 := by decide +kernel
set_option maxHeartbeats 4000000 in
set_option maxRecDepth 100000 in
/-- Variants.update() -/
theorem c_X6_update (l : Launch) (G : GG) (a : Nat → Nat) (r : Nat → Nat → Int32) (n mf : Nat) (bd : Int32) (z : Nat) (ub : Bool) (ro : Nat → Int32) (hu : upOk r bd n mf z ub ro) : Met l yX6_update wsX6_update (rmK 3) (va_Pc [.ref (a 1)] (PM G [(oX6 (a 1) (a 2) (a 9) (a 15) (a 18) (nI z) (bI ub)), (oX5 (a 2) (nI n) (a 3) (a 4) (a 5) (a 6) (a 7) (a 8) bd), (cI G (a 3) 15 (r 3)), (cI G (a 5) 15 (r 5)), (cI G (a 6) 15 (r 6)), (cI G (a 7) 15 (r 7)), (cI G (a 8) 15 (r 8)), (oX1 (a 9) (nI mf) (a 10) (a 11) (a 12) (a 13) (a 14)), (cI G (a 10) 40 (r 10)), (cI G (a 11) 40 (r 11)), (cI G (a 12) 40 (r 12)), (cI G (a 13) 40 (r 13)), (cI G (a 14) 40 (r 14)), (oX4 (a 15) (a 16) (a 17)), (cI G (a 16) 60 (r 16)), (cI G (a 17) 4 (r 17)), (cI G (a 18) 8192 ro)])) (QG (S := Nat → Int32) G [(oX6 (a 1) (a 2) (a 9) (a 15) (a 18) (nI z) (bI ub)), (oX5 (a 2) (nI n) (a 3) (a 4) (a 5) (a 6) (a 7) (a 8) bd), (cI G (a 3) 15 (r 3)), (cI G (a 5) 15 (r 5)), (cI G (a 6) 15 (r 6)), (cI G (a 7) 15 (r 7)), (cI G (a 8) 15 (r 8)), (oX1 (a 9) (nI mf) (a 10) (a 11) (a 12) (a 13) (a 14)), (cI G (a 10) 40 (r 10)), (cI G (a 11) 40 (r 11)), (cI G (a 12) 40 (r 12)), (cI G (a 13) 40 (r 13)), (cI G (a 14) 40 (r 14)), (oX4 (a 15) (a 16) (a 17)), (cI G (a 16) 60 (r 16)), (cI G (a 17) 4 (r 17)), (cI G (a 18) 8192 ro)] (fun u => rowIs u (vLL r bd n mf)) (fun u => none) (fun u => [(oX6 (a 1) (a 2) (a 9) (a 15) (a 18) (nI (vLL r bd n mf).length) 1), (oX5 (a 2) (nI n) (a 3) (a 4) (a 5) (a 6) (a 7) (a 8) bd), (cI G (a 3) 15 (r 3)), (cI G (a 5) 15 (r 5)), (cI G (a 6) 15 (r 6)), (cI G (a 7) 15 (r 7)), (cI G (a 8) 15 (r 8)), (oX1 (a 9) (nI mf) (a 10) (a 11) (a 12) (a 13) (a 14)), (cI G (a 10) 40 (r 10)), (cI G (a 11) 40 (r 11)), (cI G (a 12) 40 (r 12)), (cI G (a 13) 40 (r 13)), (cI G (a 14) 40 (r 14)), (oX4 (a 15) (a 16) (a 17)), (cI G (a 16) 60 (r 16)), (cI G (a 17) 4 (r 17)), (cI G (a 18) 8192 u)])) 0 0 (adr [(oX6 (a 1) (a 2) (a 9) (a 15) (a 18) (nI z) (bI ub)), (oX5 (a 2) (nI n) (a 3) (a 4) (a 5) (a 6) (a 7) (a 8) bd), (cI G (a 3) 15 (r 3)), (cI G (a 5) 15 (r 5)), (cI G (a 6) 15 (r 6)), (cI G (a 7) 15 (r 7)), (cI G (a 8) 15 (r 8)), (oX1 (a 9) (nI mf) (a 10) (a 11) (a 12) (a 13) (a 14)), (cI G (a 10) 40 (r 10)), (cI G (a 11) 40 (r 11)), (cI G (a 12) 40 (r 12)), (cI G (a 13) 40 (r 13)), (cI G (a 14) 40 (r 14)), (oX4 (a 15) (a 16) (a 17)), (cI G (a 16) 60 (r 16)), (cI G (a 17) 4 (r 17)), (cI G (a 18) 8192 ro)]) := by
  refine Met.ofW (cc := cX6_update) (maxL := 2) (ret := none) (by decide) rfl ?_
  intro p e s m args below meth c s₁ B hml hv
  obtain ⟨rfl, hP, hD0, hKK⟩ := hv
  have hx := B.exec
  have hb := B.bytes
  have hr := B.returns
  have hts := atoms_spec (ws := wsX6_update) B.pre
  have hown : s.vm.findClass RX6 = some m.cls := findClass_of_methodNamed B.named
  have hlocks := B.notSynchronized
  have hK := hKK.1
  generalize hAe : adr [(oX6 (a 1) (a 2) (a 9) (a 15) (a 18) (nI z) (bI ub)), (oX5 (a 2) (nI n) (a 3) (a 4) (a 5) (a 6) (a 7) (a 8) bd), (cI G (a 3) 15 (r 3)), (cI G (a 5) 15 (r 5)), (cI G (a 6) 15 (r 6)), (cI G (a 7) 15 (r 7)), (cI G (a 8) 15 (r 8)), (oX1 (a 9) (nI mf) (a 10) (a 11) (a 12) (a 13) (a 14)), (cI G (a 10) 40 (r 10)), (cI G (a 11) 40 (r 11)), (cI G (a 12) 40 (r 12)), (cI G (a 13) 40 (r 13)), (cI G (a 14) 40 (r 14)), (oX4 (a 15) (a 16) (a 17)), (cI G (a 16) 60 (r 16)), (cI G (a 17) 4 (r 17)), (cI G (a 18) 8192 ro)] = A
  have hD : va_D A [(oX6 (a 1) (a 2) (a 9) (a 15) (a 18) (nI z) (bI ub)), (oX5 (a 2) (nI n) (a 3) (a 4) (a 5) (a 6) (a 7) (a 8) bd), (cI G (a 3) 15 (r 3)), (cI G (a 5) 15 (r 5)), (cI G (a 6) 15 (r 6)), (cI G (a 7) 15 (r 7)), (cI G (a 8) 15 (r 8)), (oX1 (a 9) (nI mf) (a 10) (a 11) (a 12) (a 13) (a 14)), (cI G (a 10) 40 (r 10)), (cI G (a 11) 40 (r 11)), (cI G (a 12) 40 (r 12)), (cI G (a 13) 40 (r 13)), (cI G (a 14) 40 (r 14)), (oX4 (a 15) (a 16) (a 17)), (cI G (a 16) 60 (r 16)), (cI G (a 17) 4 (r 17)), (cI G (a 18) 8192 ro)] := by rw [← hAe]; exact hD0.own
  have hS : va_S A s.heap s.heap [] := va_S.rf
  have hP : va_P G.1 vwCl [(oX6 (a 1) (a 2) (a 9) (a 15) (a 18) (nI z) (bI ub)), (oX5 (a 2) (nI n) (a 3) (a 4) (a 5) (a 6) (a 7) (a 8) bd), (cI G (a 3) 15 (r 3)), (cI G (a 5) 15 (r 5)), (cI G (a 6) 15 (r 6)), (cI G (a 7) 15 (r 7)), (cI G (a 8) 15 (r 8)), (oX1 (a 9) (nI mf) (a 10) (a 11) (a 12) (a 13) (a 14)), (cI G (a 10) 40 (r 10)), (cI G (a 11) 40 (r 11)), (cI G (a 12) 40 (r 12)), (cI G (a 13) 40 (r 13)), (cI G (a 14) 40 (r 14)), (oX4 (a 15) (a 16) (a 17)), (cI G (a 16) 60 (r 16)), (cI G (a 17) 4 (r 17)), (cI G (a 18) 8192 ro)] s.heap := hP
  have hl := lv_entry ([.ref (a 1)]) (n := 2) (Nat.le_of_ble_eq_true rfl)
  rw [lg_entry_eq]
  generalize (lg_sl ([.ref (a 1)]) ++ List.replicate (2 - (lg_sl ([.ref (a 1)])).length) Slot.unset).toArray = ls at hl ⊢
  have hl : lv_has ls 2 [(0, .ref (a 1))] := hl
  have hn := hu.1
  have hm := hu.2.1
  refine lv_aload_n hx hb dX6_update_0 rfl (lv_at hl 0 rfl) ?_
  refine va_get (D := G.1) (ci := 8) (v := .int (bI ub)) (C := RX6) (T := TX6) (N := 6) hx hb hts iX6_update_X6 hown hK hP 0 rfl rfl 5 (by decide) (hts _ fX6_update_1) (fun _ h9 => h9) rfl dX6_update_1 ?_
  refine lv_if_eq (tgt := 8) hx hb dX6_update_4 (by decide) (fun c_4 => ?_) (fun c_4 => ?_)
  · skip
    refine lv_aload_n hx hb dX6_update_8 rfl (lv_at hl 0 rfl) ?_
    refine va_get (D := G.1) (ci := 8) (v := .ref (a 18)) (C := RX6) (T := TX6) (N := 6) hx hb hts iX6_update_X6 hown hK hP 0 rfl rfl 3 (by decide) (hts _ fX6_update_2) (fun _ h9 => h9) rfl dX6_update_9 ?_
    refine lv_iconst (v := 0) hx hb dX6_update_12 (by decide) ?_
    refine lv_iconst (v := 0) hx hb dX6_update_13 (by decide) ?_
    refine cnN (nw := 17) (As := [.ref (a 18), .int 0, .int 0]) (rest := []) ⟨hx, hb, hml, hown, hts⟩ (c_X7_putk l G (a 18) 8192 ro 0 0 0 (rfl) (by decide) (by decide)) ⟨va_cnB (own := RX6) (host := RX7) (index := 55) (y := yX7_put) 3 hts gX6_update_X7_put_n55 rfl rfl rfl (hKK.2.nth 16 (q := (RX6, 55, yX7_put)) rfl) (hts _ fX6_update_3) hd_X7_put ⟨Nat.le_of_ble_eq_true rfl, Nat.le_of_ble_eq_true rfl⟩, (hts _ fX6_update_4), trivial⟩ hKK hP hD hS [16] [0, 1, 2, 3, 4, 5, 6, 7, 8, 9, 10, 11, 12, 13, 14, 15] (fun _ => [(oX6 (a 1) (a 2) (a 9) (a 15) (a 18) (nI z) (bI ub)), (oX5 (a 2) (nI n) (a 3) (a 4) (a 5) (a 6) (a 7) (a 8) bd), (cI G (a 3) 15 (r 3)), (cI G (a 5) 15 (r 5)), (cI G (a 6) 15 (r 6)), (cI G (a 7) 15 (r 7)), (cI G (a 8) 15 (r 8)), (oX1 (a 9) (nI mf) (a 10) (a 11) (a 12) (a 13) (a 14)), (cI G (a 10) 40 (r 10)), (cI G (a 11) 40 (r 11)), (cI G (a 12) 40 (r 12)), (cI G (a 13) 40 (r 13)), (cI G (a 14) 40 (r 14)), (oX4 (a 15) (a 16) (a 17)), (cI G (a 16) 60 (r 16)), (cI G (a 17) 4 (r 17)), (cI G (a 18) 8192 (upd ro 0 0))]) [some (oX6 (a 1) (a 2) (a 9) (a 15) (a 18) (nI z) (bI ub)), some (oX5 (a 2) (nI n) (a 3) (a 4) (a 5) (a 6) (a 7) (a 8) bd), some (cI G (a 3) 15 (r 3)), some (cI G (a 5) 15 (r 5)), some (cI G (a 6) 15 (r 6)), some (cI G (a 7) 15 (r 7)), some (cI G (a 8) 15 (r 8)), some (oX1 (a 9) (nI mf) (a 10) (a 11) (a 12) (a 13) (a 14)), some (cI G (a 10) 40 (r 10)), some (cI G (a 11) 40 (r 11)), some (cI G (a 12) 40 (r 12)), some (cI G (a 13) 40 (r 13)), some (cI G (a 14) 40 (r 14)), some (oX4 (a 15) (a 16) (a 17)), some (cI G (a 16) 60 (r 16)), some (cI G (a 17) 4 (r 17))] [a 1, a 2, a 3, a 5, a 6, a 7, a 8, a 9, a 10, a 11, a 12, a 13, a 14, a 15, a 16, a 17, (a 18)] rfl (by decide) (by decide) rfl hl.1 rfl (Nat.le_of_ble_eq_true rfl) dX6_update_14 ⟨Nat.zero_le _, Nat.zero_le _⟩ (fun _ => rfl) (fun _ => rfl) rfl (fun _ => rfl) rfl (fun _ => rfl) (fun _ H locs _ hP hD hS => ?_)
    refine lv_aload_n hx hb dX6_update_17 rfl (lv_at hl 0 rfl) ?_
    refine lv_iconst (v := 1) hx hb dX6_update_18 (by decide) ?_
    refine va_put (D := G.1) (ci := 8) (v := .int 1) (ty := .int) (C := RX6) (T := TX6) (N := 6) hx hb hts iX6_update_X6 tyX6 tyX6_ok nmX6 hown hK hP hD hS 0 rfl rfl 4 (by decide) (hts _ fX6_update_5) (fun _ h9 => h9) rfl (by decide +kernel) rfl rfl (Nat.le_of_ble_eq_true rfl) dX6_update_19 (fun H locs hP hD hS => ?_)
    have hPD : PD G A [(oX6 (a 1) (a 2) (a 9) (a 15) (a 18) 1 (bI ub)), (oX5 (a 2) (nI n) (a 3) (a 4) (a 5) (a 6) (a 7) (a 8) bd), (cI G (a 3) 15 (r 3)), (cI G (a 5) 15 (r 5)), (cI G (a 6) 15 (r 6)), (cI G (a 7) 15 (r 7)), (cI G (a 8) 15 (r 8)), (oX1 (a 9) (nI mf) (a 10) (a 11) (a 12) (a 13) (a 14)), (cI G (a 10) 40 (r 10)), (cI G (a 11) 40 (r 11)), (cI G (a 12) 40 (r 12)), (cI G (a 13) 40 (r 13)), (cI G (a 14) 40 (r 14)), (oX4 (a 15) (a 16) (a 17)), (cI G (a 16) 60 (r 16)), (cI G (a 17) 4 (r 17)), (cI G (a 18) 8192 (upd ro 0 0))] H := ⟨hP, hD⟩
    have hP := hPD.1
    have hD := hPD.2
    clear hPD
    refine lv_iconst (v := 1) hx hb dX6_update_22 (by decide) ?_
    refine lv_istore_n (lv' := [(1, .int 1), (0, .ref (a 1))]) hx hb dX6_update_23 rfl hl (by decide) rfl (fun ls hl => ?_)
    refine loopH (nL := 2) (I := fun (xv9 : Nat × (Nat → Int32)) => (fun (jx : Nat) (gx : Nat → Int32) => jx ≤ n ∧ rowIs gx (updL (r 3) (r 5) jx)) xv9.1 xv9.2) (μ := fun (xv9 : Nat × (Nat → Int32)) => (fun (jx : Nat) (gx : Nat → Int32) => n - jx) xv9.1 xv9.2) (lv := fun (xv9 : Nat × (Nat → Int32)) => (fun (jx : Nat) (gx : Nat → Int32) => [(0, .ref (a 1)), (1, .int (nI (jx + 1)))]) xv9.1 xv9.2) (wj := fun (xv9 : Nat × (Nat → Int32)) => (fun (jx : Nat) (gx : Nat → Int32) => [(oX6 (a 1) (a 2) (a 9) (a 15) (a 18) (nI (updL (r 3) (r 5) jx).length) (bI ub)), (oX5 (a 2) (nI n) (a 3) (a 4) (a 5) (a 6) (a 7) (a 8) bd), (cI G (a 3) 15 (r 3)), (cI G (a 5) 15 (r 5)), (cI G (a 6) 15 (r 6)), (cI G (a 7) 15 (r 7)), (cI G (a 8) 15 (r 8)), (oX1 (a 9) (nI mf) (a 10) (a 11) (a 12) (a 13) (a 14)), (cI G (a 10) 40 (r 10)), (cI G (a 11) 40 (r 11)), (cI G (a 12) 40 (r 12)), (cI G (a 13) 40 (r 13)), (cI G (a 14) 40 (r 14)), (oX4 (a 15) (a 16) (a 17)), (cI G (a 16) 60 (r 16)), (cI G (a 17) 4 (r 17)), (cI G (a 18) 8192 gx)]) xv9.1 xv9.2) (pc' := 24) (fun xv9 hI ih_24 H locs ls hP hD hS hl => ?_) (⟨0, upd ro 0 0⟩) (⟨Nat.zero_le _, rowIs_1 ro⟩) _ _ ls (hP) (hD) hS (lv_sub hl [1, 0] rfl)
    obtain ⟨jx, gx⟩ := xv9
    have hI : jx ≤ n ∧ rowIs gx (updL (r 3) (r 5) jx) := hI
    have hl : lv_has ls 2 [(0, .ref (a 1)), (1, .int (nI (jx + 1)))] := hl
    have hPD : PD G A [(oX6 (a 1) (a 2) (a 9) (a 15) (a 18) (nI (updL (r 3) (r 5) jx).length) (bI ub)), (oX5 (a 2) (nI n) (a 3) (a 4) (a 5) (a 6) (a 7) (a 8) bd), (cI G (a 3) 15 (r 3)), (cI G (a 5) 15 (r 5)), (cI G (a 6) 15 (r 6)), (cI G (a 7) 15 (r 7)), (cI G (a 8) 15 (r 8)), (oX1 (a 9) (nI mf) (a 10) (a 11) (a 12) (a 13) (a 14)), (cI G (a 10) 40 (r 10)), (cI G (a 11) 40 (r 11)), (cI G (a 12) 40 (r 12)), (cI G (a 13) 40 (r 13)), (cI G (a 14) 40 (r 14)), (oX4 (a 15) (a 16) (a 17)), (cI G (a 16) 60 (r 16)), (cI G (a 17) 4 (r 17)), (cI G (a 18) 8192 gx)] H := ⟨hP, hD⟩
    have hP := hPD.1
    have hD := hPD.2
    clear hPD
    refine lv_iload_n hx hb dX6_update_24 rfl (lv_at hl 1 rfl) ?_
    refine lv_aload_n hx hb dX6_update_25 rfl (lv_at hl 0 rfl) ?_
    refine va_get (D := G.1) (ci := 8) (v := .ref (a 2)) (C := RX6) (T := TX6) (N := 6) hx hb hts iX6_update_X6 hown hK hP 0 rfl rfl 0 (by decide) (hts _ fX6_update_6) (fun _ h9 => h9) rfl dX6_update_26 ?_
    refine va_get (D := G.1) (ci := 7) (v := .int (nI n)) (C := RX5) (T := TX5) (N := 8) hx hb hts iX6_update_X5 hown hK hP 1 rfl rfl 0 (by decide) (hts _ fX6_update_8) (fun _ h9 => h9) rfl dX6_update_29 ?_
    refine lv_icmp_gt (tgt := 46) hx hb dX6_update_32 (by decide) (fun c_32 => ?_) (fun c_32 => ?_)
    · skip
      have hj : jx = n := by have := (nI_ltI (a := n) (b := jx + 1) (by omega) (by omega)).mp c_32; have := hI.1; omega
      have hsz9 := hu.2.2.2.1 n (Nat.le_refl _)
      have hr9 := hI.2
      refine lv_aload_n hx hb dX6_update_46 rfl (lv_at hl 0 rfl) ?_
      refine cnV (nw := 17) (ci := 8) (T0 := TX6) (N := 6) (As := []) (rest := []) ⟨hx, hb, hml, hown, hts⟩ (c_X6_dropUnkept l G a r n mf bd (bI ub) gx (updL (r 3) (r 5) jx) (hn) (hm) (hr9) (by rw [hj]; exact hsz9)) (cwV 0 hts gX6_update_X6_dropUnkept rfl rfl rfl ⟨rfl, hd_X6_dropUnkept⟩ ⟨Nat.le_of_ble_eq_true rfl, Nat.le_of_ble_eq_true rfl⟩) hKK hP hD hS [0, 1, 4, 5, 6, 7, 8, 9, 10, 11, 12, 13, 14, 15, 16] [2, 3] (fun gz => [(oX6 (a 1) (a 2) (a 9) (a 15) (a 18) (nI ((updL (r 3) (r 5) jx).filter (vKeep r bd n mf)).length) (bI ub)), (oX5 (a 2) (nI n) (a 3) (a 4) (a 5) (a 6) (a 7) (a 8) bd), (cI G (a 3) 15 (r 3)), (cI G (a 5) 15 (r 5)), (cI G (a 6) 15 (r 6)), (cI G (a 7) 15 (r 7)), (cI G (a 8) 15 (r 8)), (oX1 (a 9) (nI mf) (a 10) (a 11) (a 12) (a 13) (a 14)), (cI G (a 10) 40 (r 10)), (cI G (a 11) 40 (r 11)), (cI G (a 12) 40 (r 12)), (cI G (a 13) 40 (r 13)), (cI G (a 14) 40 (r 14)), (oX4 (a 15) (a 16) (a 17)), (cI G (a 16) 60 (r 16)), (cI G (a 17) 4 (r 17)), (cI G (a 18) 8192 gz)]) [some (cI G (a 3) 15 (r 3)), some (cI G (a 5) 15 (r 5))] [a 1, a 2, a 3, a 5, a 6, a 7, a 8, a 9, a 10, a 11, a 12, a 13, a 14, a 15, a 16, a 17, a 18] rfl (by decide) (by decide) rfl rfl rfl hl.1 rfl (Nat.le_of_ble_eq_true rfl) dX6_update_47 ⟨Nat.zero_le _, Nat.zero_le _⟩ (fun _ => rfl) (fun _ => rfl) rfl (fun _ => rfl) rfl (fun _ => rfl) (fun gz H locs hz9 hP hD hS => ?_)
      refine lv_aload_n hx hb dX6_update_50 rfl (lv_at hl 0 rfl) ?_
      refine lv_iconst (v := 1) hx hb dX6_update_51 (by decide) ?_
      refine va_put (D := G.1) (ci := 8) (v := .int 1) (ty := .boolean) (C := RX6) (T := TX6) (N := 6) hx hb hts iX6_update_X6 tyX6 tyX6_ok nmX6 hown hK hP hD hS 0 rfl rfl 5 (by decide) (hts _ fX6_update_1) (fun _ h9 => h9) rfl (by decide +kernel) rfl rfl (Nat.le_of_ble_eq_true rfl) dX6_update_52 (fun H locs hP hD hS => ?_)
      have hPD : PD G A [(oX6 (a 1) (a 2) (a 9) (a 15) (a 18) (nI ((updL (r 3) (r 5) jx).filter (vKeep r bd n mf)).length) 1), (oX5 (a 2) (nI n) (a 3) (a 4) (a 5) (a 6) (a 7) (a 8) bd), (cI G (a 3) 15 (r 3)), (cI G (a 5) 15 (r 5)), (cI G (a 6) 15 (r 6)), (cI G (a 7) 15 (r 7)), (cI G (a 8) 15 (r 8)), (oX1 (a 9) (nI mf) (a 10) (a 11) (a 12) (a 13) (a 14)), (cI G (a 10) 40 (r 10)), (cI G (a 11) 40 (r 11)), (cI G (a 12) 40 (r 12)), (cI G (a 13) 40 (r 13)), (cI G (a 14) 40 (r 14)), (oX4 (a 15) (a 16) (a 17)), (cI G (a 16) 60 (r 16)), (cI G (a 17) 4 (r 17)), (cI G (a 18) 8192 gz)] H := ⟨hP, hD⟩
      have hP := hPD.1
      have hD := hPD.2
      clear hPD
      exact gretv hx hb hr hlocks hAe hS (gz) (rfl) (by have h9 := hz9; rw [hj] at h9; exact h9) (by rw [show vLL r bd n mf = (updL (r 3) (r 5) jx).filter (vKeep r bd n mf) by rw [hj]; rfl]; exact hP) dX6_update_55
    · skip
      have hj : jx < n := by have := mt (nI_ltI (a := n) (b := jx + 1) (by omega) (by have := hI.1; omega)).mpr c_32; omega
      refine lv_aload_n hx hb dX6_update_35 rfl (lv_at hl 0 rfl) ?_
      refine lv_iload_n hx hb dX6_update_36 rfl (lv_at hl 1 rfl) ?_
      refine cnV (nw := 17) (ci := 8) (T0 := TX6) (N := 6) (As := [.int (nI (jx + 1))]) (rest := []) ⟨hx, hb, hml, hown, hts⟩ (c_X6_branch l G a r n bd (bI ub) gx (updL (r 3) (r 5) jx) (jx + 1) (by omega) (hI.2) (hu.2.2.1 jx hj) (hu.2.2.2.1 (jx + 1) hj)) (cwV 1 hts gX6_update_X6_branch rfl rfl rfl ⟨rfl, hd_X6_branch⟩ ⟨Nat.le_of_ble_eq_true rfl, Nat.le_of_ble_eq_true rfl⟩) hKK hP hD hS [0, 1, 2, 3, 16] [4, 5, 6, 7, 8, 9, 10, 11, 12, 13, 14, 15] (fun gy => [(oX6 (a 1) (a 2) (a 9) (a 15) (a 18) (nI (brL (r 3) (r 5) (jx + 1) (updL (r 3) (r 5) jx)).length) (bI ub)), (oX5 (a 2) (nI n) (a 3) (a 4) (a 5) (a 6) (a 7) (a 8) bd), (cI G (a 3) 15 (r 3)), (cI G (a 5) 15 (r 5)), (cI G (a 6) 15 (r 6)), (cI G (a 7) 15 (r 7)), (cI G (a 8) 15 (r 8)), (oX1 (a 9) (nI mf) (a 10) (a 11) (a 12) (a 13) (a 14)), (cI G (a 10) 40 (r 10)), (cI G (a 11) 40 (r 11)), (cI G (a 12) 40 (r 12)), (cI G (a 13) 40 (r 13)), (cI G (a 14) 40 (r 14)), (oX4 (a 15) (a 16) (a 17)), (cI G (a 16) 60 (r 16)), (cI G (a 17) 4 (r 17)), (cI G (a 18) 8192 gy)]) [some (cI G (a 6) 15 (r 6)), some (cI G (a 7) 15 (r 7)), some (cI G (a 8) 15 (r 8)), some (oX1 (a 9) (nI mf) (a 10) (a 11) (a 12) (a 13) (a 14)), some (cI G (a 10) 40 (r 10)), some (cI G (a 11) 40 (r 11)), some (cI G (a 12) 40 (r 12)), some (cI G (a 13) 40 (r 13)), some (cI G (a 14) 40 (r 14)), some (oX4 (a 15) (a 16) (a 17)), some (cI G (a 16) 60 (r 16)), some (cI G (a 17) 4 (r 17))] [a 1, a 2, a 3, a 5, a 6, a 7, a 8, a 9, a 10, a 11, a 12, a 13, a 14, a 15, a 16, a 17, a 18] rfl (by decide) (by decide) rfl rfl rfl hl.1 rfl (Nat.le_of_ble_eq_true rfl) dX6_update_37 ⟨Nat.zero_le _, Nat.zero_le _⟩ (fun _ => rfl) (fun _ => rfl) rfl (fun _ => rfl) rfl (fun _ => rfl) (fun gy H locs hq hP hD hS => ?_)
      refine lv_iinc (v := nI (jx + 1 + 1)) (lv' := [(1, .int (nI (jx + 1 + 1))), (0, .ref (a 1))]) hx hb dX6_update_40 hl (k := 1) rfl (nI_1 (jx + 1)) (by decide) rfl (fun ls hl => ?_)
      refine lv_goto (tgt := 24) hx hb dX6_update_43 (by decide) ?_
      exact ih_24 (⟨jx + 1, gy⟩) (⟨hj, hq⟩) (by show n - (jx + 1) < n - jx; omega) _ _ ls (hP) (hD) hS (lv_sub hl [1, 0] rfl)
  · skip
    have hub := bI_n0 c_4
    have hu5 := hu.2.2.2.2 hub
    exact gretv hx hb hr hlocks hAe hS (ro) (rfl) (hu5.1) (by rw [← hu5.2, ← show bI ub = 1 by rw [hub]; rfl]; exact hP) dX6_update_7

theorem hd_X6_update : yX6_update.cls ≠ "java/lang/invoke/MethodHandle" ∧ yX6_update.cls ≠ "java/lang/invoke/VarHandle" ∧ (parseMethodDescriptor yX6_update.desc).map (fun d => d.parameters.length) = some 0 := by decide +kernel
theorem iX6_first_X6 : ∀ w ∈ u_ws RX6 TX6 6, w ∈ wsX6_first := by decide +kernel
theorem fX6_first_1 : Cond.fieldLink RX6 43 "FeatureSolve$Variants" "size" "I" ∈ wsX6_first := by decide +kernel
theorem fX6_first_2 : Cond.fieldLink RX6 32 "FeatureSolve$Variants" "row" "[I" ∈ wsX6_first := by decide +kernel
theorem fX6_first_3 : Cond.initialized RX7 ∈ wsX6_first := by decide +kernel
theorem fX6_first_4 : Cond.static yX7_at ∈ wsX6_first := by decide +kernel
theorem hd_X6_fits : yX6_fits.cls ≠ "java/lang/invoke/MethodHandle" ∧ yX6_fits.cls ≠ "java/lang/invoke/VarHandle" ∧ (parseMethodDescriptor yX6_fits.desc).map (fun d => d.parameters.length) = some 3 := by decide +kernel
set_option maxHeartbeats 4000000 in
set_option maxRecDepth 100000 in
/-- Variants.first(must, mustNot) -/
theorem c_X6_first (l : Launch) (G : GG) (a : Nat → Nat) (r : Nat → Nat → Int32) (n mf : Nat) (bd : Int32) (z : Nat) (ub : Bool) (ro : Nat → Int32) (mu mn : Int32) (hu : upOk r bd n mf z ub ro) : Met l yX6_first wsX6_first (rmK 4) (va_Pc [.ref (a 1), .int mu, .int mn] (PM G [(oX6 (a 1) (a 2) (a 9) (a 15) (a 18) (nI z) (bI ub)), (oX5 (a 2) (nI n) (a 3) (a 4) (a 5) (a 6) (a 7) (a 8) bd), (cI G (a 3) 15 (r 3)), (cI G (a 5) 15 (r 5)), (cI G (a 6) 15 (r 6)), (cI G (a 7) 15 (r 7)), (cI G (a 8) 15 (r 8)), (oX1 (a 9) (nI mf) (a 10) (a 11) (a 12) (a 13) (a 14)), (cI G (a 10) 40 (r 10)), (cI G (a 11) 40 (r 11)), (cI G (a 12) 40 (r 12)), (cI G (a 13) 40 (r 13)), (cI G (a 14) 40 (r 14)), (oX4 (a 15) (a 16) (a 17)), (cI G (a 16) 60 (r 16)), (cI G (a 17) 4 (r 17)), (cI G (a 18) 8192 ro)])) (QG (S := Nat → Int32) G [(oX6 (a 1) (a 2) (a 9) (a 15) (a 18) (nI z) (bI ub)), (oX5 (a 2) (nI n) (a 3) (a 4) (a 5) (a 6) (a 7) (a 8) bd), (cI G (a 3) 15 (r 3)), (cI G (a 5) 15 (r 5)), (cI G (a 6) 15 (r 6)), (cI G (a 7) 15 (r 7)), (cI G (a 8) 15 (r 8)), (oX1 (a 9) (nI mf) (a 10) (a 11) (a 12) (a 13) (a 14)), (cI G (a 10) 40 (r 10)), (cI G (a 11) 40 (r 11)), (cI G (a 12) 40 (r 12)), (cI G (a 13) 40 (r 13)), (cI G (a 14) 40 (r 14)), (oX4 (a 15) (a 16) (a 17)), (cI G (a 16) 60 (r 16)), (cI G (a 17) 4 (r 17)), (cI G (a 18) 8192 ro)] (fun u => rowIs u (vLL r bd n mf)) (fun u => some (.int (fnd (fun v => fitsB v mu mn) (vLL r bd n mf)))) (fun u => [(oX6 (a 1) (a 2) (a 9) (a 15) (a 18) (nI (vLL r bd n mf).length) 1), (oX5 (a 2) (nI n) (a 3) (a 4) (a 5) (a 6) (a 7) (a 8) bd), (cI G (a 3) 15 (r 3)), (cI G (a 5) 15 (r 5)), (cI G (a 6) 15 (r 6)), (cI G (a 7) 15 (r 7)), (cI G (a 8) 15 (r 8)), (oX1 (a 9) (nI mf) (a 10) (a 11) (a 12) (a 13) (a 14)), (cI G (a 10) 40 (r 10)), (cI G (a 11) 40 (r 11)), (cI G (a 12) 40 (r 12)), (cI G (a 13) 40 (r 13)), (cI G (a 14) 40 (r 14)), (oX4 (a 15) (a 16) (a 17)), (cI G (a 16) 60 (r 16)), (cI G (a 17) 4 (r 17)), (cI G (a 18) 8192 u)])) 0 0 (adr [(oX6 (a 1) (a 2) (a 9) (a 15) (a 18) (nI z) (bI ub)), (oX5 (a 2) (nI n) (a 3) (a 4) (a 5) (a 6) (a 7) (a 8) bd), (cI G (a 3) 15 (r 3)), (cI G (a 5) 15 (r 5)), (cI G (a 6) 15 (r 6)), (cI G (a 7) 15 (r 7)), (cI G (a 8) 15 (r 8)), (oX1 (a 9) (nI mf) (a 10) (a 11) (a 12) (a 13) (a 14)), (cI G (a 10) 40 (r 10)), (cI G (a 11) 40 (r 11)), (cI G (a 12) 40 (r 12)), (cI G (a 13) 40 (r 13)), (cI G (a 14) 40 (r 14)), (oX4 (a 15) (a 16) (a 17)), (cI G (a 16) 60 (r 16)), (cI G (a 17) 4 (r 17)), (cI G (a 18) 8192 ro)]) := by
  refine Met.ofW (cc := cX6_first) (maxL := 4) (ret := (some .int)) (by decide) rfl ?_
  intro p e s m args below meth c s₁ B hml hv
  obtain ⟨rfl, hP, hD0, hKK⟩ := hv
  have hx := B.exec
  have hb := B.bytes
  have hr := B.returns
  have hts := atoms_spec (ws := wsX6_first) B.pre
  have hown : s.vm.findClass RX6 = some m.cls := findClass_of_methodNamed B.named
  have hlocks := B.notSynchronized
  have hK := hKK.1
  generalize hAe : adr [(oX6 (a 1) (a 2) (a 9) (a 15) (a 18) (nI z) (bI ub)), (oX5 (a 2) (nI n) (a 3) (a 4) (a 5) (a 6) (a 7) (a 8) bd), (cI G (a 3) 15 (r 3)), (cI G (a 5) 15 (r 5)), (cI G (a 6) 15 (r 6)), (cI G (a 7) 15 (r 7)), (cI G (a 8) 15 (r 8)), (oX1 (a 9) (nI mf) (a 10) (a 11) (a 12) (a 13) (a 14)), (cI G (a 10) 40 (r 10)), (cI G (a 11) 40 (r 11)), (cI G (a 12) 40 (r 12)), (cI G (a 13) 40 (r 13)), (cI G (a 14) 40 (r 14)), (oX4 (a 15) (a 16) (a 17)), (cI G (a 16) 60 (r 16)), (cI G (a 17) 4 (r 17)), (cI G (a 18) 8192 ro)] = A
  have hD : va_D A [(oX6 (a 1) (a 2) (a 9) (a 15) (a 18) (nI z) (bI ub)), (oX5 (a 2) (nI n) (a 3) (a 4) (a 5) (a 6) (a 7) (a 8) bd), (cI G (a 3) 15 (r 3)), (cI G (a 5) 15 (r 5)), (cI G (a 6) 15 (r 6)), (cI G (a 7) 15 (r 7)), (cI G (a 8) 15 (r 8)), (oX1 (a 9) (nI mf) (a 10) (a 11) (a 12) (a 13) (a 14)), (cI G (a 10) 40 (r 10)), (cI G (a 11) 40 (r 11)), (cI G (a 12) 40 (r 12)), (cI G (a 13) 40 (r 13)), (cI G (a 14) 40 (r 14)), (oX4 (a 15) (a 16) (a 17)), (cI G (a 16) 60 (r 16)), (cI G (a 17) 4 (r 17)), (cI G (a 18) 8192 ro)] := by rw [← hAe]; exact hD0.own
  have hS : va_S A s.heap s.heap [] := va_S.rf
  have hP : va_P G.1 vwCl [(oX6 (a 1) (a 2) (a 9) (a 15) (a 18) (nI z) (bI ub)), (oX5 (a 2) (nI n) (a 3) (a 4) (a 5) (a 6) (a 7) (a 8) bd), (cI G (a 3) 15 (r 3)), (cI G (a 5) 15 (r 5)), (cI G (a 6) 15 (r 6)), (cI G (a 7) 15 (r 7)), (cI G (a 8) 15 (r 8)), (oX1 (a 9) (nI mf) (a 10) (a 11) (a 12) (a 13) (a 14)), (cI G (a 10) 40 (r 10)), (cI G (a 11) 40 (r 11)), (cI G (a 12) 40 (r 12)), (cI G (a 13) 40 (r 13)), (cI G (a 14) 40 (r 14)), (oX4 (a 15) (a 16) (a 17)), (cI G (a 16) 60 (r 16)), (cI G (a 17) 4 (r 17)), (cI G (a 18) 8192 ro)] s.heap := hP
  have hl := lv_entry ([.ref (a 1), .int mu, .int mn]) (n := 4) (Nat.le_of_ble_eq_true rfl)
  rw [lg_entry_eq]
  generalize (lg_sl ([.ref (a 1), .int mu, .int mn]) ++ List.replicate (4 - (lg_sl ([.ref (a 1), .int mu, .int mn])).length) Slot.unset).toArray = ls at hl ⊢
  have hl : lv_has ls 4 [(0, .ref (a 1)), (1, .int mu), (2, .int mn)] := hl
  have hl9 := upOk_le hu
  refine lv_aload_n hx hb dX6_first_0 rfl (lv_at hl 0 rfl) ?_
  refine cnV (nw := 17) (ci := 8) (T0 := TX6) (N := 6) (As := []) (rest := []) ⟨hx, hb, hml, hown, hts⟩ (c_X6_update l G a r n mf bd z ub ro hu) (cwV 0 hts gX6_first_X6_update rfl rfl rfl ⟨rfl, hd_X6_update⟩ ⟨Nat.le_of_ble_eq_true rfl, Nat.le_of_ble_eq_true rfl⟩) hKK hP hD hS [0, 1, 2, 3, 4, 5, 6, 7, 8, 9, 10, 11, 12, 13, 14, 15, 16] [] (fun gu => [(oX6 (a 1) (a 2) (a 9) (a 15) (a 18) (nI (vLL r bd n mf).length) 1), (oX5 (a 2) (nI n) (a 3) (a 4) (a 5) (a 6) (a 7) (a 8) bd), (cI G (a 3) 15 (r 3)), (cI G (a 5) 15 (r 5)), (cI G (a 6) 15 (r 6)), (cI G (a 7) 15 (r 7)), (cI G (a 8) 15 (r 8)), (oX1 (a 9) (nI mf) (a 10) (a 11) (a 12) (a 13) (a 14)), (cI G (a 10) 40 (r 10)), (cI G (a 11) 40 (r 11)), (cI G (a 12) 40 (r 12)), (cI G (a 13) 40 (r 13)), (cI G (a 14) 40 (r 14)), (oX4 (a 15) (a 16) (a 17)), (cI G (a 16) 60 (r 16)), (cI G (a 17) 4 (r 17)), (cI G (a 18) 8192 gu)]) [] [a 1, a 2, a 3, a 5, a 6, a 7, a 8, a 9, a 10, a 11, a 12, a 13, a 14, a 15, a 16, a 17, a 18] rfl (by decide) (by decide) rfl rfl rfl hl.1 rfl (Nat.le_of_ble_eq_true rfl) dX6_first_1 ⟨Nat.zero_le _, Nat.zero_le _⟩ (fun _ => rfl) (fun _ => rfl) rfl (fun _ => rfl) rfl (fun _ => rfl) (fun gu H locs hgu hP hD hS => ?_)
  refine lv_iconst (v := 0) hx hb dX6_first_4 (by decide) ?_
  refine lv_istore_n (lv' := [(3, .int 0), (0, .ref (a 1)), (1, .int mu), (2, .int mn)]) hx hb dX6_first_5 rfl hl (by decide) rfl (fun ls hl => ?_)
  refine loopJ (nL := 4) (I := fun (jx : Nat) => jx ≤ (vLL r bd n mf).length ∧ fnd (fun v => fitsB v mu mn) (vLL r bd n mf) = fnd (fun v => fitsB v mu mn) ((vLL r bd n mf).drop jx)) (μ := fun (jx : Nat) => (vLL r bd n mf).length - jx) (lv := fun (jx : Nat) => [(0, .ref (a 1)), (1, .int mu), (2, .int mn), (3, .int (nI jx))]) (pc' := 6) (fun xv9 hI ih_6 ls hl => ?_) 0 (⟨Nat.zero_le _, rfl⟩) ls (lv_sub hl [1, 2, 3, 0] rfl)
  obtain ⟨jx, rfl⟩ : ∃ y, y = xv9 := ⟨_, rfl⟩
  have hI : jx ≤ (vLL r bd n mf).length ∧ fnd (fun v => fitsB v mu mn) (vLL r bd n mf) = fnd (fun v => fitsB v mu mn) ((vLL r bd n mf).drop jx) := hI
  have hl : lv_has ls 4 [(0, .ref (a 1)), (1, .int mu), (2, .int mn), (3, .int (nI jx))] := hl
  have hI1 := hI.1
  refine lv_iload_n hx hb dX6_first_6 rfl (lv_at hl 3 rfl) ?_
  refine lv_aload_n hx hb dX6_first_7 rfl (lv_at hl 0 rfl) ?_
  refine va_get (D := G.1) (ci := 8) (v := .int (nI (vLL r bd n mf).length)) (C := RX6) (T := TX6) (N := 6) hx hb hts iX6_first_X6 hown hK hP 0 rfl rfl 4 (by decide) (hts _ fX6_first_1) (fun _ h9 => h9) rfl dX6_first_8 ?_
  refine lv_icmp_ge (tgt := 45) hx hb dX6_first_11 (by decide) (fun c_11 => ?_) (fun c_11 => ?_)
  · skip
    have hj : jx = (vLL r bd n mf).length := by have := (nI_leI (a := (vLL r bd n mf).length) (b := jx) (by omega) (by omega)).mp c_11; omega
    refine lv_iconst (v := -1) hx hb dX6_first_45 (by decide) ?_
    exact greti hx hb hr hlocks rfl hAe hS (gu) (by rw [hI.2, hj, fnd_e]) (hgu) (hP) dX6_first_46
  · skip
    have hj : jx < (vLL r bd n mf).length := Nat.lt_of_not_le (fun z => c_11 ((nI_leI (a := (vLL r bd n mf).length) (b := jx) (by omega) (by omega)).mpr z))
    refine lv_aload_n hx hb dX6_first_14 rfl (lv_at hl 0 rfl) ?_
    refine va_get (D := G.1) (ci := 8) (v := .ref (a 18)) (C := RX6) (T := TX6) (N := 6) hx hb hts iX6_first_X6 hown hK hP 0 rfl rfl 3 (by decide) (hts _ fX6_first_2) (fun _ h9 => h9) rfl dX6_first_15 ?_
    refine lv_iload_n hx hb dX6_first_18 rfl (lv_at hl 3 rfl) ?_
    refine cpN (As := [.ref (a 18), .int (nI jx)]) (rest := []) ⟨hx, hb, hml, hown, hts⟩ (c_X7_atk l G (a 18) 8192 gu (nI jx) jx (rfl) (by omega) (by decide)) ⟨va_cnB (own := RX6) (host := RX7) (index := 47) (y := yX7_at) 2 hts gX6_first_X7_at_n47 rfl rfl rfl (hKK.2.nth 17 (q := (RX6, 47, yX7_at)) rfl) (hts _ fX6_first_3) hd_X7_at ⟨Nat.le_of_ble_eq_true rfl, Nat.le_of_ble_eq_true rfl⟩, (hts _ fX6_first_4), trivial⟩ hKK hP [16] rfl rfl hl.1 rfl (Nat.le_of_ble_eq_true rfl) dX6_first_19 ⟨Nat.zero_le _, Nat.zero_le _⟩ ?_
    refine stI (y := (vLL r bd n mf).getD jx 0) (hgu jx hj) ?_
    refine lv_iload_n hx hb dX6_first_22 rfl (lv_at hl 1 rfl) ?_
    refine lv_iload_n hx hb dX6_first_23 rfl (lv_at hl 2 rfl) ?_
    refine cpS (As := [.int ((vLL r bd n mf).getD jx 0), .int mu, .int mn]) (rest := []) ⟨hx, hb, hml, hown, hts⟩ (c_X6_fits l G ((vLL r bd n mf).getD jx 0) mu mn) (va_cwS 3 hts gX6_first_X6_fits rfl rfl rfl hd_X6_fits ⟨Nat.le_of_ble_eq_true rfl, Nat.le_of_ble_eq_true rfl⟩) hKK hP [] rfl rfl hl.1 rfl (Nat.le_of_ble_eq_true rfl) dX6_first_24 ⟨Nat.zero_le _, Nat.zero_le _⟩ ?_
    refine lv_if_eq (tgt := 39) hx hb dX6_first_27 (by decide) (fun c_27 => ?_) (fun c_27 => ?_)
    · skip
      refine lv_iinc (v := nI (jx + 1)) (lv' := [(3, .int (nI (jx + 1))), (0, .ref (a 1)), (1, .int mu), (2, .int mn)]) hx hb dX6_first_39 hl (k := 3) rfl (nI_1 jx) (by decide) rfl (fun ls hl => ?_)
      refine lv_goto (tgt := 6) hx hb dX6_first_42 (by decide) ?_
      exact ih_6 (jx + 1) (⟨hj, by rw [hI.2]; exact fnd_f hj (bI_0.mp c_27)⟩) (by show (vLL r bd n mf).length - (jx + 1) < (vLL r bd n mf).length - jx; omega) ls (lv_sub hl [1, 2, 3, 0] rfl)
    · skip
      refine lv_aload_n hx hb dX6_first_30 rfl (lv_at hl 0 rfl) ?_
      refine va_get (D := G.1) (ci := 8) (v := .ref (a 18)) (C := RX6) (T := TX6) (N := 6) hx hb hts iX6_first_X6 hown hK hP 0 rfl rfl 3 (by decide) (hts _ fX6_first_2) (fun _ h9 => h9) rfl dX6_first_31 ?_
      refine lv_iload_n hx hb dX6_first_34 rfl (lv_at hl 3 rfl) ?_
      refine cpN (As := [.ref (a 18), .int (nI jx)]) (rest := []) ⟨hx, hb, hml, hown, hts⟩ (c_X7_atk l G (a 18) 8192 gu (nI jx) jx (rfl) (by omega) (by decide)) ⟨va_cnB (own := RX6) (host := RX7) (index := 47) (y := yX7_at) 2 hts gX6_first_X7_at_n47 rfl rfl rfl (hKK.2.nth 17 (q := (RX6, 47, yX7_at)) rfl) (hts _ fX6_first_3) hd_X7_at ⟨Nat.le_of_ble_eq_true rfl, Nat.le_of_ble_eq_true rfl⟩, (hts _ fX6_first_4), trivial⟩ hKK hP [16] rfl rfl hl.1 rfl (Nat.le_of_ble_eq_true rfl) dX6_first_35 ⟨Nat.zero_le _, Nat.zero_le _⟩ ?_
      refine stI (y := (vLL r bd n mf).getD jx 0) (hgu jx hj) ?_
      exact greti hx hb hr hlocks rfl hAe hS (gu) (by rw [hI.2, fnd_t hj (bI_n0 c_27)]) (hgu) (hP) dX6_first_38

theorem iX6_number_X6 : ∀ w ∈ u_ws RX6 TX6 6, w ∈ wsX6_number := by decide +kernel
theorem fX6_number_1 : Cond.fieldLink RX6 43 "FeatureSolve$Variants" "size" "I" ∈ wsX6_number := by decide +kernel
theorem fX6_number_2 : Cond.fieldLink RX6 32 "FeatureSolve$Variants" "row" "[I" ∈ wsX6_number := by decide +kernel
theorem fX6_number_3 : Cond.initialized RX7 ∈ wsX6_number := by decide +kernel
theorem fX6_number_4 : Cond.static yX7_at ∈ wsX6_number := by decide +kernel
set_option maxHeartbeats 4000000 in
set_option maxRecDepth 100000 in
/-- Variants.number(must, mustNot) -/
theorem c_X6_number (l : Launch) (G : GG) (a : Nat → Nat) (r : Nat → Nat → Int32) (n mf : Nat) (bd : Int32) (z : Nat) (ub : Bool) (ro : Nat → Int32) (mu mn : Int32) (hu : upOk r bd n mf z ub ro) : Met l yX6_number wsX6_number (rmK 4) (va_Pc [.ref (a 1), .int mu, .int mn] (PM G [(oX6 (a 1) (a 2) (a 9) (a 15) (a 18) (nI z) (bI ub)), (oX5 (a 2) (nI n) (a 3) (a 4) (a 5) (a 6) (a 7) (a 8) bd), (cI G (a 3) 15 (r 3)), (cI G (a 5) 15 (r 5)), (cI G (a 6) 15 (r 6)), (cI G (a 7) 15 (r 7)), (cI G (a 8) 15 (r 8)), (oX1 (a 9) (nI mf) (a 10) (a 11) (a 12) (a 13) (a 14)), (cI G (a 10) 40 (r 10)), (cI G (a 11) 40 (r 11)), (cI G (a 12) 40 (r 12)), (cI G (a 13) 40 (r 13)), (cI G (a 14) 40 (r 14)), (oX4 (a 15) (a 16) (a 17)), (cI G (a 16) 60 (r 16)), (cI G (a 17) 4 (r 17)), (cI G (a 18) 8192 ro)])) (QG (S := Nat → Int32) G [(oX6 (a 1) (a 2) (a 9) (a 15) (a 18) (nI z) (bI ub)), (oX5 (a 2) (nI n) (a 3) (a 4) (a 5) (a 6) (a 7) (a 8) bd), (cI G (a 3) 15 (r 3)), (cI G (a 5) 15 (r 5)), (cI G (a 6) 15 (r 6)), (cI G (a 7) 15 (r 7)), (cI G (a 8) 15 (r 8)), (oX1 (a 9) (nI mf) (a 10) (a 11) (a 12) (a 13) (a 14)), (cI G (a 10) 40 (r 10)), (cI G (a 11) 40 (r 11)), (cI G (a 12) 40 (r 12)), (cI G (a 13) 40 (r 13)), (cI G (a 14) 40 (r 14)), (oX4 (a 15) (a 16) (a 17)), (cI G (a 16) 60 (r 16)), (cI G (a 17) 4 (r 17)), (cI G (a 18) 8192 ro)] (fun u => rowIs u (vLL r bd n mf)) (fun u => some (.int (nI ((vLL r bd n mf).filter (fun v => fitsB v mu mn)).length))) (fun u => [(oX6 (a 1) (a 2) (a 9) (a 15) (a 18) (nI (vLL r bd n mf).length) 1), (oX5 (a 2) (nI n) (a 3) (a 4) (a 5) (a 6) (a 7) (a 8) bd), (cI G (a 3) 15 (r 3)), (cI G (a 5) 15 (r 5)), (cI G (a 6) 15 (r 6)), (cI G (a 7) 15 (r 7)), (cI G (a 8) 15 (r 8)), (oX1 (a 9) (nI mf) (a 10) (a 11) (a 12) (a 13) (a 14)), (cI G (a 10) 40 (r 10)), (cI G (a 11) 40 (r 11)), (cI G (a 12) 40 (r 12)), (cI G (a 13) 40 (r 13)), (cI G (a 14) 40 (r 14)), (oX4 (a 15) (a 16) (a 17)), (cI G (a 16) 60 (r 16)), (cI G (a 17) 4 (r 17)), (cI G (a 18) 8192 u)])) 0 0 (adr [(oX6 (a 1) (a 2) (a 9) (a 15) (a 18) (nI z) (bI ub)), (oX5 (a 2) (nI n) (a 3) (a 4) (a 5) (a 6) (a 7) (a 8) bd), (cI G (a 3) 15 (r 3)), (cI G (a 5) 15 (r 5)), (cI G (a 6) 15 (r 6)), (cI G (a 7) 15 (r 7)), (cI G (a 8) 15 (r 8)), (oX1 (a 9) (nI mf) (a 10) (a 11) (a 12) (a 13) (a 14)), (cI G (a 10) 40 (r 10)), (cI G (a 11) 40 (r 11)), (cI G (a 12) 40 (r 12)), (cI G (a 13) 40 (r 13)), (cI G (a 14) 40 (r 14)), (oX4 (a 15) (a 16) (a 17)), (cI G (a 16) 60 (r 16)), (cI G (a 17) 4 (r 17)), (cI G (a 18) 8192 ro)]) := by
  refine Met.ofW (cc := cX6_number) (maxL := 5) (ret := (some .int)) (by decide) rfl ?_
  intro p e s m args below meth c s₁ B hml hv
  obtain ⟨rfl, hP, hD0, hKK⟩ := hv
  have hx := B.exec
  have hb := B.bytes
  have hr := B.returns
  have hts := atoms_spec (ws := wsX6_number) B.pre
  have hown : s.vm.findClass RX6 = some m.cls := findClass_of_methodNamed B.named
  have hlocks := B.notSynchronized
  have hK := hKK.1
  generalize hAe : adr [(oX6 (a 1) (a 2) (a 9) (a 15) (a 18) (nI z) (bI ub)), (oX5 (a 2) (nI n) (a 3) (a 4) (a 5) (a 6) (a 7) (a 8) bd), (cI G (a 3) 15 (r 3)), (cI G (a 5) 15 (r 5)), (cI G (a 6) 15 (r 6)), (cI G (a 7) 15 (r 7)), (cI G (a 8) 15 (r 8)), (oX1 (a 9) (nI mf) (a 10) (a 11) (a 12) (a 13) (a 14)), (cI G (a 10) 40 (r 10)), (cI G (a 11) 40 (r 11)), (cI G (a 12) 40 (r 12)), (cI G (a 13) 40 (r 13)), (cI G (a 14) 40 (r 14)), (oX4 (a 15) (a 16) (a 17)), (cI G (a 16) 60 (r 16)), (cI G (a 17) 4 (r 17)), (cI G (a 18) 8192 ro)] = A
  have hD : va_D A [(oX6 (a 1) (a 2) (a 9) (a 15) (a 18) (nI z) (bI ub)), (oX5 (a 2) (nI n) (a 3) (a 4) (a 5) (a 6) (a 7) (a 8) bd), (cI G (a 3) 15 (r 3)), (cI G (a 5) 15 (r 5)), (cI G (a 6) 15 (r 6)), (cI G (a 7) 15 (r 7)), (cI G (a 8) 15 (r 8)), (oX1 (a 9) (nI mf) (a 10) (a 11) (a 12) (a 13) (a 14)), (cI G (a 10) 40 (r 10)), (cI G (a 11) 40 (r 11)), (cI G (a 12) 40 (r 12)), (cI G (a 13) 40 (r 13)), (cI G (a 14) 40 (r 14)), (oX4 (a 15) (a 16) (a 17)), (cI G (a 16) 60 (r 16)), (cI G (a 17) 4 (r 17)), (cI G (a 18) 8192 ro)] := by rw [← hAe]; exact hD0.own
  have hS : va_S A s.heap s.heap [] := va_S.rf
  have hP : va_P G.1 vwCl [(oX6 (a 1) (a 2) (a 9) (a 15) (a 18) (nI z) (bI ub)), (oX5 (a 2) (nI n) (a 3) (a 4) (a 5) (a 6) (a 7) (a 8) bd), (cI G (a 3) 15 (r 3)), (cI G (a 5) 15 (r 5)), (cI G (a 6) 15 (r 6)), (cI G (a 7) 15 (r 7)), (cI G (a 8) 15 (r 8)), (oX1 (a 9) (nI mf) (a 10) (a 11) (a 12) (a 13) (a 14)), (cI G (a 10) 40 (r 10)), (cI G (a 11) 40 (r 11)), (cI G (a 12) 40 (r 12)), (cI G (a 13) 40 (r 13)), (cI G (a 14) 40 (r 14)), (oX4 (a 15) (a 16) (a 17)), (cI G (a 16) 60 (r 16)), (cI G (a 17) 4 (r 17)), (cI G (a 18) 8192 ro)] s.heap := hP
  have hl := lv_entry ([.ref (a 1), .int mu, .int mn]) (n := 5) (Nat.le_of_ble_eq_true rfl)
  rw [lg_entry_eq]
  generalize (lg_sl ([.ref (a 1), .int mu, .int mn]) ++ List.replicate (5 - (lg_sl ([.ref (a 1), .int mu, .int mn])).length) Slot.unset).toArray = ls at hl ⊢
  have hl : lv_has ls 5 [(0, .ref (a 1)), (1, .int mu), (2, .int mn)] := hl
  have hl9 := upOk_le hu
  refine lv_aload_n hx hb dX6_number_0 rfl (lv_at hl 0 rfl) ?_
  refine cnV (nw := 17) (ci := 8) (T0 := TX6) (N := 6) (As := []) (rest := []) ⟨hx, hb, hml, hown, hts⟩ (c_X6_update l G a r n mf bd z ub ro hu) (cwV 0 hts gX6_number_X6_update rfl rfl rfl ⟨rfl, hd_X6_update⟩ ⟨Nat.le_of_ble_eq_true rfl, Nat.le_of_ble_eq_true rfl⟩) hKK hP hD hS [0, 1, 2, 3, 4, 5, 6, 7, 8, 9, 10, 11, 12, 13, 14, 15, 16] [] (fun gu => [(oX6 (a 1) (a 2) (a 9) (a 15) (a 18) (nI (vLL r bd n mf).length) 1), (oX5 (a 2) (nI n) (a 3) (a 4) (a 5) (a 6) (a 7) (a 8) bd), (cI G (a 3) 15 (r 3)), (cI G (a 5) 15 (r 5)), (cI G (a 6) 15 (r 6)), (cI G (a 7) 15 (r 7)), (cI G (a 8) 15 (r 8)), (oX1 (a 9) (nI mf) (a 10) (a 11) (a 12) (a 13) (a 14)), (cI G (a 10) 40 (r 10)), (cI G (a 11) 40 (r 11)), (cI G (a 12) 40 (r 12)), (cI G (a 13) 40 (r 13)), (cI G (a 14) 40 (r 14)), (oX4 (a 15) (a 16) (a 17)), (cI G (a 16) 60 (r 16)), (cI G (a 17) 4 (r 17)), (cI G (a 18) 8192 gu)]) [] [a 1, a 2, a 3, a 5, a 6, a 7, a 8, a 9, a 10, a 11, a 12, a 13, a 14, a 15, a 16, a 17, a 18] rfl (by decide) (by decide) rfl rfl rfl hl.1 rfl (Nat.le_of_ble_eq_true rfl) dX6_number_1 ⟨Nat.zero_le _, Nat.zero_le _⟩ (fun _ => rfl) (fun _ => rfl) rfl (fun _ => rfl) rfl (fun _ => rfl) (fun gu H locs hgu hP hD hS => ?_)
  refine lv_iconst (v := 0) hx hb dX6_number_4 (by decide) ?_
  refine lv_istore_n (lv' := [(3, .int 0), (0, .ref (a 1)), (1, .int mu), (2, .int mn)]) hx hb dX6_number_5 rfl hl (by decide) rfl (fun ls hl => ?_)
  refine lv_iconst (v := 0) hx hb dX6_number_6 (by decide) ?_
  refine lv_istore (lv' := [(4, .int 0), (3, .int 0), (0, .ref (a 1)), (1, .int mu), (2, .int mn)]) hx hb dX6_number_7 hl (by decide) rfl (fun ls hl => ?_)
  refine loopJ (nL := 5) (I := fun (jx : Nat) => jx ≤ (vLL r bd n mf).length) (μ := fun (jx : Nat) => (vLL r bd n mf).length - jx) (lv := fun (jx : Nat) => [(0, .ref (a 1)), (1, .int mu), (2, .int mn), (3, .int (nI (cmpN (vLL r bd n mf) (fun v => fitsB v mu mn) jx))), (4, .int (nI jx))]) (pc' := 9) (fun xv9 hI ih_9 ls hl => ?_) 0 (Nat.zero_le _) ls (lv_sub hl [2, 3, 4, 1, 0] (by show ([(0, .ref (a 1)), (1, .int mu), (2, .int mn), (3, .int 0), (4, .int 0)] : List (Nat × Value)) = [(0, .ref (a 1)), (1, .int mu), (2, .int mn), (3, .int (nI (cmpN (vLL r bd n mf) (fun v => fitsB v mu mn) 0))), (4, .int (nI 0))]; rw [cmpN_0]; rfl))
  obtain ⟨jx, rfl⟩ : ∃ y, y = xv9 := ⟨_, rfl⟩
  have hI : jx ≤ (vLL r bd n mf).length := hI
  have hl : lv_has ls 5 [(0, .ref (a 1)), (1, .int mu), (2, .int mn), (3, .int (nI (cmpN (vLL r bd n mf) (fun v => fitsB v mu mn) jx))), (4, .int (nI jx))] := hl
  refine lv_iload hx hb dX6_number_9 (lv_at hl 4 rfl) ?_
  refine lv_aload_n hx hb dX6_number_11 rfl (lv_at hl 0 rfl) ?_
  refine va_get (D := G.1) (ci := 8) (v := .int (nI (vLL r bd n mf).length)) (C := RX6) (T := TX6) (N := 6) hx hb hts iX6_number_X6 hown hK hP 0 rfl rfl 4 (by decide) (hts _ fX6_number_1) (fun _ h9 => h9) rfl dX6_number_12 ?_
  refine lv_icmp_ge (tgt := 44) hx hb dX6_number_15 (by decide) (fun c_15 => ?_) (fun c_15 => ?_)
  · skip
    have hj : jx = (vLL r bd n mf).length := by have := (nI_leI (a := (vLL r bd n mf).length) (b := jx) (by omega) (by omega)).mp c_15; omega
    refine lv_iload_n hx hb dX6_number_44 rfl (lv_at hl 3 rfl) ?_
    exact greti hx hb hr hlocks rfl hAe hS (gu) (by rw [hj, cmpN_end]) (hgu) (hP) dX6_number_45
  · skip
    have hj : jx < (vLL r bd n mf).length := Nat.lt_of_not_le (fun z => c_15 ((nI_leI (a := (vLL r bd n mf).length) (b := jx) (by omega) (by omega)).mpr z))
    refine lv_aload_n hx hb dX6_number_18 rfl (lv_at hl 0 rfl) ?_
    refine va_get (D := G.1) (ci := 8) (v := .ref (a 18)) (C := RX6) (T := TX6) (N := 6) hx hb hts iX6_number_X6 hown hK hP 0 rfl rfl 3 (by decide) (hts _ fX6_number_2) (fun _ h9 => h9) rfl dX6_number_19 ?_
    refine lv_iload hx hb dX6_number_22 (lv_at hl 4 rfl) ?_
    refine cpN (As := [.ref (a 18), .int (nI jx)]) (rest := []) ⟨hx, hb, hml, hown, hts⟩ (c_X7_atk l G (a 18) 8192 gu (nI jx) jx (rfl) (by omega) (by decide)) ⟨va_cnB (own := RX6) (host := RX7) (index := 47) (y := yX7_at) 2 hts gX6_number_X7_at_n47 rfl rfl rfl (hKK.2.nth 17 (q := (RX6, 47, yX7_at)) rfl) (hts _ fX6_number_3) hd_X7_at ⟨Nat.le_of_ble_eq_true rfl, Nat.le_of_ble_eq_true rfl⟩, (hts _ fX6_number_4), trivial⟩ hKK hP [16] rfl rfl hl.1 rfl (Nat.le_of_ble_eq_true rfl) dX6_number_24 ⟨Nat.zero_le _, Nat.zero_le _⟩ ?_
    refine stI (y := (vLL r bd n mf).getD jx 0) (hgu jx hj) ?_
    refine lv_iload_n hx hb dX6_number_27 rfl (lv_at hl 1 rfl) ?_
    refine lv_iload_n hx hb dX6_number_28 rfl (lv_at hl 2 rfl) ?_
    refine cpS (As := [.int ((vLL r bd n mf).getD jx 0), .int mu, .int mn]) (rest := []) ⟨hx, hb, hml, hown, hts⟩ (c_X6_fits l G ((vLL r bd n mf).getD jx 0) mu mn) (va_cwS 3 hts gX6_number_X6_fits rfl rfl rfl hd_X6_fits ⟨Nat.le_of_ble_eq_true rfl, Nat.le_of_ble_eq_true rfl⟩) hKK hP [] rfl rfl hl.1 rfl (Nat.le_of_ble_eq_true rfl) dX6_number_29 ⟨Nat.zero_le _, Nat.zero_le _⟩ ?_
    refine lv_if_eq (tgt := 38) hx hb dX6_number_32 (by decide) (fun c_32 => ?_) (fun c_32 => ?_)
    · skip
      refine lv_iinc (v := nI (jx + 1)) (lv' := [(4, .int (nI (jx + 1))), (0, .ref (a 1)), (1, .int mu), (2, .int mn), (3, .int (nI (cmpN (vLL r bd n mf) (fun v => fitsB v mu mn) jx)))]) hx hb dX6_number_38 hl (k := 4) rfl (nI_1 jx) (by decide) rfl (fun ls hl => ?_)
      refine lv_goto (tgt := 9) hx hb dX6_number_41 (by decide) ?_
      exact ih_9 (jx + 1) (hj) (by show (vLL r bd n mf).length - (jx + 1) < (vLL r bd n mf).length - jx; omega) ls (lv_sub hl [1, 2, 3, 4, 0] (by show ([(0, .ref (a 1)), (1, .int mu), (2, .int mn), (3, .int (nI (cmpN (vLL r bd n mf) (fun v => fitsB v mu mn) jx))), (4, .int (nI (jx + 1)))] : List (Nat × Value)) = [(0, .ref (a 1)), (1, .int mu), (2, .int mn), (3, .int (nI (cmpN (vLL r bd n mf) (fun v => fitsB v mu mn) (jx + 1)))), (4, .int (nI (jx + 1)))]; rw [cmpN_drop hj (bI_0.mp c_32)]))
    · skip
      refine lv_iinc (v := nI (cmpN (vLL r bd n mf) (fun v => fitsB v mu mn) jx + 1)) (lv' := [(3, .int (nI (cmpN (vLL r bd n mf) (fun v => fitsB v mu mn) jx + 1))), (0, .ref (a 1)), (1, .int mu), (2, .int mn), (4, .int (nI jx))]) hx hb dX6_number_35 hl (k := 3) rfl (nI_1 _) (by decide) rfl (fun ls hl => ?_)
      refine lv_iinc (v := nI (jx + 1)) (lv' := [(4, .int (nI (jx + 1))), (3, .int (nI (cmpN (vLL r bd n mf) (fun v => fitsB v mu mn) jx + 1))), (0, .ref (a 1)), (1, .int mu), (2, .int mn)]) hx hb dX6_number_38 hl (k := 4) rfl (nI_1 jx) (by decide) rfl (fun ls hl => ?_)
      refine lv_goto (tgt := 9) hx hb dX6_number_41 (by decide) ?_
      exact ih_9 (jx + 1) (hj) (by show (vLL r bd n mf).length - (jx + 1) < (vLL r bd n mf).length - jx; omega) ls (lv_sub hl [2, 3, 4, 1, 0] (by show ([(0, .ref (a 1)), (1, .int mu), (2, .int mn), (3, .int (nI (cmpN (vLL r bd n mf) (fun v => fitsB v mu mn) jx + 1))), (4, .int (nI (jx + 1)))] : List (Nat × Value)) = [(0, .ref (a 1)), (1, .int mu), (2, .int mn), (3, .int (nI (cmpN (vLL r bd n mf) (fun v => fitsB v mu mn) (jx + 1)))), (4, .int (nI (jx + 1)))]; rw [cmpN_keep hj (bI_n0 c_32)]))

theorem iX6_inAll_X6 : ∀ w ∈ u_ws RX6 TX6 6, w ∈ wsX6_inAll := by decide +kernel
theorem fX6_inAll_1 : Cond.fieldLink RX6 43 "FeatureSolve$Variants" "size" "I" ∈ wsX6_inAll := by decide +kernel
theorem fX6_inAll_2 : Cond.fieldLink RX6 32 "FeatureSolve$Variants" "row" "[I" ∈ wsX6_inAll := by decide +kernel
theorem fX6_inAll_3 : Cond.initialized RX7 ∈ wsX6_inAll := by decide +kernel
theorem fX6_inAll_4 : Cond.static yX7_at ∈ wsX6_inAll := by decide +kernel
set_option maxHeartbeats 4000000 in
set_option maxRecDepth 100000 in
/-- Variants.inAll -/
theorem c_X6_inAll (l : Launch) (G : GG) (a : Nat → Nat) (r : Nat → Nat → Int32) (n mf : Nat) (bd : Int32) (z : Nat) (ub : Bool) (ro : Nat → Int32) (mu mn : Int32) (hu : upOk r bd n mf z ub ro) : Met l yX6_inAll wsX6_inAll (rmK 4) (va_Pc [.ref (a 1), .int mu, .int mn] (PM G [(oX6 (a 1) (a 2) (a 9) (a 15) (a 18) (nI z) (bI ub)), (oX5 (a 2) (nI n) (a 3) (a 4) (a 5) (a 6) (a 7) (a 8) bd), (cI G (a 3) 15 (r 3)), (cI G (a 5) 15 (r 5)), (cI G (a 6) 15 (r 6)), (cI G (a 7) 15 (r 7)), (cI G (a 8) 15 (r 8)), (oX1 (a 9) (nI mf) (a 10) (a 11) (a 12) (a 13) (a 14)), (cI G (a 10) 40 (r 10)), (cI G (a 11) 40 (r 11)), (cI G (a 12) 40 (r 12)), (cI G (a 13) 40 (r 13)), (cI G (a 14) 40 (r 14)), (oX4 (a 15) (a 16) (a 17)), (cI G (a 16) 60 (r 16)), (cI G (a 17) 4 (r 17)), (cI G (a 18) 8192 ro)])) (QG (S := Nat → Int32) G [(oX6 (a 1) (a 2) (a 9) (a 15) (a 18) (nI z) (bI ub)), (oX5 (a 2) (nI n) (a 3) (a 4) (a 5) (a 6) (a 7) (a 8) bd), (cI G (a 3) 15 (r 3)), (cI G (a 5) 15 (r 5)), (cI G (a 6) 15 (r 6)), (cI G (a 7) 15 (r 7)), (cI G (a 8) 15 (r 8)), (oX1 (a 9) (nI mf) (a 10) (a 11) (a 12) (a 13) (a 14)), (cI G (a 10) 40 (r 10)), (cI G (a 11) 40 (r 11)), (cI G (a 12) 40 (r 12)), (cI G (a 13) 40 (r 13)), (cI G (a 14) 40 (r 14)), (oX4 (a 15) (a 16) (a 17)), (cI G (a 16) 60 (r 16)), (cI G (a 17) 4 (r 17)), (cI G (a 18) 8192 ro)] (fun u => rowIs u (vLL r bd n mf)) (fun u => some (.int (foldP (fun v => fitsB v mu mn) (fun x y => x &&& y) (-1) (vLL r bd n mf) (vLL r bd n mf).length))) (fun u => [(oX6 (a 1) (a 2) (a 9) (a 15) (a 18) (nI (vLL r bd n mf).length) 1), (oX5 (a 2) (nI n) (a 3) (a 4) (a 5) (a 6) (a 7) (a 8) bd), (cI G (a 3) 15 (r 3)), (cI G (a 5) 15 (r 5)), (cI G (a 6) 15 (r 6)), (cI G (a 7) 15 (r 7)), (cI G (a 8) 15 (r 8)), (oX1 (a 9) (nI mf) (a 10) (a 11) (a 12) (a 13) (a 14)), (cI G (a 10) 40 (r 10)), (cI G (a 11) 40 (r 11)), (cI G (a 12) 40 (r 12)), (cI G (a 13) 40 (r 13)), (cI G (a 14) 40 (r 14)), (oX4 (a 15) (a 16) (a 17)), (cI G (a 16) 60 (r 16)), (cI G (a 17) 4 (r 17)), (cI G (a 18) 8192 u)])) 0 0 (adr [(oX6 (a 1) (a 2) (a 9) (a 15) (a 18) (nI z) (bI ub)), (oX5 (a 2) (nI n) (a 3) (a 4) (a 5) (a 6) (a 7) (a 8) bd), (cI G (a 3) 15 (r 3)), (cI G (a 5) 15 (r 5)), (cI G (a 6) 15 (r 6)), (cI G (a 7) 15 (r 7)), (cI G (a 8) 15 (r 8)), (oX1 (a 9) (nI mf) (a 10) (a 11) (a 12) (a 13) (a 14)), (cI G (a 10) 40 (r 10)), (cI G (a 11) 40 (r 11)), (cI G (a 12) 40 (r 12)), (cI G (a 13) 40 (r 13)), (cI G (a 14) 40 (r 14)), (oX4 (a 15) (a 16) (a 17)), (cI G (a 16) 60 (r 16)), (cI G (a 17) 4 (r 17)), (cI G (a 18) 8192 ro)]) := by
  refine Met.ofW (cc := cX6_inAll) (maxL := 5) (ret := (some .int)) (by decide) rfl ?_
  intro p e s m args below meth c s₁ B hml hv
  obtain ⟨rfl, hP, hD0, hKK⟩ := hv
  have hx := B.exec
  have hb := B.bytes
  have hr := B.returns
  have hts := atoms_spec (ws := wsX6_inAll) B.pre
  have hown : s.vm.findClass RX6 = some m.cls := findClass_of_methodNamed B.named
  have hlocks := B.notSynchronized
  have hK := hKK.1
  generalize hAe : adr [(oX6 (a 1) (a 2) (a 9) (a 15) (a 18) (nI z) (bI ub)), (oX5 (a 2) (nI n) (a 3) (a 4) (a 5) (a 6) (a 7) (a 8) bd), (cI G (a 3) 15 (r 3)), (cI G (a 5) 15 (r 5)), (cI G (a 6) 15 (r 6)), (cI G (a 7) 15 (r 7)), (cI G (a 8) 15 (r 8)), (oX1 (a 9) (nI mf) (a 10) (a 11) (a 12) (a 13) (a 14)), (cI G (a 10) 40 (r 10)), (cI G (a 11) 40 (r 11)), (cI G (a 12) 40 (r 12)), (cI G (a 13) 40 (r 13)), (cI G (a 14) 40 (r 14)), (oX4 (a 15) (a 16) (a 17)), (cI G (a 16) 60 (r 16)), (cI G (a 17) 4 (r 17)), (cI G (a 18) 8192 ro)] = A
  have hD : va_D A [(oX6 (a 1) (a 2) (a 9) (a 15) (a 18) (nI z) (bI ub)), (oX5 (a 2) (nI n) (a 3) (a 4) (a 5) (a 6) (a 7) (a 8) bd), (cI G (a 3) 15 (r 3)), (cI G (a 5) 15 (r 5)), (cI G (a 6) 15 (r 6)), (cI G (a 7) 15 (r 7)), (cI G (a 8) 15 (r 8)), (oX1 (a 9) (nI mf) (a 10) (a 11) (a 12) (a 13) (a 14)), (cI G (a 10) 40 (r 10)), (cI G (a 11) 40 (r 11)), (cI G (a 12) 40 (r 12)), (cI G (a 13) 40 (r 13)), (cI G (a 14) 40 (r 14)), (oX4 (a 15) (a 16) (a 17)), (cI G (a 16) 60 (r 16)), (cI G (a 17) 4 (r 17)), (cI G (a 18) 8192 ro)] := by rw [← hAe]; exact hD0.own
  have hS : va_S A s.heap s.heap [] := va_S.rf
  have hP : va_P G.1 vwCl [(oX6 (a 1) (a 2) (a 9) (a 15) (a 18) (nI z) (bI ub)), (oX5 (a 2) (nI n) (a 3) (a 4) (a 5) (a 6) (a 7) (a 8) bd), (cI G (a 3) 15 (r 3)), (cI G (a 5) 15 (r 5)), (cI G (a 6) 15 (r 6)), (cI G (a 7) 15 (r 7)), (cI G (a 8) 15 (r 8)), (oX1 (a 9) (nI mf) (a 10) (a 11) (a 12) (a 13) (a 14)), (cI G (a 10) 40 (r 10)), (cI G (a 11) 40 (r 11)), (cI G (a 12) 40 (r 12)), (cI G (a 13) 40 (r 13)), (cI G (a 14) 40 (r 14)), (oX4 (a 15) (a 16) (a 17)), (cI G (a 16) 60 (r 16)), (cI G (a 17) 4 (r 17)), (cI G (a 18) 8192 ro)] s.heap := hP
  have hl := lv_entry ([.ref (a 1), .int mu, .int mn]) (n := 5) (Nat.le_of_ble_eq_true rfl)
  rw [lg_entry_eq]
  generalize (lg_sl ([.ref (a 1), .int mu, .int mn]) ++ List.replicate (5 - (lg_sl ([.ref (a 1), .int mu, .int mn])).length) Slot.unset).toArray = ls at hl ⊢
  have hl : lv_has ls 5 [(0, .ref (a 1)), (1, .int mu), (2, .int mn)] := hl
  have hl9 := upOk_le hu
  refine lv_aload_n hx hb dX6_inAll_0 rfl (lv_at hl 0 rfl) ?_
  refine cnV (nw := 17) (ci := 8) (T0 := TX6) (N := 6) (As := []) (rest := []) ⟨hx, hb, hml, hown, hts⟩ (c_X6_update l G a r n mf bd z ub ro hu) (cwV 0 hts gX6_inAll_X6_update rfl rfl rfl ⟨rfl, hd_X6_update⟩ ⟨Nat.le_of_ble_eq_true rfl, Nat.le_of_ble_eq_true rfl⟩) hKK hP hD hS [0, 1, 2, 3, 4, 5, 6, 7, 8, 9, 10, 11, 12, 13, 14, 15, 16] [] (fun gu => [(oX6 (a 1) (a 2) (a 9) (a 15) (a 18) (nI (vLL r bd n mf).length) 1), (oX5 (a 2) (nI n) (a 3) (a 4) (a 5) (a 6) (a 7) (a 8) bd), (cI G (a 3) 15 (r 3)), (cI G (a 5) 15 (r 5)), (cI G (a 6) 15 (r 6)), (cI G (a 7) 15 (r 7)), (cI G (a 8) 15 (r 8)), (oX1 (a 9) (nI mf) (a 10) (a 11) (a 12) (a 13) (a 14)), (cI G (a 10) 40 (r 10)), (cI G (a 11) 40 (r 11)), (cI G (a 12) 40 (r 12)), (cI G (a 13) 40 (r 13)), (cI G (a 14) 40 (r 14)), (oX4 (a 15) (a 16) (a 17)), (cI G (a 16) 60 (r 16)), (cI G (a 17) 4 (r 17)), (cI G (a 18) 8192 gu)]) [] [a 1, a 2, a 3, a 5, a 6, a 7, a 8, a 9, a 10, a 11, a 12, a 13, a 14, a 15, a 16, a 17, a 18] rfl (by decide) (by decide) rfl rfl rfl hl.1 rfl (Nat.le_of_ble_eq_true rfl) dX6_inAll_1 ⟨Nat.zero_le _, Nat.zero_le _⟩ (fun _ => rfl) (fun _ => rfl) rfl (fun _ => rfl) rfl (fun _ => rfl) (fun gu H locs hgu hP hD hS => ?_)
  refine lv_iconst (v := -1) hx hb dX6_inAll_4 (by decide) ?_
  refine lv_istore_n (lv' := [(3, .int (-1)), (0, .ref (a 1)), (1, .int mu), (2, .int mn)]) hx hb dX6_inAll_5 rfl hl (by decide) rfl (fun ls hl => ?_)
  refine lv_iconst (v := 0) hx hb dX6_inAll_6 (by decide) ?_
  refine lv_istore (lv' := [(4, .int 0), (3, .int (-1)), (0, .ref (a 1)), (1, .int mu), (2, .int mn)]) hx hb dX6_inAll_7 hl (by decide) rfl (fun ls hl => ?_)
  refine loopJ (nL := 5) (I := fun (jx : Nat) => jx ≤ (vLL r bd n mf).length) (μ := fun (jx : Nat) => (vLL r bd n mf).length - jx) (lv := fun (jx : Nat) => [(0, .ref (a 1)), (1, .int mu), (2, .int mn), (3, .int (foldP (fun v => fitsB v mu mn) (fun x y => x &&& y) (-1) (vLL r bd n mf) jx)), (4, .int (nI jx))]) (pc' := 9) (fun xv9 hI ih_9 ls hl => ?_) 0 (Nat.zero_le _) ls (lv_sub hl [2, 3, 4, 1, 0] rfl)
  obtain ⟨jx, rfl⟩ : ∃ y, y = xv9 := ⟨_, rfl⟩
  have hI : jx ≤ (vLL r bd n mf).length := hI
  have hl : lv_has ls 5 [(0, .ref (a 1)), (1, .int mu), (2, .int mn), (3, .int (foldP (fun v => fitsB v mu mn) (fun x y => x &&& y) (-1) (vLL r bd n mf) jx)), (4, .int (nI jx))] := hl
  refine lv_iload hx hb dX6_inAll_9 (lv_at hl 4 rfl) ?_
  refine lv_aload_n hx hb dX6_inAll_11 rfl (lv_at hl 0 rfl) ?_
  refine va_get (D := G.1) (ci := 8) (v := .int (nI (vLL r bd n mf).length)) (C := RX6) (T := TX6) (N := 6) hx hb hts iX6_inAll_X6 hown hK hP 0 rfl rfl 4 (by decide) (hts _ fX6_inAll_1) (fun _ h9 => h9) rfl dX6_inAll_12 ?_
  refine lv_icmp_ge (tgt := 53) hx hb dX6_inAll_15 (by decide) (fun c_15 => ?_) (fun c_15 => ?_)
  · skip
    have hj : jx = (vLL r bd n mf).length := by have := (nI_leI (a := (vLL r bd n mf).length) (b := jx) (by omega) (by omega)).mp c_15; omega
    refine lv_iload_n hx hb dX6_inAll_53 rfl (lv_at hl 3 rfl) ?_
    exact greti hx hb hr hlocks rfl hAe hS (gu) (by rw [hj]) (hgu) (hP) dX6_inAll_54
  · skip
    have hj : jx < (vLL r bd n mf).length := Nat.lt_of_not_le (fun z => c_15 ((nI_leI (a := (vLL r bd n mf).length) (b := jx) (by omega) (by omega)).mpr z))
    refine lv_aload_n hx hb dX6_inAll_18 rfl (lv_at hl 0 rfl) ?_
    refine va_get (D := G.1) (ci := 8) (v := .ref (a 18)) (C := RX6) (T := TX6) (N := 6) hx hb hts iX6_inAll_X6 hown hK hP 0 rfl rfl 3 (by decide) (hts _ fX6_inAll_2) (fun _ h9 => h9) rfl dX6_inAll_19 ?_
    refine lv_iload hx hb dX6_inAll_22 (lv_at hl 4 rfl) ?_
    refine cpN (As := [.ref (a 18), .int (nI jx)]) (rest := []) ⟨hx, hb, hml, hown, hts⟩ (c_X7_atk l G (a 18) 8192 gu (nI jx) jx (rfl) (by omega) (by decide)) ⟨va_cnB (own := RX6) (host := RX7) (index := 47) (y := yX7_at) 2 hts gX6_inAll_X7_at_n47 rfl rfl rfl (hKK.2.nth 17 (q := (RX6, 47, yX7_at)) rfl) (hts _ fX6_inAll_3) hd_X7_at ⟨Nat.le_of_ble_eq_true rfl, Nat.le_of_ble_eq_true rfl⟩, (hts _ fX6_inAll_4), trivial⟩ hKK hP [16] rfl rfl hl.1 rfl (Nat.le_of_ble_eq_true rfl) dX6_inAll_24 ⟨Nat.zero_le _, Nat.zero_le _⟩ ?_
    refine stI (y := (vLL r bd n mf).getD jx 0) (hgu jx hj) ?_
    refine lv_iload_n hx hb dX6_inAll_27 rfl (lv_at hl 1 rfl) ?_
    refine lv_iload_n hx hb dX6_inAll_28 rfl (lv_at hl 2 rfl) ?_
    refine cpS (As := [.int ((vLL r bd n mf).getD jx 0), .int mu, .int mn]) (rest := []) ⟨hx, hb, hml, hown, hts⟩ (c_X6_fits l G ((vLL r bd n mf).getD jx 0) mu mn) (va_cwS 3 hts gX6_inAll_X6_fits rfl rfl rfl hd_X6_fits ⟨Nat.le_of_ble_eq_true rfl, Nat.le_of_ble_eq_true rfl⟩) hKK hP [] rfl rfl hl.1 rfl (Nat.le_of_ble_eq_true rfl) dX6_inAll_29 ⟨Nat.zero_le _, Nat.zero_le _⟩ ?_
    refine lv_if_eq (tgt := 47) hx hb dX6_inAll_32 (by decide) (fun c_32 => ?_) (fun c_32 => ?_)
    · skip
      refine lv_iinc (v := nI (jx + 1)) (lv' := [(4, .int (nI (jx + 1))), (0, .ref (a 1)), (1, .int mu), (2, .int mn), (3, .int (foldP (fun v => fitsB v mu mn) (fun x y => x &&& y) (-1) (vLL r bd n mf) jx))]) hx hb dX6_inAll_47 hl (k := 4) rfl (nI_1 jx) (by decide) rfl (fun ls hl => ?_)
      refine lv_goto (tgt := 9) hx hb dX6_inAll_50 (by decide) ?_
      exact ih_9 (jx + 1) (hj) (by show (vLL r bd n mf).length - (jx + 1) < (vLL r bd n mf).length - jx; omega) ls (lv_sub hl [1, 2, 3, 4, 0] (by show ([(0, .ref (a 1)), (1, .int mu), (2, .int mn), (3, .int (foldP (fun v => fitsB v mu mn) (fun x y => x &&& y) (-1) (vLL r bd n mf) jx)), (4, .int (nI (jx + 1)))] : List (Nat × Value)) = [(0, .ref (a 1)), (1, .int mu), (2, .int mn), (3, .int (foldP (fun v => fitsB v mu mn) (fun x y => x &&& y) (-1) (vLL r bd n mf) (jx + 1))), (4, .int (nI (jx + 1)))]; rw [foldP_f hj (bI_0.mp c_32)]))
    · skip
      refine lv_iload_n hx hb dX6_inAll_35 rfl (lv_at hl 3 rfl) ?_
      refine lv_aload_n hx hb dX6_inAll_36 rfl (lv_at hl 0 rfl) ?_
      refine va_get (D := G.1) (ci := 8) (v := .ref (a 18)) (C := RX6) (T := TX6) (N := 6) hx hb hts iX6_inAll_X6 hown hK hP 0 rfl rfl 3 (by decide) (hts _ fX6_inAll_2) (fun _ h9 => h9) rfl dX6_inAll_37 ?_
      refine lv_iload hx hb dX6_inAll_40 (lv_at hl 4 rfl) ?_
      refine cpN (As := [.ref (a 18), .int (nI jx)]) (rest := [.int (foldP (fun v => fitsB v mu mn) (fun x y => x &&& y) (-1) (vLL r bd n mf) jx)]) ⟨hx, hb, hml, hown, hts⟩ (c_X7_atk l G (a 18) 8192 gu (nI jx) jx (rfl) (by omega) (by decide)) ⟨va_cnB (own := RX6) (host := RX7) (index := 47) (y := yX7_at) 2 hts gX6_inAll_X7_at_n47 rfl rfl rfl (hKK.2.nth 17 (q := (RX6, 47, yX7_at)) rfl) (hts _ fX6_inAll_3) hd_X7_at ⟨Nat.le_of_ble_eq_true rfl, Nat.le_of_ble_eq_true rfl⟩, (hts _ fX6_inAll_4), trivial⟩ hKK hP [16] rfl rfl hl.1 rfl (Nat.le_of_ble_eq_true rfl) dX6_inAll_42 ⟨Nat.zero_le _, Nat.zero_le _⟩ ?_
      refine stI (y := (vLL r bd n mf).getD jx 0) (hgu jx hj) ?_
      refine lv_iand hx hb dX6_inAll_45 ?_
      refine lv_istore_n (lv' := [(3, .int ((foldP (fun v => fitsB v mu mn) (fun x y => x &&& y) (-1) (vLL r bd n mf) jx) &&& ((vLL r bd n mf).getD jx 0))), (0, .ref (a 1)), (1, .int mu), (2, .int mn), (4, .int (nI jx))]) hx hb dX6_inAll_46 rfl hl (by decide) rfl (fun ls hl => ?_)
      refine lv_iinc (v := nI (jx + 1)) (lv' := [(4, .int (nI (jx + 1))), (3, .int ((foldP (fun v => fitsB v mu mn) (fun x y => x &&& y) (-1) (vLL r bd n mf) jx) &&& ((vLL r bd n mf).getD jx 0))), (0, .ref (a 1)), (1, .int mu), (2, .int mn)]) hx hb dX6_inAll_47 hl (k := 4) rfl (nI_1 jx) (by decide) rfl (fun ls hl => ?_)
      refine lv_goto (tgt := 9) hx hb dX6_inAll_50 (by decide) ?_
      exact ih_9 (jx + 1) (hj) (by show (vLL r bd n mf).length - (jx + 1) < (vLL r bd n mf).length - jx; omega) ls (lv_sub hl [2, 3, 4, 1, 0] (by show ([(0, .ref (a 1)), (1, .int mu), (2, .int mn), (3, .int ((foldP (fun v => fitsB v mu mn) (fun x y => x &&& y) (-1) (vLL r bd n mf) jx) &&& ((vLL r bd n mf).getD jx 0))), (4, .int (nI (jx + 1)))] : List (Nat × Value)) = [(0, .ref (a 1)), (1, .int mu), (2, .int mn), (3, .int (foldP (fun v => fitsB v mu mn) (fun x y => x &&& y) (-1) (vLL r bd n mf) (jx + 1))), (4, .int (nI (jx + 1)))]; rw [foldP_t hj (bI_n0 c_32)]))

theorem iX6_inSome_X6 : ∀ w ∈ u_ws RX6 TX6 6, w ∈ wsX6_inSome := by decide +kernel
theorem fX6_inSome_1 : Cond.fieldLink RX6 43 "FeatureSolve$Variants" "size" "I" ∈ wsX6_inSome := by decide +kernel
theorem fX6_inSome_2 : Cond.fieldLink RX6 32 "FeatureSolve$Variants" "row" "[I" ∈ wsX6_inSome := by decide +kernel
theorem fX6_inSome_3 : Cond.initialized RX7 ∈ wsX6_inSome := by decide +kernel
theorem fX6_inSome_4 : Cond.static yX7_at ∈ wsX6_inSome := by decide +kernel
set_option maxHeartbeats 4000000 in
set_option maxRecDepth 100000 in
/-- Variants.inSome -/
theorem c_X6_inSome (l : Launch) (G : GG) (a : Nat → Nat) (r : Nat → Nat → Int32) (n mf : Nat) (bd : Int32) (z : Nat) (ub : Bool) (ro : Nat → Int32) (mu mn : Int32) (hu : upOk r bd n mf z ub ro) : Met l yX6_inSome wsX6_inSome (rmK 4) (va_Pc [.ref (a 1), .int mu, .int mn] (PM G [(oX6 (a 1) (a 2) (a 9) (a 15) (a 18) (nI z) (bI ub)), (oX5 (a 2) (nI n) (a 3) (a 4) (a 5) (a 6) (a 7) (a 8) bd), (cI G (a 3) 15 (r 3)), (cI G (a 5) 15 (r 5)), (cI G (a 6) 15 (r 6)), (cI G (a 7) 15 (r 7)), (cI G (a 8) 15 (r 8)), (oX1 (a 9) (nI mf) (a 10) (a 11) (a 12) (a 13) (a 14)), (cI G (a 10) 40 (r 10)), (cI G (a 11) 40 (r 11)), (cI G (a 12) 40 (r 12)), (cI G (a 13) 40 (r 13)), (cI G (a 14) 40 (r 14)), (oX4 (a 15) (a 16) (a 17)), (cI G (a 16) 60 (r 16)), (cI G (a 17) 4 (r 17)), (cI G (a 18) 8192 ro)])) (QG (S := Nat → Int32) G [(oX6 (a 1) (a 2) (a 9) (a 15) (a 18) (nI z) (bI ub)), (oX5 (a 2) (nI n) (a 3) (a 4) (a 5) (a 6) (a 7) (a 8) bd), (cI G (a 3) 15 (r 3)), (cI G (a 5) 15 (r 5)), (cI G (a 6) 15 (r 6)), (cI G (a 7) 15 (r 7)), (cI G (a 8) 15 (r 8)), (oX1 (a 9) (nI mf) (a 10) (a 11) (a 12) (a 13) (a 14)), (cI G (a 10) 40 (r 10)), (cI G (a 11) 40 (r 11)), (cI G (a 12) 40 (r 12)), (cI G (a 13) 40 (r 13)), (cI G (a 14) 40 (r 14)), (oX4 (a 15) (a 16) (a 17)), (cI G (a 16) 60 (r 16)), (cI G (a 17) 4 (r 17)), (cI G (a 18) 8192 ro)] (fun u => rowIs u (vLL r bd n mf)) (fun u => some (.int (foldP (fun v => fitsB v mu mn) (fun x y => x ||| y) 0 (vLL r bd n mf) (vLL r bd n mf).length))) (fun u => [(oX6 (a 1) (a 2) (a 9) (a 15) (a 18) (nI (vLL r bd n mf).length) 1), (oX5 (a 2) (nI n) (a 3) (a 4) (a 5) (a 6) (a 7) (a 8) bd), (cI G (a 3) 15 (r 3)), (cI G (a 5) 15 (r 5)), (cI G (a 6) 15 (r 6)), (cI G (a 7) 15 (r 7)), (cI G (a 8) 15 (r 8)), (oX1 (a 9) (nI mf) (a 10) (a 11) (a 12) (a 13) (a 14)), (cI G (a 10) 40 (r 10)), (cI G (a 11) 40 (r 11)), (cI G (a 12) 40 (r 12)), (cI G (a 13) 40 (r 13)), (cI G (a 14) 40 (r 14)), (oX4 (a 15) (a 16) (a 17)), (cI G (a 16) 60 (r 16)), (cI G (a 17) 4 (r 17)), (cI G (a 18) 8192 u)])) 0 0 (adr [(oX6 (a 1) (a 2) (a 9) (a 15) (a 18) (nI z) (bI ub)), (oX5 (a 2) (nI n) (a 3) (a 4) (a 5) (a 6) (a 7) (a 8) bd), (cI G (a 3) 15 (r 3)), (cI G (a 5) 15 (r 5)), (cI G (a 6) 15 (r 6)), (cI G (a 7) 15 (r 7)), (cI G (a 8) 15 (r 8)), (oX1 (a 9) (nI mf) (a 10) (a 11) (a 12) (a 13) (a 14)), (cI G (a 10) 40 (r 10)), (cI G (a 11) 40 (r 11)), (cI G (a 12) 40 (r 12)), (cI G (a 13) 40 (r 13)), (cI G (a 14) 40 (r 14)), (oX4 (a 15) (a 16) (a 17)), (cI G (a 16) 60 (r 16)), (cI G (a 17) 4 (r 17)), (cI G (a 18) 8192 ro)]) := by
  refine Met.ofW (cc := cX6_inSome) (maxL := 5) (ret := (some .int)) (by decide) rfl ?_
  intro p e s m args below meth c s₁ B hml hv
  obtain ⟨rfl, hP, hD0, hKK⟩ := hv
  have hx := B.exec
  have hb := B.bytes
  have hr := B.returns
  have hts := atoms_spec (ws := wsX6_inSome) B.pre
  have hown : s.vm.findClass RX6 = some m.cls := findClass_of_methodNamed B.named
  have hlocks := B.notSynchronized
  have hK := hKK.1
  generalize hAe : adr [(oX6 (a 1) (a 2) (a 9) (a 15) (a 18) (nI z) (bI ub)), (oX5 (a 2) (nI n) (a 3) (a 4) (a 5) (a 6) (a 7) (a 8) bd), (cI G (a 3) 15 (r 3)), (cI G (a 5) 15 (r 5)), (cI G (a 6) 15 (r 6)), (cI G (a 7) 15 (r 7)), (cI G (a 8) 15 (r 8)), (oX1 (a 9) (nI mf) (a 10) (a 11) (a 12) (a 13) (a 14)), (cI G (a 10) 40 (r 10)), (cI G (a 11) 40 (r 11)), (cI G (a 12) 40 (r 12)), (cI G (a 13) 40 (r 13)), (cI G (a 14) 40 (r 14)), (oX4 (a 15) (a 16) (a 17)), (cI G (a 16) 60 (r 16)), (cI G (a 17) 4 (r 17)), (cI G (a 18) 8192 ro)] = A
  have hD : va_D A [(oX6 (a 1) (a 2) (a 9) (a 15) (a 18) (nI z) (bI ub)), (oX5 (a 2) (nI n) (a 3) (a 4) (a 5) (a 6) (a 7) (a 8) bd), (cI G (a 3) 15 (r 3)), (cI G (a 5) 15 (r 5)), (cI G (a 6) 15 (r 6)), (cI G (a 7) 15 (r 7)), (cI G (a 8) 15 (r 8)), (oX1 (a 9) (nI mf) (a 10) (a 11) (a 12) (a 13) (a 14)), (cI G (a 10) 40 (r 10)), (cI G (a 11) 40 (r 11)), (cI G (a 12) 40 (r 12)), (cI G (a 13) 40 (r 13)), (cI G (a 14) 40 (r 14)), (oX4 (a 15) (a 16) (a 17)), (cI G (a 16) 60 (r 16)), (cI G (a 17) 4 (r 17)), (cI G (a 18) 8192 ro)] := by rw [← hAe]; exact hD0.own
  have hS : va_S A s.heap s.heap [] := va_S.rf
  have hP : va_P G.1 vwCl [(oX6 (a 1) (a 2) (a 9) (a 15) (a 18) (nI z) (bI ub)), (oX5 (a 2) (nI n) (a 3) (a 4) (a 5) (a 6) (a 7) (a 8) bd), (cI G (a 3) 15 (r 3)), (cI G (a 5) 15 (r 5)), (cI G (a 6) 15 (r 6)), (cI G (a 7) 15 (r 7)), (cI G (a 8) 15 (r 8)), (oX1 (a 9) (nI mf) (a 10) (a 11) (a 12) (a 13) (a 14)), (cI G (a 10) 40 (r 10)), (cI G (a 11) 40 (r 11)), (cI G (a 12) 40 (r 12)), (cI G (a 13) 40 (r 13)), (cI G (a 14) 40 (r 14)), (oX4 (a 15) (a 16) (a 17)), (cI G (a 16) 60 (r 16)), (cI G (a 17) 4 (r 17)), (cI G (a 18) 8192 ro)] s.heap := hP
  have hl := lv_entry ([.ref (a 1), .int mu, .int mn]) (n := 5) (Nat.le_of_ble_eq_true rfl)
  rw [lg_entry_eq]
  generalize (lg_sl ([.ref (a 1), .int mu, .int mn]) ++ List.replicate (5 - (lg_sl ([.ref (a 1), .int mu, .int mn])).length) Slot.unset).toArray = ls at hl ⊢
  have hl : lv_has ls 5 [(0, .ref (a 1)), (1, .int mu), (2, .int mn)] := hl
  have hl9 := upOk_le hu
  refine lv_aload_n hx hb dX6_inSome_0 rfl (lv_at hl 0 rfl) ?_
  refine cnV (nw := 17) (ci := 8) (T0 := TX6) (N := 6) (As := []) (rest := []) ⟨hx, hb, hml, hown, hts⟩ (c_X6_update l G a r n mf bd z ub ro hu) (cwV 0 hts gX6_inSome_X6_update rfl rfl rfl ⟨rfl, hd_X6_update⟩ ⟨Nat.le_of_ble_eq_true rfl, Nat.le_of_ble_eq_true rfl⟩) hKK hP hD hS [0, 1, 2, 3, 4, 5, 6, 7, 8, 9, 10, 11, 12, 13, 14, 15, 16] [] (fun gu => [(oX6 (a 1) (a 2) (a 9) (a 15) (a 18) (nI (vLL r bd n mf).length) 1), (oX5 (a 2) (nI n) (a 3) (a 4) (a 5) (a 6) (a 7) (a 8) bd), (cI G (a 3) 15 (r 3)), (cI G (a 5) 15 (r 5)), (cI G (a 6) 15 (r 6)), (cI G (a 7) 15 (r 7)), (cI G (a 8) 15 (r 8)), (oX1 (a 9) (nI mf) (a 10) (a 11) (a 12) (a 13) (a 14)), (cI G (a 10) 40 (r 10)), (cI G (a 11) 40 (r 11)), (cI G (a 12) 40 (r 12)), (cI G (a 13) 40 (r 13)), (cI G (a 14) 40 (r 14)), (oX4 (a 15) (a 16) (a 17)), (cI G (a 16) 60 (r 16)), (cI G (a 17) 4 (r 17)), (cI G (a 18) 8192 gu)]) [] [a 1, a 2, a 3, a 5, a 6, a 7, a 8, a 9, a 10, a 11, a 12, a 13, a 14, a 15, a 16, a 17, a 18] rfl (by decide) (by decide) rfl rfl rfl hl.1 rfl (Nat.le_of_ble_eq_true rfl) dX6_inSome_1 ⟨Nat.zero_le _, Nat.zero_le _⟩ (fun _ => rfl) (fun _ => rfl) rfl (fun _ => rfl) rfl (fun _ => rfl) (fun gu H locs hgu hP hD hS => ?_)
  refine lv_iconst (v := 0) hx hb dX6_inSome_4 (by decide) ?_
  refine lv_istore_n (lv' := [(3, .int 0), (0, .ref (a 1)), (1, .int mu), (2, .int mn)]) hx hb dX6_inSome_5 rfl hl (by decide) rfl (fun ls hl => ?_)
  refine lv_iconst (v := 0) hx hb dX6_inSome_6 (by decide) ?_
  refine lv_istore (lv' := [(4, .int 0), (3, .int 0), (0, .ref (a 1)), (1, .int mu), (2, .int mn)]) hx hb dX6_inSome_7 hl (by decide) rfl (fun ls hl => ?_)
  refine loopJ (nL := 5) (I := fun (jx : Nat) => jx ≤ (vLL r bd n mf).length) (μ := fun (jx : Nat) => (vLL r bd n mf).length - jx) (lv := fun (jx : Nat) => [(0, .ref (a 1)), (1, .int mu), (2, .int mn), (3, .int (foldP (fun v => fitsB v mu mn) (fun x y => x ||| y) 0 (vLL r bd n mf) jx)), (4, .int (nI jx))]) (pc' := 9) (fun xv9 hI ih_9 ls hl => ?_) 0 (Nat.zero_le _) ls (lv_sub hl [2, 3, 4, 1, 0] rfl)
  obtain ⟨jx, rfl⟩ : ∃ y, y = xv9 := ⟨_, rfl⟩
  have hI : jx ≤ (vLL r bd n mf).length := hI
  have hl : lv_has ls 5 [(0, .ref (a 1)), (1, .int mu), (2, .int mn), (3, .int (foldP (fun v => fitsB v mu mn) (fun x y => x ||| y) 0 (vLL r bd n mf) jx)), (4, .int (nI jx))] := hl
  refine lv_iload hx hb dX6_inSome_9 (lv_at hl 4 rfl) ?_
  refine lv_aload_n hx hb dX6_inSome_11 rfl (lv_at hl 0 rfl) ?_
  refine va_get (D := G.1) (ci := 8) (v := .int (nI (vLL r bd n mf).length)) (C := RX6) (T := TX6) (N := 6) hx hb hts iX6_inSome_X6 hown hK hP 0 rfl rfl 4 (by decide) (hts _ fX6_inSome_1) (fun _ h9 => h9) rfl dX6_inSome_12 ?_
  refine lv_icmp_ge (tgt := 53) hx hb dX6_inSome_15 (by decide) (fun c_15 => ?_) (fun c_15 => ?_)
  · skip
    have hj : jx = (vLL r bd n mf).length := by have := (nI_leI (a := (vLL r bd n mf).length) (b := jx) (by omega) (by omega)).mp c_15; omega
    refine lv_iload_n hx hb dX6_inSome_53 rfl (lv_at hl 3 rfl) ?_
    exact greti hx hb hr hlocks rfl hAe hS (gu) (by rw [hj]) (hgu) (hP) dX6_inSome_54
  · skip
    have hj : jx < (vLL r bd n mf).length := Nat.lt_of_not_le (fun z => c_15 ((nI_leI (a := (vLL r bd n mf).length) (b := jx) (by omega) (by omega)).mpr z))
    refine lv_aload_n hx hb dX6_inSome_18 rfl (lv_at hl 0 rfl) ?_
    refine va_get (D := G.1) (ci := 8) (v := .ref (a 18)) (C := RX6) (T := TX6) (N := 6) hx hb hts iX6_inSome_X6 hown hK hP 0 rfl rfl 3 (by decide) (hts _ fX6_inSome_2) (fun _ h9 => h9) rfl dX6_inSome_19 ?_
    refine lv_iload hx hb dX6_inSome_22 (lv_at hl 4 rfl) ?_
    refine cpN (As := [.ref (a 18), .int (nI jx)]) (rest := []) ⟨hx, hb, hml, hown, hts⟩ (c_X7_atk l G (a 18) 8192 gu (nI jx) jx (rfl) (by omega) (by decide)) ⟨va_cnB (own := RX6) (host := RX7) (index := 47) (y := yX7_at) 2 hts gX6_inSome_X7_at_n47 rfl rfl rfl (hKK.2.nth 17 (q := (RX6, 47, yX7_at)) rfl) (hts _ fX6_inSome_3) hd_X7_at ⟨Nat.le_of_ble_eq_true rfl, Nat.le_of_ble_eq_true rfl⟩, (hts _ fX6_inSome_4), trivial⟩ hKK hP [16] rfl rfl hl.1 rfl (Nat.le_of_ble_eq_true rfl) dX6_inSome_24 ⟨Nat.zero_le _, Nat.zero_le _⟩ ?_
    refine stI (y := (vLL r bd n mf).getD jx 0) (hgu jx hj) ?_
    refine lv_iload_n hx hb dX6_inSome_27 rfl (lv_at hl 1 rfl) ?_
    refine lv_iload_n hx hb dX6_inSome_28 rfl (lv_at hl 2 rfl) ?_
    refine cpS (As := [.int ((vLL r bd n mf).getD jx 0), .int mu, .int mn]) (rest := []) ⟨hx, hb, hml, hown, hts⟩ (c_X6_fits l G ((vLL r bd n mf).getD jx 0) mu mn) (va_cwS 3 hts gX6_inSome_X6_fits rfl rfl rfl hd_X6_fits ⟨Nat.le_of_ble_eq_true rfl, Nat.le_of_ble_eq_true rfl⟩) hKK hP [] rfl rfl hl.1 rfl (Nat.le_of_ble_eq_true rfl) dX6_inSome_29 ⟨Nat.zero_le _, Nat.zero_le _⟩ ?_
    refine lv_if_eq (tgt := 47) hx hb dX6_inSome_32 (by decide) (fun c_32 => ?_) (fun c_32 => ?_)
    · skip
      refine lv_iinc (v := nI (jx + 1)) (lv' := [(4, .int (nI (jx + 1))), (0, .ref (a 1)), (1, .int mu), (2, .int mn), (3, .int (foldP (fun v => fitsB v mu mn) (fun x y => x ||| y) 0 (vLL r bd n mf) jx))]) hx hb dX6_inSome_47 hl (k := 4) rfl (nI_1 jx) (by decide) rfl (fun ls hl => ?_)
      refine lv_goto (tgt := 9) hx hb dX6_inSome_50 (by decide) ?_
      exact ih_9 (jx + 1) (hj) (by show (vLL r bd n mf).length - (jx + 1) < (vLL r bd n mf).length - jx; omega) ls (lv_sub hl [1, 2, 3, 4, 0] (by show ([(0, .ref (a 1)), (1, .int mu), (2, .int mn), (3, .int (foldP (fun v => fitsB v mu mn) (fun x y => x ||| y) 0 (vLL r bd n mf) jx)), (4, .int (nI (jx + 1)))] : List (Nat × Value)) = [(0, .ref (a 1)), (1, .int mu), (2, .int mn), (3, .int (foldP (fun v => fitsB v mu mn) (fun x y => x ||| y) 0 (vLL r bd n mf) (jx + 1))), (4, .int (nI (jx + 1)))]; rw [foldP_f hj (bI_0.mp c_32)]))
    · skip
      refine lv_iload_n hx hb dX6_inSome_35 rfl (lv_at hl 3 rfl) ?_
      refine lv_aload_n hx hb dX6_inSome_36 rfl (lv_at hl 0 rfl) ?_
      refine va_get (D := G.1) (ci := 8) (v := .ref (a 18)) (C := RX6) (T := TX6) (N := 6) hx hb hts iX6_inSome_X6 hown hK hP 0 rfl rfl 3 (by decide) (hts _ fX6_inSome_2) (fun _ h9 => h9) rfl dX6_inSome_37 ?_
      refine lv_iload hx hb dX6_inSome_40 (lv_at hl 4 rfl) ?_
      refine cpN (As := [.ref (a 18), .int (nI jx)]) (rest := [.int (foldP (fun v => fitsB v mu mn) (fun x y => x ||| y) 0 (vLL r bd n mf) jx)]) ⟨hx, hb, hml, hown, hts⟩ (c_X7_atk l G (a 18) 8192 gu (nI jx) jx (rfl) (by omega) (by decide)) ⟨va_cnB (own := RX6) (host := RX7) (index := 47) (y := yX7_at) 2 hts gX6_inSome_X7_at_n47 rfl rfl rfl (hKK.2.nth 17 (q := (RX6, 47, yX7_at)) rfl) (hts _ fX6_inSome_3) hd_X7_at ⟨Nat.le_of_ble_eq_true rfl, Nat.le_of_ble_eq_true rfl⟩, (hts _ fX6_inSome_4), trivial⟩ hKK hP [16] rfl rfl hl.1 rfl (Nat.le_of_ble_eq_true rfl) dX6_inSome_42 ⟨Nat.zero_le _, Nat.zero_le _⟩ ?_
      refine stI (y := (vLL r bd n mf).getD jx 0) (hgu jx hj) ?_
      refine lv_ior hx hb dX6_inSome_45 ?_
      refine lv_istore_n (lv' := [(3, .int ((foldP (fun v => fitsB v mu mn) (fun x y => x ||| y) 0 (vLL r bd n mf) jx) ||| ((vLL r bd n mf).getD jx 0))), (0, .ref (a 1)), (1, .int mu), (2, .int mn), (4, .int (nI jx))]) hx hb dX6_inSome_46 rfl hl (by decide) rfl (fun ls hl => ?_)
      refine lv_iinc (v := nI (jx + 1)) (lv' := [(4, .int (nI (jx + 1))), (3, .int ((foldP (fun v => fitsB v mu mn) (fun x y => x ||| y) 0 (vLL r bd n mf) jx) ||| ((vLL r bd n mf).getD jx 0))), (0, .ref (a 1)), (1, .int mu), (2, .int mn)]) hx hb dX6_inSome_47 hl (k := 4) rfl (nI_1 jx) (by decide) rfl (fun ls hl => ?_)
      refine lv_goto (tgt := 9) hx hb dX6_inSome_50 (by decide) ?_
      exact ih_9 (jx + 1) (hj) (by show (vLL r bd n mf).length - (jx + 1) < (vLL r bd n mf).length - jx; omega) ls (lv_sub hl [2, 3, 4, 1, 0] (by show ([(0, .ref (a 1)), (1, .int mu), (2, .int mn), (3, .int ((foldP (fun v => fitsB v mu mn) (fun x y => x ||| y) 0 (vLL r bd n mf) jx) ||| ((vLL r bd n mf).getD jx 0))), (4, .int (nI (jx + 1)))] : List (Nat × Value)) = [(0, .ref (a 1)), (1, .int mu), (2, .int mn), (3, .int (foldP (fun v => fitsB v mu mn) (fun x y => x ||| y) 0 (vLL r bd n mf) (jx + 1))), (4, .int (nI (jx + 1)))]; rw [foldP_t hj (bI_n0 c_32)]))
