set_option maxHeartbeats 4000000 in
set_option maxRecDepth 100000 in
/-- bit(x) -/
theorem c_X7_bit (l : Launch) (G : GG) (x : Int32) : Met l yX7_bit wsX7_bit (rmK 0) (va_Pc [.int x] (PS G [])) (QcRead (bitI x)) 0 0 (fun _ => False) := by
  refine Met.ofW (cc := cX7_bit) (maxL := 1) (ret := (some .int)) (by decide) rfl ?_
  intro p e s m args below meth c s₁ B hml hv
  obtain ⟨rfl, hP, hKK⟩ := hv
  have hx := B.exec
  have hb := B.bytes
  have hr := B.returns
  have hts := atoms_spec (ws := wsX7_bit) B.pre
  have hown : s.vm.findClass RX7 = some m.cls := findClass_of_methodNamed B.named
  have hlocks := B.notSynchronized
  have hK := hKK.1
  have hl := lv_entry ([.int x]) (n := 1) (Nat.le_of_ble_eq_true rfl)
  rw [lg_entry_eq]
  generalize (lg_sl ([.int x]) ++ List.replicate (1 - (lg_sl ([.int x])).length) Slot.unset).toArray = ls at hl ⊢
  have hl : lv_has ls 1 [(0, .int x)] := hl
  refine lv_iload_n hx hb dX7_bit_0 rfl (lv_at hl 0 rfl) ?_
  refine lv_iconst (v := 1) hx hb dX7_bit_1 (by decide) ?_
  refine lv_icmp_lt (tgt := 20) hx hb dX7_bit_2 (by decide) (fun c_2 => ?_) (fun c_2 => ?_)
  · skip
    refine lv_iconst (v := 0) hx hb dX7_bit_20 (by decide) ?_
    exact pret hx hb hr hlocks rfl (by unfold bitI; rw [if_pos c_2]) dX7_bit_21
  · skip
    refine lv_iload_n hx hb dX7_bit_5 rfl (lv_at hl 0 rfl) ?_
    refine lv_bipush (v := 14) hx hb dX7_bit_6 (by decide) ?_
    refine lv_icmp_gt (tgt := 20) hx hb dX7_bit_8 (by decide) (fun c_8 => ?_) (fun c_8 => ?_)
    · skip
      refine lv_iconst (v := 0) hx hb dX7_bit_20 (by decide) ?_
      exact pret hx hb hr hlocks rfl (by unfold bitI; rw [if_neg c_2, if_pos c_8]) dX7_bit_21
    · skip
      refine lv_iconst (v := 1) hx hb dX7_bit_11 (by decide) ?_
      refine lv_bipush (v := 14) hx hb dX7_bit_12 (by decide) ?_
      refine lv_iload_n hx hb dX7_bit_14 rfl (lv_at hl 0 rfl) ?_
      refine lv_isub hx hb dX7_bit_15 ?_
      refine lv_ishl hx hb dX7_bit_16 ?_
      refine lv_goto (tgt := 21) hx hb dX7_bit_17 (by decide) ?_
      exact pret hx hb hr hlocks rfl (by unfold bitI; rw [if_neg c_2, if_neg c_8]) dX7_bit_21

set_option maxHeartbeats 4000000 in
set_option maxRecDepth 100000 in
/-- at(row, i) -/
theorem c_X7_at (l : Launch) (G : GG) (h n : Nat) (f : Nat → Int32) (i : Int32) (hn : n < 2 ^ 31) : Met l yX7_at wsX7_at (rmK 0) (va_Pc [.ref h, .int i] (PS G [(cI G h n f)])) (QcRead (atf n f i)) 0 0 (fun _ => False) := by
  refine Met.ofW (cc := cX7_at) (maxL := 2) (ret := (some .int)) (by decide) rfl ?_
  intro p e s m args below meth c s₁ B hml hv
  obtain ⟨rfl, hP, hKK⟩ := hv
  have hx := B.exec
  have hb := B.bytes
  have hr := B.returns
  have hts := atoms_spec (ws := wsX7_at) B.pre
  have hown : s.vm.findClass RX7 = some m.cls := findClass_of_methodNamed B.named
  have hlocks := B.notSynchronized
  have hK := hKK.1
  have hl := lv_entry ([.ref h, .int i]) (n := 2) (Nat.le_of_ble_eq_true rfl)
  rw [lg_entry_eq]
  generalize (lg_sl ([.ref h, .int i]) ++ List.replicate (2 - (lg_sl ([.ref h, .int i])).length) Slot.unset).toArray = ls at hl ⊢
  have hl : lv_has ls 2 [(0, .ref h), (1, .int i)] := hl
  refine lv_iload_n hx hb dX7_at_0 rfl (lv_at hl 1 rfl) ?_
  refine lv_if_lt (tgt := 16) hx hb dX7_at_1 (by decide) (fun c_1 => ?_) (fun c_1 => ?_)
  · skip
    refine lv_iconst (v := 0) hx hb dX7_at_16 (by decide) ?_
    exact pret hx hb hr hlocks rfl (by unfold atf; rw [if_pos c_1]) dX7_at_17
  · skip
    refine lv_iload_n hx hb dX7_at_4 rfl (lv_at hl 1 rfl) ?_
    refine lv_aload_n hx hb dX7_at_5 rfl (lv_at hl 0 rfl) ?_
    refine va_alen (v := nI n) hx hb hK hP 0 0 rfl rfl rfl dX7_at_6 ?_
    refine lv_icmp_ge (tgt := 16) hx hb dX7_at_7 (by decide) (fun c_7 => ?_) (fun c_7 => ?_)
    · skip
      refine lv_iconst (v := 0) hx hb dX7_at_16 (by decide) ?_
      exact pret hx hb hr hlocks rfl (by unfold atf; rw [if_neg c_1, if_pos c_7]) dX7_at_17
    · skip
      refine lv_aload_n hx hb dX7_at_10 rfl (lv_at hl 0 rfl) ?_
      refine lv_iload_n hx hb dX7_at_11 rfl (lv_at hl 1 rfl) ?_
      refine va_iald hx hb hK hP 0 0 rfl rfl (in_of hn c_1 c_7) dX7_at_12 ?_
      refine lv_goto (tgt := 17) hx hb dX7_at_13 (by decide) ?_
      exact pret hx hb hr hlocks rfl (by unfold atf; rw [if_neg c_1, if_neg c_7]) dX7_at_17

theorem c_X7_atk (l : Launch) (G : GG) (h n : Nat) (f : Nat → Int32) (i : Int32) (k : Nat) (hi : i = nI k) (hk : k < n) (hn : n < 2 ^ 31) : Met l yX7_at wsX7_at (rmK 0) (va_Pc [.ref h, .int i] (PS G [(h, .inl (G.2.1, n, .inl f))])) (QcRead (f k)) 0 0 (fun _ => False) := by
  subst hi
  have h1 := c_X7_at l G h n f (nI k) hn
  rwa [atf_nI hk hn] at h1

set_option maxHeartbeats 4000000 in
set_option maxRecDepth 100000 in
/-- put(row, i, v) -/
theorem c_X7_put (l : Launch) (G : GG) (h n : Nat) (f : Nat → Int32) (i v : Int32) (hn : n < 2 ^ 31) : Met l yX7_put wsX7_put (rmK 0) (va_Pc [.ref h, .int i, .int v] (PM G [(cI G h n f)])) (QG (S := Unit) G [(cI G h n f)] (fun u => True) (fun u => none) (fun u => [(cI G h n (putf n f i v))])) 0 0 (adr [(cI G h n f)]) := by
  refine Met.ofW (cc := cX7_put) (maxL := 3) (ret := none) (by decide) rfl ?_
  intro p e s m args below meth c s₁ B hml hv
  obtain ⟨rfl, hP, hD0, hKK⟩ := hv
  have hx := B.exec
  have hb := B.bytes
  have hr := B.returns
  have hts := atoms_spec (ws := wsX7_put) B.pre
  have hown : s.vm.findClass RX7 = some m.cls := findClass_of_methodNamed B.named
  have hlocks := B.notSynchronized
  have hK := hKK.1
  generalize hAe : adr [(cI G h n f)] = A
  have hD : va_D A [(cI G h n f)] := by rw [← hAe]; exact hD0.own
  have hS : va_S A s.heap s.heap [] := va_S.rf
  have hP : va_P G.1 vwCl [(cI G h n f)] s.heap := hP
  have hl := lv_entry ([.ref h, .int i, .int v]) (n := 3) (Nat.le_of_ble_eq_true rfl)
  rw [lg_entry_eq]
  generalize (lg_sl ([.ref h, .int i, .int v]) ++ List.replicate (3 - (lg_sl ([.ref h, .int i, .int v])).length) Slot.unset).toArray = ls at hl ⊢
  have hl : lv_has ls 3 [(0, .ref h), (1, .int i), (2, .int v)] := hl
  refine lv_iload_n hx hb dX7_put_0 rfl (lv_at hl 1 rfl) ?_
  refine lv_if_lt (tgt := 14) hx hb dX7_put_1 (by decide) (fun c_1 => ?_) (fun c_1 => ?_)
  · skip
    exact gretv hx hb hr hlocks hAe hS (()) (rfl) (trivial) (by unfold putf; rw [if_pos c_1]; exact hP) dX7_put_14
  · skip
    refine lv_iload_n hx hb dX7_put_4 rfl (lv_at hl 1 rfl) ?_
    refine lv_aload_n hx hb dX7_put_5 rfl (lv_at hl 0 rfl) ?_
    refine va_alen (v := nI n) hx hb hK hP 0 0 rfl rfl rfl dX7_put_6 ?_
    refine lv_icmp_ge (tgt := 14) hx hb dX7_put_7 (by decide) (fun c_7 => ?_) (fun c_7 => ?_)
    · skip
      exact gretv hx hb hr hlocks hAe hS (()) (rfl) (trivial) (by unfold putf; rw [if_neg c_1, if_pos c_7]; exact hP) dX7_put_14
    · skip
      refine lv_aload_n hx hb dX7_put_10 rfl (lv_at hl 0 rfl) ?_
      refine lv_iload_n hx hb dX7_put_11 rfl (lv_at hl 1 rfl) ?_
      refine lv_iload_n hx hb dX7_put_12 rfl (lv_at hl 2 rfl) ?_
      refine va_iast hx hb hK hP hD hS 0 0 rfl rfl (in_of hn c_1 c_7) dX7_put_13 (fun H locs hP hD hS => ?_)
      have hPD : PD G A [(cI G h n (upd f (i).toNatClampNeg v))] H := ⟨hP, hD⟩
      have hP := hPD.1
      have hD := hPD.2
      clear hPD
      exact gretv hx hb hr hlocks hAe hS (()) (rfl) (trivial) (by unfold putf; rw [if_neg c_1, if_neg c_7]; exact hP) dX7_put_14

theorem c_X7_putk (l : Launch) (G : GG) (h n : Nat) (f : Nat → Int32) (i v : Int32) (k : Nat) (hi : i = nI k) (hk : k < n) (hn : n < 2 ^ 31) : Met l yX7_put wsX7_put (rmK 0) (va_Pc [.ref h, .int i, .int v] (PM G [(h, .inl (G.2.1, n, .inl f))])) (QG (S := Unit) G [(h, .inl (G.2.1, n, .inl f))] (fun _ => True) (fun _ => none) (fun _ => [(h, .inl (G.2.1, n, .inl (upd f k v)))])) 0 0 (adr [(h, .inl (G.2.1, n, .inl f))]) := by
  subst hi
  have h1 := c_X7_put l G h n f (nI k) v hn
  rwa [putf_nI hk hn] at h1

theorem fJ6_bitCount_0f7a4_0 : Cond.constant RJ6 265 (1431655765) ∈ wsJ6_bitCount_0f7a4 := by decide +kernel
theorem fJ6_bitCount_0f7a4_1 : Cond.constant RJ6 266 (858993459) ∈ wsJ6_bitCount_0f7a4 := by decide +kernel
theorem fJ6_bitCount_0f7a4_2 : Cond.constant RJ6 267 (252645135) ∈ wsJ6_bitCount_0f7a4 := by decide +kernel
set_option maxHeartbeats 4000000 in
set_option maxRecDepth 100000 in
/-- Integer.bitCount(x) -/
theorem c_J6_bitCount_0f7a4 (l : Launch) (G : GG) (x : Int32) : Met l yJ6_bitCount_0f7a4 wsJ6_bitCount_0f7a4 (rmK 0) (va_Pc [.int x] (PS G [])) (QcRead (bcI x)) 0 0 (fun _ => False) := by
  refine Met.ofW (cc := cJ6_bitCount_0f7a4) (maxL := 1) (ret := (some .int)) (by decide) rfl ?_
  intro p e s m args below meth c s₁ B hml hv
  obtain ⟨rfl, hP, hKK⟩ := hv
  have hx := B.exec
  have hb := B.bytes
  have hr := B.returns
  have hts := atoms_spec (ws := wsJ6_bitCount_0f7a4) B.pre
  have hown : s.vm.findClass RJ6 = some m.cls := findClass_of_methodNamed B.named
  have hlocks := B.notSynchronized
  have hK := hKK.1
  have hl := lv_entry ([.int x]) (n := 1) (Nat.le_of_ble_eq_true rfl)
  rw [lg_entry_eq]
  generalize (lg_sl ([.int x]) ++ List.replicate (1 - (lg_sl ([.int x])).length) Slot.unset).toArray = ls at hl ⊢
  have hl : lv_has ls 1 [(0, .int x)] := hl
  refine lv_iload_n hx hb dJ6_bitCount_0f7a4_0 rfl (lv_at hl 0 rfl) ?_
  refine lv_iload_n hx hb dJ6_bitCount_0f7a4_1 rfl (lv_at hl 0 rfl) ?_
  refine lv_iconst (v := 1) hx hb dJ6_bitCount_0f7a4_2 (by decide) ?_
  refine lv_iushr (v := ((x : Int32).toUInt32 >>> ((1 : Int32).toUInt32 &&& Int32.toUInt32 31)).toInt32) hx hb dJ6_bitCount_0f7a4_3 (rfl) ?_
  refine lv_ldcw hx hb hown (hts _ fJ6_bitCount_0f7a4_0) dJ6_bitCount_0f7a4_4 ?_
  refine lv_iand hx hb dJ6_bitCount_0f7a4_7 ?_
  refine lv_isub hx hb dJ6_bitCount_0f7a4_8 ?_
  refine lv_topi (fun v1 e1 => ?_)
  refine lv_istore_n (lv' := [(0, .int v1)]) hx hb dJ6_bitCount_0f7a4_9 rfl hl (by decide) rfl (fun ls hl => ?_)
  refine lv_iload_n hx hb dJ6_bitCount_0f7a4_10 rfl (lv_at hl 0 rfl) ?_
  refine lv_ldcw hx hb hown (hts _ fJ6_bitCount_0f7a4_1) dJ6_bitCount_0f7a4_11 ?_
  refine lv_iand hx hb dJ6_bitCount_0f7a4_14 ?_
  refine lv_iload_n hx hb dJ6_bitCount_0f7a4_15 rfl (lv_at hl 0 rfl) ?_
  refine lv_iconst (v := 2) hx hb dJ6_bitCount_0f7a4_16 (by decide) ?_
  refine lv_iushr (v := ((v1 : Int32).toUInt32 >>> ((2 : Int32).toUInt32 &&& Int32.toUInt32 31)).toInt32) hx hb dJ6_bitCount_0f7a4_17 (rfl) ?_
  refine lv_ldcw hx hb hown (hts _ fJ6_bitCount_0f7a4_1) dJ6_bitCount_0f7a4_18 ?_
  refine lv_iand hx hb dJ6_bitCount_0f7a4_21 ?_
  refine lv_iadd hx hb dJ6_bitCount_0f7a4_22 ?_
  refine lv_topi (fun v2 e2 => ?_)
  refine lv_istore_n (lv' := [(0, .int v2)]) hx hb dJ6_bitCount_0f7a4_23 rfl hl (by decide) rfl (fun ls hl => ?_)
  refine lv_iload_n hx hb dJ6_bitCount_0f7a4_24 rfl (lv_at hl 0 rfl) ?_
  refine lv_iload_n hx hb dJ6_bitCount_0f7a4_25 rfl (lv_at hl 0 rfl) ?_
  refine lv_iconst (v := 4) hx hb dJ6_bitCount_0f7a4_26 (by decide) ?_
  refine lv_iushr (v := ((v2 : Int32).toUInt32 >>> ((4 : Int32).toUInt32 &&& Int32.toUInt32 31)).toInt32) hx hb dJ6_bitCount_0f7a4_27 (rfl) ?_
  refine lv_iadd hx hb dJ6_bitCount_0f7a4_28 ?_
  refine lv_ldcw hx hb hown (hts _ fJ6_bitCount_0f7a4_2) dJ6_bitCount_0f7a4_29 ?_
  refine lv_iand hx hb dJ6_bitCount_0f7a4_32 ?_
  refine lv_topi (fun v3 e3 => ?_)
  refine lv_istore_n (lv' := [(0, .int v3)]) hx hb dJ6_bitCount_0f7a4_33 rfl hl (by decide) rfl (fun ls hl => ?_)
  refine lv_iload_n hx hb dJ6_bitCount_0f7a4_34 rfl (lv_at hl 0 rfl) ?_
  refine lv_iload_n hx hb dJ6_bitCount_0f7a4_35 rfl (lv_at hl 0 rfl) ?_
  refine lv_bipush (v := 8) hx hb dJ6_bitCount_0f7a4_36 (by decide) ?_
  refine lv_iushr (v := ((v3 : Int32).toUInt32 >>> ((8 : Int32).toUInt32 &&& Int32.toUInt32 31)).toInt32) hx hb dJ6_bitCount_0f7a4_38 (rfl) ?_
  refine lv_iadd hx hb dJ6_bitCount_0f7a4_39 ?_
  refine lv_topi (fun v4 e4 => ?_)
  refine lv_istore_n (lv' := [(0, .int v4)]) hx hb dJ6_bitCount_0f7a4_40 rfl hl (by decide) rfl (fun ls hl => ?_)
  refine lv_iload_n hx hb dJ6_bitCount_0f7a4_41 rfl (lv_at hl 0 rfl) ?_
  refine lv_iload_n hx hb dJ6_bitCount_0f7a4_42 rfl (lv_at hl 0 rfl) ?_
  refine lv_bipush (v := 16) hx hb dJ6_bitCount_0f7a4_43 (by decide) ?_
  refine lv_iushr (v := ((v4 : Int32).toUInt32 >>> ((16 : Int32).toUInt32 &&& Int32.toUInt32 31)).toInt32) hx hb dJ6_bitCount_0f7a4_45 (rfl) ?_
  refine lv_iadd hx hb dJ6_bitCount_0f7a4_46 ?_
  refine lv_topi (fun v5 e5 => ?_)
  refine lv_istore_n (lv' := [(0, .int v5)]) hx hb dJ6_bitCount_0f7a4_47 rfl hl (by decide) rfl (fun ls hl => ?_)
  refine lv_iload_n hx hb dJ6_bitCount_0f7a4_48 rfl (lv_at hl 0 rfl) ?_
  refine lv_bipush (v := 63) hx hb dJ6_bitCount_0f7a4_49 (by decide) ?_
  refine lv_iand hx hb dJ6_bitCount_0f7a4_51 ?_
  exact pret hx hb hr hlocks rfl (by simp only [bcI, e1, e2, e3, e4, e5]) dJ6_bitCount_0f7a4_52

theorem hd_X7_bit : yX7_bit.cls ≠ "java/lang/invoke/MethodHandle" ∧ yX7_bit.cls ≠ "java/lang/invoke/VarHandle" ∧ (parseMethodDescriptor yX7_bit.desc).map (fun d => d.parameters.length) = some 1 := by decide +kernel
theorem fX1_bitOf_0 : Cond.initialized RX7 ∈ wsX1_bitOf := by decide +kernel
theorem fX1_bitOf_1 : Cond.static yX7_bit ∈ wsX1_bitOf := by decide +kernel
set_option maxHeartbeats 4000000 in
set_option maxRecDepth 100000 in
/-- Formulas.bitOf(x) -/
theorem c_X1_bitOf (l : Launch) (G : GG) (x : Int32) : Met l yX1_bitOf wsX1_bitOf (rmK 1) (va_Pc [.int x] (PS G [])) (QcRead (bitOfI x)) 0 0 (fun _ => False) := by
  refine Met.ofW (cc := cX1_bitOf) (maxL := 1) (ret := (some .int)) (by decide) rfl ?_
  intro p e s m args below meth c s₁ B hml hv
  obtain ⟨rfl, hP, hKK⟩ := hv
  have hx := B.exec
  have hb := B.bytes
  have hr := B.returns
  have hts := atoms_spec (ws := wsX1_bitOf) B.pre
  have hown : s.vm.findClass RX1 = some m.cls := findClass_of_methodNamed B.named
  have hlocks := B.notSynchronized
  have hK := hKK.1
  have hl := lv_entry ([.int x]) (n := 1) (Nat.le_of_ble_eq_true rfl)
  rw [lg_entry_eq]
  generalize (lg_sl ([.int x]) ++ List.replicate (1 - (lg_sl ([.int x])).length) Slot.unset).toArray = ls at hl ⊢
  have hl : lv_has ls 1 [(0, .int x)] := hl
  refine lv_iload_n hx hb dX1_bitOf_0 rfl (lv_at hl 0 rfl) ?_
  refine cpN (As := [.int x]) (rest := []) ⟨hx, hb, hml, hown, hts⟩ (c_X7_bit l G x) ⟨va_cnB (own := RX1) (host := RX7) (index := 39) (y := yX7_bit) 1 hts gX1_bitOf_X7_bit_n39 rfl rfl rfl (hKK.2.nth 10 (q := (RX1, 39, yX7_bit)) rfl) (hts _ fX1_bitOf_0) hd_X7_bit ⟨Nat.le_of_ble_eq_true rfl, Nat.le_of_ble_eq_true rfl⟩, (hts _ fX1_bitOf_1), trivial⟩ hKK hP [] rfl rfl hl.1 rfl (Nat.le_of_ble_eq_true rfl) dX1_bitOf_1 ⟨Nat.zero_le _, Nat.zero_le _⟩ ?_
  refine lv_iload_n hx hb dX1_bitOf_4 rfl (lv_at hl 0 rfl) ?_
  refine lv_ineg hx hb dX1_bitOf_5 ?_
  refine cpN (As := [.int (-x)]) (rest := [.int (bitI x)]) ⟨hx, hb, hml, hown, hts⟩ (c_X7_bit l G (-x)) ⟨va_cnB (own := RX1) (host := RX7) (index := 39) (y := yX7_bit) 1 hts gX1_bitOf_X7_bit_n39 rfl rfl rfl (hKK.2.nth 10 (q := (RX1, 39, yX7_bit)) rfl) (hts _ fX1_bitOf_0) hd_X7_bit ⟨Nat.le_of_ble_eq_true rfl, Nat.le_of_ble_eq_true rfl⟩, (hts _ fX1_bitOf_1), trivial⟩ hKK hP [] rfl rfl hl.1 rfl (Nat.le_of_ble_eq_true rfl) dX1_bitOf_6 ⟨Nat.zero_le _, Nat.zero_le _⟩ ?_
  refine lv_ior hx hb dX1_bitOf_9 ?_
  exact pret hx hb hr hlocks rfl (rfl) dX1_bitOf_10

set_option maxHeartbeats 4000000 in
set_option maxRecDepth 100000 in
/-- Formulas.holds(op, a, b) -/
theorem c_X1_holds (l : Launch) (G : GG) (op : Int32) (a b : Bool) : Met l yX1_holds wsX1_holds (rmK 0) (va_Pc [.int op, .int (bI a), .int (bI b)] (PS G [])) (QcRead (bI (holdsB op a b))) 0 0 (fun _ => False) := by
  refine Met.ofW (cc := cX1_holds) (maxL := 3) (ret := (some .boolean)) (by decide) rfl ?_
  intro p e s m args below meth c s₁ B hml hv
  obtain ⟨rfl, hP, hKK⟩ := hv
  have hx := B.exec
  have hb := B.bytes
  have hr := B.returns
  have hts := atoms_spec (ws := wsX1_holds) B.pre
  have hown : s.vm.findClass RX1 = some m.cls := findClass_of_methodNamed B.named
  have hlocks := B.notSynchronized
  have hK := hKK.1
  have hl := lv_entry ([.int op, .int (bI a), .int (bI b)]) (n := 3) (Nat.le_of_ble_eq_true rfl)
  rw [lg_entry_eq]
  generalize (lg_sl ([.int op, .int (bI a), .int (bI b)]) ++ List.replicate (3 - (lg_sl ([.int op, .int (bI a), .int (bI b)])).length) Slot.unset).toArray = ls at hl ⊢
  have hl : lv_has ls 3 [(0, .int op), (1, .int (bI a)), (2, .int (bI b))] := hl
  refine lv_iload_n hx hb dX1_holds_0 rfl (lv_at hl 0 rfl) ?_
  by_cases ho0 : op = 0
  · subst ho0
    refine lv_tableIn (off := 27) (tgt := 28) hx hb dX1_holds_1 (by decide) (by decide) rfl (by decide) ?_
    refine lv_iload_n hx hb dX1_holds_28 rfl (lv_at hl 1 rfl) ?_
    refine lv_if_eq (tgt := 36) hx hb dX1_holds_29 (by decide) (fun c_29 => ?_) (fun c_29 => ?_)
    · skip
      refine lv_iconst (v := 1) hx hb dX1_holds_36 (by decide) ?_
      refine lv_goto (tgt := 41) hx hb dX1_holds_37 (by decide) ?_
      exact pret hx hb hr hlocks rfl (by revert c_29; cases a <;> cases b <;> decide) dX1_holds_41
    · skip
      refine lv_iload_n hx hb dX1_holds_32 rfl (lv_at hl 2 rfl) ?_
      refine lv_if_eq (tgt := 40) hx hb dX1_holds_33 (by decide) (fun c_33 => ?_) (fun c_33 => ?_)
      · skip
        refine lv_iconst (v := 0) hx hb dX1_holds_40 (by decide) ?_
        exact pret hx hb hr hlocks rfl (by revert c_29 c_33; cases a <;> cases b <;> decide) dX1_holds_41
      · skip
        refine lv_iconst (v := 1) hx hb dX1_holds_36 (by decide) ?_
        refine lv_goto (tgt := 41) hx hb dX1_holds_37 (by decide) ?_
        exact pret hx hb hr hlocks rfl (by revert c_29 c_33; cases a <;> cases b <;> decide) dX1_holds_41
  by_cases ho1 : op = 1
  · subst ho1
    refine lv_tableIn (off := 41) (tgt := 42) hx hb dX1_holds_1 (by decide) (by decide) rfl (by decide) ?_
    refine lv_iload_n hx hb dX1_holds_42 rfl (lv_at hl 1 rfl) ?_
    refine lv_if_eq (tgt := 50) hx hb dX1_holds_43 (by decide) (fun c_43 => ?_) (fun c_43 => ?_)
    · skip
      refine lv_iconst (v := 1) hx hb dX1_holds_50 (by decide) ?_
      refine lv_goto (tgt := 55) hx hb dX1_holds_51 (by decide) ?_
      exact pret hx hb hr hlocks rfl (by revert c_43; cases a <;> cases b <;> decide) dX1_holds_55
    · skip
      refine lv_iload_n hx hb dX1_holds_46 rfl (lv_at hl 2 rfl) ?_
      refine lv_if_ne (tgt := 54) hx hb dX1_holds_47 (by decide) (fun c_47 => ?_) (fun c_47 => ?_)
      · skip
        refine lv_iconst (v := 0) hx hb dX1_holds_54 (by decide) ?_
        exact pret hx hb hr hlocks rfl (by revert c_43 c_47; cases a <;> cases b <;> decide) dX1_holds_55
      · skip
        refine lv_iconst (v := 1) hx hb dX1_holds_50 (by decide) ?_
        refine lv_goto (tgt := 55) hx hb dX1_holds_51 (by decide) ?_
        exact pret hx hb hr hlocks rfl (by revert c_43 c_47; cases a <;> cases b <;> decide) dX1_holds_55
  by_cases ho2 : op = 2
  · subst ho2
    refine lv_tableIn (off := 55) (tgt := 56) hx hb dX1_holds_1 (by decide) (by decide) rfl (by decide) ?_
    refine lv_iload_n hx hb dX1_holds_56 rfl (lv_at hl 1 rfl) ?_
    refine lv_if_ne (tgt := 64) hx hb dX1_holds_57 (by decide) (fun c_57 => ?_) (fun c_57 => ?_)
    · skip
      refine lv_iconst (v := 1) hx hb dX1_holds_64 (by decide) ?_
      refine lv_goto (tgt := 69) hx hb dX1_holds_65 (by decide) ?_
      exact pret hx hb hr hlocks rfl (by revert c_57; cases a <;> cases b <;> decide) dX1_holds_69
    · skip
      refine lv_iload_n hx hb dX1_holds_60 rfl (lv_at hl 2 rfl) ?_
      refine lv_if_eq (tgt := 68) hx hb dX1_holds_61 (by decide) (fun c_61 => ?_) (fun c_61 => ?_)
      · skip
        refine lv_iconst (v := 0) hx hb dX1_holds_68 (by decide) ?_
        exact pret hx hb hr hlocks rfl (by revert c_57 c_61; cases a <;> cases b <;> decide) dX1_holds_69
      · skip
        refine lv_iconst (v := 1) hx hb dX1_holds_64 (by decide) ?_
        refine lv_goto (tgt := 69) hx hb dX1_holds_65 (by decide) ?_
        exact pret hx hb hr hlocks rfl (by revert c_57 c_61; cases a <;> cases b <;> decide) dX1_holds_69
  refine lv_tableOut (tgt := 70) hx hb dX1_holds_1 (by have h0 := mt Int32.toInt_inj.mp ho0; have h1 := mt Int32.toInt_inj.mp ho1; have h2 := mt Int32.toInt_inj.mp ho2; have e0 : (0 : Int32).toInt = 0 := rfl; have e1 : (1 : Int32).toInt = 1 := rfl; have e2 : (2 : Int32).toInt = 2 := rfl; omega) (by decide) ?_
  refine lv_iload_n hx hb dX1_holds_70 rfl (lv_at hl 1 rfl) ?_
  refine lv_iload_n hx hb dX1_holds_71 rfl (lv_at hl 2 rfl) ?_
  refine lv_icmp_ne (tgt := 79) hx hb dX1_holds_72 (by decide) (fun c_72 => ?_) (fun c_72 => ?_)
  · skip
    refine lv_iconst (v := 0) hx hb dX1_holds_79 (by decide) ?_
    exact pret hx hb hr hlocks rfl (by simp only [holdsB, if_neg ho0, if_neg ho1, if_neg ho2]; revert c_72; cases a <;> cases b <;> decide) dX1_holds_80
  · skip
    refine lv_iconst (v := 1) hx hb dX1_holds_75 (by decide) ?_
    refine lv_goto (tgt := 80) hx hb dX1_holds_76 (by decide) ?_
    exact pret hx hb hr hlocks rfl (by simp only [holdsB, if_neg ho0, if_neg ho1, if_neg ho2]; revert c_72; cases a <;> cases b <;> decide) dX1_holds_80

theorem hd_X1_holds : yX1_holds.cls ≠ "java/lang/invoke/MethodHandle" ∧ yX1_holds.cls ≠ "java/lang/invoke/VarHandle" ∧ (parseMethodDescriptor yX1_holds.desc).map (fun d => d.parameters.length) = some 3 := by decide +kernel
theorem hd_X1_bitOf : yX1_bitOf.cls ≠ "java/lang/invoke/MethodHandle" ∧ yX1_bitOf.cls ≠ "java/lang/invoke/VarHandle" ∧ (parseMethodDescriptor yX1_bitOf.desc).map (fun d => d.parameters.length) = some 1 := by decide +kernel
theorem fX1_holdsIn_0 : Cond.initialized RX7 ∈ wsX1_holdsIn := by decide +kernel
theorem fX1_holdsIn_1 : Cond.static yX7_bit ∈ wsX1_holdsIn := by decide +kernel
set_option maxHeartbeats 4000000 in
set_option maxRecDepth 100000 in
/-- Formulas.holdsIn(v, op, a, b) -/
theorem c_X1_holdsIn (l : Launch) (G : GG) (v op a b : Int32) : Met l yX1_holdsIn wsX1_holdsIn (rmK 2) (va_Pc [.int v, .int op, .int a, .int b] (PS G [])) (QcRead (bI (holdsInB v op a b))) 0 0 (fun _ => False) := by
  refine Met.ofW (cc := cX1_holdsIn) (maxL := 4) (ret := (some .boolean)) (by decide) rfl ?_
  intro p e s m args below meth c s₁ B hml hv
  obtain ⟨rfl, hP, hKK⟩ := hv
  have hx := B.exec
  have hb := B.bytes
  have hr := B.returns
  have hts := atoms_spec (ws := wsX1_holdsIn) B.pre
  have hown : s.vm.findClass RX1 = some m.cls := findClass_of_methodNamed B.named
  have hlocks := B.notSynchronized
  have hK := hKK.1
  have hl := lv_entry ([.int v, .int op, .int a, .int b]) (n := 4) (Nat.le_of_ble_eq_true rfl)
  rw [lg_entry_eq]
  generalize (lg_sl ([.int v, .int op, .int a, .int b]) ++ List.replicate (4 - (lg_sl ([.int v, .int op, .int a, .int b])).length) Slot.unset).toArray = ls at hl ⊢
  have hl : lv_has ls 4 [(0, .int v), (1, .int op), (2, .int a), (3, .int b)] := hl
  refine cutJ (nL := 4) (lv := [(0, .int v), (1, .int op), (2, .int a), (3, .int b)]) (pc' := 19) (st' := [.int (bI (decide (v &&& bitOfI a = bitI a))), .int op]) (fun ls hl => ?_) (fun hJ_19 => ?_)
  · skip
    refine cutJ (nL := 4) (lv := [(0, .int v), (1, .int op), (2, .int a), (3, .int b)]) (pc' := 37) (st' := [.int (bI (decide (v &&& bitOfI b = bitI b))), .int (bI (decide (v &&& bitOfI a = bitI a))), .int op]) (fun ls hl => ?_) (fun hJ_37 => ?_)
    · skip
      refine cpS (As := [.int op, .int (bI (decide (v &&& bitOfI a = bitI a))), .int (bI (decide (v &&& bitOfI b = bitI b)))]) (rest := []) ⟨hx, hb, hml, hown, hts⟩ (c_X1_holds l G op (decide (v &&& bitOfI a = bitI a)) (decide (v &&& bitOfI b = bitI b))) (va_cwS 3 hts gX1_holdsIn_X1_holds rfl rfl rfl hd_X1_holds ⟨Nat.le_of_ble_eq_true rfl, Nat.le_of_ble_eq_true rfl⟩) hKK hP [] rfl rfl hl.1 rfl (Nat.le_of_ble_eq_true rfl) dX1_holdsIn_37 ⟨Nat.zero_le _, Nat.zero_le _⟩ ?_
      exact pret hx hb hr hlocks (bI_nar _) (rfl) dX1_holdsIn_40
    · skip
      refine lv_iload_n hx hb dX1_holdsIn_19 rfl (lv_at hl 0 rfl) ?_
      refine lv_iload_n hx hb dX1_holdsIn_20 rfl (lv_at hl 3 rfl) ?_
      refine cpS (As := [.int b]) (rest := [.int v, .int (bI (decide (v &&& bitOfI a = bitI a))), .int op]) ⟨hx, hb, hml, hown, hts⟩ (c_X1_bitOf l G b) (va_cwS 1 hts gX1_holdsIn_X1_bitOf rfl rfl rfl hd_X1_bitOf ⟨Nat.le_of_ble_eq_true rfl, Nat.le_of_ble_eq_true rfl⟩) hKK hP [] rfl rfl hl.1 rfl (Nat.le_of_ble_eq_true rfl) dX1_holdsIn_21 ⟨Nat.zero_le _, Nat.zero_le _⟩ ?_
      refine lv_iand hx hb dX1_holdsIn_24 ?_
      refine lv_iload_n hx hb dX1_holdsIn_25 rfl (lv_at hl 3 rfl) ?_
      refine cpN (As := [.int b]) (rest := [.int (v &&& (bitOfI b)), .int (bI (decide (v &&& bitOfI a = bitI a))), .int op]) ⟨hx, hb, hml, hown, hts⟩ (c_X7_bit l G b) ⟨va_cnB (own := RX1) (host := RX7) (index := 39) (y := yX7_bit) 1 hts gX1_holdsIn_X7_bit_n39 rfl rfl rfl (hKK.2.nth 10 (q := (RX1, 39, yX7_bit)) rfl) (hts _ fX1_holdsIn_0) hd_X7_bit ⟨Nat.le_of_ble_eq_true rfl, Nat.le_of_ble_eq_true rfl⟩, (hts _ fX1_holdsIn_1), trivial⟩ hKK hP [] rfl rfl hl.1 rfl (Nat.le_of_ble_eq_true rfl) dX1_holdsIn_26 ⟨Nat.zero_le _, Nat.zero_le _⟩ ?_
      refine lv_icmp_ne (tgt := 36) hx hb dX1_holdsIn_29 (by decide) (fun c_29 => ?_) (fun c_29 => ?_)
      · skip
        refine lv_iconst (v := 0) hx hb dX1_holdsIn_36 (by decide) ?_
        refine stI (y := (bI (decide (v &&& bitOfI b = bitI b)))) (bI_no _ decide_eq_true_iff c_29) ?_
        exact hJ_37 ls (lv_sub hl [0, 1, 2, 3] rfl)
      · skip
        refine lv_iconst (v := 1) hx hb dX1_holdsIn_32 (by decide) ?_
        refine lv_goto (tgt := 37) hx hb dX1_holdsIn_33 (by decide) ?_
        refine stI (y := (bI (decide (v &&& bitOfI b = bitI b)))) (bI_of _ decide_eq_true_iff c_29) ?_
        exact hJ_37 ls (lv_sub hl [0, 1, 2, 3] rfl)
  · skip
    refine lv_iload_n hx hb dX1_holdsIn_0 rfl (lv_at hl 1 rfl) ?_
    refine lv_iload_n hx hb dX1_holdsIn_1 rfl (lv_at hl 0 rfl) ?_
    refine lv_iload_n hx hb dX1_holdsIn_2 rfl (lv_at hl 2 rfl) ?_
    refine cpS (As := [.int a]) (rest := [.int v, .int op]) ⟨hx, hb, hml, hown, hts⟩ (c_X1_bitOf l G a) (va_cwS 1 hts gX1_holdsIn_X1_bitOf rfl rfl rfl hd_X1_bitOf ⟨Nat.le_of_ble_eq_true rfl, Nat.le_of_ble_eq_true rfl⟩) hKK hP [] rfl rfl hl.1 rfl (Nat.le_of_ble_eq_true rfl) dX1_holdsIn_3 ⟨Nat.zero_le _, Nat.zero_le _⟩ ?_
    refine lv_iand hx hb dX1_holdsIn_6 ?_
    refine lv_iload_n hx hb dX1_holdsIn_7 rfl (lv_at hl 2 rfl) ?_
    refine cpN (As := [.int a]) (rest := [.int (v &&& (bitOfI a)), .int op]) ⟨hx, hb, hml, hown, hts⟩ (c_X7_bit l G a) ⟨va_cnB (own := RX1) (host := RX7) (index := 39) (y := yX7_bit) 1 hts gX1_holdsIn_X7_bit_n39 rfl rfl rfl (hKK.2.nth 10 (q := (RX1, 39, yX7_bit)) rfl) (hts _ fX1_holdsIn_0) hd_X7_bit ⟨Nat.le_of_ble_eq_true rfl, Nat.le_of_ble_eq_true rfl⟩, (hts _ fX1_holdsIn_1), trivial⟩ hKK hP [] rfl rfl hl.1 rfl (Nat.le_of_ble_eq_true rfl) dX1_holdsIn_8 ⟨Nat.zero_le _, Nat.zero_le _⟩ ?_
    refine lv_icmp_ne (tgt := 18) hx hb dX1_holdsIn_11 (by decide) (fun c_11 => ?_) (fun c_11 => ?_)
    · skip
      refine lv_iconst (v := 0) hx hb dX1_holdsIn_18 (by decide) ?_
      refine stI (y := (bI (decide (v &&& bitOfI a = bitI a)))) (bI_no _ decide_eq_true_iff c_11) ?_
      exact hJ_19 ls (lv_sub hl [0, 1, 2, 3] rfl)
    · skip
      refine lv_iconst (v := 1) hx hb dX1_holdsIn_14 (by decide) ?_
      refine lv_goto (tgt := 19) hx hb dX1_holdsIn_15 (by decide) ?_
      refine stI (y := (bI (decide (v &&& bitOfI a = bitI a)))) (bI_of _ decide_eq_true_iff c_11) ?_
      exact hJ_19 ls (lv_sub hl [0, 1, 2, 3] rfl)

theorem hd_X1_holdsIn : yX1_holdsIn.cls ≠ "java/lang/invoke/MethodHandle" ∧ yX1_holdsIn.cls ≠ "java/lang/invoke/VarHandle" ∧ (parseMethodDescriptor yX1_holdsIn.desc).map (fun d => d.parameters.length) = some 4 := by decide +kernel
set_option maxHeartbeats 4000000 in
set_option maxRecDepth 100000 in
/-- Formulas.isAlwaysTrue -/
theorem c_X1_isAlwaysTrue (l : Launch) (G : GG) (op a b : Int32) : Met l yX1_isAlwaysTrue wsX1_isAlwaysTrue (rmK 3) (va_Pc [.int op, .int a, .int b] (PS G [])) (QcRead (bI (alwaysB op a b))) 0 0 (fun _ => False) := by
  refine Met.ofW (cc := cX1_isAlwaysTrue) (maxL := 5) (ret := (some .boolean)) (by decide) rfl ?_
  intro p e s m args below meth c s₁ B hml hv
  obtain ⟨rfl, hP, hKK⟩ := hv
  have hx := B.exec
  have hb := B.bytes
  have hr := B.returns
  have hts := atoms_spec (ws := wsX1_isAlwaysTrue) B.pre
  have hown : s.vm.findClass RX1 = some m.cls := findClass_of_methodNamed B.named
  have hlocks := B.notSynchronized
  have hK := hKK.1
  have hl := lv_entry ([.int op, .int a, .int b]) (n := 5) (Nat.le_of_ble_eq_true rfl)
  rw [lg_entry_eq]
  generalize (lg_sl ([.int op, .int a, .int b]) ++ List.replicate (5 - (lg_sl ([.int op, .int a, .int b])).length) Slot.unset).toArray = ls at hl ⊢
  have hl : lv_has ls 5 [(0, .int op), (1, .int a), (2, .int b)] := hl
  refine lv_iload_n hx hb dX1_isAlwaysTrue_0 rfl (lv_at hl 1 rfl) ?_
  refine cpS (As := [.int a]) (rest := []) ⟨hx, hb, hml, hown, hts⟩ (c_X1_bitOf l G a) (va_cwS 1 hts gX1_isAlwaysTrue_X1_bitOf rfl rfl rfl hd_X1_bitOf ⟨Nat.le_of_ble_eq_true rfl, Nat.le_of_ble_eq_true rfl⟩) hKK hP [] rfl rfl hl.1 rfl (Nat.le_of_ble_eq_true rfl) dX1_isAlwaysTrue_1 ⟨Nat.zero_le _, Nat.zero_le _⟩ ?_
  refine lv_istore_n (lv' := [(3, .int (bitOfI a)), (0, .int op), (1, .int a), (2, .int b)]) hx hb dX1_isAlwaysTrue_4 rfl hl (by decide) rfl (fun ls hl => ?_)
  refine lv_iload_n hx hb dX1_isAlwaysTrue_5 rfl (lv_at hl 3 rfl) ?_
  refine cpS (As := [.int b]) (rest := []) ⟨hx, hb, hml, hown, hts⟩ (c_X1_bitOf l G b) (va_cwS 1 hts gX1_isAlwaysTrue_X1_bitOf rfl rfl rfl hd_X1_bitOf ⟨Nat.le_of_ble_eq_true rfl, Nat.le_of_ble_eq_true rfl⟩) hKK hP [] rfl rfl hl.1 rfl (Nat.le_of_ble_eq_true rfl) dX1_isAlwaysTrue_6 ⟨Nat.zero_le _, Nat.zero_le _⟩ ?_
  refine lv_istore (lv' := [(4, .int (bitOfI b)), (3, .int (bitOfI a)), (0, .int op), (1, .int a), (2, .int b)]) hx hb dX1_isAlwaysTrue_9 hl (by decide) rfl (fun ls hl => ?_)
  refine lv_iconst (v := 0) hx hb dX1_isAlwaysTrue_11 (by decide) ?_
  refine lv_iload_n hx hb dX1_isAlwaysTrue_12 rfl (lv_at hl 2 rfl) ?_
  refine lv_iload_n hx hb dX1_isAlwaysTrue_13 rfl (lv_at hl 3 rfl) ?_
  refine lv_iload_n hx hb dX1_isAlwaysTrue_14 rfl (lv_at hl 4 rfl) ?_
  refine cpS (As := [.int 0, .int op, .int a, .int b]) (rest := []) ⟨hx, hb, hml, hown, hts⟩ (c_X1_holdsIn l G 0 op a b) (va_cwS 4 hts gX1_isAlwaysTrue_X1_holdsIn rfl rfl rfl hd_X1_holdsIn ⟨Nat.le_of_ble_eq_true rfl, Nat.le_of_ble_eq_true rfl⟩) hKK hP [] rfl rfl hl.1 rfl (Nat.le_of_ble_eq_true rfl) dX1_isAlwaysTrue_15 ⟨Nat.zero_le _, Nat.zero_le _⟩ ?_
  refine lv_if_eq (tgt := 59) hx hb dX1_isAlwaysTrue_18 (by decide) (fun c_18 => ?_) (fun c_18 => ?_)
  · skip
    refine lv_iconst (v := 0) hx hb dX1_isAlwaysTrue_59 (by decide) ?_
    exact pret hx hb hr hlocks rfl (by unfold alwaysB; rw [bI_0.mp c_18]; rfl) dX1_isAlwaysTrue_60
  · skip
    refine lv_iload_n hx hb dX1_isAlwaysTrue_21 rfl (lv_at hl 1 rfl) ?_
    refine lv_iload_n hx hb dX1_isAlwaysTrue_22 rfl (lv_at hl 2 rfl) ?_
    refine lv_iload_n hx hb dX1_isAlwaysTrue_23 rfl (lv_at hl 3 rfl) ?_
    refine lv_iload_n hx hb dX1_isAlwaysTrue_24 rfl (lv_at hl 4 rfl) ?_
    refine cpS (As := [.int (bitOfI a), .int op, .int a, .int b]) (rest := []) ⟨hx, hb, hml, hown, hts⟩ (c_X1_holdsIn l G (bitOfI a) op a b) (va_cwS 4 hts gX1_isAlwaysTrue_X1_holdsIn rfl rfl rfl hd_X1_holdsIn ⟨Nat.le_of_ble_eq_true rfl, Nat.le_of_ble_eq_true rfl⟩) hKK hP [] rfl rfl hl.1 rfl (Nat.le_of_ble_eq_true rfl) dX1_isAlwaysTrue_25 ⟨Nat.zero_le _, Nat.zero_le _⟩ ?_
    refine lv_if_eq (tgt := 59) hx hb dX1_isAlwaysTrue_28 (by decide) (fun c_28 => ?_) (fun c_28 => ?_)
    · skip
      refine lv_iconst (v := 0) hx hb dX1_isAlwaysTrue_59 (by decide) ?_
      exact pret hx hb hr hlocks rfl (by unfold alwaysB; rw [bI_n0 c_18, bI_0.mp c_28]; rfl) dX1_isAlwaysTrue_60
    · skip
      refine lv_iload hx hb dX1_isAlwaysTrue_31 (lv_at hl 0 rfl) ?_
      refine lv_iload_n hx hb dX1_isAlwaysTrue_33 rfl (lv_at hl 2 rfl) ?_
      refine lv_iload_n hx hb dX1_isAlwaysTrue_34 rfl (lv_at hl 3 rfl) ?_
      refine lv_iload_n hx hb dX1_isAlwaysTrue_35 rfl (lv_at hl 4 rfl) ?_
      refine cpS (As := [.int (bitOfI b), .int op, .int a, .int b]) (rest := []) ⟨hx, hb, hml, hown, hts⟩ (c_X1_holdsIn l G (bitOfI b) op a b) (va_cwS 4 hts gX1_isAlwaysTrue_X1_holdsIn rfl rfl rfl hd_X1_holdsIn ⟨Nat.le_of_ble_eq_true rfl, Nat.le_of_ble_eq_true rfl⟩) hKK hP [] rfl rfl hl.1 rfl (Nat.le_of_ble_eq_true rfl) dX1_isAlwaysTrue_36 ⟨Nat.zero_le _, Nat.zero_le _⟩ ?_
      refine lv_if_eq (tgt := 59) hx hb dX1_isAlwaysTrue_39 (by decide) (fun c_39 => ?_) (fun c_39 => ?_)
      · skip
        refine lv_iconst (v := 0) hx hb dX1_isAlwaysTrue_59 (by decide) ?_
        exact pret hx hb hr hlocks rfl (by unfold alwaysB; rw [bI_n0 c_18, bI_n0 c_28, bI_0.mp c_39]; rfl) dX1_isAlwaysTrue_60
      · skip
        refine lv_iload_n hx hb dX1_isAlwaysTrue_42 rfl (lv_at hl 1 rfl) ?_
        refine lv_iload hx hb dX1_isAlwaysTrue_43 (lv_at hl 0 rfl) ?_
        refine lv_ior hx hb dX1_isAlwaysTrue_45 ?_
        refine lv_iload_n hx hb dX1_isAlwaysTrue_46 rfl (lv_at hl 2 rfl) ?_
        refine lv_iload_n hx hb dX1_isAlwaysTrue_47 rfl (lv_at hl 3 rfl) ?_
        refine lv_iload_n hx hb dX1_isAlwaysTrue_48 rfl (lv_at hl 4 rfl) ?_
        refine cpS (As := [.int ((bitOfI a) ||| (bitOfI b)), .int op, .int a, .int b]) (rest := []) ⟨hx, hb, hml, hown, hts⟩ (c_X1_holdsIn l G ((bitOfI a) ||| (bitOfI b)) op a b) (va_cwS 4 hts gX1_isAlwaysTrue_X1_holdsIn rfl rfl rfl hd_X1_holdsIn ⟨Nat.le_of_ble_eq_true rfl, Nat.le_of_ble_eq_true rfl⟩) hKK hP [] rfl rfl hl.1 rfl (Nat.le_of_ble_eq_true rfl) dX1_isAlwaysTrue_49 ⟨Nat.zero_le _, Nat.zero_le _⟩ ?_
        refine lv_if_eq (tgt := 59) hx hb dX1_isAlwaysTrue_52 (by decide) (fun c_52 => ?_) (fun c_52 => ?_)
        · skip
          refine lv_iconst (v := 0) hx hb dX1_isAlwaysTrue_59 (by decide) ?_
          exact pret hx hb hr hlocks rfl (by unfold alwaysB; rw [bI_n0 c_18, bI_n0 c_28, bI_n0 c_39, bI_0.mp c_52]; rfl) dX1_isAlwaysTrue_60
        · skip
          refine lv_iconst (v := 1) hx hb dX1_isAlwaysTrue_55 (by decide) ?_
          refine lv_goto (tgt := 60) hx hb dX1_isAlwaysTrue_56 (by decide) ?_
          exact pret hx hb hr hlocks rfl (by unfold alwaysB; rw [bI_n0 c_18, bI_n0 c_28, bI_n0 c_39, bI_n0 c_52]; rfl) dX1_isAlwaysTrue_60

theorem iX5_has_X5 : ∀ w ∈ u_ws RX5 TX5 8, w ∈ wsX5_has := by decide +kernel
theorem fX5_has_1 : Cond.fieldLink RX5 30 "FeatureSolve$Tree" "size" "I" ∈ wsX5_has := by decide +kernel
set_option maxHeartbeats 4000000 in
set_option maxRecDepth 100000 in
/-- Tree.has(x) -/
theorem c_X5_has (l : Launch) (G : GG) (h : Nat) (z : Int32) (k1 k2 k3 k4 k5 k6 : Nat) (bd : Int32) (x : Int32) : Met l yX5_has wsX5_has (rmK 0) (va_Pc [.ref h, .int x] (PS G [(oX5 h z k1 k2 k3 k4 k5 k6 bd)])) (QcRead (bI (hasB z x))) 0 0 (fun _ => False) := by
  refine Met.ofW (cc := cX5_has) (maxL := 2) (ret := (some .boolean)) (by decide) rfl ?_
  intro p e s m args below meth c s₁ B hml hv
  obtain ⟨rfl, hP, hKK⟩ := hv
  have hx := B.exec
  have hb := B.bytes
  have hr := B.returns
  have hts := atoms_spec (ws := wsX5_has) B.pre
  have hown : s.vm.findClass RX5 = some m.cls := findClass_of_methodNamed B.named
  have hlocks := B.notSynchronized
  have hK := hKK.1
  have hl := lv_entry ([.ref h, .int x]) (n := 2) (Nat.le_of_ble_eq_true rfl)
  rw [lg_entry_eq]
  generalize (lg_sl ([.ref h, .int x]) ++ List.replicate (2 - (lg_sl ([.ref h, .int x])).length) Slot.unset).toArray = ls at hl ⊢
  have hl : lv_has ls 2 [(0, .ref h), (1, .int x)] := hl
  refine lv_iload_n hx hb dX5_has_0 rfl (lv_at hl 1 rfl) ?_
  refine lv_iconst (v := 1) hx hb dX5_has_1 (by decide) ?_
  refine lv_icmp_lt (tgt := 17) hx hb dX5_has_2 (by decide) (fun c_2 => ?_) (fun c_2 => ?_)
  · skip
    refine lv_iconst (v := 0) hx hb dX5_has_17 (by decide) ?_
    exact pret hx hb hr hlocks rfl (bI_no _ hasB_iff (fun h => i_lt1.mp c_2 h.1)) dX5_has_18
  · skip
    refine lv_iload_n hx hb dX5_has_5 rfl (lv_at hl 1 rfl) ?_
    refine lv_aload_n hx hb dX5_has_6 rfl (lv_at hl 0 rfl) ?_
    refine va_get (D := G.1) (ci := 7) (v := .int z) (C := RX5) (T := TX5) (N := 8) hx hb hts iX5_has_X5 hown hK hP 0 rfl rfl 0 (by decide) (hts _ fX5_has_1) (fun _ h9 => h9) rfl dX5_has_7 ?_
    refine lv_icmp_gt (tgt := 17) hx hb dX5_has_10 (by decide) (fun c_10 => ?_) (fun c_10 => ?_)
    · skip
      refine lv_iconst (v := 0) hx hb dX5_has_17 (by decide) ?_
      exact pret hx hb hr hlocks rfl (bI_no _ hasB_iff (fun h => i_nlt.mpr h.2 c_10)) dX5_has_18
    · skip
      refine lv_iconst (v := 1) hx hb dX5_has_13 (by decide) ?_
      refine lv_goto (tgt := 18) hx hb dX5_has_14 (by decide) ?_
      exact pret hx hb hr hlocks rfl (bI_of _ hasB_iff ⟨i_nlt.mp c_2, i_nlt.mp c_10⟩) dX5_has_18

theorem hd_X5_has : yX5_has.cls ≠ "java/lang/invoke/MethodHandle" ∧ yX5_has.cls ≠ "java/lang/invoke/VarHandle" ∧ (parseMethodDescriptor yX5_has.desc).map (fun d => d.parameters.length) = some 1 := by decide +kernel
set_option maxHeartbeats 4000000 in
set_option maxRecDepth 100000 in
/-- Tree.hasSigned(x) -/
theorem c_X5_hasSigned (l : Launch) (G : GG) (h : Nat) (z : Int32) (k1 k2 k3 k4 k5 k6 : Nat) (bd : Int32) (x : Int32) : Met l yX5_hasSigned wsX5_hasSigned (rmK 1) (va_Pc [.ref h, .int x] (PS G [(oX5 h z k1 k2 k3 k4 k5 k6 bd)])) (QcRead (bI (hasSignedB z x))) 0 0 (fun _ => False) := by
  refine Met.ofW (cc := cX5_hasSigned) (maxL := 2) (ret := (some .boolean)) (by decide) rfl ?_
  intro p e s m args below meth c s₁ B hml hv
  obtain ⟨rfl, hP, hKK⟩ := hv
  have hx := B.exec
  have hb := B.bytes
  have hr := B.returns
  have hts := atoms_spec (ws := wsX5_hasSigned) B.pre
  have hown : s.vm.findClass RX5 = some m.cls := findClass_of_methodNamed B.named
  have hlocks := B.notSynchronized
  have hK := hKK.1
  have hl := lv_entry ([.ref h, .int x]) (n := 2) (Nat.le_of_ble_eq_true rfl)
  rw [lg_entry_eq]
  generalize (lg_sl ([.ref h, .int x]) ++ List.replicate (2 - (lg_sl ([.ref h, .int x])).length) Slot.unset).toArray = ls at hl ⊢
  have hl : lv_has ls 2 [(0, .ref h), (1, .int x)] := hl
  refine lv_aload_n hx hb dX5_hasSigned_0 rfl (lv_at hl 0 rfl) ?_
  refine lv_iload_n hx hb dX5_hasSigned_1 rfl (lv_at hl 1 rfl) ?_
  refine lv_if_ge (tgt := 10) hx hb dX5_hasSigned_2 (by decide) (fun c_2 => ?_) (fun c_2 => ?_)
  · skip
    refine lv_iload_n hx hb dX5_hasSigned_10 rfl (lv_at hl 1 rfl) ?_
    refine cpV (ci := 7) (T0 := TX5) (N := 8) (As := [.int x]) (rest := []) ⟨hx, hb, hml, hown, hts⟩ (c_X5_has l G h z k1 k2 k3 k4 k5 k6 bd x) (cwV 1 hts gX5_hasSigned_X5_has rfl rfl rfl ⟨rfl, hd_X5_has⟩ ⟨Nat.le_of_ble_eq_true rfl, Nat.le_of_ble_eq_true rfl⟩) hKK hP [0] rfl rfl rfl rfl hl.1 rfl (Nat.le_of_ble_eq_true rfl) dX5_hasSigned_11 ⟨Nat.zero_le _, Nat.zero_le _⟩ ?_
    exact pret hx hb hr hlocks (bI_nar _) (by unfold hasSignedB; rw [if_pos c_2]) dX5_hasSigned_14
  · skip
    refine lv_iload_n hx hb dX5_hasSigned_5 rfl (lv_at hl 1 rfl) ?_
    refine lv_ineg hx hb dX5_hasSigned_6 ?_
    refine lv_goto (tgt := 11) hx hb dX5_hasSigned_7 (by decide) ?_
    refine cpV (ci := 7) (T0 := TX5) (N := 8) (As := [.int (-x)]) (rest := []) ⟨hx, hb, hml, hown, hts⟩ (c_X5_has l G h z k1 k2 k3 k4 k5 k6 bd (-x)) (cwV 1 hts gX5_hasSigned_X5_has rfl rfl rfl ⟨rfl, hd_X5_has⟩ ⟨Nat.le_of_ble_eq_true rfl, Nat.le_of_ble_eq_true rfl⟩) hKK hP [0] rfl rfl rfl rfl hl.1 rfl (Nat.le_of_ble_eq_true rfl) dX5_hasSigned_11 ⟨Nat.zero_le _, Nat.zero_le _⟩ ?_
    exact pret hx hb hr hlocks (bI_nar _) (by unfold hasSignedB; rw [if_neg c_2]) dX5_hasSigned_14

theorem iX5_takesParent_X5 : ∀ w ∈ u_ws RX5 TX5 8, w ∈ wsX5_takesParent := by decide +kernel
theorem fX5_takesParent_1 : Cond.fieldLink RX5 30 "FeatureSolve$Tree" "size" "I" ∈ wsX5_takesParent := by decide +kernel
set_option maxHeartbeats 4000000 in
set_option maxRecDepth 100000 in
/-- Tree.takesParent(x) -/
theorem c_X5_takesParent (l : Launch) (G : GG) (h : Nat) (z : Int32) (k1 k2 k3 k4 k5 k6 : Nat) (bd : Int32) (x : Int32) : Met l yX5_takesParent wsX5_takesParent (rmK 1) (va_Pc [.ref h, .int x] (PS G [(oX5 h z k1 k2 k3 k4 k5 k6 bd)])) (QcRead (bI (takesB z x))) 0 0 (fun _ => False) := by
  refine Met.ofW (cc := cX5_takesParent) (maxL := 2) (ret := (some .boolean)) (by decide) rfl ?_
  intro p e s m args below meth c s₁ B hml hv
  obtain ⟨rfl, hP, hKK⟩ := hv
  have hx := B.exec
  have hb := B.bytes
  have hr := B.returns
  have hts := atoms_spec (ws := wsX5_takesParent) B.pre
  have hown : s.vm.findClass RX5 = some m.cls := findClass_of_methodNamed B.named
  have hlocks := B.notSynchronized
  have hK := hKK.1
  have hl := lv_entry ([.ref h, .int x]) (n := 2) (Nat.le_of_ble_eq_true rfl)
  rw [lg_entry_eq]
  generalize (lg_sl ([.ref h, .int x]) ++ List.replicate (2 - (lg_sl ([.ref h, .int x])).length) Slot.unset).toArray = ls at hl ⊢
  have hl : lv_has ls 2 [(0, .ref h), (1, .int x)] := hl
  refine lv_aload_n hx hb dX5_takesParent_0 rfl (lv_at hl 0 rfl) ?_
  refine va_get (D := G.1) (ci := 7) (v := .int z) (C := RX5) (T := TX5) (N := 8) hx hb hts iX5_takesParent_X5 hown hK hP 0 rfl rfl 0 (by decide) (hts _ fX5_takesParent_1) (fun _ h9 => h9) rfl dX5_takesParent_1 ?_
  refine lv_if_ne (tgt := 19) hx hb dX5_takesParent_4 (by decide) (fun c_4 => ?_) (fun c_4 => ?_)
  · skip
    refine lv_aload_n hx hb dX5_takesParent_19 rfl (lv_at hl 0 rfl) ?_
    refine lv_iload_n hx hb dX5_takesParent_20 rfl (lv_at hl 1 rfl) ?_
    refine cpV (ci := 7) (T0 := TX5) (N := 8) (As := [.int x]) (rest := []) ⟨hx, hb, hml, hown, hts⟩ (c_X5_has l G h z k1 k2 k3 k4 k5 k6 bd x) (cwV 1 hts gX5_takesParent_X5_has rfl rfl rfl ⟨rfl, hd_X5_has⟩ ⟨Nat.le_of_ble_eq_true rfl, Nat.le_of_ble_eq_true rfl⟩) hKK hP [0] rfl rfl rfl rfl hl.1 rfl (Nat.le_of_ble_eq_true rfl) dX5_takesParent_21 ⟨Nat.zero_le _, Nat.zero_le _⟩ ?_
    exact pret hx hb hr hlocks (bI_nar _) (by unfold takesB; rw [if_neg c_4]) dX5_takesParent_24
  · skip
    refine lv_iload_n hx hb dX5_takesParent_7 rfl (lv_at hl 1 rfl) ?_
    refine lv_if_ne (tgt := 15) hx hb dX5_takesParent_8 (by decide) (fun c_8 => ?_) (fun c_8 => ?_)
    · skip
      refine lv_iconst (v := 0) hx hb dX5_takesParent_15 (by decide) ?_
      refine lv_goto (tgt := 24) hx hb dX5_takesParent_16 (by decide) ?_
      exact pret hx hb hr hlocks rfl (by unfold takesB; rw [if_pos c_4]; exact bI_no _ decide_eq_true_iff c_8) dX5_takesParent_24
    · skip
      refine lv_iconst (v := 1) hx hb dX5_takesParent_11 (by decide) ?_
      refine lv_goto (tgt := 24) hx hb dX5_takesParent_12 (by decide) ?_
      exact pret hx hb hr hlocks rfl (by unfold takesB; rw [if_pos c_4]; exact bI_of _ decide_eq_true_iff c_8) dX5_takesParent_24

theorem iX5_above_X5 : ∀ w ∈ u_ws RX5 TX5 8, w ∈ wsX5_above := by decide +kernel
theorem fX5_above_1 : Cond.fieldLink RX5 15 "FeatureSolve$Tree" "depths" "[I" ∈ wsX5_above := by decide +kernel
theorem hd_X7_at : yX7_at.cls ≠ "java/lang/invoke/MethodHandle" ∧ yX7_at.cls ≠ "java/lang/invoke/VarHandle" ∧ (parseMethodDescriptor yX7_at.desc).map (fun d => d.parameters.length) = some 2 := by decide +kernel
theorem fX5_above_2 : Cond.initialized RX7 ∈ wsX5_above := by decide +kernel
theorem fX5_above_3 : Cond.static yX7_at ∈ wsX5_above := by decide +kernel
set_option maxHeartbeats 4000000 in
set_option maxRecDepth 100000 in
/-- Tree.above(f) -/
theorem c_X5_above (l : Launch) (G : GG) (h : Nat) (z : Int32) (k1 k2 k3 k4 k5 k6 : Nat) (bd : Int32) (dp : Nat → Int32) (f : Nat) (hf : f < 15) : Met l yX5_above wsX5_above (rmK 1) (va_Pc [.ref h, .int (nI f)] (PS G [(oX5 h z k1 k2 k3 k4 k5 k6 bd), (cI G k2 15 dp)])) (QcRead (dp f)) 0 0 (fun _ => False) := by
  refine Met.ofW (cc := cX5_above) (maxL := 2) (ret := (some .int)) (by decide) rfl ?_
  intro p e s m args below meth c s₁ B hml hv
  obtain ⟨rfl, hP, hKK⟩ := hv
  have hx := B.exec
  have hb := B.bytes
  have hr := B.returns
  have hts := atoms_spec (ws := wsX5_above) B.pre
  have hown : s.vm.findClass RX5 = some m.cls := findClass_of_methodNamed B.named
  have hlocks := B.notSynchronized
  have hK := hKK.1
  have hl := lv_entry ([.ref h, .int (nI f)]) (n := 2) (Nat.le_of_ble_eq_true rfl)
  rw [lg_entry_eq]
  generalize (lg_sl ([.ref h, .int (nI f)]) ++ List.replicate (2 - (lg_sl ([.ref h, .int (nI f)])).length) Slot.unset).toArray = ls at hl ⊢
  have hl : lv_has ls 2 [(0, .ref h), (1, .int (nI f))] := hl
  refine lv_aload_n hx hb dX5_above_0 rfl (lv_at hl 0 rfl) ?_
  refine va_get (D := G.1) (ci := 7) (v := .ref k2) (C := RX5) (T := TX5) (N := 8) hx hb hts iX5_above_X5 hown hK hP 0 rfl rfl 2 (by decide) (hts _ fX5_above_1) (fun _ h9 => h9) rfl dX5_above_1 ?_
  refine lv_iload_n hx hb dX5_above_4 rfl (lv_at hl 1 rfl) ?_
  refine cpN (As := [.ref k2, .int (nI f)]) (rest := []) ⟨hx, hb, hml, hown, hts⟩ (c_X7_atk l G k2 15 dp (nI f) f (rfl) (by omega) (by decide)) ⟨va_cnB (own := RX5) (host := RX7) (index := 42) (y := yX7_at) 2 hts gX5_above_X7_at_n42 rfl rfl rfl (hKK.2.nth 8 (q := (RX5, 42, yX7_at)) rfl) (hts _ fX5_above_2) hd_X7_at ⟨Nat.le_of_ble_eq_true rfl, Nat.le_of_ble_eq_true rfl⟩, (hts _ fX5_above_3), trivial⟩ hKK hP [1] rfl rfl hl.1 rfl (Nat.le_of_ble_eq_true rfl) dX5_above_5 ⟨Nat.zero_le _, Nat.zero_le _⟩ ?_
  exact pret hx hb hr hlocks rfl (rfl) dX5_above_8

theorem iX5_mayBeIn_X5 : ∀ w ∈ u_ws RX5 TX5 8, w ∈ wsX5_mayBeIn := by decide +kernel
theorem fX5_mayBeIn_1 : Cond.fieldLink RX5 18 "FeatureSolve$Tree" "parentBits" "[I" ∈ wsX5_mayBeIn := by decide +kernel
theorem fX5_mayBeIn_2 : Cond.initialized RX7 ∈ wsX5_mayBeIn := by decide +kernel
theorem fX5_mayBeIn_3 : Cond.static yX7_at ∈ wsX5_mayBeIn := by decide +kernel
set_option maxHeartbeats 4000000 in
set_option maxRecDepth 100000 in
/-- Tree.mayBeIn(v, f) -/
theorem c_X5_mayBeIn (l : Launch) (G : GG) (h : Nat) (z : Int32) (k1 k2 k3 k4 k5 k6 : Nat) (bd : Int32) (pb : Nat → Int32) (v : Int32) (f : Nat) (hf : f < 15) : Met l yX5_mayBeIn wsX5_mayBeIn (rmK 1) (va_Pc [.ref h, .int v, .int (nI f)] (PS G [(oX5 h z k1 k2 k3 k4 k5 k6 bd), (cI G k3 15 pb)])) (QcRead (bI (mayInB pb v f))) 0 0 (fun _ => False) := by
  refine Met.ofW (cc := cX5_mayBeIn) (maxL := 3) (ret := (some .boolean)) (by decide) rfl ?_
  intro p e s m args below meth c s₁ B hml hv
  obtain ⟨rfl, hP, hKK⟩ := hv
  have hx := B.exec
  have hb := B.bytes
  have hr := B.returns
  have hts := atoms_spec (ws := wsX5_mayBeIn) B.pre
  have hown : s.vm.findClass RX5 = some m.cls := findClass_of_methodNamed B.named
  have hlocks := B.notSynchronized
  have hK := hKK.1
  have hl := lv_entry ([.ref h, .int v, .int (nI f)]) (n := 3) (Nat.le_of_ble_eq_true rfl)
  rw [lg_entry_eq]
  generalize (lg_sl ([.ref h, .int v, .int (nI f)]) ++ List.replicate (3 - (lg_sl ([.ref h, .int v, .int (nI f)])).length) Slot.unset).toArray = ls at hl ⊢
  have hl : lv_has ls 3 [(0, .ref h), (1, .int v), (2, .int (nI f))] := hl
  refine lv_iload_n hx hb dX5_mayBeIn_0 rfl (lv_at hl 2 rfl) ?_
  refine lv_iconst (v := 1) hx hb dX5_mayBeIn_1 (by decide) ?_
  refine lv_icmp_eq (tgt := 18) hx hb dX5_mayBeIn_2 (by decide) (fun c_2 => ?_) (fun c_2 => ?_)
  · skip
    refine lv_iconst (v := 1) hx hb dX5_mayBeIn_18 (by decide) ?_
    refine lv_goto (tgt := 23) hx hb dX5_mayBeIn_19 (by decide) ?_
    exact pret hx hb hr hlocks rfl (by unfold mayInB; rw [if_pos ((nI_eq1 (by omega)).mp c_2)]; rfl) dX5_mayBeIn_23
  · skip
    refine lv_iload_n hx hb dX5_mayBeIn_5 rfl (lv_at hl 1 rfl) ?_
    refine lv_aload_n hx hb dX5_mayBeIn_6 rfl (lv_at hl 0 rfl) ?_
    refine va_get (D := G.1) (ci := 7) (v := .ref k3) (C := RX5) (T := TX5) (N := 8) hx hb hts iX5_mayBeIn_X5 hown hK hP 0 rfl rfl 3 (by decide) (hts _ fX5_mayBeIn_1) (fun _ h9 => h9) rfl dX5_mayBeIn_7 ?_
    refine lv_iload_n hx hb dX5_mayBeIn_10 rfl (lv_at hl 2 rfl) ?_
    refine cpN (As := [.ref k3, .int (nI f)]) (rest := [.int v]) ⟨hx, hb, hml, hown, hts⟩ (c_X7_atk l G k3 15 pb (nI f) f (rfl) (by omega) (by decide)) ⟨va_cnB (own := RX5) (host := RX7) (index := 42) (y := yX7_at) 2 hts gX5_mayBeIn_X7_at_n42 rfl rfl rfl (hKK.2.nth 8 (q := (RX5, 42, yX7_at)) rfl) (hts _ fX5_mayBeIn_2) hd_X7_at ⟨Nat.le_of_ble_eq_true rfl, Nat.le_of_ble_eq_true rfl⟩, (hts _ fX5_mayBeIn_3), trivial⟩ hKK hP [1] rfl rfl hl.1 rfl (Nat.le_of_ble_eq_true rfl) dX5_mayBeIn_11 ⟨Nat.zero_le _, Nat.zero_le _⟩ ?_
    refine lv_iand hx hb dX5_mayBeIn_14 ?_
    refine lv_if_eq (tgt := 22) hx hb dX5_mayBeIn_15 (by decide) (fun c_15 => ?_) (fun c_15 => ?_)
    · skip
      refine lv_iconst (v := 0) hx hb dX5_mayBeIn_22 (by decide) ?_
      exact pret hx hb hr hlocks rfl (by unfold mayInB; rw [if_neg (mt (nI_eq1 (by omega)).mpr c_2)]; exact bI_no _ decide_eq_true_iff (fun h => h c_15)) dX5_mayBeIn_23
    · skip
      refine lv_iconst (v := 1) hx hb dX5_mayBeIn_18 (by decide) ?_
      refine lv_goto (tgt := 23) hx hb dX5_mayBeIn_19 (by decide) ?_
      exact pret hx hb hr hlocks rfl (by unfold mayInB; rw [if_neg (mt (nI_eq1 (by omega)).mpr c_2)]; exact bI_of _ decide_eq_true_iff c_15) dX5_mayBeIn_23

theorem iX5_mayBeOut_X5 : ∀ w ∈ u_ws RX5 TX5 8, w ∈ wsX5_mayBeOut := by decide +kernel
theorem fX5_mayBeOut_1 : Cond.fieldLink RX5 9 "FeatureSolve$Tree" "kinds" "[I" ∈ wsX5_mayBeOut := by decide +kernel
theorem fX5_mayBeOut_2 : Cond.initialized RX7 ∈ wsX5_mayBeOut := by decide +kernel
theorem fX5_mayBeOut_3 : Cond.static yX7_at ∈ wsX5_mayBeOut := by decide +kernel
theorem fX5_mayBeOut_4 : Cond.fieldLink RX5 18 "FeatureSolve$Tree" "parentBits" "[I" ∈ wsX5_mayBeOut := by decide +kernel
set_option maxHeartbeats 4000000 in
set_option maxRecDepth 100000 in
/-- Tree.mayBeOut(v, f) -/
theorem c_X5_mayBeOut (l : Launch) (G : GG) (h : Nat) (z : Int32) (k1 k2 k3 k4 k5 k6 : Nat) (bd : Int32) (kd pb : Nat → Int32) (v : Int32) (f : Nat) (hf : f < 15) : Met l yX5_mayBeOut wsX5_mayBeOut (rmK 1) (va_Pc [.ref h, .int v, .int (nI f)] (PS G [(oX5 h z k1 k2 k3 k4 k5 k6 bd), (cI G k1 15 kd), (cI G k3 15 pb)])) (QcRead (bI (mayOutB kd pb v f))) 0 0 (fun _ => False) := by
  refine Met.ofW (cc := cX5_mayBeOut) (maxL := 3) (ret := (some .boolean)) (by decide) rfl ?_
  intro p e s m args below meth c s₁ B hml hv
  obtain ⟨rfl, hP, hKK⟩ := hv
  have hx := B.exec
  have hb := B.bytes
  have hr := B.returns
  have hts := atoms_spec (ws := wsX5_mayBeOut) B.pre
  have hown : s.vm.findClass RX5 = some m.cls := findClass_of_methodNamed B.named
  have hlocks := B.notSynchronized
  have hK := hKK.1
  have hl := lv_entry ([.ref h, .int v, .int (nI f)]) (n := 3) (Nat.le_of_ble_eq_true rfl)
  rw [lg_entry_eq]
  generalize (lg_sl ([.ref h, .int v, .int (nI f)]) ++ List.replicate (3 - (lg_sl ([.ref h, .int v, .int (nI f)])).length) Slot.unset).toArray = ls at hl ⊢
  have hl : lv_has ls 3 [(0, .ref h), (1, .int v), (2, .int (nI f))] := hl
  refine lv_iload_n hx hb dX5_mayBeOut_0 rfl (lv_at hl 2 rfl) ?_
  refine lv_iconst (v := 1) hx hb dX5_mayBeOut_1 (by decide) ?_
  refine lv_icmp_ne (tgt := 7) hx hb dX5_mayBeOut_2 (by decide) (fun c_2 => ?_) (fun c_2 => ?_)
  · skip
    refine lv_aload_n hx hb dX5_mayBeOut_7 rfl (lv_at hl 0 rfl) ?_
    refine va_get (D := G.1) (ci := 7) (v := .ref k1) (C := RX5) (T := TX5) (N := 8) hx hb hts iX5_mayBeOut_X5 hown hK hP 0 rfl rfl 1 (by decide) (hts _ fX5_mayBeOut_1) (fun _ h9 => h9) rfl dX5_mayBeOut_8 ?_
    refine lv_iload_n hx hb dX5_mayBeOut_11 rfl (lv_at hl 2 rfl) ?_
    refine cpN (As := [.ref k1, .int (nI f)]) (rest := []) ⟨hx, hb, hml, hown, hts⟩ (c_X7_atk l G k1 15 kd (nI f) f (rfl) (by omega) (by decide)) ⟨va_cnB (own := RX5) (host := RX7) (index := 42) (y := yX7_at) 2 hts gX5_mayBeOut_X7_at_n42 rfl rfl rfl (hKK.2.nth 8 (q := (RX5, 42, yX7_at)) rfl) (hts _ fX5_mayBeOut_2) hd_X7_at ⟨Nat.le_of_ble_eq_true rfl, Nat.le_of_ble_eq_true rfl⟩, (hts _ fX5_mayBeOut_3), trivial⟩ hKK hP [1] rfl rfl hl.1 rfl (Nat.le_of_ble_eq_true rfl) dX5_mayBeOut_12 ⟨Nat.zero_le _, Nat.zero_le _⟩ ?_
    refine lv_if_ne (tgt := 31) hx hb dX5_mayBeOut_15 (by decide) (fun c_15 => ?_) (fun c_15 => ?_)
    · skip
      refine lv_iconst (v := 1) hx hb dX5_mayBeOut_31 (by decide) ?_
      refine lv_goto (tgt := 36) hx hb dX5_mayBeOut_32 (by decide) ?_
      exact pret hx hb hr hlocks rfl (by unfold mayOutB; rw [if_neg (mt (nI_eq1 (by omega)).mpr c_2), if_pos c_15]; rfl) dX5_mayBeOut_36
    · skip
      refine lv_iload_n hx hb dX5_mayBeOut_18 rfl (lv_at hl 1 rfl) ?_
      refine lv_aload_n hx hb dX5_mayBeOut_19 rfl (lv_at hl 0 rfl) ?_
      refine va_get (D := G.1) (ci := 7) (v := .ref k3) (C := RX5) (T := TX5) (N := 8) hx hb hts iX5_mayBeOut_X5 hown hK hP 0 rfl rfl 3 (by decide) (hts _ fX5_mayBeOut_4) (fun _ h9 => h9) rfl dX5_mayBeOut_20 ?_
      refine lv_iload_n hx hb dX5_mayBeOut_23 rfl (lv_at hl 2 rfl) ?_
      refine cpN (As := [.ref k3, .int (nI f)]) (rest := [.int v]) ⟨hx, hb, hml, hown, hts⟩ (c_X7_atk l G k3 15 pb (nI f) f (rfl) (by omega) (by decide)) ⟨va_cnB (own := RX5) (host := RX7) (index := 42) (y := yX7_at) 2 hts gX5_mayBeOut_X7_at_n42 rfl rfl rfl (hKK.2.nth 8 (q := (RX5, 42, yX7_at)) rfl) (hts _ fX5_mayBeOut_2) hd_X7_at ⟨Nat.le_of_ble_eq_true rfl, Nat.le_of_ble_eq_true rfl⟩, (hts _ fX5_mayBeOut_3), trivial⟩ hKK hP [2] rfl rfl hl.1 rfl (Nat.le_of_ble_eq_true rfl) dX5_mayBeOut_24 ⟨Nat.zero_le _, Nat.zero_le _⟩ ?_
      refine lv_iand hx hb dX5_mayBeOut_27 ?_
      refine lv_if_ne (tgt := 35) hx hb dX5_mayBeOut_28 (by decide) (fun c_28 => ?_) (fun c_28 => ?_)
      · skip
        refine lv_iconst (v := 0) hx hb dX5_mayBeOut_35 (by decide) ?_
        exact pret hx hb hr hlocks rfl (by unfold mayOutB; rw [if_neg (mt (nI_eq1 (by omega)).mpr c_2), if_neg (fun h => h c_15)]; exact bI_no _ decide_eq_true_iff c_28) dX5_mayBeOut_36
      · skip
        refine lv_iconst (v := 1) hx hb dX5_mayBeOut_31 (by decide) ?_
        refine lv_goto (tgt := 36) hx hb dX5_mayBeOut_32 (by decide) ?_
        exact pret hx hb hr hlocks rfl (by unfold mayOutB; rw [if_neg (mt (nI_eq1 (by omega)).mpr c_2), if_neg (fun h => h c_15)]; exact bI_of _ decide_eq_true_iff c_28) dX5_mayBeOut_36
  · skip
    refine lv_iconst (v := 0) hx hb dX5_mayBeOut_5 (by decide) ?_
    exact pret hx hb hr hlocks rfl (by unfold mayOutB; rw [if_pos ((nI_eq1 (by omega)).mp c_2)]; rfl) dX5_mayBeOut_6

set_option maxHeartbeats 4000000 in
set_option maxRecDepth 100000 in
/-- Variants.fits -/
theorem c_X6_fits (l : Launch) (G : GG) (v mu mn : Int32) : Met l yX6_fits wsX6_fits (rmK 0) (va_Pc [.int v, .int mu, .int mn] (PS G [])) (QcRead (bI (fitsB v mu mn))) 0 0 (fun _ => False) := by
  refine Met.ofW (cc := cX6_fits) (maxL := 3) (ret := (some .boolean)) (by decide) rfl ?_
  intro p e s m args below meth c s₁ B hml hv
  obtain ⟨rfl, hP, hKK⟩ := hv
  have hx := B.exec
  have hb := B.bytes
  have hr := B.returns
  have hts := atoms_spec (ws := wsX6_fits) B.pre
  have hown : s.vm.findClass RX6 = some m.cls := findClass_of_methodNamed B.named
  have hlocks := B.notSynchronized
  have hK := hKK.1
  have hl := lv_entry ([.int v, .int mu, .int mn]) (n := 3) (Nat.le_of_ble_eq_true rfl)
  rw [lg_entry_eq]
  generalize (lg_sl ([.int v, .int mu, .int mn]) ++ List.replicate (3 - (lg_sl ([.int v, .int mu, .int mn])).length) Slot.unset).toArray = ls at hl ⊢
  have hl : lv_has ls 3 [(0, .int v), (1, .int mu), (2, .int mn)] := hl
  refine lv_iload_n hx hb dX6_fits_0 rfl (lv_at hl 0 rfl) ?_
  refine lv_iload_n hx hb dX6_fits_1 rfl (lv_at hl 1 rfl) ?_
  refine lv_iand hx hb dX6_fits_2 ?_
  refine lv_iload_n hx hb dX6_fits_3 rfl (lv_at hl 1 rfl) ?_
  refine lv_icmp_ne (tgt := 17) hx hb dX6_fits_4 (by decide) (fun c_4 => ?_) (fun c_4 => ?_)
  · skip
    refine lv_iconst (v := 0) hx hb dX6_fits_17 (by decide) ?_
    exact pret hx hb hr hlocks rfl (bI_no _ decide_eq_true_iff (fun h => c_4 h.1)) dX6_fits_18
  · skip
    refine lv_iload_n hx hb dX6_fits_7 rfl (lv_at hl 0 rfl) ?_
    refine lv_iload_n hx hb dX6_fits_8 rfl (lv_at hl 2 rfl) ?_
    refine lv_iand hx hb dX6_fits_9 ?_
    refine lv_if_ne (tgt := 17) hx hb dX6_fits_10 (by decide) (fun c_10 => ?_) (fun c_10 => ?_)
    · skip
      refine lv_iconst (v := 0) hx hb dX6_fits_17 (by decide) ?_
      exact pret hx hb hr hlocks rfl (bI_no _ decide_eq_true_iff (fun h => c_10 h.2)) dX6_fits_18
    · skip
      refine lv_iconst (v := 1) hx hb dX6_fits_13 (by decide) ?_
      refine lv_goto (tgt := 18) hx hb dX6_fits_14 (by decide) ?_
      exact pret hx hb hr hlocks rfl (bI_of _ decide_eq_true_iff ⟨c_4, c_10⟩) dX6_fits_18

theorem iX2_has_X2 : ∀ w ∈ u_ws RX2 TX2 3, w ∈ wsX2_has := by decide +kernel
theorem fX2_has_1 : Cond.fieldLink RX2 19 "FeatureSolve$Found" "size" "I" ∈ wsX2_has := by decide +kernel
set_option maxHeartbeats 4000000 in
set_option maxRecDepth 100000 in
/-- Found.has(x) -/
theorem c_X2_has (l : Launch) (G : GG) (h : Nat) (la z : Int32) (k1 : Nat) (x : Int32) : Met l yX2_has wsX2_has (rmK 0) (va_Pc [.ref h, .int x] (PS G [(oX2 h la z k1)])) (QcRead (bI (hasB z x))) 0 0 (fun _ => False) := by
  refine Met.ofW (cc := cX2_has) (maxL := 2) (ret := (some .boolean)) (by decide) rfl ?_
  intro p e s m args below meth c s₁ B hml hv
  obtain ⟨rfl, hP, hKK⟩ := hv
  have hx := B.exec
  have hb := B.bytes
  have hr := B.returns
  have hts := atoms_spec (ws := wsX2_has) B.pre
  have hown : s.vm.findClass RX2 = some m.cls := findClass_of_methodNamed B.named
  have hlocks := B.notSynchronized
  have hK := hKK.1
  have hl := lv_entry ([.ref h, .int x]) (n := 2) (Nat.le_of_ble_eq_true rfl)
  rw [lg_entry_eq]
  generalize (lg_sl ([.ref h, .int x]) ++ List.replicate (2 - (lg_sl ([.ref h, .int x])).length) Slot.unset).toArray = ls at hl ⊢
  have hl : lv_has ls 2 [(0, .ref h), (1, .int x)] := hl
  refine lv_iload_n hx hb dX2_has_0 rfl (lv_at hl 1 rfl) ?_
  refine lv_iconst (v := 1) hx hb dX2_has_1 (by decide) ?_
  refine lv_icmp_lt (tgt := 17) hx hb dX2_has_2 (by decide) (fun c_2 => ?_) (fun c_2 => ?_)
  · skip
    refine lv_iconst (v := 0) hx hb dX2_has_17 (by decide) ?_
    exact pret hx hb hr hlocks rfl (bI_no _ hasB_iff (fun h => i_lt1.mp c_2 h.1)) dX2_has_18
  · skip
    refine lv_iload_n hx hb dX2_has_5 rfl (lv_at hl 1 rfl) ?_
    refine lv_aload_n hx hb dX2_has_6 rfl (lv_at hl 0 rfl) ?_
    refine va_get (D := G.1) (ci := 4) (v := .int z) (C := RX2) (T := TX2) (N := 3) hx hb hts iX2_has_X2 hown hK hP 0 rfl rfl 1 (by decide) (hts _ fX2_has_1) (fun _ h9 => h9) rfl dX2_has_7 ?_
    refine lv_icmp_gt (tgt := 17) hx hb dX2_has_10 (by decide) (fun c_10 => ?_) (fun c_10 => ?_)
    · skip
      refine lv_iconst (v := 0) hx hb dX2_has_17 (by decide) ?_
      exact pret hx hb hr hlocks rfl (bI_no _ hasB_iff (fun h => i_nlt.mpr h.2 c_10)) dX2_has_18
    · skip
      refine lv_iconst (v := 1) hx hb dX2_has_13 (by decide) ?_
      refine lv_goto (tgt := 18) hx hb dX2_has_14 (by decide) ?_
      exact pret hx hb hr hlocks rfl (bI_of _ hasB_iff ⟨i_nlt.mp c_2, i_nlt.mp c_10⟩) dX2_has_18

theorem iX2_get_X2 : ∀ w ∈ u_ws RX2 TX2 3, w ∈ wsX2_get := by decide +kernel
theorem fX2_get_1 : Cond.fieldLink RX2 9 "FeatureSolve$Found" "kept" "[I" ∈ wsX2_get := by decide +kernel
theorem fX2_get_2 : Cond.initialized RX7 ∈ wsX2_get := by decide +kernel
theorem fX2_get_3 : Cond.static yX7_at ∈ wsX2_get := by decide +kernel
set_option maxHeartbeats 4000000 in
set_option maxRecDepth 100000 in
/-- Found.get(f + 1) -/
theorem c_X2_get (l : Launch) (G : GG) (h : Nat) (la z : Int32) (k1 : Nat) (kp : Nat → Int32) (x : Int32) (f : Nat) (hx0 : x = nI (f + 1)) (hf : f < 200) : Met l yX2_get wsX2_get (rmK 1) (va_Pc [.ref h, .int x] (PS G [(oX2 h la z k1), (cI G k1 200 kp)])) (QcRead (kp f)) 0 0 (fun _ => False) := by
  refine Met.ofW (cc := cX2_get) (maxL := 2) (ret := (some .int)) (by decide) rfl ?_
  intro p e s m args below meth c s₁ B hml hv
  obtain ⟨rfl, hP, hKK⟩ := hv
  have hx := B.exec
  have hb := B.bytes
  have hr := B.returns
  have hts := atoms_spec (ws := wsX2_get) B.pre
  have hown : s.vm.findClass RX2 = some m.cls := findClass_of_methodNamed B.named
  have hlocks := B.notSynchronized
  have hK := hKK.1
  have hl := lv_entry ([.ref h, .int x]) (n := 2) (Nat.le_of_ble_eq_true rfl)
  rw [lg_entry_eq]
  generalize (lg_sl ([.ref h, .int x]) ++ List.replicate (2 - (lg_sl ([.ref h, .int x])).length) Slot.unset).toArray = ls at hl ⊢
  have hl : lv_has ls 2 [(0, .ref h), (1, .int x)] := hl
  refine lv_aload_n hx hb dX2_get_0 rfl (lv_at hl 0 rfl) ?_
  refine va_get (D := G.1) (ci := 4) (v := .ref k1) (C := RX2) (T := TX2) (N := 3) hx hb hts iX2_get_X2 hown hK hP 0 rfl rfl 2 (by decide) (hts _ fX2_get_1) (fun _ h9 => h9) rfl dX2_get_1 ?_
  refine lv_iload_n hx hb dX2_get_4 rfl (lv_at hl 1 rfl) ?_
  refine lv_iconst (v := 1) hx hb dX2_get_5 (by decide) ?_
  refine lv_isub hx hb dX2_get_6 ?_
  refine cpN (As := [.ref k1, .int (x - 1)]) (rest := []) ⟨hx, hb, hml, hown, hts⟩ (c_X7_atk l G k1 200 kp (x - 1) f (by rw [hx0]; exact nI_pred f) (by omega) (by decide)) ⟨va_cnB (own := RX2) (host := RX7) (index := 26) (y := yX7_at) 2 hts gX2_get_X7_at_n26 rfl rfl rfl (hKK.2.nth 25 (q := (RX2, 26, yX7_at)) rfl) (hts _ fX2_get_2) hd_X7_at ⟨Nat.le_of_ble_eq_true rfl, Nat.le_of_ble_eq_true rfl⟩, (hts _ fX2_get_3), trivial⟩ hKK hP [1] rfl rfl hl.1 rfl (Nat.le_of_ble_eq_true rfl) dX2_get_7 ⟨Nat.zero_le _, Nat.zero_le _⟩ ?_
  exact pret hx hb hr hlocks rfl (rfl) dX2_get_10

theorem iX3_get_X3 : ∀ w ∈ u_ws RX3 TX3 2, w ∈ wsX3_get := by decide +kernel
theorem fX3_get_1 : Cond.fieldLink RX3 15 "FeatureSolve$Reason" "size" "I" ∈ wsX3_get := by decide +kernel
theorem fX3_get_2 : Cond.fieldLink RX3 9 "FeatureSolve$Reason" "left" "[I" ∈ wsX3_get := by decide +kernel
theorem fX3_get_3 : Cond.initialized RX7 ∈ wsX3_get := by decide +kernel
theorem fX3_get_4 : Cond.static yX7_at ∈ wsX3_get := by decide +kernel
set_option maxHeartbeats 4000000 in
set_option maxRecDepth 100000 in
/-- Reason.get(x) -/
theorem c_X3_get (l : Launch) (G : GG) (h : Nat) (z : Int32) (k1 : Nat) (lf : Nat → Int32) (x : Int32) (q : Nat) (hz : z = nI q) (hq : q ≤ 14) : Met l yX3_get wsX3_get (rmK 1) (va_Pc [.ref h, .int x] (PS G [(oX3 h z k1), (cI G k1 14 lf)])) (QcRead (if x < 0 then 0 else if z ≤ x then 0 else lf x.toNatClampNeg)) 0 0 (fun _ => False) := by
  refine Met.ofW (cc := cX3_get) (maxL := 2) (ret := (some .int)) (by decide) rfl ?_
  intro p e s m args below meth c s₁ B hml hv
  obtain ⟨rfl, hP, hKK⟩ := hv
  have hx := B.exec
  have hb := B.bytes
  have hr := B.returns
  have hts := atoms_spec (ws := wsX3_get) B.pre
  have hown : s.vm.findClass RX3 = some m.cls := findClass_of_methodNamed B.named
  have hlocks := B.notSynchronized
  have hK := hKK.1
  have hl := lv_entry ([.ref h, .int x]) (n := 2) (Nat.le_of_ble_eq_true rfl)
  rw [lg_entry_eq]
  generalize (lg_sl ([.ref h, .int x]) ++ List.replicate (2 - (lg_sl ([.ref h, .int x])).length) Slot.unset).toArray = ls at hl ⊢
  have hl : lv_has ls 2 [(0, .ref h), (1, .int x)] := hl
  refine lv_iload_n hx hb dX3_get_0 rfl (lv_at hl 1 rfl) ?_
  refine lv_if_lt (tgt := 23) hx hb dX3_get_1 (by decide) (fun c_1 => ?_) (fun c_1 => ?_)
  · skip
    refine lv_iconst (v := 0) hx hb dX3_get_23 (by decide) ?_
    exact pret hx hb hr hlocks rfl (by rw [if_pos c_1]) dX3_get_24
  · skip
    refine lv_iload_n hx hb dX3_get_4 rfl (lv_at hl 1 rfl) ?_
    refine lv_aload_n hx hb dX3_get_5 rfl (lv_at hl 0 rfl) ?_
    refine va_get (D := G.1) (ci := 5) (v := .int z) (C := RX3) (T := TX3) (N := 2) hx hb hts iX3_get_X3 hown hK hP 0 rfl rfl 0 (by decide) (hts _ fX3_get_1) (fun _ h9 => h9) rfl dX3_get_6 ?_
    refine lv_icmp_ge (tgt := 23) hx hb dX3_get_9 (by decide) (fun c_9 => ?_) (fun c_9 => ?_)
    · skip
      refine lv_iconst (v := 0) hx hb dX3_get_23 (by decide) ?_
      exact pret hx hb hr hlocks rfl (by rw [if_neg c_1, if_pos c_9]) dX3_get_24
    · skip
      refine lv_aload_n hx hb dX3_get_12 rfl (lv_at hl 0 rfl) ?_
      refine va_get (D := G.1) (ci := 5) (v := .ref k1) (C := RX3) (T := TX3) (N := 2) hx hb hts iX3_get_X3 hown hK hP 0 rfl rfl 1 (by decide) (hts _ fX3_get_2) (fun _ h9 => h9) rfl dX3_get_13 ?_
      refine lv_iload_n hx hb dX3_get_16 rfl (lv_at hl 1 rfl) ?_
      obtain ⟨j, hj, hxj⟩ := nI_of c_1
      have hjq : j < q := by
        rcases Nat.lt_or_ge j q with a | a
        · exact a
        · exact absurd (by rw [hz, hxj]; exact nI_le a hj) c_9
      refine cpN (As := [.ref k1, .int x]) (rest := []) ⟨hx, hb, hml, hown, hts⟩ (c_X7_atk l G k1 14 lf x j (hxj) (by omega) (by decide)) ⟨va_cnB (own := RX3) (host := RX7) (index := 23) (y := yX7_at) 2 hts gX3_get_X7_at_n23 rfl rfl rfl (hKK.2.nth 24 (q := (RX3, 23, yX7_at)) rfl) (hts _ fX3_get_3) hd_X7_at ⟨Nat.le_of_ble_eq_true rfl, Nat.le_of_ble_eq_true rfl⟩, (hts _ fX3_get_4), trivial⟩ hKK hP [1] rfl rfl hl.1 rfl (Nat.le_of_ble_eq_true rfl) dX3_get_17 ⟨Nat.zero_le _, Nat.zero_le _⟩ ?_
      refine lv_goto (tgt := 24) hx hb dX3_get_20 (by decide) ?_
      exact pret hx hb hr hlocks rfl (by rw [if_neg c_1, if_neg c_9, hxj, nI_clamp hj]) dX3_get_24

theorem iX0_get_X0 : ∀ w ∈ u_ws RX0 TX0 4, w ∈ wsX0_get := by decide +kernel
theorem fX0_get_1 : Cond.fieldLink RX0 9 "FeatureSolve$Choices" "told" "[I" ∈ wsX0_get := by decide +kernel
theorem fX0_get_2 : Cond.initialized RX7 ∈ wsX0_get := by decide +kernel
theorem fX0_get_3 : Cond.static yX7_at ∈ wsX0_get := by decide +kernel
set_option maxHeartbeats 4000000 in
set_option maxRecDepth 100000 in
/-- Choices.get(f) -/
theorem c_X0_get (l : Launch) (G : GG) (h : Nat) (z mu mn : Int32) (k1 : Nat) (td : Nat → Int32) (f : Nat) (hf : f < 14) : Met l yX0_get wsX0_get (rmK 1) (va_Pc [.ref h, .int (nI f)] (PS G [(oX0 h z mu mn k1), (cI G k1 14 td)])) (QcRead (td f)) 0 0 (fun _ => False) := by
  refine Met.ofW (cc := cX0_get) (maxL := 2) (ret := (some .int)) (by decide) rfl ?_
  intro p e s m args below meth c s₁ B hml hv
  obtain ⟨rfl, hP, hKK⟩ := hv
  have hx := B.exec
  have hb := B.bytes
  have hr := B.returns
  have hts := atoms_spec (ws := wsX0_get) B.pre
  have hown : s.vm.findClass RX0 = some m.cls := findClass_of_methodNamed B.named
  have hlocks := B.notSynchronized
  have hK := hKK.1
  have hl := lv_entry ([.ref h, .int (nI f)]) (n := 2) (Nat.le_of_ble_eq_true rfl)
  rw [lg_entry_eq]
  generalize (lg_sl ([.ref h, .int (nI f)]) ++ List.replicate (2 - (lg_sl ([.ref h, .int (nI f)])).length) Slot.unset).toArray = ls at hl ⊢
  have hl : lv_has ls 2 [(0, .ref h), (1, .int (nI f))] := hl
  refine lv_aload_n hx hb dX0_get_0 rfl (lv_at hl 0 rfl) ?_
  refine va_get (D := G.1) (ci := 2) (v := .ref k1) (C := RX0) (T := TX0) (N := 4) hx hb hts iX0_get_X0 hown hK hP 0 rfl rfl 3 (by decide) (hts _ fX0_get_1) (fun _ h9 => h9) rfl dX0_get_1 ?_
  refine lv_iload_n hx hb dX0_get_4 rfl (lv_at hl 1 rfl) ?_
  refine cpN (As := [.ref k1, .int (nI f)]) (rest := []) ⟨hx, hb, hml, hown, hts⟩ (c_X7_atk l G k1 14 td (nI f) f (rfl) (by omega) (by decide)) ⟨va_cnB (own := RX0) (host := RX7) (index := 15) (y := yX7_at) 2 hts gX0_get_X7_at_n15 rfl rfl rfl (hKK.2.nth 13 (q := (RX0, 15, yX7_at)) rfl) (hts _ fX0_get_2) hd_X7_at ⟨Nat.le_of_ble_eq_true rfl, Nat.le_of_ble_eq_true rfl⟩, (hts _ fX0_get_3), trivial⟩ hKK hP [1] rfl rfl hl.1 rfl (Nat.le_of_ble_eq_true rfl) dX0_get_5 ⟨Nat.zero_le _, Nat.zero_le _⟩ ?_
  exact pret hx hb hr hlocks rfl (rfl) dX0_get_8
