/-! solve -/
theorem and_one0 {x : Int32} : x &&& 1 = 0 ↔ bt x 0 = false := by
  constructor
  · intro h
    have h3 : bt (x &&& 1) 0 = bt 0 0 := by rw [h]
    rw [b_and, b_1 0 (by decide), b_0] at h3
    simpa using h3
  · intro h
    refine b_ext (fun i hi => ?_)
    rw [b_and, b_1 i hi, b_0]
    by_cases e : 0 = i
    · subst e; rw [h]; rfl
    · rw [decide_eq_false e, Bool.and_false]
theorem shr_bt {x : Int32} {k : Nat} (hk : k < 32) : bt (x >>> (nI k &&& 31)) 0 = bt x k := by
  have h := b_sshr k hk x (i := 0) (by decide)
  rw [if_pos (by omega), Nat.add_zero] at h
  exact h
theorem bt_one {k j : Nat} (hk : k < 32) (hj : j < 32) : bt ((1 : Int32) <<< (nI k &&& 31)) j = decide (k = j) := by
  rw [b_shl k hk 1 hj]
  by_cases h : k ≤ j
  · rw [decide_eq_true h, Bool.true_and, b_1 _ (by omega)]
    exact decide_eq_decide.mpr (by omega)
  · rw [decide_eq_false h, Bool.false_and, decide_eq_false (by omega)]
theorem ch_wo {n t : Nat} {ch : Nat → Int32} {L : List Int32} {wo : Int32} (hr : rowIs ch L) (hl : L.length ≤ 14) : allZ (chB (nI n) ch wo (nI t)) L.length = true ↔ ∀ j, j < L.length → bt wo j = false → litB (nI n) (nI t) (L.getD j 0) = true := by
  rw [allZ_iff]
  have key : ∀ k, k < L.length → (chB (nI n) ch wo (nI t) k = true ↔ (bt wo k = false → litB (nI n) (nI t) (L.getD k 0) = true)) := fun k hk => by
    unfold chB
    rw [hr k hk]
    by_cases e : bt wo k = true
    · rw [if_pos (and_one.mpr (by rw [shr_bt (by omega)]; exact e))]
      exact ⟨fun _ z => absurd (e.symm.trans z) (by decide), fun _ => rfl⟩
    · rw [if_neg (fun z => e (by rw [← shr_bt (x := wo) (show k < 32 by omega)]; exact and_one.mp z))]
      exact ⟨fun z _ => z, fun z => z (Bool.eq_false_iff.mpr e)⟩
  exact ⟨fun h j hj => (key j hj).mp (h j hj), fun h j hj => (key j hj).mpr (h j hj)⟩
theorem masks_rm {n : Nat} {mu mn c : Int32} {X Y : List Int32} (hn : n ≤ 14) (hm : masks mu mn (X ++ c :: Y)) (hp : (X ++ c :: Y).Pairwise (fun x y => x ≠ y ∧ x ≠ -y)) (hc : lit n c) : masks (mu &&& (bitI c ^^^ -1)) (mn &&& (bitI (-c) ^^^ -1)) (X ++ Y) := by
  obtain ⟨m1, m2, m3⟩ := hm
  obtain ⟨p1, p2, p3⟩ := List.pairwise_append.mp hp
  have hX : c ∉ X := fun z => (p3 c z c List.mem_cons_self).1 rfl
  have hY : c ∉ Y := fun z => ((List.pairwise_cons.mp p2).1 c z).1 rfl
  have hXY : c ∉ X ++ Y := fun z => (List.mem_append.mp z).elim hX hY
  have mem : ∀ x, x ≠ c → (x ∈ X ++ c :: Y ↔ x ∈ X ++ Y) := fun x hx => by
    rw [List.mem_append, List.mem_append, List.mem_cons]
    exact ⟨fun z => z.elim Or.inl (fun w => w.elim (fun e => absurd e hx) Or.inr), fun z => z.elim Or.inl (fun w => Or.inr (Or.inr w))⟩
  have b0 : ∀ i, i < 32 → bt ((0 : Int32) ^^^ -1) i = true := fun i hi => by rw [b_not hi, b_0]; rfl
  obtain ⟨f, f1, f2, rfl | rfl⟩ := hc
  · refine ⟨fun g a b => ?_, fun g a b => ?_, fun i a b => ⟨by rw [b_and, (m3 i a b).1]; rfl, by rw [b_and, (m3 i a b).2]; rfl⟩⟩
    · rw [b_and, b_not (by omega), m1 g a b, bt_bit f1 (by omega) (by omega)]
      by_cases e : g = f
      · subst e
        rw [decide_eq_true (rfl : 14 - g = 14 - g), decide_eq_false hXY]; exact Bool.and_false _
      · rw [decide_eq_false (show ¬ 14 - f = 14 - g by omega)]
        exact (Bool.and_true _).trans (decide_eq_decide.mpr (mem _ (fun z => e (nI_inj15 g (by omega) f (by omega) z))))
    · rw [b_and, bitI_neg f (by omega), b0 _ (by omega), Bool.and_true, m2 g a b]
      exact decide_eq_decide.mpr (mem _ (nI_neg_ne a b (by omega)))
  · rw [Int32.neg_neg]
    refine ⟨fun g a b => ?_, fun g a b => ?_, fun i a b => ⟨by rw [b_and, (m3 i a b).1]; rfl, by rw [b_and, (m3 i a b).2]; rfl⟩⟩
    · rw [b_and, bitI_neg f (by omega), b0 _ (by omega), Bool.and_true, m1 g a b]
      exact decide_eq_decide.mpr (mem _ (fun z => nI_neg_ne f1 (by omega) b z.symm))
    · rw [b_and, b_not (by omega), m2 g a b, bt_bit f1 (by omega) (by omega)]
      by_cases e : g = f
      · subst e
        rw [decide_eq_true (rfl : 14 - g = 14 - g), decide_eq_false hXY]; exact Bool.and_false _
      · rw [decide_eq_false (show ¬ 14 - f = 14 - g by omega)]
        exact (Bool.and_true _).trans (decide_eq_decide.mpr (mem _ (fun z => e (neg_inj15 g (by omega) f (by omega) z))))
/-- what is known of the two searches for a reason when k choices have been tried -/
def exI (n mf cc : Nat) (F : Int32 → Int32 → Int32) (td : Nat → Int32) (mu mn : Int32) (q : Nat → Nat → Int32) (L : List Int32) (k : Nat) : Prop :=
  masks (exM F td mu mn k).1 (exM F td mu mn k).2.1 ((exM F td mu mn k).2.2 ++ L.drop k) ∧ ((exM F td mu mn k).2.2 ++ L.drop k).Sublist L ∧ (∀ j, k ≤ j → j < 32 → bt (goL n mf cc q k) j = false) ∧ (∀ x, x ∈ (exM F td mu mn k).2.2 ↔ ∃ j, j < k ∧ bt (goL n mf cc q k) j = false ∧ L.getD j 0 = x) ∧ ∀ go, (∀ j, j < k → bt go j = bt (goL n mf cc q k) j) → wlL go (q 14) k = (exM F td mu mn k).2.2
theorem exI_all {n mf : Nat} {bd : Int32} {r q : Nat → Nat → Int32} {mu mn : Int32} {L : List Int32} (hn : n ≤ 14) (hv : SimV n mf bd r q) (hc : chs n L) (hr1 : rowIs (r 20) L) (hr2 : rowIs (q 14) L) (hm : masks mu mn L) : ∀ k, k ≤ L.length → exI n mf L.length (cFnd n mf bd r) (r 20) mu mn q L k
  | 0, _ => ⟨hm, List.Sublist.refl _, fun j _ _ => b_0 j, fun x => ⟨fun z => (nomatch z), fun ⟨j, z, _⟩ => absurd z (Nat.not_lt_zero _)⟩, fun _ _ => rfl⟩
  | k + 1, hk => by
    have hl := chs_len hc
    obtain ⟨i1, i2, i3, i4, i5⟩ := exI_all hn hv hc hr1 hr2 hm k (by omega)
    have hkl : k < L.length := by omega
    have hc1 : r 20 k = L.getD k 0 := hr1 k hkl
    have hc2 : q 14 k = L.getD k 0 := hr2 k hkl
    have hdr : L.drop k = r 20 k :: L.drop (k + 1) := by rw [hc1]; exact drop_s hkl
    rw [hdr] at i1 i2
    have hpw : ((exM (cFnd n mf bd r) (r 20) mu mn k).2.2 ++ r 20 k :: L.drop (k + 1)).Pairwise (fun x y => x ≠ y ∧ x ≠ -y) := hc.2.sublist i2
    have hmem : r 20 k ∈ L := by rw [hc1]; exact getD_mem hkl
    have hmr := masks_rm hn i1 hpw (hc.1 _ hmem)
    have hsub : ((exM (cFnd n mf bd r) (r 20) mu mn k).2.2 ++ L.drop (k + 1)).Sublist L := (List.Sublist.append_left (List.sublist_cons_self _ _) _).trans i2
    have bwo : ∀ j, j < 32 → bt (goL n mf L.length q k ||| (1 : Int32) <<< (nI k &&& 31)) j = (bt (goL n mf L.length q k) j || decide (k = j)) := fun j hj => by rw [b_or, bt_one (by omega) hj]
    have hPQ : ∀ t ∈ setL n mf q, (fun v => fitsB v ((exM (cFnd n mf bd r) (r 20) mu mn k).1 &&& (bitI (r 20 k) ^^^ -1)) ((exM (cFnd n mf bd r) (r 20) mu mn k).2.1 &&& (bitI (-r 20 k) ^^^ -1))) (cvN n t) = (fun v => allZ (chB (nI n) (q 14) (goL n mf L.length q k ||| (1 : Int32) <<< (nI k &&& 31)) v) L.length) (nI t) := fun t ht => by
      show fitsB (cvN n t) _ _ = allZ (chB (nI n) (q 14) _ (nI t)) L.length
      rw [Bool.eq_iff_iff, fits_iff hn (setL_lt ht) (fun x hx => hc.1 x (hsub.subset hx)) hmr, ch_wo hr2 (by omega)]
      constructor
      · intro z j hj hb
        rw [bwo j (by omega), Bool.or_eq_false_iff] at hb
        have hne : k ≠ j := of_decide_eq_false hb.2
        rcases Nat.lt_or_ge j k with e | e
        · exact z _ (List.mem_append_left _ ((i4 _).mpr ⟨j, e, hb.1, rfl⟩))
        · refine z _ (List.mem_append_right _ ?_)
          rw [show L.getD j 0 = (L.drop (k + 1)).getD (j - (k + 1)) 0 by rw [List.getD_eq_getElem?_getD, List.getD_eq_getElem?_getD, List.getElem?_drop, show k + 1 + (j - (k + 1)) = j by omega]]
          exact getD_mem (by rw [List.length_drop]; omega)
      · intro z x hx
        rcases List.mem_append.mp hx with e | e
        · obtain ⟨j, j1, j2, rfl⟩ := (i4 x).mp e
          exact z j (by omega) (by rw [bwo j (by omega), j2, decide_eq_false (by omega)]; rfl)
        · obtain ⟨j, j1, rfl⟩ := List.getElem_of_mem e
          rw [List.length_drop] at j1
          have h9 := z (k + 1 + j) (by omega) (by rw [bwo _ (by omega), i3 _ (by omega) (by omega), decide_eq_false (by omega)]; rfl)
          rw [List.getD_eq_getElem?_getD, List.getElem?_eq_getElem (by omega)] at h9
          rw [List.getElem_drop]
          exact h9
    have two := fnd_two (P := fun v => fitsB v ((exM (cFnd n mf bd r) (r 20) mu mn k).1 &&& (bitI (r 20 k) ^^^ -1)) ((exM (cFnd n mf bd r) (r 20) mu mn k).2.1 &&& (bitI (-r 20 k) ^^^ -1))) (Q := fun v => allZ (chB (nI n) (q 14) (goL n mf L.length q k ||| (1 : Int32) <<< (nI k &&& 31)) v) L.length) (f := cvN n) (g := nI) _ hPQ
    rw [← vLL_set hn hv, ← mL_set] at two
    rcases two with ⟨a, b, -⟩ | ⟨t, ht, a, b, -⟩
    · have ex := exM_t (F := cFnd n mf bd r) (td := r 20) (mu := mu) (mn := mn) (k := k) a
      have go := goL_f (n := n) (mf := mf) (cc := L.length) (q := q) (k := k) (by show ¬ 0 ≤ fnd _ _; rw [b]; decide)
      unfold exI
      rw [ex, go]
      refine ⟨hmr, hsub, fun j j1 j2 => ?_, fun x => ?_, fun g hg => ?_⟩
      · rw [bwo j j2, i3 j (by omega) j2, decide_eq_false (by omega)]; rfl
      · rw [i4 x]
        constructor
        · rintro ⟨j, j1, j2, j3⟩
          exact ⟨j, by omega, by rw [bwo j (by omega), j2, decide_eq_false (by omega)]; rfl, j3⟩
        · rintro ⟨j, j1, j2, j3⟩
          rw [bwo j (by omega), Bool.or_eq_false_iff] at j2
          have hne : k ≠ j := of_decide_eq_false j2.2
          exact ⟨j, by omega, j2.1, j3⟩
      · have hgk : bt g k = true := by rw [hg k (by omega), bwo k (by omega), decide_eq_true rfl, Bool.or_true]
        rw [wlL_f (fun z => by
          have := and_one0.mp z
          rw [shr_bt (by omega), hgk] at this
          cases this)]
        exact i5 g (fun j hj => by rw [hg j (by omega), bwo j (by omega), decide_eq_false (by omega), Bool.or_false])
    · have ex := exM_f (F := cFnd n mf bd r) (td := r 20) (mu := mu) (mn := mn) (k := k) (by show ¬ fnd _ _ = -1; rw [a]; exact cv_ne hn (setL_lt ht))
      have h0t : (0 : Int32) ≤ nI t := (nI_leI (a := 0) (by decide) (by have := pw14 hn (setL_lt ht); omega)).mpr (Nat.zero_le _)
      have go := goL_t (n := n) (mf := mf) (cc := L.length) (q := q) (k := k) (by show 0 ≤ fnd _ _; rw [b]; exact h0t)
      unfold exI
      rw [ex, go]
      have happ : (exM (cFnd n mf bd r) (r 20) mu mn k).2.2 ++ r 20 k :: L.drop (k + 1) = ((exM (cFnd n mf bd r) (r 20) mu mn k).2.2 ++ [r 20 k]) ++ L.drop (k + 1) := by rw [List.append_assoc]; rfl
      rw [happ] at i1 i2
      refine ⟨i1, i2, fun j j1 j2 => i3 j (by omega) j2, fun x => ?_, fun g hg => ?_⟩
      · show x ∈ (exM (cFnd n mf bd r) (r 20) mu mn k).2.2 ++ [r 20 k] ↔ _
        rw [List.mem_append, List.mem_singleton, i4 x]
        constructor
        · rintro (⟨j, j1, j2, j3⟩ | rfl)
          · exact ⟨j, by omega, j2, j3⟩
          · exact ⟨k, by omega, i3 k (Nat.le_refl _) (by omega), hc1.symm⟩
        · rintro ⟨j, j1, j2, j3⟩
          by_cases e : j = k
          · subst e; exact Or.inr (by rw [← j3, hc1])
          · exact Or.inl ⟨j, by omega, j2, j3⟩
      · have hgk : bt g k = false := by rw [hg k (by omega)]; exact i3 k (Nat.le_refl _) (by omega)
        rw [wlL_t (and_one0.mpr (by rw [shr_bt (by omega)]; exact hgk)), i5 g (fun j hj => hg j (by omega)), hc1, hc2]
theorem sim_solve : Ok_solve Sim := by
  intro n mf bd zN ub cs mu mn la fq rq r th np mp cc kn sc fc so lb lq wq q h u u' hu hu'
  obtain ⟨⟨rfl, rfl, rfl, rfl⟩, ⟨hn, hm, hf, hr⟩, hv, hd, -, -, ⟨L, rfl, rfl, hc3, hc4, hc5, hc6⟩, hw, hfo, hso⟩ := h
  have hl := chs_len hc3
  have hPQ : ∀ t ∈ setL np mp q, (fun v => fitsB v mu mn) (cvN np t) = (fun v => allZ (chB (nI np) (q 14) 0 v) L.length) (nI t) := fun t ht => fits_eq hn (setL_lt ht) hc3.1 hc6 hc5 (by omega)
  have two := fnd_two (P := fun v => fitsB v mu mn) (Q := fun v => allZ (chB (nI np) (q 14) 0 v) L.length) (f := cvN np) (g := nI) _ hPQ
  rw [← vLL_set hn hv, ← mL_set] at two
  have hE := exI_all hn hv hc3 hc4 hc5 hc6 L.length (Nat.le_refl _)
  unfold cSolve at hu
  unfold mSolve mFst at hu'
  rcases two with ⟨a, b, -⟩ | ⟨t, ht, a, b, -⟩
  · rw [if_pos a] at hu
    rw [b, if_pos (by decide)] at hu'
    obtain ⟨g, w, hg, hw1, rfl⟩ := hu
    obtain ⟨g', w', hg', hw2, rfl⟩ := hu'
    have hwl : mWl np mp L.length q = (exM (cFnd np mp bd r) (r 20) mu mn L.length).2.2 := hE.2.2.2.2 _ (fun _ _ => rfl)
    rw [hwl] at hw2 ⊢
    have hxl := exM_len (cFnd np mp bd r) (r 20) mu mn L.length
    exact ⟨rfl, ⟨rfl, rfl, rfl, rfl⟩, ⟨hn, hm, hf, by omega⟩, hv, hd, fun _ => ⟨hg, rfl⟩, fun _ => ⟨hg', rfl⟩, ⟨L, rfl, rfl, hc3, hc4, hc5, hc6⟩, fun k hk => (hw1 k hk).trans (hw2 k hk).symm, hfo, Or.inl ⟨rfl, rfl⟩⟩
  · have htl := setL_lt ht
    have h0t : ¬ nI t < 0 := nI_pos (by have := pw14 hn htl; omega)
    rw [if_neg (by rw [a]; exact cv_ne hn htl)] at hu
    rw [b, if_neg h0t] at hu'
    obtain ⟨g, hg, rfl⟩ := hu
    have hok : fndOk (nI t) (nI np) (cvN np t) := ⟨np, t, hn, htl, rfl, rfl, rfl⟩
    by_cases c : fc < 200
    · rw [if_neg (show ¬ (200 : Int32) ≤ nI fc from fun z => by have := (nI_leI (a := 200) (b := fc) (by decide) (by omega)).mp z; omega)] at hu'
      obtain ⟨g', hg', rfl⟩ := hu'
      rw [a]
      simp only [if_pos c]
      refine ⟨trivial, ⟨rfl, rfl, rfl, rfl⟩, ⟨hn, hm, by omega, Nat.zero_le _⟩, hv, hd, fun _ => ⟨hg, rfl⟩, fun _ => ⟨hg', rfl⟩, ⟨L, rfl, rfl, hc3, hc4, hc5, hc6⟩, fun k hk => absurd hk (Nat.not_lt_zero _), fun k hk => ?_, Or.inr ⟨rfl, hok⟩⟩
      show fndOk (upd (q 19) (fc + 1) (nI t) (k + 1)) (upd (q 21) (fc + 1) (nI np) (k + 1)) (upd (r 22) fc (cvN np t) k)
      by_cases e : k = fc
      · subst e
        rw [show upd (q 19) (k + 1) (nI t) (k + 1) = nI t from if_pos rfl, show upd (q 21) (k + 1) (nI np) (k + 1) = nI np from if_pos rfl, show upd (r 22) k (cvN np t) k = cvN np t from if_pos rfl]
        exact hok
      · rw [show upd (q 19) (fc + 1) (nI t) (k + 1) = q 19 (k + 1) from if_neg (by omega), show upd (q 21) (fc + 1) (nI np) (k + 1) = q 21 (k + 1) from if_neg (by omega), show upd (r 22) fc (cvN np t) k = r 22 k from if_neg e]
        exact hfo k (by omega)
    · rw [if_pos (show (200 : Int32) ≤ nI fc from (nI_leI (a := 200) (b := fc) (by decide) (by omega)).mpr (by omega))] at hu'
      obtain ⟨g', hg', rfl⟩ := hu'
      rw [a]
      simp only [if_neg c]
      refine ⟨trivial, ⟨rfl, rfl, rfl, rfl⟩, ⟨hn, hm, hf, Nat.zero_le _⟩, hv, hd, fun _ => ⟨hg, rfl⟩, fun _ => ⟨hg', rfl⟩, ⟨L, rfl, rfl, hc3, hc4, hc5, hc6⟩, fun k hk => absurd hk (Nat.not_lt_zero _), hfo, Or.inr ⟨rfl, hok⟩⟩
theorem sim_ok : SimOk Sim := ⟨sim_pre, sim_init, sim_feature, sim_group, sim_formula, sim_attrib, sim_solve, sim_chosen, sim_why, sim_count, sim_forces, sim_differ, sim_choose, sim_level⟩
