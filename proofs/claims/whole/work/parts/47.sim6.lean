/-! a call that changes tree, formulas or sums -/
theorem sim_upd {n mf : Nat} {bd : Int32} {zN : Nat} {ub : Bool} {cs : Nat} {mu mn la : Int32} {fq rq : Nat} {r : Nat → Nat → Int32} {th : Int32} {np mp cc : Nat} {kn : Bool} {sc fc : Nat} {so : Bool} {lb lq : Int32} {wq : Nat} {q : Nat → Nat → Int32} (h : Sim (n, mf, bd, zN, ub, cs, mu, mn, la, fq, rq, r) (th, np, mp, cc, kn, sc, fc, so, lb, lq, wq, q)) {n' mf' : Nat} {bd' : Int32} {r' q' : Nat → Nat → Int32} (hnn : n ≤ n') (hn' : n' ≤ 14) (hm' : mf' ≤ 40) (hv : SimV n' mf' bd' r' q') (hd : (∀ f, 1 ≤ f → f ≤ n' → r' 4 f = nI (dpt (q' 1) (parN (q' 1) f))) ∧ ∀ f i, 1 ≤ f → f ≤ 14 → 14 ≤ i → i < 32 → bt (r' 6 f) i = false) (e20 : r' 20 = r 20) (e22 : r' 22 = r 22) (e24 : r' 24 = r 24) (f14 : q' 14 = q 14) (f19 : q' 19 = q 19) (f21 : q' 21 = q 21) (f25 : q' 25 = q 25) : Sim (n', mf', bd', zN, false, cs, mu, mn, la, fq, rq, r') (0, n', mf', cc, false, sc, fc, so, lb, lq, wq, q') := by
  obtain ⟨⟨-, -, h3, h4⟩, ⟨-, -, hf, hr⟩, -, -, -, -, ⟨L, hc1, hc2, hc3, hc4, hc5, hc6⟩, hw, hfo, hso⟩ := h
  refine ⟨⟨rfl, rfl, h3, h4⟩, ⟨hn', hm', hf, hr⟩, hv, hd, (fun h => nomatch h), (fun h => nomatch h), ⟨L, hc1, hc2, chs_mono hnn hc3, by rw [e20]; exact hc4, by rw [f14]; exact hc5, hc6⟩, fun k hk => by rw [e24, f25]; exact hw k hk, fun k hk => by rw [f19, f21, e22]; exact hfo k hk, hso⟩
theorem i_34 {x : Int32} : 4 ≤ x ↔ 3 < x := by
  rw [Int32.le_iff_toInt_le, Int32.lt_iff_toInt_lt, show (4 : Int32).toInt = 4 from rfl, show (3 : Int32).toInt = 3 from rfl]; omega
theorem i_no14000 {x : Int32} (h : x ≤ 10000) : x ≠ 14000 := fun z => by rw [z] at h; exact absurd h (by decide)
theorem sim_attrib : Ok_attrib Sim := by
  intro n mf bd zN ub cs mu mn la fq rq r th np mp cc kn sc fc so lb lq wq q h x wh v u u' hu hu'
  subst hu hu'
  have h0 := h
  obtain ⟨⟨e1, e2, -, -⟩, ⟨hn, hm, -, -⟩, hv, hd, -⟩ := h0
  subst e1 e2
  unfold cAttribute mAttribute
  obtain ⟨v1, v2, v3, v4, v5, v6, v7, v8, v9, v10, v11⟩ := hv
  by_cases c1 : x = 0
  · rw [if_pos c1, if_pos c1]
    by_cases c2 : wh < 0
    · rw [if_pos c2, if_pos c2]; exact ⟨rfl, h⟩
    rw [if_neg c2, if_neg c2]
    by_cases c3 : 4 ≤ wh
    · rw [if_pos c3, if_pos (i_34.mp c3)]; exact ⟨rfl, h⟩
    rw [if_neg c3, if_neg (mt i_34.mpr c3)]
    by_cases c4 : v < -10000
    · rw [if_pos c4, if_pos c4]; exact ⟨rfl, h⟩
    rw [if_neg c4, if_neg c4]
    by_cases c5 : v ≤ 10000
    · rw [if_pos c5, if_pos c5]
      refine ⟨rfl, sim_upd h (Nat.le_refl _) hn hm ⟨v1, v2, v3, v4, v5, v6, v7, v8, v9, fun w hw => ?_, fun w hw hw2 => ?_⟩ hd rfl rfl rfl rfl rfl rfl rfl⟩
      · show upd (r 17) wh.toNatClampNeg v w = if upd (q 12) wh.toNatClampNeg 1 w = 0 then 14000 else upd (q 13) wh.toNatClampNeg v w
        by_cases e : w = wh.toNatClampNeg
        · simp only [upd, if_pos e]; rfl
        · simp only [upd, if_neg e]; exact v10 w hw
      · have hw2 : upd (q 12) wh.toNatClampNeg 1 w ≠ 0 := hw2
        show upd (q 13) wh.toNatClampNeg v w ≠ 14000
        by_cases e : w = wh.toNatClampNeg
        · simp only [upd, if_pos e]; exact i_no14000 c5
        · simp only [upd, if_neg e] at hw2 ⊢; exact v11 w hw hw2
    · rw [if_neg c5, if_neg c5]; exact ⟨rfl, h⟩
  · rw [if_neg c1, if_neg c1]
    by_cases c0 : hasB (nI np) x = true
    rotate_left
    · rw [if_neg c0, if_neg c0]; exact ⟨rfl, h⟩
    rw [if_pos c0, if_pos c0]
    have hx := has_nat hn c0
    by_cases c2 : wh < 0
    · rw [if_pos c2, if_pos c2]; exact ⟨rfl, h⟩
    rw [if_neg c2, if_neg c2]
    by_cases c3 : 4 ≤ wh
    · rw [if_pos c3, if_pos (i_34.mp c3)]; exact ⟨rfl, h⟩
    rw [if_neg c3, if_neg (mt i_34.mpr c3)]
    have hwh := nat_4 c2 (mt i_34.mpr c3)
    by_cases c4 : v < -1000
    · rw [if_pos c4, if_pos c4]; exact ⟨rfl, h⟩
    rw [if_neg c4, if_neg c4]
    by_cases c5 : v ≤ 1000
    · rw [if_pos c5, if_pos c5]
      refine ⟨rfl, sim_upd h (Nat.le_refl _) hn hm ⟨v1, v2, v3, v4, v5, v6, v7, v8, fun w f hw hf => ?_, v10, v11⟩ hd rfl rfl rfl rfl rfl rfl rfl⟩
      show upd (r 16) (wh.toNatClampNeg * 15 + x.toNatClampNeg) v (w * 15 + f) = upd (q 6) (4 * x.toNatClampNeg + wh.toNatClampNeg) v (4 * f + w)
      by_cases e : w = wh.toNatClampNeg ∧ f = x.toNatClampNeg
      · obtain ⟨e3, e4⟩ := e
        simp only [upd, e3, e4, if_true]
      · simp only [upd]
        rw [if_neg (fun z => e (by omega)), if_neg (fun z => e (by omega))]
        exact v9 w f hw hf
    · rw [if_neg c5, if_neg c5]; exact ⟨rfl, h⟩
theorem bc_all {g : Int32} (h : ∀ i, 14 ≤ i → i < 32 → bt g i = false) : bcI g = nI (cntU (fun k => bt g (14 - k)) 14) := by
  obtain ⟨m, h1, h2, h3⟩ := of_bits h
  rw [h2, bc_nat h1, ← h2]
  congr 1
  exact cntU_congr (fun k _ _ => h3 _ (by omega))
theorem sim_group : Ok_group Sim := by
  intro n mf bd zN ub cs mu mn la fq rq r th np mp cc kn sc fc so lb lq wq q h x lo hi u u' hu hu'
  subst hu hu'
  have h0 := h
  obtain ⟨⟨e1, e2, -, -⟩, ⟨hn, hm, -, -⟩, hv, hd, -⟩ := h0
  subst e1 e2
  unfold cGroup mGroup
  obtain ⟨v1, v2, v3, v4, v5, v6, v7, v8, v9, v10, v11⟩ := hv
  by_cases c0 : hasB (nI np) x = true
  rotate_left
  · rw [if_neg c0, if_neg c0]; exact ⟨rfl, h⟩
  rw [if_pos c0, if_pos c0]
  have hx := has_nat hn c0
  by_cases c2 : lo < 0
  · rw [if_pos c2, if_pos c2]; exact ⟨rfl, h⟩
  rw [if_neg c2, if_neg c2]
  by_cases c3 : hi < lo
  · rw [if_pos c3, if_pos c3]; exact ⟨rfl, h⟩
  rw [if_neg c3, if_neg c3]
  by_cases c4 : hi ≤ 14
  rotate_left
  · rw [if_neg c4, if_neg c4]; exact ⟨rfl, h⟩
  rw [if_pos c4, if_pos c4]
  refine ⟨?_, sim_upd h (Nat.le_refl _) hn hm ⟨v1, v2, v3, v4, fun f hf => ?_, fun f hf => ?_, fun f h1 h2 => ?_, v8, v9, v10, v11⟩ hd rfl rfl rfl rfl rfl rfl rfl⟩
  · show bcI (r 6 x.toNatClampNeg) = nI (cntU (grbB (q 1) (q 2) x) np)
    rw [bc_all (fun i h1 h2 => hd.2 _ i hx.2.1 (by omega) h1 h2)]
    have e : 14 = np + (14 - np) := by omega
    have z := cntU_zero (P := fun k => bt (r 6 x.toNatClampNeg) (14 - k)) (n := np) (14 - np) (fun f h4 h5 => by
      show bt (r 6 x.toNatClampNeg) (14 - f) = false
      rw [v4 _ f hx.2.1 (by omega) (by omega) (by omega), decide_eq_false (by omega), Bool.false_and])
    rw [← e] at z
    rw [z]
    congr 1
    refine cntU_congr (fun k h4 h5 => ?_)
    show bt (r 6 x.toNatClampNeg) (14 - k) = _
    rw [v4 _ k hx.2.1 (by omega) h4 (by omega), decide_eq_true h5, Bool.true_and, ← hx.1]
  · show upd (r 7) x.toNatClampNeg lo f = upd (q 4) x.toNatClampNeg lo f
    simp only [upd]; rw [v5 f hf]
  · show upd (r 8) x.toNatClampNeg hi f = upd (q 5) x.toNatClampNeg hi f
    simp only [upd]; rw [v6 f hf]
  · show bt (bd ||| bitI (nI x.toNatClampNeg)) (14 - f) = decide (upd (q 3) x.toNatClampNeg 1 f ≠ 0)
    rw [b_or, v7 f h1 h2, bt_bit hx.2.1 (by omega) (by omega)]
    by_cases e : f = x.toNatClampNeg
    · rw [decide_eq_true (show 14 - x.toNatClampNeg = 14 - f by omega), Bool.or_true]
      have e1 : upd (q 3) x.toNatClampNeg 1 f = 1 := if_pos e
      exact (decide_eq_true (show upd (q 3) x.toNatClampNeg 1 f ≠ 0 by rw [e1]; decide)).symm
    · rw [decide_eq_false (show ¬ 14 - x.toNatClampNeg = 14 - f by omega), Bool.or_false]
      have e1 : upd (q 3) x.toNatClampNeg 1 f = q 3 f := if_neg e
      exact decide_eq_decide.mpr (by rw [e1])
theorem sim_chosen : Ok_chosen Sim := by
  intro n mf bd zN ub cs mu mn la fq rq r th np mp cc kn sc fc so lb lq wq q h x u u' hu hu'
  subst hu hu'
  refine ⟨?_, h⟩
  obtain ⟨-, -, -, -, -, -, -, -, -, hso⟩ := h
  show bI (decide (¬ la &&& bitI x = 0)) = bI (so && wasB lb lq x)
  congr 1
  rcases hso with ⟨e1, e2⟩ | ⟨e1, N, s, hN, hs, rfl, rfl, rfl⟩
  · rw [e1, e2, Int32.zero_and]
    exact decide_eq_false (fun z => z rfl)
  · rw [e1, Bool.true_and]
    unfold wasB
    by_cases c1 : x < 1
    · rw [if_pos c1, show bitI x = 0 from if_pos c1, Int32.and_zero]; exact decide_eq_false (fun z => z rfl)
    rw [if_neg c1]
    by_cases c2 : nI N < x
    · rw [if_pos c2]
      by_cases c3 : 14 < x
      · rw [show bitI x = 0 by unfold bitI; rw [if_neg c1, if_pos c3], Int32.and_zero]; exact decide_eq_false (fun z => z rfl)
      · obtain ⟨j, hj, rfl⟩ := nI_of (x := x) (fun z => c1 (Int32.lt_trans z (by decide)))
        have h1 : 1 ≤ j := by have := mt (nI_ltI (a := j) (b := 1) hj (by decide)).mpr c1; omega
        have h2 : j ≤ 14 := by have := mt (nI_ltI (a := 14) (b := j) (by decide) hj).mpr c3; omega
        have h3 : N < j := (nI_ltI (by omega) hj).mp c2
        exact decide_eq_false (fun z => z ((and_bit0 h1 h2).mpr (cv_out hN h3 h2)))
    · rw [if_neg c2]
      obtain ⟨j, hj, rfl⟩ := nI_of (x := x) (fun z => c1 (Int32.lt_trans z (by decide)))
      have h1 : 1 ≤ j := by have := mt (nI_ltI (a := j) (b := 1) hj (by decide)).mpr c1; omega
      have h3 : j ≤ N := by have := mt (nI_ltI (a := N) (b := j) (by omega) hj).mpr c2; omega
      have hi := isIn_nat (n := N) (s := s) (f := j) hN (by have := pw14 hN hs; omega) h3
      unfold isInB at hi
      rw [hi]
      exact dec_not (by rw [and_bit0 h1 (by omega), cv_in hN h1 h3])
theorem sim_why : Ok_why Sim := by
  intro n mf bd zN ub cs mu mn la fq rq r th np mp cc kn sc fc so lb lq wq q h i u u' hu hu'
  subst hu hu'
  refine ⟨?_, h⟩
  obtain ⟨⟨-, -, -, e4⟩, ⟨-, -, -, hr⟩, -, -, -, -, -, hw, -⟩ := h
  subst e4
  show (if i < 0 then 0 else if nI wq ≤ i then 0 else r 24 i.toNatClampNeg) = mWhy wq q i
  unfold mWhy
  by_cases c1 : i < 0
  · rw [if_pos c1, if_pos c1]
  rw [if_neg c1, if_neg c1]
  by_cases c2 : nI wq ≤ i
  · rw [if_pos c2, if_pos c2]
  rw [if_neg c2, if_neg c2]
  exact hw _ (nat_lt (by omega) c1 c2).2
theorem sim_level : Ok_level Sim := by
  intro n mf bd zN ub cs mu mn la fq rq r th np mp cc kn sc fc so lb lq wq q h i u' hu'
  subst hu'
  have h0 := h
  obtain ⟨⟨e1, e2, -, -⟩, ⟨hn, hm, -, -⟩, hv, hd, -⟩ := h0
  subst e1
  refine ⟨fun hok => ?_, fun hbad => ?_, h⟩
  · have hix := nat_lt (w := np) (by omega) hok.1 (i_nle.mpr hok.2)
    unfold mLevel
    rw [if_neg hok.1, if_pos hok.2]
    exact ⟨(hd.1 _ (by omega) (by omega)).symm, rfl⟩
  · show (mLevel np q i).2 = 1
    unfold mLevel
    by_cases c1 : i < 0
    · rw [if_pos c1]
    · rw [if_neg c1, if_neg (hbad.resolve_left c1)]
