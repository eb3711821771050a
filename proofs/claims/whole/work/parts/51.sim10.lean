/-! choose -/
theorem rowIs_inj {f : Nat → Int32} {L M : List Int32} (h1 : rowIs f L) (h2 : rowIs f M) (h : L.length = M.length) : L = M := by
  refine List.ext_getElem h (fun i a b => ?_)
  have e1 := h1 i a
  have e2 := h2 i b
  rw [List.getD_eq_getElem?_getD, List.getElem?_eq_getElem a] at e1
  rw [List.getD_eq_getElem?_getD, List.getElem?_eq_getElem b] at e2
  exact e1.symm.trans e2
theorem pw_other {f x y : Int32} (h : x ≠ y ∧ x ≠ -y) (hx : x = f ∨ x = -f) : y ≠ f ∧ y ≠ -f := by
  rcases hx with rfl | rfl
  · exact ⟨fun z => h.1 z.symm, fun z => h.2 (by rw [z, Int32.neg_neg])⟩
  · exact ⟨fun z => h.2 (by rw [z]), fun z => h.1 z.symm⟩
theorem erase_drop {f : Int32} : ∀ (L : List Int32) (k : Nat), L.Pairwise (fun x y => x ≠ y ∧ x ≠ -y) → k < L.length → (L.getD k 0 = f ∨ L.getD k 0 = -f) → L.eraseIdx k = L.filter (dropB f)
  | [], k, _, hk, _ => absurd hk (Nat.not_lt_zero _)
  | x :: l, 0, hp, _, hx => by
    obtain ⟨h1, h2⟩ := List.pairwise_cons.mp hp
    have hx : x = f ∨ x = -f := hx
    rw [List.eraseIdx_cons_zero, List.filter_cons, if_neg (show ¬ dropB f x = true from fun z => by
      have z : x ≠ f ∧ x ≠ -f := of_decide_eq_true z
      exact hx.elim z.1 z.2), drop_all (fun y hy => pw_other (h1 y hy) hx)]
  | x :: l, k + 1, hp, hk, hx => by
    obtain ⟨h1, h2⟩ := List.pairwise_cons.mp hp
    have hk : k < l.length := by simpa using hk
    have hx : l.getD k 0 = f ∨ l.getD k 0 = -f := hx
    have hxk := h1 _ (getD_mem hk)
    have hne : x ≠ f ∧ x ≠ -f := by
      rcases hx with e | e
      · rw [e] at hxk; exact hxk
      · rw [e, Int32.neg_neg] at hxk; exact ⟨hxk.2, hxk.1⟩
    rw [List.eraseIdx_cons_succ, List.filter_cons, if_pos (show dropB f x = true from decide_eq_true hne), erase_drop l k h2 hk hx]
theorem chL_eq {n : Nat} {L : List Int32} {ch : Nat → Int32} {f : Int32} (h : chs n L) (hl : L.length ≤ 14) (hr : rowIs ch L) : chL L ch f = L.filter (dropB f) := by
  by_cases c : chOf ch f L.length < 0
  · rw [chL_t c, drop_all (chOf_none hr hl c)]
  · rw [chL_f c]
    rcases chOf_rng ch f L.length (by omega) with ⟨a, -⟩ | ⟨k, h1, h2, h3⟩
    · rw [a] at c; exact absurd (by decide) c
    · rw [h2, nI_clamp (by omega)]
      rw [hr k h1] at h3
      exact erase_drop L k h.2 h1 h3
theorem b_not {x : Int32} {i : Nat} (hi : i < 32) : bt (x ^^^ -1) i = !bt x i := by rw [b_xor, b_m1 i hi, Bool.xor_true]
theorem masks_drop {mu mn : Int32} {L : List Int32} {f : Nat} (h1 : 1 ≤ f) (h2 : f ≤ 14) (hm : masks mu mn L) : masks (mu &&& (bitI (nI f) ^^^ -1)) (mn &&& (bitI (nI f) ^^^ -1)) (L.filter (dropB (nI f))) := by
  obtain ⟨m1, m2, m3⟩ := hm
  refine ⟨fun g a b => ?_, fun g a b => ?_, fun i a b => ⟨by rw [b_and, (m3 i a b).1]; rfl, by rw [b_and, (m3 i a b).2]; rfl⟩⟩
  · rw [b_and, b_not (by omega), m1 g a b, bt_bit h1 h2 (by omega), Bool.eq_iff_iff, Bool.and_eq_true, decide_eq_true_iff, Bool.not_eq_true', decide_eq_false_iff_not, decide_eq_true_iff, List.mem_filter]
    constructor
    · rintro ⟨z1, z2⟩
      exact ⟨z1, decide_eq_true ⟨fun e => z2 (by rw [nI_inj15 g (by omega) f (by omega) e]), fun e => nI_neg_ne h1 h2 b e.symm⟩⟩
    · rintro ⟨z1, z2⟩
      have z3 : nI g ≠ nI f ∧ nI g ≠ -nI f := of_decide_eq_true z2
      exact ⟨z1, fun e => z3.1 (by rw [show g = f by omega])⟩
  · rw [b_and, b_not (by omega), m2 g a b, bt_bit h1 h2 (by omega), Bool.eq_iff_iff, Bool.and_eq_true, decide_eq_true_iff, Bool.not_eq_true', decide_eq_false_iff_not, decide_eq_true_iff, List.mem_filter]
    constructor
    · rintro ⟨z1, z2⟩
      exact ⟨z1, decide_eq_true ⟨fun e => nI_neg_ne a b h2 e, fun e => z2 (by rw [neg_inj15 g (by omega) f (by omega) e])⟩⟩
    · rintro ⟨z1, z2⟩
      have z3 : -nI g ≠ nI f ∧ -nI g ≠ -nI f := of_decide_eq_true z2
      exact ⟨z1, fun e => z3.2 (by rw [show g = f by omega])⟩
theorem masks_addn {mu mn : Int32} {L : List Int32} {f : Nat} (h1 : 1 ≤ f) (h2 : f ≤ 14) (hm : masks mu mn L) : masks mu (mn ||| bitI (nI f)) (L ++ [-nI f]) := by
  obtain ⟨m1, m2, m3⟩ := hm
  refine ⟨fun g a b => ?_, fun g a b => ?_, fun i a b => ⟨(m3 i a b).1, ?_⟩⟩
  · rw [m1 g a b]
    exact decide_eq_decide.mpr ⟨fun z => List.mem_append_left _ z, fun z => (List.mem_append.mp z).elim id (fun w => absurd (List.mem_singleton.mp w).symm (nI_neg_ne h1 h2 b))⟩
  · rw [b_or, m2 g a b, bt_bit h1 h2 (by omega)]
    by_cases e : g = f
    · subst e
      rw [decide_eq_true (rfl : 14 - g = 14 - g), Bool.or_true, decide_eq_true (List.mem_append_right _ (List.mem_singleton.mpr rfl))]
    · rw [decide_eq_false (show ¬ 14 - f = 14 - g by omega), Bool.or_false]
      exact decide_eq_decide.mpr ⟨fun z => List.mem_append_left _ z, fun z => (List.mem_append.mp z).elim id (fun w => absurd (neg_inj15 g (by omega) f (by omega) (List.mem_singleton.mp w)) e)⟩
  · rw [b_or, (m3 i a b).2, bt_bit h1 h2 b, decide_eq_false (by omega)]; rfl
theorem sim_choose : Ok_choose Sim := by
  intro n mf bd zN ub cs mu mn la fq rq r th np mp cc kn sc fc so lb lq wq q L hcs hcc hr1 hr2 h x on u u' hu hu'
  subst hcs hcc
  have h0 := h
  obtain ⟨⟨rfl, rfl, g3, g4⟩, ⟨hn, hm, hf, hr⟩, hv, hd, hu1, hk1, ⟨L', hc1, hc2, hc3, hc4, hc5, hc6⟩, hw, hfo, hso⟩ := h0
  have hLL : L = L' := rowIs_inj hr1 hc4 hc1
  subst hLL
  have hl := chs_len hc3
  unfold cChoose at hu
  unfold mChoose at hu'
  rw [litOk_eq hn] at hu
  by_cases c0 : litOkB (nI np) x = true
  rotate_left
  · rw [if_neg c0] at hu hu'; subst hu hu'; exact ⟨rfl, h⟩
  rw [if_pos c0] at hu hu'
  have eN : cNew L x on = chNew L (q 14) x on := by
    unfold cNew chNew
    rw [chL_eq hc3 (by omega) hr2, chL_eq hc3 (by omega) hr2]
  obtain ⟨g, hg, rfl⟩ := hu
  obtain ⟨k, hk, rfl⟩ := hu'
  rw [← eN] at hk ⊢
  refine ⟨rfl, ⟨rfl, rfl, g3, g4⟩, ⟨hn, hm, hf, hr⟩, hv, hd, hu1, hk1, ⟨cNew L x on, rfl, rfl, ?_, hg, hk, ?_⟩, hw, hfo, hso⟩
  · unfold cNew
    by_cases h1 : 0 ≤ x
    · rw [if_pos h1]
      have hb := lit_has hn (lit_pos c0 h1)
      cases on
      · obtain ⟨f, f1, f2, f3⟩ := hb
        exact chs_snoc (chs_drop x hc3) ⟨f, f1, f2, f3.elim (fun e => Or.inr (by rw [e]; rfl)) (fun e => Or.inl (by rw [e]; exact Int32.neg_neg))⟩ (fun y hy => ⟨(drop_no y hy).2, fun z => (drop_no y hy).1 (by rw [z]; exact Int32.neg_neg)⟩)
      · exact chs_snoc (chs_drop x hc3) hb (fun y hy => drop_no y hy)
    · rw [if_neg h1]
      exact chs_drop (-x) hc3
  · unfold cNew cMu cMn
    by_cases h1 : 0 ≤ x
    · rw [if_pos h1, if_pos h1, if_pos h1]
      obtain ⟨a1, a2, a3⟩ := has_nat hn (lit_pos c0 h1)
      rw [a1]
      have hmd := masks_drop a2 (show x.toNatClampNeg ≤ 14 by omega) hc6
      cases on
      · show masks (mu &&& (bitI (nI x.toNatClampNeg) ^^^ -1) ||| 0) (mn &&& (bitI (nI x.toNatClampNeg) ^^^ -1) ||| bitI (nI x.toNatClampNeg)) (L.filter (dropB (nI x.toNatClampNeg)) ++ [-nI x.toNatClampNeg])
        rw [Int32.or_zero]
        exact masks_addn a2 (by omega) hmd
      · show masks (mu &&& (bitI (nI x.toNatClampNeg) ^^^ -1) ||| bitI (nI x.toNatClampNeg)) (mn &&& (bitI (nI x.toNatClampNeg) ^^^ -1) ||| 0) (L.filter (dropB (nI x.toNatClampNeg)) ++ [nI x.toNatClampNeg])
        rw [Int32.or_zero]
        exact masks_add a2 (by omega) hmd
    · rw [if_neg h1, if_neg h1, if_neg h1]
      obtain ⟨a1, a2, a3⟩ := has_nat hn (lit_neg c0 h1)
      rw [a1]
      exact masks_drop a2 (by omega) hc6
