/-! the relation of the two states -/
def chs (n : Nat) (L : List Int32) : Prop := (∀ x ∈ L, lit n x) ∧ L.Pairwise (fun x y => x ≠ y ∧ x ≠ -y)
def masks (mu mn : Int32) (L : List Int32) : Prop := (∀ f, 1 ≤ f → f ≤ 14 → bt mu (14 - f) = decide (nI f ∈ L)) ∧ (∀ f, 1 ≤ f → f ≤ 14 → bt mn (14 - f) = decide (-nI f ∈ L)) ∧ (∀ i, 14 ≤ i → i < 32 → bt mu i = false ∧ bt mn i = false)
def fndOk (q19 q21 r22 : Int32) : Prop := ∃ N s, N ≤ 14 ∧ s < 2 ^ N ∧ q19 = nI s ∧ q21 = nI N ∧ r22 = cvN N s
def Sim : CS → MS → Prop
  | (n, mf, bd, zN, ub, cs, mu, mn, la, fq, rq, r), (th, np, mp, cc, kn, sc, fc, so, lb, lq, wq, q) =>
    (np = n ∧ mp = mf ∧ fc = fq ∧ wq = rq) ∧ (n ≤ 14 ∧ mf ≤ 40 ∧ fq ≤ 200 ∧ rq ≤ 14) ∧ SimV n mf bd r q ∧ ((∀ f, 1 ≤ f → f ≤ n → r 4 f = nI (dpt (q 1) (parN (q 1) f))) ∧ ∀ f i, 1 ≤ f → f ≤ 14 → 14 ≤ i → i < 32 → bt (r 6 f) i = false) ∧
    (ub = true → rowIs (r 18) (vLL r bd n mf) ∧ zN = (vLL r bd n mf).length) ∧ (kn = true → rowIs (q 17) (mL n mf q) ∧ sc = (mL n mf q).length) ∧
    (∃ L : List Int32, cs = L.length ∧ cc = L.length ∧ chs n L ∧ rowIs (r 20) L ∧ rowIs (q 14) L ∧ masks mu mn L) ∧
    (∀ k, k < rq → r 24 k = q 25 k) ∧ (∀ k, k < fq → fndOk (q 19 (k + 1)) (q 21 (k + 1)) (r 22 k)) ∧ ((so = false ∧ la = 0) ∨ (so = true ∧ fndOk lb lq la))
theorem nI_inj15 : ∀ a, a < 15 → ∀ b, b < 15 → nI a = nI b → a = b := by decide +kernel
theorem neg_inj15 : ∀ a, a < 15 → ∀ b, b < 15 → -nI a = -nI b → a = b := by decide +kernel
theorem lit_mono {n m : Nat} {x : Int32} (h : n ≤ m) (hx : lit n x) : lit m x := by
  obtain ⟨f, h1, h2, h3⟩ := hx
  exact ⟨f, h1, by omega, h3⟩
theorem chs_mono {n m : Nat} {L : List Int32} (h : n ≤ m) (hL : chs n L) : chs m L := ⟨fun x hx => lit_mono h (hL.1 x hx), hL.2⟩
theorem drop_all {f : Int32} : ∀ {L : List Int32}, (∀ y ∈ L, y ≠ f ∧ y ≠ -f) → L.filter (dropB f) = L := fun h => List.filter_eq_self.mpr (fun y hy => decide_eq_true (h y hy))
theorem drop_len {f : Int32} : ∀ {L : List Int32}, L.Pairwise (fun x y => x ≠ y ∧ x ≠ -y) → L.length ≤ (L.filter (dropB f)).length + 1
  | [], _ => Nat.zero_le _
  | x :: l, h => by
    obtain ⟨h1, h2⟩ := List.pairwise_cons.mp h
    by_cases e : x ≠ f ∧ x ≠ -f
    · rw [List.filter_cons, if_pos (show dropB f x = true from decide_eq_true e), List.length_cons, List.length_cons]
      have := drop_len (f := f) h2
      omega
    · rw [List.filter_cons, if_neg (show ¬ dropB f x = true by unfold dropB; rw [decide_eq_false e]; decide), drop_all (fun y hy => ?_)]
      · exact Nat.le_refl _
      · have h3 := h1 y hy
        by_cases e1 : x = f
        · subst e1
          exact ⟨fun z => h3.1 z.symm, fun z => h3.2 (by rw [z, Int32.neg_neg])⟩
        · have e2 : x = -f := Classical.not_not.mp (fun z => e ⟨e1, z⟩)
          subst e2
          exact ⟨fun z => h3.2 (by rw [z]), fun z => h3.1 z.symm⟩
theorem chs_len : ∀ {n : Nat} {L : List Int32}, chs n L → L.length ≤ n
  | 0, [], _ => Nat.le_refl _
  | 0, x :: l, h => by
    obtain ⟨f, h1, h2, -⟩ := h.1 x List.mem_cons_self
    omega
  | n + 1, L, h => by
    have h1 := drop_len (f := nI (n + 1)) h.2
    have h2 : chs n (L.filter (dropB (nI (n + 1)))) := ⟨fun x hx => by
      obtain ⟨hx1, hx2⟩ := List.mem_filter.mp hx
      obtain ⟨f, a1, a2, a3⟩ := h.1 x hx1
      have hd : x ≠ nI (n + 1) ∧ x ≠ -nI (n + 1) := of_decide_eq_true hx2
      refine ⟨f, a1, ?_, a3⟩
      rcases Nat.lt_or_ge n f with e | e
      · have : f = n + 1 := by omega
        subst this
        rcases a3 with a3 | a3
        · exact absurd a3 hd.1
        · exact absurd a3 hd.2
      · exact e, h.2.filter _⟩
    have := chs_len h2
    omega
theorem chs_snoc {n : Nat} {L : List Int32} {x : Int32} (h : chs n L) (hx : lit n x) (hd : ∀ y ∈ L, y ≠ x ∧ y ≠ -x) : chs n (L ++ [x]) := ⟨fun y hy => by
    rcases List.mem_append.mp hy with h1 | h1
    · exact h.1 y h1
    · rw [List.mem_singleton.mp h1]; exact hx, List.pairwise_append.mpr ⟨h.2, List.pairwise_singleton _ _, fun y hy z hz => by rw [List.mem_singleton.mp hz]; exact hd y hy⟩⟩
theorem chs_drop {n : Nat} {L : List Int32} (f : Int32) (h : chs n L) : chs n (L.filter (dropB f)) := ⟨fun x hx => h.1 x (List.mem_filter.mp hx).1, h.2.filter _⟩
theorem drop_no {L : List Int32} {f : Int32} : ∀ y ∈ L.filter (dropB f), y ≠ f ∧ y ≠ -f := fun y hy => of_decide_eq_true (List.mem_filter.mp hy).2
theorem lit_has {n : Nat} {x : Int32} (hn : n ≤ 14) (h : hasB (nI n) x = true) : lit n x := by
  obtain ⟨h1, h2, h3⟩ := has_nat hn h
  exact ⟨_, h2, h3, Or.inl h1⟩
theorem chOf_none {ch : Nat → Int32} {f : Int32} {L : List Int32} (hr : rowIs ch L) (hl : L.length ≤ 14) (h : chOf ch f L.length < 0) : ∀ y ∈ L, y ≠ f ∧ y ≠ -f := by
  rcases chOf_rng ch f L.length (by omega) with ⟨-, hk⟩ | ⟨k, h1, h2, -⟩
  · intro y hy
    obtain ⟨k, hk1, rfl⟩ := List.getElem_of_mem hy
    have h3 := hk k hk1
    rw [hr k hk1, List.getD_eq_getElem?_getD, List.getElem?_eq_getElem hk1] at h3
    exact h3
  · rw [h2] at h
    exact absurd h (nI_pos (by omega))
theorem hasS_pos {n : Nat} {x : Int32} (h : hasSignedB (nI n) x = true) (h0 : 0 ≤ x) : hasB (nI n) x = true := by
  unfold hasSignedB at h
  rwa [if_pos h0] at h
theorem parOk_of {n : Nat} {pa : Nat → Int32} (h : parOk2 n pa) : parOk n pa := fun k h1 h2 => ⟨parN pa k, (h k h1 h2).1, (h k h1 h2).2.1⟩
theorem sim_pre : Ok_pre Sim := by
  intro t t' h
  obtain ⟨n, mf, bd, zN, ub, cs, mu, mn, la, fq, rq, r⟩ := t
  obtain ⟨th, np, mp, cc, kn, sc, fc, so, lb, lq, wq, q⟩ := t'
  obtain ⟨⟨rfl, rfl, rfl, rfl⟩, ⟨hn, hm, hf, hr⟩, hv, hd, hu, hk, ⟨L, hc1, hc2, hc3, hc4, hc5, hc6⟩, -, -, -⟩ := h
  have hl := chs_len hc3
  refine ⟨hn, hm, ⟨hn, hm, fun j _ => updL_ok j _, fun j hj => updL_8192 hn hj, hu⟩, hf, hr, hn, hm, ⟨hn, hm, hk⟩, hf, hr, parOk_of hv.1, L, hc1, hc2, by omega, hc4, hc5, fun x hx h0 => ?_, fun f h1 h2 => ?_⟩
  · have := chs_len (chs_snoc (chs_drop x hc3) (lit_has hn (hasS_pos hx h0)) drop_no)
    rw [List.length_append] at this
    have h9 : ([x] : List Int32).length = 1 := rfl
    omega
  · have := chs_len (chs_snoc hc3 (lit_has hn h2) (chOf_none hc5 (by omega) h1))
    rw [List.length_append] at this
    have h9 : ([f] : List Int32).length = 1 := rfl
    omega
theorem sim_init : Ok_init Sim := by
  refine ⟨⟨rfl, rfl, rfl, rfl⟩, by decide, ⟨fun f h1 h2 => absurd h1 (by omega), fun f h1 h2 => absurd h1 (by omega), fun f _ => rfl, fun f k h1 h2 h3 h4 => ?_, fun f _ => rfl, fun f _ => rfl, fun f _ _ => ?_, fun k h => absurd h (Nat.not_lt_zero _), fun wh f _ _ => rfl, fun wh hw => ?_, fun wh _ h => absurd rfl h⟩, ⟨fun f h1 h2 => absurd h1 (by omega), fun f i _ _ _ _ => b_0 _⟩, (fun h => nomatch h), (fun h => nomatch h), ⟨[], rfl, rfl, ⟨(fun x h => nomatch h), List.Pairwise.nil⟩, fun k h => absurd h (Nat.not_lt_zero _), fun k h => absurd h (Nat.not_lt_zero _), fun f _ _ => b_0 _, fun f _ _ => b_0 _, fun i _ _ => ⟨b_0 _, b_0 _⟩⟩, fun k h => absurd h (Nat.not_lt_zero _), fun k h => absurd h (Nat.not_lt_zero _), Or.inl ⟨rfl, rfl⟩⟩
  · rw [decide_eq_false (show ¬ k ≤ 0 by omega), Bool.false_and]
    exact b_0 _
  · rw [decide_eq_false (fun z => z rfl)]
    exact b_0 _
  · rcases (show wh = 0 ∨ wh = 1 ∨ wh = 2 ∨ wh = 3 by omega) with rfl | rfl | rfl | rfl <;> rfl
