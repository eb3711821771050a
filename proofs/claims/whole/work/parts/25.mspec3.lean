theorem has_nat {n : Nat} {x : Int32} (hn : n ≤ 14) (h : hasB (nI n) x = true) : x = nI x.toNatClampNeg ∧ 1 ≤ x.toNatClampNeg ∧ x.toNatClampNeg ≤ n := by
  obtain ⟨h1, h2⟩ := hasB_iff.mp h
  obtain ⟨j, hj, rfl⟩ := nI_of (x := x) (fun z => absurd (Int32.lt_of_lt_of_le z (show (0 : Int32) ≤ 1 by decide)) (i_nlt.mpr h1))
  rw [nI_clamp hj]
  exact ⟨rfl, (nI_leI (a := 1) (by decide) hj).mp h1, (nI_leI hj (by omega)).mp h2⟩
theorem nat_lt {w : Nat} {x : Int32} (hw : w < 2 ^ 31) (h : ¬ x < 0) (h2 : ¬ nI w ≤ x) : x = nI x.toNatClampNeg ∧ x.toNatClampNeg < w := by
  obtain ⟨j, hj, rfl⟩ := nI_of h
  rw [nI_clamp hj]
  refine ⟨rfl, ?_⟩
  rcases Nat.lt_or_ge j w with q | q
  · exact q
  · exact absurd (nI_le q hj) h2
theorem nat_4 {x : Int32} (h : ¬ x < 0) (h2 : ¬ 3 < x) : x = nI x.toNatClampNeg ∧ x.toNatClampNeg < 4 := by
  obtain ⟨j, hj, rfl⟩ := nI_of h
  rw [nI_clamp hj]
  exact ⟨rfl, by have := mt (nI_ltI (a := 3) (by decide) hj).mpr h2; omega⟩
theorem idx_4 {x w : Int32} {i j : Nat} (h : x = nI i) (h2 : w = nI j) : 4 * x + w = nI (4 * i + j) := by rw [h, h2, show (4 : Int32) = nI 4 from rfl, pk_mul, nI_add]
def mFeature (n mf cc : Nat) (kn : Bool) (sc fc : Nat) (so : Bool) (la lq : Int32) (wq : Nat) (q : Nat → Nat → Int32) (x k : Int32) : Int32 × MS :=
  if takesB (nI n) x = true then
    if k < 0 then (-2, (0, n, mf, cc, kn, sc, fc, so, la, lq, wq, q))
    else if 2 < k then (-2, (0, n, mf, cc, kn, sc, fc, so, la, lq, wq, q))
    else if nI n = 14 then (-4, (0, n, mf, cc, kn, sc, fc, so, la, lq, wq, q))
    else (nI (n + 1), (0, n + 1, mf, cc, false, sc, fc, so, la, lq, wq, upR (upR q 1 (upd (q 1) (n + 1) x)) 2 (upd (q 2) (n + 1) k)))
  else (-1, (0, n, mf, cc, kn, sc, fc, so, la, lq, wq, q))
def mGroup (n mf cc : Nat) (kn : Bool) (sc fc : Nat) (so : Bool) (la lq : Int32) (wq : Nat) (q : Nat → Nat → Int32) (x lo hi : Int32) : Int32 × MS :=
  if hasB (nI n) x = true then
    if lo < 0 then (-2, (0, n, mf, cc, kn, sc, fc, so, la, lq, wq, q))
    else if hi < lo then (-2, (0, n, mf, cc, kn, sc, fc, so, la, lq, wq, q))
    else if hi ≤ 14 then (nI (cntU (grbB (q 1) (q 2) x) n), (0, n, mf, cc, false, sc, fc, so, la, lq, wq, upR (upR (upR q 3 (upd (q 3) x.toNatClampNeg 1)) 4 (upd (q 4) x.toNatClampNeg lo)) 5 (upd (q 5) x.toNatClampNeg hi)))
    else (-2, (0, n, mf, cc, kn, sc, fc, so, la, lq, wq, q))
  else (-1, (0, n, mf, cc, kn, sc, fc, so, la, lq, wq, q))
def alwM (o x y : Int32) : Bool := if o = 0 then decide (x = y) else if o = 3 then decide (x = y) else decide (x = -y)
def mFormula (n mf cc : Nat) (kn : Bool) (sc fc : Nat) (so : Bool) (la lq : Int32) (wq : Nat) (q : Nat → Nat → Int32) (o x y : Int32) : Int32 × MS :=
  if litOkB (nI n) x = true then
    if litOkB (nI n) y = true then
      if o < 0 then (-2, (0, n, mf, cc, kn, sc, fc, so, la, lq, wq, q))
      else if o ≤ 3 then
        if nI mf = 40 then (-4, (0, n, mf, cc, kn, sc, fc, so, la, lq, wq, q))
        else if alwM o x y = true then (0, (0, n, mf, cc, kn, sc, fc, so, la, lq, wq, q))
        else (nI (mf + 1), (0, n, mf + 1, cc, false, sc, fc, so, la, lq, wq, upR (upR (upR q 8 (upd (q 8) mf o)) 9 (upd (q 9) mf x)) 10 (upd (q 10) mf y)))
      else (-2, (0, n, mf, cc, kn, sc, fc, so, la, lq, wq, q))
    else (-1, (0, n, mf, cc, kn, sc, fc, so, la, lq, wq, q))
  else (-1, (0, n, mf, cc, kn, sc, fc, so, la, lq, wq, q))
def mAttribute (n mf cc : Nat) (kn : Bool) (sc fc : Nat) (so : Bool) (la lq : Int32) (wq : Nat) (q : Nat → Nat → Int32) (x wh v : Int32) : Int32 × MS :=
  if x = 0 then
    if wh < 0 then (-2, (0, n, mf, cc, kn, sc, fc, so, la, lq, wq, q))
    else if 3 < wh then (-2, (0, n, mf, cc, kn, sc, fc, so, la, lq, wq, q))
    else if v < -10000 then (-2, (0, n, mf, cc, kn, sc, fc, so, la, lq, wq, q))
    else if v ≤ 10000 then (1, (0, n, mf, cc, false, sc, fc, so, la, lq, wq, upR (upR q 12 (upd (q 12) wh.toNatClampNeg 1)) 13 (upd (q 13) wh.toNatClampNeg v)))
    else (-2, (0, n, mf, cc, kn, sc, fc, so, la, lq, wq, q))
  else if hasB (nI n) x = true then
    if wh < 0 then (-2, (0, n, mf, cc, kn, sc, fc, so, la, lq, wq, q))
    else if 3 < wh then (-2, (0, n, mf, cc, kn, sc, fc, so, la, lq, wq, q))
    else if v < -1000 then (-2, (0, n, mf, cc, kn, sc, fc, so, la, lq, wq, q))
    else if v ≤ 1000 then (1, (0, n, mf, cc, false, sc, fc, so, la, lq, wq, upR q 6 (upd (q 6) (4 * x.toNatClampNeg + wh.toNatClampNeg) v)))
    else (-2, (0, n, mf, cc, kn, sc, fc, so, la, lq, wq, q))
  else (-1, (0, n, mf, cc, kn, sc, fc, so, la, lq, wq, q))
/-! choices -/
theorem chOf_rng (ch : Nat → Int32) (f : Int32) : ∀ c, c < 2 ^ 31 → (chOf ch f c = -1 ∧ ∀ k, k < c → ¬ ch k = f ∧ ¬ ch k = -f) ∨ ∃ k, k < c ∧ chOf ch f c = nI k ∧ (ch k = f ∨ ch k = -f)
  | 0, _ => Or.inl ⟨rfl, fun k hk => absurd hk (Nat.not_lt_zero _)⟩
  | c + 1, h => by
    by_cases h1 : ch c = f
    · exact Or.inr ⟨c, Nat.lt_succ_self _, chOf_1 h1, Or.inl h1⟩
    · by_cases h2 : ch c = -f
      · exact Or.inr ⟨c, Nat.lt_succ_self _, chOf_2 h2, Or.inr h2⟩
      · rw [chOf_0 h1 h2]
        rcases chOf_rng ch f c (by omega) with ⟨a, b⟩ | ⟨k, a, b, d⟩
        · exact Or.inl ⟨a, fun k hk => by
            rcases Nat.lt_or_ge k c with q | q
            · exact b k q
            · rw [show k = c by omega]; exact ⟨h1, h2⟩⟩
        · exact Or.inr ⟨k, by omega, b, d⟩
theorem chOf_nat {ch : Nat → Int32} {f : Int32} {c : Nat} (hc : c < 2 ^ 31) (h : ¬ chOf ch f c < 0) : chOf ch f c = nI (chOf ch f c).toNatClampNeg ∧ (chOf ch f c).toNatClampNeg < c := by
  rcases chOf_rng ch f c hc with ⟨a, -⟩ | ⟨k, a, b, -⟩
  · rw [a] at h; exact absurd (by decide) h
  · rw [b, nI_clamp (by omega)]; exact ⟨rfl, a⟩
theorem lit_pos {z x : Int32} (h : litOkB z x = true) (h0 : 0 ≤ x) : hasB z x = true := by
  unfold litOkB at h
  by_cases h1 : hasB z x = true
  · exact h1
  · rw [if_neg h1, if_pos h0] at h; cases h
theorem lit_neg {z x : Int32} (h : litOkB z x = true) (h0 : ¬ 0 ≤ x) : hasB z (-x) = true := by
  unfold litOkB at h
  by_cases h1 : hasB z x = true
  · exact absurd (Int32.le_trans (show (0 : Int32) ≤ 1 by decide) (hasB_iff.mp h1).1) h0
  · rw [if_neg h1, if_neg h0] at h
    split at h
    · cases h
    · exact h
/-- the choices without one of f's -/
def chL (L : List Int32) (ch : Nat → Int32) (f : Int32) : List Int32 := if chOf ch f L.length < 0 then L else L.eraseIdx (chOf ch f L.length).toNatClampNeg
def chNew (L : List Int32) (ch : Nat → Int32) (x : Int32) (on : Bool) : List Int32 := if 0 ≤ x then chL L ch x ++ [if on then x else -x] else chL L ch (-x)
def mChoose (n mf : Nat) (L : List Int32) (kn : Bool) (sc fc : Nat) (so : Bool) (la lq : Int32) (wq : Nat) (q : Nat → Nat → Int32) (x : Int32) (on : Bool) (u : Int32 × MS) : Prop :=
  if litOkB (nI n) x = true then ∃ g, rowIs g (chNew L (q 14) x on) ∧ u = (nI (chNew L (q 14) x on).length, (0, n, mf, (chNew L (q 14) x on).length, kn, sc, fc, so, la, lq, wq, upR q 14 g))
  else u = (-1, (0, n, mf, L.length, kn, sc, fc, so, la, lq, wq, q))
theorem chL_t {L : List Int32} {ch : Nat → Int32} {f : Int32} (h : chOf ch f L.length < 0) : chL L ch f = L := if_pos h
theorem chL_f {L : List Int32} {ch : Nat → Int32} {f : Int32} (h : ¬ chOf ch f L.length < 0) : chL L ch f = L.eraseIdx (chOf ch f L.length).toNatClampNeg := if_neg h
theorem upR_self (q : Nat → Nat → Int32) (k : Nat) : upR q k (q k) = q := by
  funext j; unfold upR; split
  · rename_i h; rw [h]
  · rfl
def mWhy (wq : Nat) (q : Nat → Nat → Int32) (i : Int32) : Int32 := if i < 0 then 0 else if nI wq ≤ i then 0 else q 25 i.toNatClampNeg
