/-! the reference's state, and what each of its calls answers and makes of it -/
def upR (q : Nat → Nat → Int32) (k : Nat) (f : Nat → Int32) : Nat → Nat → Int32 := fun j => if j = k then f else q j
/-- thrown, features, formulas, choiceCount, known, setCount, foundCount, solved, last, lastFeatures, whyCount, the rows -/
abbrev MS : Type := Int32 × Nat × Nat × Nat × Bool × Nat × Nat × Bool × Int32 × Int32 × Nat × (Nat → Nat → Int32)
def mW (G : GG) (b : Nat → Nat) : MS → va_W
  | (th, n, mf, cc, kn, sc, fc, so, la, lq, wq, q) => [oX8 (b 0) th (b 1) (b 2) (b 3) (b 4) (b 5) (b 6) (nI n) (b 8) (b 9) (b 10) (nI mf) (b 12) (b 13) (b 14) (nI cc) (bI kn) (b 17) (nI sc) (b 19) (nI fc) (b 21) (bI so) la lq (b 25) (nI wq), cI G (b 1) 15 (q 1), cI G (b 2) 15 (q 2), cZ G (b 3) 15 (q 3), cI G (b 4) 15 (q 4), cI G (b 5) 15 (q 5), cI G (b 6) 60 (q 6), cI G (b 8) 40 (q 8), cI G (b 9) 40 (q 9), cI G (b 10) 40 (q 10), cZ G (b 12) 4 (q 12), cI G (b 13) 4 (q 13), cI G (b 14) 14 (q 14), cI G (b 17) 16384 (q 17), cI G (b 19) 201 (q 19), cI G (b 21) 201 (q 21), cI G (b 25) 14 (q 25)]
def mL (n mf : Nat) (q : Nat → Nat → Int32) : List Int32 := mLL n (q 1) (q 2) (q 3) (q 4) (q 5) mf (q 8) (q 9) (q 10) (q 6) (q 12) (q 13)
/-- what is kept of the sets is right, where it is said to be known -/
def kOk (n mf : Nat) (kn : Bool) (sc : Nat) (q : Nat → Nat → Int32) : Prop := n ≤ 14 ∧ mf ≤ 40 ∧ (kn = true → rowIs (q 17) (mL n mf q) ∧ sc = (mL n mf q).length)
theorem setsF_len (n t : Nat) (P : Int32 → Bool) : ((setsD n t).filter P).length ≤ 2 ^ n - t := by
  have h := List.length_filter_le P (setsD n t)
  rw [setsD_len] at h
  exact h
theorem mLL_len {n : Nat} (hn : n ≤ 14) (pa ki gd le mo : Nat → Int32) (mf : Nat) (op fa fb sm ld lm : Nat → Int32) : (mLL n pa ki gd le mo mf op fa fb sm ld lm).length ≤ 16384 := by
  have h := setsF_len n 0 (mOk n pa ki gd le mo mf op fa fb sm ld lm)
  have h2 := pow_le14 hn
  unfold mLL
  omega
theorem mOk_1 {n : Nat} {pa ki gd le mo : Nat → Int32} {mf : Nat} {op fa fb sm ld lm : Nat → Int32} {s : Int32} (h : mtrB n pa ki gd le mo s = false) : mOk n pa ki gd le mo mf op fa fb sm ld lm s = false := by unfold mOk; rw [h]; rfl
theorem mOk_2 {n : Nat} {pa ki gd le mo : Nat → Int32} {mf : Nat} {op fa fb sm ld lm : Nat → Int32} {s : Int32} (h : mtrB n pa ki gd le mo s = true) (h2 : allZ (mfrB (nI n) op fa fb s) mf = false) : mOk n pa ki gd le mo mf op fa fb sm ld lm s = false := by unfold mOk; rw [h, h2]; rfl
theorem mOk_3 {n : Nat} {pa ki gd le mo : Nat → Int32} {mf : Nat} {op fa fb sm ld lm : Nat → Int32} {s : Int32} (h : mtrB n pa ki gd le mo s = true) (h2 : allZ (mfrB (nI n) op fa fb s) mf = true) (h3 : allZ (mcaB n sm ld lm s) 4 = false) : mOk n pa ki gd le mo mf op fa fb sm ld lm s = false := by unfold mOk; rw [h, h2, h3]; rfl
theorem mOk_4 {n : Nat} {pa ki gd le mo : Nat → Int32} {mf : Nat} {op fa fb sm ld lm : Nat → Int32} {s : Int32} (h : mtrB n pa ki gd le mo s = true) (h2 : allZ (mfrB (nI n) op fa fb s) mf = true) (h3 : allZ (mcaB n sm ld lm s) 4 = true) : mOk n pa ki gd le mo mf op fa fb sm ld lm s = true := by unfold mOk; rw [h, h2, h3]; rfl
/-- a place of a row goes, those behind it move up -/
def fgI (L : List Int32) (k e : Nat) (g : Nat → Int32) : Prop := k ≤ e ∧ (∀ i, i < e → g i = (L.eraseIdx k).getD i 0) ∧ ∀ i, e ≤ i → i < L.length → g i = L.getD i 0
theorem eraseIdx_lt {L : List Int32} {k i : Nat} (h : i < k) : (L.eraseIdx k).getD i 0 = L.getD i 0 := by
  simp [List.getD, List.getElem?_eraseIdx, h]
theorem eraseIdx_ge {L : List Int32} {k i : Nat} (h : k ≤ i) : (L.eraseIdx k).getD i 0 = L.getD (i + 1) 0 := by
  simp [List.getD, List.getElem?_eraseIdx, Nat.not_lt.mpr h]
theorem fgI_0 {L : List Int32} {k : Nat} {g : Nat → Int32} (h : rowIs g L) (hk : k < L.length) : fgI L k k g :=
  ⟨Nat.le_refl _, fun i hi => by rw [eraseIdx_lt hi]; exact h i (by omega), fun i _ h2 => h i h2⟩
theorem fgI_s {L : List Int32} {k e : Nat} {g : Nat → Int32} (h : fgI L k e g) (he : e + 1 < L.length) : fgI L k (e + 1) (upd g e (g (e + 1))) := by
  refine ⟨by have := h.1; omega, fun i hi => ?_, fun i h1 h2 => ?_⟩
  · by_cases hie : i = e
    · subst hie
      simp only [upd, if_true]
      rw [eraseIdx_ge h.1]
      exact h.2.2 _ (by omega) he
    · simp only [upd, if_neg hie]
      exact h.2.1 i (by omega)
  · simp only [upd, if_neg (show i ≠ e by omega)]
    exact h.2.2 i (by omega) h2
theorem fgI_e {L : List Int32} {k e : Nat} {g : Nat → Int32} (h : fgI L k e g) (he : L.length ≤ e + 1) (hk : k < L.length) : rowIs g (L.eraseIdx k) := fun i hi => by
  rw [List.length_eraseIdx, if_pos hk] at hi
  exact h.2.1 i (by omega)
theorem erase_len {L : List Int32} {k : Nat} (hk : k < L.length) : (L.eraseIdx k).length = L.length - 1 := by rw [List.length_eraseIdx, if_pos hk]
theorem nI_subn {a b : Nat} (h : b ≤ a) : nI a - nI b = nI (a - b) := pk_sub h
