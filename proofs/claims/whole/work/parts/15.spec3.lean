/-! lists that are searched, counted, joined -/
def fnd (P : Int32 → Bool) : List Int32 → Int32
  | [] => -1
  | v :: l => if P v then v else fnd P l
theorem drop_s {L : List Int32} {j : Nat} (h : j < L.length) : L.drop j = L.getD j 0 :: L.drop (j + 1) := by
  rw [List.drop_eq_getElem_cons h, List.getD_eq_getElem?_getD, List.getElem?_eq_getElem h]
  rfl
theorem fnd_t {P : Int32 → Bool} {L : List Int32} {j : Nat} (h : j < L.length) (hp : P (L.getD j 0) = true) : fnd P (L.drop j) = L.getD j 0 := by
  rw [drop_s h]
  simp only [fnd, hp, if_true]
theorem fnd_f {P : Int32 → Bool} {L : List Int32} {j : Nat} (h : j < L.length) (hp : P (L.getD j 0) = false) : fnd P (L.drop j) = fnd P (L.drop (j + 1)) := by
  rw [drop_s h]
  simp only [fnd, hp, Bool.false_eq_true, if_false]
theorem fnd_e (P : Int32 → Bool) (L : List Int32) : fnd P (L.drop L.length) = -1 := by
  rw [List.drop_length]; rfl
def foldP (P : Int32 → Bool) (o : Int32 → Int32 → Int32) (a : Int32) (L : List Int32) (j : Nat) : Int32 := (L.take j).foldl (fun a v => if P v then o a v else a) a
theorem foldP_t {P : Int32 → Bool} {o : Int32 → Int32 → Int32} {a : Int32} {L : List Int32} {j : Nat} (h : j < L.length) (hp : P (L.getD j 0) = true) : foldP P o a L (j + 1) = o (foldP P o a L j) (L.getD j 0) := by
  unfold foldP
  rw [take_s h, List.foldl_append]
  simp only [List.foldl_cons, List.foldl_nil, hp, if_true]
theorem foldP_f {P : Int32 → Bool} {o : Int32 → Int32 → Int32} {a : Int32} {L : List Int32} {j : Nat} (h : j < L.length) (hp : P (L.getD j 0) = false) : foldP P o a L (j + 1) = foldP P o a L j := by
  unfold foldP
  rw [take_s h, List.foldl_append]
  simp only [List.foldl_cons, List.foldl_nil, hp, Bool.false_eq_true, if_false]
theorem foldP_e (P : Int32 → Bool) (o : Int32 → Int32 → Int32) (a : Int32) (L : List Int32) : foldP P o a L L.length = L.foldl (fun a v => if P v then o a v else a) a := by
  unfold foldP; rw [List.take_length]
/-! branching, a step of each kind -/
def brB (kd pb : Nat → Int32) (f : Nat) (v : Int32) : Nat := if mayInB pb v f && mayOutB kd pb v f then 1 else 0
theorem brV_len {kd pb : Nat → Int32} {f : Nat} {v : Int32} (h : mayInB pb v f = true ∨ mayOutB kd pb v f = true) : (brV kd pb f v).length = 1 + brB kd pb f v := by
  unfold brV brB
  cases h1 : mayInB pb v f <;> cases h2 : mayOutB kd pb v f <;> simp [h1, h2] at h ⊢
theorem brN_0 (kd pb : Nat → Int32) (f : Nat) (L : List Int32) : brN kd pb f L 0 = 0 := by simp [brN, brL]
theorem brN_len (kd pb : Nat → Int32) (f : Nat) (L : List Int32) : brN kd pb f L L.length = (brL kd pb f L).length := by unfold brN; rw [List.take_length]
theorem brN_cnt {kd pb : Nat → Int32} {f : Nat} {L : List Int32} {j : Nat} (h : j < L.length) (hok : brOk kd pb f L) : L.length - (j + 1) + brN kd pb f L (j + 1) = L.length - j + brN kd pb f L j + brB kd pb f (L.getD j 0) := by
  rw [brN_s h, brV_len (hok _ (getD_mem h))]
  omega
theorem brI_step {kd pb : Nat → Int32} {f : Nat} {L : List Int32} {t : Nat} {g g' : Nat → Int32} (hI : brI kd pb f L (t + 1) g) (hok : brOk kd pb f L)
    (h1 : ∀ k, k < t → g' k = g k) (h2 : ∀ i, i < (brV kd pb f (L.getD t 0)).length → g' (brN kd pb f L t + i) = (brV kd pb f (L.getD t 0)).getD i 0) (h3 : ∀ k, brN kd pb f L (t + 1) ≤ k → g' k = g k) : brI kd pb f L t g' := by
  have ht : t < L.length := hI.1
  refine ⟨by omega, fun k hk => by rw [h1 k hk]; exact hI.2.1 k (by omega), fun k hk1 hk2 => ?_⟩
  by_cases hk3 : brN kd pb f L (t + 1) ≤ k
  · rw [h3 k hk3]; exact hI.2.2 k hk3 hk2
  · rw [brN_s ht] at hk3
    obtain ⟨i, rfl⟩ : ∃ i, k = brN kd pb f L t + i := ⟨k - brN kd pb f L t, by omega⟩
    rw [h2 i (by omega)]
    obtain ⟨R, hR⟩ := brL_split (kd := kd) (pb := pb) (f := f) ht
    rw [hR, List.append_assoc, getD_app2 (show (brL kd pb f (L.take t)).length ≤ _ by unfold brN; omega), getD_app1 (by unfold brN; omega)]
    congr 1
    unfold brN
    omega
theorem brN_ge {kd pb : Nat → Int32} {f : Nat} {L : List Int32} (h : brOk kd pb f L) {t : Nat} (ht : t ≤ L.length) : t ≤ brN kd pb f L t := brL_ge h t ht
theorem brI_one {kd pb : Nat → Int32} {f : Nat} {L : List Int32} {t : Nat} {g : Nat → Int32} {x : Int32} (hI : brI kd pb f L (t + 1) g) (hok : brOk kd pb f L) (hv : brV kd pb f (L.getD t 0) = [x]) : brN kd pb f L (t + 1) - 1 = brN kd pb f L t ∧ brI kd pb f L t (upd g (brN kd pb f L (t + 1) - 1) x) := by
  have ht : t < L.length := hI.1
  have e := brN_s (kd := kd) (pb := pb) (f := f) ht
  rw [hv] at e
  have e1 : brN kd pb f L (t + 1) = brN kd pb f L t + 1 := e
  have hge := brN_ge hok (t := t) (by omega)
  refine ⟨by omega, brI_step hI hok (fun k hk => ?_) (fun i hi => ?_) (fun k hk => ?_)⟩
  · simp only [upd, if_neg (show k ≠ brN kd pb f L (t + 1) - 1 by omega)]
  · rw [hv] at hi ⊢
    have hi0 : i = 0 := by have : i < 1 := hi; omega
    subst hi0
    simp only [upd, if_pos (show brN kd pb f L t + 0 = brN kd pb f L (t + 1) - 1 by omega)]
    rfl
  · simp only [upd, if_neg (show k ≠ brN kd pb f L (t + 1) - 1 by omega)]
theorem brI_two {kd pb : Nat → Int32} {f : Nat} {L : List Int32} {t : Nat} {g : Nat → Int32} {x y : Int32} (hI : brI kd pb f L (t + 1) g) (hok : brOk kd pb f L) (hv : brV kd pb f (L.getD t 0) = [x, y]) : brN kd pb f L (t + 1) - 1 - 1 = brN kd pb f L t ∧ brI kd pb f L t (upd (upd g (brN kd pb f L (t + 1) - 1) y) (brN kd pb f L (t + 1) - 1 - 1) x) := by
  have ht : t < L.length := hI.1
  have e := brN_s (kd := kd) (pb := pb) (f := f) ht
  rw [hv] at e
  have e1 : brN kd pb f L (t + 1) = brN kd pb f L t + 2 := e
  have hge := brN_ge hok (t := t) (by omega)
  refine ⟨by omega, brI_step hI hok (fun k hk => ?_) (fun i hi => ?_) (fun k hk => ?_)⟩
  · simp only [upd, if_neg (show k ≠ brN kd pb f L (t + 1) - 1 by omega), if_neg (show k ≠ brN kd pb f L (t + 1) - 1 - 1 by omega)]
  · rw [hv] at hi ⊢
    have hi2 : i < 2 := hi
    rcases (show i = 0 ∨ i = 1 by omega) with rfl | rfl
    · simp only [upd, if_pos (show brN kd pb f L t + 0 = brN kd pb f L (t + 1) - 1 - 1 by omega)]
      rfl
    · simp only [upd, if_neg (show brN kd pb f L t + 1 ≠ brN kd pb f L (t + 1) - 1 - 1 by omega), if_pos (show brN kd pb f L t + 1 = brN kd pb f L (t + 1) - 1 by omega)]
      rfl
  · simp only [upd, if_neg (show k ≠ brN kd pb f L (t + 1) - 1 by omega), if_neg (show k ≠ brN kd pb f L (t + 1) - 1 - 1 by omega)]
theorem brV_in {kd pb : Nat → Int32} {f : Nat} {v : Int32} (h1 : mayInB pb v f = true) (h2 : mayOutB kd pb v f = false) : brV kd pb f v = [v ||| bitI (nI f)] := by simp [brV, h1, h2]
theorem brV_out {kd pb : Nat → Int32} {f : Nat} {v : Int32} (h1 : mayInB pb v f = false) (h2 : mayOutB kd pb v f = true) : brV kd pb f v = [v] := by simp [brV, h1, h2]
theorem brV_two {kd pb : Nat → Int32} {f : Nat} {v : Int32} (h1 : mayInB pb v f = true) (h2 : mayOutB kd pb v f = true) : brV kd pb f v = [v ||| bitI (nI f), v] := by simp [brV, h1, h2]
theorem i_dec2 (t : Nat) : nI (t + 1) - 1 + (-1) = nI t - 1 := by rw [nI_pred, Int32.sub_eq_add_neg]
theorem i_neg_iff {t : Nat} (h : t < 2 ^ 30) : nI t - 1 < 0 ↔ t = 0 := by
  cases t with
  | zero => exact ⟨fun _ => rfl, fun _ => by decide⟩
  | succ q => rw [nI_pred]; exact ⟨fun z => absurd z (nI_pos (by omega)), fun z => by omega⟩
theorem iinc_m1 {t : Nat} (h : 0 < t) : nI t + Int32.ofInt (-1) = nI (t - 1) := sb_m1 h
/-! the variants, as the class has them -/
def updL (kd pb : Nat → Int32) : Nat → List Int32
  | 0 => [0]
  | j + 1 => brL kd pb (j + 1) (updL kd pb j)
def vKeep (r : Nat → Nat → Int32) (bd : Int32) (n m : Nat) (v : Int32) : Bool := allU (grpB (r 6) (r 7) (r 8) bd v) n && (allZ (frmB (r 10) (r 11) (r 12) (r 13) (r 14) v) m && sumsB (r 17) (r 16) v)
def vLL (r : Nat → Nat → Int32) (bd : Int32) (n m : Nat) : List Int32 := (updL (r 3) (r 5) n).filter (vKeep r bd n m)
def upOk (r : Nat → Nat → Int32) (bd : Int32) (n m z : Nat) (ub : Bool) (ro : Nat → Int32) : Prop := n ≤ 14 ∧ m ≤ 40 ∧ (∀ j, j < n → brOk (r 3) (r 5) (j + 1) (updL (r 3) (r 5) j)) ∧ (∀ j, j ≤ n → (updL (r 3) (r 5) j).length ≤ 8192) ∧ (ub = true → rowIs ro (vLL r bd n m) ∧ z = (vLL r bd n m).length)
theorem upOk_le {r : Nat → Nat → Int32} {bd : Int32} {n m z : Nat} {ub : Bool} {ro : Nat → Int32} (h : upOk r bd n m z ub ro) : (vLL r bd n m).length ≤ 8192 := Nat.le_trans (List.length_filter_le _ _) (h.2.2.2.1 n (Nat.le_refl _))
theorem upOk_aft {r : Nat → Nat → Int32} {bd : Int32} {n m z : Nat} {ub : Bool} {ro ro' : Nat → Int32} (h : upOk r bd n m z ub ro) (h' : rowIs ro' (vLL r bd n m)) : upOk r bd n m (vLL r bd n m).length true ro' := ⟨h.1, h.2.1, h.2.2.1, h.2.2.2.1, fun _ => ⟨h', rfl⟩⟩
theorem rowIs_1 (f : Nat → Int32) : rowIs (upd f 0 0) [0] := fun k hk => by
  have : k = 0 := by have : k < 1 := hk; omega
  subst this
  rfl
