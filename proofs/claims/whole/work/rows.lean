section
-- ===== PART A: goes FIRST, ahead of the names: the tables' words, and 'selects' of the private methods out of them =====
/-- a private method of a class that the tables say can be made, by its rows of tables_1 -/
def lw_okq (q : MethodName × Nat) : Prop := (q.1.cls ≠ "java/lang/invoke/MethodHandle" ∧ q.1.cls ≠ "java/lang/invoke/VarHandle") ∧ Cond.instantiable q.1.cls q.2 ∈ tables_1 ∧ Cond.privateMethod q.1 ∈ tables_1 ∧ Cond.instanceMethod q.1 ∈ tables_1
theorem lw_p0 : lw_okq (⟨"FeatureSolve$Variants", "update", "()V"⟩, 6) := ⟨⟨by decide +kernel, by decide +kernel⟩, List.mem_of_getElem? (i := 26) (by decide +kernel), List.mem_of_getElem? (i := 308) (by decide +kernel), List.mem_of_getElem? (i := 309) (by decide +kernel)⟩
theorem lw_p1 : lw_okq (⟨"FeatureSolve$Variants", "branch", "(I)V"⟩, 6) := ⟨⟨by decide +kernel, by decide +kernel⟩, List.mem_of_getElem? (i := 26) (by decide +kernel), List.mem_of_getElem? (i := 313) (by decide +kernel), List.mem_of_getElem? (i := 314) (by decide +kernel)⟩
theorem lw_p2 : lw_okq (⟨"FeatureSolve$Variants", "dropUnkept", "()V"⟩, 6) := ⟨⟨by decide +kernel, by decide +kernel⟩, List.mem_of_getElem? (i := 26) (by decide +kernel), List.mem_of_getElem? (i := 327) (by decide +kernel), List.mem_of_getElem? (i := 328) (by decide +kernel)⟩
theorem lw_p3 : lw_okq (⟨"FeatureSolve", "explain", "()V"⟩, 7) := ⟨⟨by decide +kernel, by decide +kernel⟩, List.mem_of_getElem? (i := 18) (by decide +kernel), List.mem_of_getElem? (i := 357) (by decide +kernel), List.mem_of_getElem? (i := 358) (by decide +kernel)⟩
theorem lw_p4 : lw_okq (⟨"FeatureSolve", "forced", "(IIII)I"⟩, 7) := ⟨⟨by decide +kernel, by decide +kernel⟩, List.mem_of_getElem? (i := 18) (by decide +kernel), List.mem_of_getElem? (i := 411) (by decide +kernel), List.mem_of_getElem? (i := 412) (by decide +kernel)⟩
theorem lw_p5 : lw_okq (⟨"java/lang/Throwable", "fillInStackTrace", "(I)Ljava/lang/Throwable;"⟩, 6) := ⟨⟨by decide +kernel, by decide +kernel⟩, List.mem_of_getElem? (i := 460) (by decide +kernel), List.mem_of_getElem? (i := 458) (by decide +kernel), List.mem_of_getElem? (i := 459) (by decide +kernel)⟩
theorem lw_p6 : lw_okq (⟨"FeatureSolveModel", "isFeature", "(I)Z"⟩, 27) := ⟨⟨by decide +kernel, by decide +kernel⟩, List.mem_of_getElem? (i := 528) (by decide +kernel), List.mem_of_getElem? (i := 625) (by decide +kernel), List.mem_of_getElem? (i := 626) (by decide +kernel)⟩
theorem lw_p7 : lw_okq (⟨"FeatureSolveModel", "groupedBelow", "(I)I"⟩, 27) := ⟨⟨by decide +kernel, by decide +kernel⟩, List.mem_of_getElem? (i := 528) (by decide +kernel), List.mem_of_getElem? (i := 633) (by decide +kernel), List.mem_of_getElem? (i := 634) (by decide +kernel)⟩
theorem lw_p8 : lw_okq (⟨"FeatureSolveModel", "isLiteral", "(I)Z"⟩, 27) := ⟨⟨by decide +kernel, by decide +kernel⟩, List.mem_of_getElem? (i := 528) (by decide +kernel), List.mem_of_getElem? (i := 641) (by decide +kernel), List.mem_of_getElem? (i := 642) (by decide +kernel)⟩
theorem lw_p9 : lw_okq (⟨"FeatureSolveModel", "choiceOf", "(I)I"⟩, 27) := ⟨⟨by decide +kernel, by decide +kernel⟩, List.mem_of_getElem? (i := 528) (by decide +kernel), List.mem_of_getElem? (i := 653) (by decide +kernel), List.mem_of_getElem? (i := 654) (by decide +kernel)⟩
theorem lw_p10 : lw_okq (⟨"FeatureSolveModel", "forget", "(I)V"⟩, 27) := ⟨⟨by decide +kernel, by decide +kernel⟩, List.mem_of_getElem? (i := 528) (by decide +kernel), List.mem_of_getElem? (i := 657) (by decide +kernel), List.mem_of_getElem? (i := 658) (by decide +kernel)⟩
theorem lw_p11 : lw_okq (⟨"FeatureSolveModel", "firstWithout", "(I)I"⟩, 27) := ⟨⟨by decide +kernel, by decide +kernel⟩, List.mem_of_getElem? (i := 528) (by decide +kernel), List.mem_of_getElem? (i := 665) (by decide +kernel), List.mem_of_getElem? (i := 666) (by decide +kernel)⟩
theorem lw_p12 : lw_okq (⟨"FeatureSolveModel", "know", "()V"⟩, 27) := ⟨⟨by decide +kernel, by decide +kernel⟩, List.mem_of_getElem? (i := 528) (by decide +kernel), List.mem_of_getElem? (i := 669) (by decide +kernel), List.mem_of_getElem? (i := 670) (by decide +kernel)⟩
theorem lw_p13 : lw_okq (⟨"FeatureSolveModel", "keepsTree", "(I)Z"⟩, 27) := ⟨⟨by decide +kernel, by decide +kernel⟩, List.mem_of_getElem? (i := 528) (by decide +kernel), List.mem_of_getElem? (i := 673) (by decide +kernel), List.mem_of_getElem? (i := 674) (by decide +kernel)⟩
theorem lw_p14 : lw_okq (⟨"FeatureSolveModel", "isIn", "(II)Z"⟩, 27) := ⟨⟨by decide +kernel, by decide +kernel⟩, List.mem_of_getElem? (i := 528) (by decide +kernel), List.mem_of_getElem? (i := 677) (by decide +kernel), List.mem_of_getElem? (i := 678) (by decide +kernel)⟩
theorem lw_p15 : lw_okq (⟨"FeatureSolveModel", "keepsFormulas", "(I)Z"⟩, 27) := ⟨⟨by decide +kernel, by decide +kernel⟩, List.mem_of_getElem? (i := 528) (by decide +kernel), List.mem_of_getElem? (i := 681) (by decide +kernel), List.mem_of_getElem? (i := 682) (by decide +kernel)⟩
def lw_privs_1 : List (MethodName × Nat) := [(⟨"FeatureSolve$Variants", "update", "()V"⟩, 6), (⟨"FeatureSolve$Variants", "branch", "(I)V"⟩, 6), (⟨"FeatureSolve$Variants", "dropUnkept", "()V"⟩, 6), (⟨"FeatureSolve", "explain", "()V"⟩, 7), (⟨"FeatureSolve", "forced", "(IIII)I"⟩, 7), (⟨"java/lang/Throwable", "fillInStackTrace", "(I)Ljava/lang/Throwable;"⟩, 6), (⟨"FeatureSolveModel", "isFeature", "(I)Z"⟩, 27), (⟨"FeatureSolveModel", "groupedBelow", "(I)I"⟩, 27), (⟨"FeatureSolveModel", "isLiteral", "(I)Z"⟩, 27), (⟨"FeatureSolveModel", "choiceOf", "(I)I"⟩, 27), (⟨"FeatureSolveModel", "forget", "(I)V"⟩, 27), (⟨"FeatureSolveModel", "firstWithout", "(I)I"⟩, 27), (⟨"FeatureSolveModel", "know", "()V"⟩, 27), (⟨"FeatureSolveModel", "keepsTree", "(I)Z"⟩, 27), (⟨"FeatureSolveModel", "isIn", "(II)Z"⟩, 27), (⟨"FeatureSolveModel", "keepsFormulas", "(I)Z"⟩, 27)]
theorem lw_r1 : ∀ q ∈ lw_privs_1, lw_okq q := List.forall_mem_cons.mpr ⟨lw_p0, List.forall_mem_cons.mpr ⟨lw_p1, List.forall_mem_cons.mpr ⟨lw_p2, List.forall_mem_cons.mpr ⟨lw_p3, List.forall_mem_cons.mpr ⟨lw_p4, List.forall_mem_cons.mpr ⟨lw_p5, List.forall_mem_cons.mpr ⟨lw_p6, List.forall_mem_cons.mpr ⟨lw_p7, List.forall_mem_cons.mpr ⟨lw_p8, List.forall_mem_cons.mpr ⟨lw_p9, List.forall_mem_cons.mpr ⟨lw_p10, List.forall_mem_cons.mpr ⟨lw_p11, List.forall_mem_cons.mpr ⟨lw_p12, List.forall_mem_cons.mpr ⟨lw_p13, List.forall_mem_cons.mpr ⟨lw_p14, List.forall_mem_cons.mpr ⟨lw_p15, fun _ h => absurd h List.not_mem_nil⟩⟩⟩⟩⟩⟩⟩⟩⟩⟩⟩⟩⟩⟩⟩⟩
theorem lw_p16 : lw_okq (⟨"FeatureSolveModel", "holds", "(II)Z"⟩, 27) := ⟨⟨by decide +kernel, by decide +kernel⟩, List.mem_of_getElem? (i := 528) (by decide +kernel), List.mem_of_getElem? (i := 685) (by decide +kernel), List.mem_of_getElem? (i := 686) (by decide +kernel)⟩
theorem lw_p17 : lw_okq (⟨"FeatureSolveModel", "keepsLimits", "(I)Z"⟩, 27) := ⟨⟨by decide +kernel, by decide +kernel⟩, List.mem_of_getElem? (i := 528) (by decide +kernel), List.mem_of_getElem? (i := 689) (by decide +kernel), List.mem_of_getElem? (i := 690) (by decide +kernel)⟩
theorem lw_p18 : lw_okq (⟨"FeatureSolveModel", "keepsChoices", "(II)Z"⟩, 27) := ⟨⟨by decide +kernel, by decide +kernel⟩, List.mem_of_getElem? (i := 528) (by decide +kernel), List.mem_of_getElem? (i := 693) (by decide +kernel), List.mem_of_getElem? (i := 694) (by decide +kernel)⟩
def lw_privs_2 : List (MethodName × Nat) := [(⟨"FeatureSolveModel", "holds", "(II)Z"⟩, 27), (⟨"FeatureSolveModel", "keepsLimits", "(I)Z"⟩, 27), (⟨"FeatureSolveModel", "keepsChoices", "(II)Z"⟩, 27)]
theorem lw_r2 : ∀ q ∈ lw_privs_2, lw_okq q := List.forall_mem_cons.mpr ⟨lw_p16, List.forall_mem_cons.mpr ⟨lw_p17, List.forall_mem_cons.mpr ⟨lw_p18, fun _ h => absurd h List.not_mem_nil⟩⟩⟩
def lw_privs : List (MethodName × Nat) := lw_privs_1 ++ (lw_privs_2)
def lw_tbl : List Cond := k2_sels lw_privs ++ tables_1
theorem lw_privs_ok : ∀ q ∈ lw_privs, lw_okq q := by
  show ∀ q ∈ lw_privs_1 ++ (lw_privs_2), lw_okq q
  exact List.forall_mem_append.mpr ⟨lw_r1, lw_r2⟩
end
section
/-! ===== BEGIN words of one list among another's, by their places ===== -/
theorem goodIn_r {big : List Cond} (ws : List Cond) (ps : List Nat) (hp : ws = ps.filterMap (fun i => big[i]?)) (h : ws.all goodWord = true) : GoodIn big ws := by
  intro w hw
  have h1 := List.all_eq_true.mp h w hw
  rw [hp] at hw
  obtain ⟨i, -, hi⟩ := List.mem_filterMap.mp hw
  have hm : w ∈ big := by first | exact List.mem_of_getElem? hi | exact List.getElem?_mem hi
  exact ⟨hm, good_of_word h1⟩
theorem goodIn_app {big a b : List Cond} (ha : GoodIn big a) (hb : GoodIn big b) : GoodIn big (a ++ b) := fun w h => (List.mem_append.mp h).elim (ha w) (hb w)
theorem goodIn_ca {big a b : List Cond} {c : Cond} (ha : GoodIn big (c :: a)) (hb : GoodIn big b) : GoodIn big (c :: (a ++ b)) := fun w h => (List.mem_cons.mp h).elim (fun e => ha w (List.mem_cons.mpr (Or.inl e))) (fun h => (List.mem_append.mp h).elim (fun h => ha w (List.mem_cons.mpr (Or.inr h))) (hb w))
theorem goodIn_sub {big ws : List Cond} (hm : ∀ w ∈ ws, w ∈ big) (h : ws.all goodWord = true) : GoodIn big ws := fun w hw => ⟨hm w hw, good_of_word (List.all_eq_true.mp h w hw)⟩
/-! ===== END ===== -/

/-! ===== BEGIN exceptions that leave a method, and their catching by the caller (launches without stack traces) ===== -/
section VXA
/-! The laws vx_back, vx_callV, vx_callS, vx_callSW, vx_throw0, vx_throwS follow proofs of the library, with one case more: JvmDerived/Free/Laws.lean (Back.of_free), Shelf42/LK1.lean (callV, callS), Shelf/KitTraced.lean (throwNew0V, throwNewS). -/
/-- where a method has thrown q: the class by its name, the cell, what was written, the world -/
def vx_T (XC : String → State → State → Prop) (st : State) (q : Addr) (t : State) (mc ms : Nat) (free : Addr → Prop) : Prop :=
  ∃ (E : String) (ce : Cell) (L : List Loc), XC E st t ∧ t.heap[q]? = some ce ∧ ce.vm = .none ∧ st.vm.findClass E = some ce.cls ∧ st.WarmedH t.vm ∧ st.sameButNew ({ t with vm := st.vm } : State) L mc ms ∧ ∀ z ∈ L, free z.base
def vx_Q (Qc : Array Value → State → Outcome → State → Prop) (XC : String → State → State → Prop) (mc ms : Nat) (free : Addr → Prop) : Array Value → State → Outcome → State → Prop := fun a st o t =>
  (Qc a st o t ∧ ∃ L, FrameEnd st o t L mc ms ∧ ∀ q ∈ L, free q.base) ∨ ∃ q, o = .threw q ∧ vx_T XC st q t mc ms free
/-- a callee that returns or throws -/
def vx_Met (l : Launch) (y : MethodName) (ws : List Cond) (rm : Room) (Pc : Array Value → State → Prop) (Qc : Array Value → State → Outcome → State → Prop) (XC : String → State → State → Prop) (mc ms : Nat) (free : Addr → Prop) : Prop :=
  MetFree l y (headSpec ws rm) Pc (fun _ _ _ _ _ => True) (vx_Q Qc XC mc ms free)
def vx_Post (XC : String → State → State → Prop) (mc ms : Nat) (free : Addr → Prop) : Pt → Array Value → Addr → Pt → Prop := fun A a q B =>
  ∃ (g : JFrame) (mk : MethodId) (t : State) (L : List Loc) (E : String) (ce : Cell), B.U.heap = t.heap ∧ B.U.vm = t.vm ∧ XC E (A.U.calling g mk a) t ∧ t.heap[q]? = some ce ∧ ce.vm = .none ∧ A.U.vm.findClass E = some ce.cls ∧ B.locs = A.locs ++ L ∧ (∀ z ∈ L, free z.base) ∧ B.cells = A.cells + mc ∧ B.slots = A.slots + ms
def vx_Back (l : Launch) (R : Room) (p : Program) (e : Env) (below : List Frame) (s : State) (sargs : Array Value) (y : MethodName) (len W9 : Nat)
    (Pre : Pt → Array Value → Prop) (Post : Pt → Array Value → Option Value → Pt → Prop) (PostX : Pt → Array Value → Addr → Pt → Prop) : Prop :=
  ∀ (m : MethodId) (meth : Method) (c : Code) (A : Pt) (g : JFrame) (ig : Instr) (mk : MethodId) (a : Array Value),
    Stand p l e R s m sargs below meth c A.U A.locs A.cells A.slots → g.method = m → g.locals.size = c.maxLocals → decode c.code g.pc = .ok (ig, len) →
    2 * g.monitorRoom + (g.stack.map fun v => v.category).sum ≤ W9 → A.U.methodNamed? y = some mk → Pre A a →
    (∃ (v : Option Value) (B : Pt), Stand p l e R s m sargs below meth c B.U B.locs B.cells B.slots ∧ Post A a v B ∧
      Steps p.tables e below (doInvoke e (A.U.setTop g) [] mk a).1 (B.U.setTop { g with pc := g.pc + len, stack := v.toList ++ g.stack })) ∨
    (∃ (q : Addr) (B : Pt), Stand p l e R s m sargs below meth c B.U B.locs B.cells B.slots ∧ PostX A a q B ∧
      Steps p.tables e below (doInvoke e (A.U.setTop g) [] mk a).1 ((B.U.setTop g).pushFrame (.throwing q)))
section Payer
variable {l : Launch} {R : Room} {p : Program} {e : Env} {below : List Frame} {s : State} {sargs : Array Value} {y : MethodName} {len W9 : Nat}
theorem vx_back {ws : List Cond} {rm : Room} {Pc : Array Value → State → Prop} {Qc : Array Value → State → Outcome → State → Prop} {XC : String → State → State → Prop} {mc ms : Nat} {free : Addr → Prop} {bytes : ByteArray} {maxL : Nat} {ret : Option FieldType}
    (hM : vx_Met l y ws rm Pc Qc XC mc ms free) (hblind : FrameBlind Pc) (hrc : rm.cells = mc) (hrs : rm.slots = ms)
    (hframes : rm.frames + 1 ≤ R.frames) (hlocals : W9 + (maxL + 11) + rm.locals ≤ R.locals)
    (hws : ∀ w ∈ ws, ∀ a' U, s.WarmedH U.vm → w.before a' U = true) (hcode : Cond.code y bytes maxL ret ∈ ws) (hinit : ∀ a' U, s.WarmedH U.vm → (Cond.initialized y.cls).before a' U = true) :
    vx_Back l R p e below s sargs y len W9 (PreOf R mc ms Pc) (PostOf Qc mc ms free) (vx_Post XC mc ms free) := by
  intro m meth c A g ig mk a X hg hsize hdg hW hn hp
  have h1 : (headSpec ws rm).pre.before a A.U = true := atoms_intro fun w hw => hws w hw _ _ X.warmed
  have h2 : (Cond.code y bytes maxL ret).before a A.U = true := hws _ hcode _ _ X.warmed
  have h3 : (Cond.initialized y.cls).before a A.U = true := hinit _ _ X.warmed
  have h4 : A.cells + (headSpec ws rm).room.cells ≤ R.cells := by rw [show (headSpec ws rm).room.cells = mc from hrc]; exact hp.1
  have h5 : A.slots + (headSpec ws rm).room.slots ≤ R.slots := by rw [show (headSpec ws rm).room.slots = ms from hrs]; exact hp.2.1
  have hPc : Pc a (A.U.calling g mk a) := hblind _ _ _ _ hp.2.2
  obtain ⟨U, Ls, c0, s0⟩ := A
  dsimp only [Pt.U, Pt.locs, Pt.cells, Pt.slots] at h1 h2 h3 h4 h5 X hn hPc ⊢
  obtain ⟨methY, cY, hmY, hcY, -, hlY, -, -, -, -⟩ := Cond.code_spec hn h2
  obtain ⟨kY, hkY, -⟩ := className_of_methodNamed hn
  have hinitY : kY.init = .initialized := Cond.initialized_spec (findClass_of_methodNamed hn) hkY h3
  have h : At U g.method c below := by rw [hg]; exact X.here
  have hlocals9 : W9 + (maxL + 11) + (headSpec ws rm).room.locals ≤ R.locals := hlocals
  have happ : (headSpec ws rm).appliesLoose y e.platform (U.calling g mk a) = true :=
    Spec.appliesLoose_calling (g := g) h hdg hn hkY hinitY
      (X.room_calling (g := g) (R' := (headSpec ws rm).room) hsize hmY hcY hframes (by rw [hlY]; omega) h4 h5) h1
  obtain ⟨mid, hmid⟩ := h.above
  have hfr : (U.setTop g).frames = (.java g :: mid) ++ below := by rw [State.frames_setTop' g h.top, hmid]; rfl
  obtain ⟨o, s₂, hsteps, -, hend, hq⟩ := Steps.callFree hM p X.admits X.cas X.clock (acts := []) hfr happ hPc trivial
  have hq' : vx_Q Qc XC mc ms free a (U.calling g mk a) o s₂ := hq
  rw [State.frames_setTop' g h.top] at hend
  obtain ⟨g₀, hg0⟩ := Option.isSome_iff_exists.mp h.top
  obtain ⟨r, hr⟩ := State.topJava?_eq_some.mp hg0
  have hr' : (({ U with heap := s₂.heap, slotsUsed := s₂.slotsUsed } : State).setVm s₂.vm).frames = .java g₀ :: r := hr
  rcases hq' with ⟨hqc, L, hfe, hL⟩ | ⟨q, rfl, E, ce, L, hx, hce, hcv, hcl, hW₂, hsm, hL⟩
  · obtain ⟨⟨v, rfl⟩, hW₂, e2, q2, q3, q4, q5, q6⟩ := id hfe
    have e3 : s₂ = ({ (U.calling g mk a).setFrames s₂.frames with heap := s₂.heap, slotsUsed := s₂.slotsUsed } : State).setVm s₂.vm := by
      have : s₂ = ({ s₂ with vm := (U.calling g mk a).vm } : State).setVm s₂.vm := rfl
      rw [e2] at this
      exact this
    obtain ⟨c₂, i₂, len₂, hc₂, hd₂, hf₂⟩ := hend
    have hW' : U.WarmedH s₂.vm := hW₂
    have hcc : c₂ = c := by
      have h1 : s₂.code? g.method = U.code? g.method := by
        rw [State.code?_eq, State.code?_eq, hW'.alike.method?]
      exact Option.some.inj (hc₂.symm.trans (h1.trans h.code))
    subst hcc
    have hlen : len₂ = len := by rw [hdg] at hd₂; cases hd₂; rfl
    subst hlen
    have hs₂ : s₂ = (({ U with heap := s₂.heap, slotsUsed := s₂.slotsUsed } : State).setVm s₂.vm).setTop { g with pc := g.pc + len₂, stack := v.toList ++ g.stack } := by
      refine e3.trans ?_
      rw [hf₂, State.calling_eq h.top, State.setFrames_setFrames, State.setTop_of_frames _ hr', hr]
      rfl
    have hsame : U.sameButNew ({ U with heap := s₂.heap, slotsUsed := s₂.slotsUsed } : State) L mc ms := by
      refine ⟨?_, q2, q3, q4, q5, q6⟩
      obtain ⟨t, ht, -⟩ := State.frames_cons hr
      show ({ U with heap := s₂.heap, slotsUsed := s₂.slotsUsed } : State) = { U.setFrames U.frames with heap := s₂.heap, slotsUsed := s₂.slotsUsed }
      rw [State.setFrames_self ht]
    subst hg
    refine Or.inl ⟨v, ⟨(({ U with heap := s₂.heap, slotsUsed := s₂.slotsUsed } : State).setVm s₂.vm), Ls ++ L, c0 + mc, s0 + ms⟩,
      ⟨X.admits, X.cas, X.clock, X.frames, X.room, X.hears, X.method, X.code, (X.here.setHeapUsed s₂.heap s₂.slotsUsed).setVm hW'.alike, X.tail, State.WarmedH.trans X.warmed hW', X.limits, X.bytes, X.same.trans (hsame.setVm s.vm)⟩,
      ⟨g, mk, s₂, L, rfl, rfl, hqc, rfl, hL, rfl, rfl⟩, ?_⟩
    show Steps p.tables e below _ ((({ U with heap := s₂.heap, slotsUsed := s₂.slotsUsed } : State).setVm s₂.vm).setTop { g with pc := g.pc + len₂, stack := v.toList ++ g.stack })
    rw [← hs₂]
    exact hsteps
  · obtain ⟨e2, q2, q3, q4, q5, q6⟩ := id hsm
    have e3 : s₂ = ({ (U.calling g mk a).setFrames s₂.frames with heap := s₂.heap, slotsUsed := s₂.slotsUsed } : State).setVm s₂.vm := by
      have : s₂ = ({ s₂ with vm := (U.calling g mk a).vm } : State).setVm s₂.vm := rfl
      rw [e2] at this
      exact this
    have hf₂ : s₂.frames = .throwing q :: .java g :: U.frames.tail := hend
    have hW' : U.WarmedH s₂.vm := hW₂
    have hs₂ : s₂ = ((({ U with heap := s₂.heap, slotsUsed := s₂.slotsUsed } : State).setVm s₂.vm).setTop g).pushFrame (.throwing q) := by
      refine e3.trans ?_
      rw [hf₂, State.calling_eq h.top, State.setFrames_setFrames, State.pushFrame, State.frames_setTop _ hr', State.setTop_of_frames _ hr', State.setFrames_setFrames, hr]
      rfl
    have hsame : U.sameButNew ({ U with heap := s₂.heap, slotsUsed := s₂.slotsUsed } : State) L mc ms := by
      refine ⟨?_, q2, q3, q4, q5, q6⟩
      obtain ⟨t, ht, -⟩ := State.frames_cons hr
      show ({ U with heap := s₂.heap, slotsUsed := s₂.slotsUsed } : State) = { U.setFrames U.frames with heap := s₂.heap, slotsUsed := s₂.slotsUsed }
      rw [State.setFrames_self ht]
    subst hg
    refine Or.inr ⟨q, ⟨(({ U with heap := s₂.heap, slotsUsed := s₂.slotsUsed } : State).setVm s₂.vm), Ls ++ L, c0 + mc, s0 + ms⟩,
      ⟨X.admits, X.cas, X.clock, X.frames, X.room, X.hears, X.method, X.code, (X.here.setHeapUsed s₂.heap s₂.slotsUsed).setVm hW'.alike, X.tail, State.WarmedH.trans X.warmed hW', X.limits, X.bytes, X.same.trans (hsame.setVm s.vm)⟩,
      ⟨g, mk, s₂, L, E, ce, rfl, rfl, hx, hce, hcv, hcl, rfl, hL, rfl, rfl⟩, ?_⟩
    show Steps p.tables e below _ (((({ U with heap := s₂.heap, slotsUsed := s₂.slotsUsed } : State).setVm s₂.vm).setTop g).pushFrame (.throwing q))
    rw [← hs₂]
    exact hsteps
end Payer
section Calls
variable {p : Program} {l : Launch} {e : Env} {R : Room} {s : State} {m : MethodId} {args : Array Value} {below : List Frame} {meth : Method} {c : Code} {T : State} {locs : List Loc} {cells slots : Nat}
theorem vx_callV (X : Stand p l e R s m args below meth c T locs cells slots) (hexec : p.tables.exec = Jvm.exec) {own C : String} {index : Nat} {y : MethodName} {bytes : ByteArray} {maxL : Nat} {ret : Option FieldType}
    (hown : s.vm.findClass own = some m.cls) (hlink : (Cond.methodLink own index y).before args s = true) (hinst : (Cond.instanceMethod y).before args s = true) (hsel : (Cond.selects C y y).before args s = true)
    (hcode : (Cond.code y bytes maxL ret).before args s = true) (hy : y.cls ≠ "java/lang/invoke/MethodHandle" ∧ y.cls ≠ "java/lang/invoke/VarHandle")
    {W9 : Nat} {Pre : Pt → Array Value → Prop} {Post : Pt → Array Value → Option Value → Pt → Prop} {PostX : Pt → Array Value → Addr → Pt → Prop} (hK : vx_Back l R p e below s args y 3 W9 Pre Post PostX)
    {b : Addr} {cellB : Cell} (hcell : T.heap[b]? = some cellB) (hobj : cellB.vm.isStatics = false) (hcls : s.vm.findClass C = some cellB.cls)
    {g : JFrame} (hg : g.method = m) (hsize : g.locals.size = c.maxLocals) {argsL rest : List Value} (hlen : ∀ sig, parseMethodDescriptor y.desc = some sig → argsL.length = sig.parameters.length)
    (hstack : g.stack = argsL.reverse ++ .ref b :: rest) (hW : 2 * g.monitorRoom + (rest.map fun v => v.category).sum ≤ W9) (hdg : decode c.code g.pc = .ok (.invokevirtual index, 3))
    (hpre : ∀ vm₁, s.WarmedH vm₁ → Pre ⟨T.setVm vm₁, locs, cells, slots⟩ (Value.ref b :: argsL).toArray) :
    (∃ (v : Option Value) (vm₁ : Vm) (B : Pt), s.WarmedH vm₁ ∧ Stand p l e R s m args below meth c B.U B.locs B.cells B.slots ∧ Post ⟨T.setVm vm₁, locs, cells, slots⟩ (Value.ref b :: argsL).toArray v B ∧
      ∀ target, Steps p.tables e below (B.U.setTop { g with pc := g.pc + 3, stack := v.toList ++ rest }) target → Steps p.tables e below (T.setTop g) target) ∨
    (∃ (q : Addr) (vm₁ : Vm) (B : Pt), s.WarmedH vm₁ ∧ Stand p l e R s m args below meth c B.U B.locs B.cells B.slots ∧ PostX ⟨T.setVm vm₁, locs, cells, slots⟩ (Value.ref b :: argsL).toArray q B ∧
      Steps p.tables e below (T.setTop g) ((B.U.setTop { g with stack := rest }).pushFrame (.throwing q))) := by
  obtain ⟨mk, methM, hnamed, hmethM, hstM, habM⟩ := Cond.instanceMethod_spec hinst
  obtain ⟨methM', cM, hmethM', -, -, -, -, -, -, hsigM⟩ := Cond.code_spec hnamed hcode
  cases hmethM.symm.trans hmethM'
  obtain ⟨c2, r2, m2, q1, q2, q3, q4, kP, hkP, hkPi⟩ := Cond.selects_spec hsel
  cases hcls.symm.trans q1
  cases (State.methodFound?_of_named hnamed hy).symm.trans q2
  cases hnamed.symm.trans q3
  have hselP : selectMethod e.platform s.vm cellB.cls mk = .method mk := by rw [Launch.admits_selectMethod X.admits]; exact q4
  obtain ⟨vm₁, X₁, hstep₁⟩ := X.invokevirtual hexec hown hlink hnamed hmethM hstM hkP hkPi hy (a := b) (cell := cellB) hcell
    (fun z h => by rw [h] at hobj; cases hobj) hselP hmethM habM hkP hkPi (g := g) hg (argsL := argsL) (rest := rest) (hlen _ hsigM) hstack hdg
  rcases hK m meth c ⟨T.setVm vm₁, locs, cells, slots⟩ { g with stack := rest } (.invokevirtual index) mk (Value.ref b :: argsL).toArray X₁ hg hsize hdg hW (X₁.named hnamed) (hpre vm₁ X₁.warmed) with ⟨v, B, X', hpost, hsteps⟩ | ⟨q, B, X', hpost, hsteps⟩
  · exact Or.inl ⟨v, vm₁, B, X₁.warmed, X', hpost, fun target h => hstep₁ _ fun acts => by rw [doInvoke_state]; exact hsteps.trans h⟩
  · exact Or.inr ⟨q, vm₁, B, X₁.warmed, X', hpost, hstep₁ _ fun acts => by rw [doInvoke_state]; exact hsteps⟩
theorem vx_callS (X : Stand p l e R s m args below meth c T locs cells slots) (hexec : p.tables.exec = Jvm.exec) {own : String} {index : Nat} {y : MethodName} {bytes : ByteArray} {maxL : Nat} {ret : Option FieldType}
    (hown : s.vm.findClass own = some m.cls) (hlink : (Cond.methodLink own index y).before args s = true) (hstat : (Cond.static y).before args s = true) (hinit : (Cond.initialized y.cls).before args s = true)
    (hcode : (Cond.code y bytes maxL ret).before args s = true) (hy : y.cls ≠ "java/lang/invoke/MethodHandle" ∧ y.cls ≠ "java/lang/invoke/VarHandle")
    {W9 : Nat} {Pre : Pt → Array Value → Prop} {Post : Pt → Array Value → Option Value → Pt → Prop} {PostX : Pt → Array Value → Addr → Pt → Prop} (hK : vx_Back l R p e below s args y 3 W9 Pre Post PostX)
    {g : JFrame} (hg : g.method = m) (hsize : g.locals.size = c.maxLocals) {argsL rest : List Value} (hlen : ∀ sig, parseMethodDescriptor y.desc = some sig → argsL.length = sig.parameters.length)
    (hstack : g.stack = argsL.reverse ++ rest) (hW : 2 * g.monitorRoom + (rest.map fun v => v.category).sum ≤ W9) (hdg : decode c.code g.pc = .ok (.invokestatic index, 3))
    (hpre : ∀ vm₁, s.WarmedH vm₁ → Pre ⟨T.setVm vm₁, locs, cells, slots⟩ argsL.toArray) :
    (∃ (v : Option Value) (vm₁ : Vm) (B : Pt), s.WarmedH vm₁ ∧ Stand p l e R s m args below meth c B.U B.locs B.cells B.slots ∧ Post ⟨T.setVm vm₁, locs, cells, slots⟩ argsL.toArray v B ∧
      ∀ target, Steps p.tables e below (B.U.setTop { g with pc := g.pc + 3, stack := v.toList ++ rest }) target → Steps p.tables e below (T.setTop g) target) ∨
    (∃ (q : Addr) (vm₁ : Vm) (B : Pt), s.WarmedH vm₁ ∧ Stand p l e R s m args below meth c B.U B.locs B.cells B.slots ∧ PostX ⟨T.setVm vm₁, locs, cells, slots⟩ argsL.toArray q B ∧
      Steps p.tables e below (T.setTop g) ((B.U.setTop { g with stack := rest }).pushFrame (.throwing q))) := by
  obtain ⟨mk, hnamed⟩ := Cond.code_named hcode
  obtain ⟨methM, cM, hmethM, -, -, -, -, -, -, hsigM⟩ := Cond.code_spec hnamed hcode
  have hstatic : methM.isStatic = true := Cond.static_spec hnamed hmethM hstat
  obtain ⟨kP, hkP, -⟩ := className_of_methodNamed hnamed
  have hinitP : kP.init = .initialized := Cond.initialized_spec (findClass_of_methodNamed hnamed) hkP hinit
  obtain ⟨vm₁, X₁, hstep₁⟩ := X.invokestatic hexec hown hlink hnamed hmethM hstatic hkP hinitP hy (g := g) hg (argsL := argsL) (rest := rest) (hlen _ hsigM) hstack hdg
  rcases hK m meth c ⟨T.setVm vm₁, locs, cells, slots⟩ { g with stack := rest } (.invokestatic index) mk argsL.toArray X₁ hg hsize hdg hW (X₁.named hnamed) (hpre vm₁ X₁.warmed) with ⟨v, B, X', hpost, hsteps⟩ | ⟨q, B, X', hpost, hsteps⟩
  · exact Or.inl ⟨v, vm₁, B, X₁.warmed, X', hpost, fun target h => hstep₁ _ fun acts => by rw [doInvoke_state]; exact hsteps.trans h⟩
  · exact Or.inr ⟨q, vm₁, B, X₁.warmed, X', hpost, hstep₁ _ fun acts => by rw [doInvoke_state]; exact hsteps⟩
end Calls
theorem vx_cls {s : State} {T : State} {vm₁ : Vm} {E : String} {k : ClassId} (hW : s.WarmedH vm₁) (h : (T.setVm vm₁).vm.findClass E = some k) : s.vm.findClass E = some k := by
  have h1 : vm₁.findClass E = some k := h
  rw [hW.alike.findClass] at h1
  exact h1
/-- the method's frame g, with q thrown over it -/
def vx_W (p : Program) (l : Launch) (e : Env) (R : Room) (s : State) (m : MethodId) (args : Array Value) (below : List Frame) (meth : Method) (c : Code) (H : Heap) (locs : List Loc) (cells slots : Nat) (Q : State → Prop) (g : JFrame) (q : Addr) : Prop :=
  ∀ T : State, T.heap = H → Stand p l e R s m args below meth c T locs cells slots → ∃ t, Steps p.tables e below ((T.setTop g).pushFrame (.throwing q)) t ∧ Q t
def vx_Run (p : Program) (l : Launch) (e : Env) (R : Room) (s : State) (m : MethodId) (args : Array Value) (below : List Frame) (meth : Method) (c : Code) (H : Heap) (locs : List Loc) (cells slots mc ms : Nat) (g : JFrame) (rest : List Value) (Qa : State → Outcome → State → Prop) (XC : String → State → State → Prop) (free : Addr → Prop) : Prop :=
  ∀ T : State, T.heap = H → Stand p l e R s m args below meth c T locs cells slots →
    (∃ (v : Option Value) (st₀ t T' : State) (L : List Loc), st₀.heap = H ∧ Stand p l e R s m args below meth c T' (locs ++ L) (cells + mc) (slots + ms) ∧ (∀ q ∈ L, free q.base) ∧ T'.heap = t.heap ∧ T'.vm = t.vm ∧ Qa st₀ (.returned v) t ∧
      Goes p e below T g T' { g with pc := g.pc + 3, stack := v.toList ++ rest }) ∨
    (∃ (q : Addr) (st₀ t T' : State) (L : List Loc) (E : String) (ce : Cell), st₀.heap = H ∧ Stand p l e R s m args below meth c T' (locs ++ L) (cells + mc) (slots + ms) ∧ (∀ z ∈ L, free z.base) ∧ T'.heap = t.heap ∧ T'.vm = t.vm ∧ XC E st₀ t ∧ t.heap[q]? = some ce ∧ ce.vm = .none ∧ s.vm.findClass E = some ce.cls ∧
      Steps p.tables e below (T.setTop g) ((T'.setTop { g with stack := rest }).pushFrame (.throwing q)))
def vx_X {S : Type} (px : S → Prop) (B : String → S → State → Prop) (A : Nat → Prop) : String → State → State → Prop := fun E st t => ∃ u : S, px u ∧ B E u t ∧ va_F A st t
section Runs
variable {p : Program} {l : Launch} {e : Env} {R : Room} {s : State} {m : MethodId} {args : Array Value} {below : List Frame} {meth : Method} {c : Code} {H : Heap} {locs : List Loc} {cells slots : Nat}
variable {y : MethodName} {bytes cc : ByteArray} {maxL nL mc ms n index : Nat} {ret : Option FieldType} {ws : List Cond} {rm : Room} {Pc : Array Value → State → Prop} {Qc : Array Value → State → Outcome → State → Prop} {XC : String → State → State → Prop} {free : Addr → Prop} {Ts : List Cond} {own C : String} {b : Addr} {As rest : List Value} {g : JFrame}
theorem vx_callBack (cb : CallB R s args own index y bytes maxL ret ws rm mc ms n) (hM : vx_Met l y ws rm Pc Qc XC mc ms free) (hbl : FrameBlind Pc) : vx_Back l R p e below s args y 3 8 (PreOf R mc ms Pc) (PostOf Qc mc ms free) (vx_Post XC mc ms free) := by
  obtain ⟨hrc, hrs, hfr, hlo, hws, hcw, -, hini, -⟩ := cb
  exact vx_back (bytes := bytes) (maxL := maxL) (ret := ret) hM hbl hrc hrs hfr hlo hws hcw (fun a' U hW => word_at hW (Or.inl (by first | rfl | simp [Cond.onTables, Cond.keeps, Cond.steady])) hini)
theorem vx_runV (S : CallFix p m c cc nL s args Ts own) (hM : vx_Met l y ws rm Pc Qc XC mc ms free) (cw : CallW R s args own C index y bytes maxL ret ws rm mc ms n) (hp : PreV s H C b Pc As)
    (hg : g.method = m) (hn : As.length = n) (hsize : g.locals.size = nL) (hstack : g.stack = As.reverse ++ .ref b :: rest) (hW : 2 * g.monitorRoom + (rest.map fun v => v.category).sum ≤ 8) (hdg : decode cc g.pc = .ok (.invokevirtual index, 3)) (hf : cells + mc ≤ R.cells ∧ slots + ms ≤ R.slots) :
    vx_Run p l e R s m args below meth c H locs cells slots mc ms g rest (Qc (Value.ref b :: As).toArray) XC free := by
  have hK : vx_Back l R p e below s args y 3 8 (PreOf R mc ms Pc) (PostOf Qc mc ms free) (vx_Post XC mc ms free) := vx_callBack cw.1 hM hp.1
  obtain ⟨⟨-, -, -, -, -, -, hcode, -, hy, hlen, hl⟩, hin, hse⟩ := cw
  obtain ⟨hx, hb, hml, ho, -⟩ := S
  obtain ⟨-, ⟨cellB, hcB, hoB, hclB⟩, hPc⟩ := hp
  intro T hT X
  rcases vx_callV X hx (C := C) (bytes := bytes) (maxL := maxL) (ret := ret) ho hl hin hse hcode hy hK (by rw [hT]; exact hcB) hoB hclB hg (hsize.trans hml.symm) (argsL := As) (rest := rest) (fun sig h => hn.trans (hlen sig h)) hstack hW (by rw [hb]; exact hdg)
    (fun vm₁ hW₁ => ⟨hf.1, hf.2, hPc (T.setVm vm₁) hT hW₁⟩) with ⟨v, vm₁, ⟨U', l2, c2, s2⟩, hW₁, X', ⟨g', mk, t, L, e1, e2, hq, h1, hL, h2, h3⟩, st⟩ | ⟨q, vm₁, ⟨U', l2, c2, s2⟩, hW₁, X', ⟨g', mk, t, L, E, ce, e1, e2, hq, hce, hcv, hcl, h1, hL, h2, h3⟩, st⟩
  · dsimp only [Pt.U, Pt.locs, Pt.cells, Pt.slots] at X' e1 e2 h1 h2 h3 st
    subst h1; subst h2; subst h3
    exact Or.inl ⟨v, (T.setVm vm₁).calling g' mk (Value.ref b :: As).toArray, t, U', L, hT, X', hL, e1, e2, hq, st⟩
  · dsimp only [Pt.U, Pt.locs, Pt.cells, Pt.slots] at X' e1 e2 h1 h2 h3 st hcl
    subst h1; subst h2; subst h3
    exact Or.inr ⟨q, (T.setVm vm₁).calling g' mk (Value.ref b :: As).toArray, t, U', L, E, ce, hT, X', hL, e1, e2, hq, hce, hcv, vx_cls hW₁ hcl, st⟩
theorem vx_runS (S : CallFix p m c cc nL s args Ts own) (hM : vx_Met l y ws rm Pc Qc XC mc ms free) (cw : CallB R s args own index y bytes maxL ret ws rm mc ms n ∧ (Cond.static y).before args s = true) (hp : PreS s H Pc As)
    (hg : g.method = m) (hn : As.length = n) (hsize : g.locals.size = nL) (hstack : g.stack = As.reverse ++ rest) (hW : 2 * g.monitorRoom + (rest.map fun v => v.category).sum ≤ 8) (hdg : decode cc g.pc = .ok (.invokestatic index, 3)) (hf : cells + mc ≤ R.cells ∧ slots + ms ≤ R.slots) :
    vx_Run p l e R s m args below meth c H locs cells slots mc ms g rest (Qc As.toArray) XC free := by
  have hK : vx_Back l R p e below s args y 3 8 (PreOf R mc ms Pc) (PostOf Qc mc ms free) (vx_Post XC mc ms free) := vx_callBack cw.1 hM hp.1
  obtain ⟨⟨-, -, -, -, -, -, hcode, hini, hy, hlen, hl⟩, hstt⟩ := cw
  obtain ⟨hx, hb, hml, ho, -⟩ := S
  intro T hT X
  rcases vx_callS X hx (bytes := bytes) (maxL := maxL) (ret := ret) ho hl hstt hini hcode hy hK hg (hsize.trans hml.symm) (argsL := As) (rest := rest) (fun sig h => hn.trans (hlen sig h)) hstack hW (by rw [hb]; exact hdg)
    (fun vm₁ hW₁ => ⟨hf.1, hf.2, hp.2 (T.setVm vm₁) hT hW₁⟩) with ⟨v, vm₁, ⟨U', l2, c2, s2⟩, hW₁, X', ⟨g', mk, t, L, e1, e2, hq, h1, hL, h2, h3⟩, st⟩ | ⟨q, vm₁, ⟨U', l2, c2, s2⟩, hW₁, X', ⟨g', mk, t, L, E, ce, e1, e2, hq, hce, hcv, hcl, h1, hL, h2, h3⟩, st⟩
  · dsimp only [Pt.U, Pt.locs, Pt.cells, Pt.slots] at X' e1 e2 h1 h2 h3 st
    subst h1; subst h2; subst h3
    exact Or.inl ⟨v, (T.setVm vm₁).calling g' mk As.toArray, t, U', L, hT, X', hL, e1, e2, hq, st⟩
  · dsimp only [Pt.U, Pt.locs, Pt.cells, Pt.slots] at X' e1 e2 h1 h2 h3 st hcl
    subst h1; subst h2; subst h3
    exact Or.inr ⟨q, (T.setVm vm₁).calling g' mk As.toArray, t, U', L, E, ce, hT, X', hL, e1, e2, hq, hce, hcv, vx_cls hW₁ hcl, st⟩
end Runs
section Rows
variable {p : Program} {l : Launch} {e : Env} {R : Room} {s : State} {m : MethodId} {args : Array Value} {below : List Frame} {meth : Method} {c : Code} {H : Heap} {locs : List Loc} {cells slots : Nat} {Q : State → Prop}
variable {mc ms : Nat} {free : Addr → Prop} {A0 A1 : Nat → Prop} {H0 : Heap} {a : Array Value} {pc : Nat} {ls : Array Slot} {st0 rest : List Value}
theorem vx_keep {st₀ t T' : State} {L : List Loc} (h0 : st₀.heap = H) (e1 : T'.heap = t.heap) (hS : va_S A0 H0 H locs) (hA : ∀ q, q < H.size → A1 q → A0 q) (hf : ∀ q, free q → A0 q) (hL : ∀ q ∈ L, free q.base) (hF : va_F A1 st₀ t) :
    H.size ≤ T'.heap.size ∧ (∀ q : Nat, q < H.size → ¬ A1 q → T'.heap[q]? = H[q]?) ∧ va_S A0 H0 T'.heap (locs ++ L) := by
  obtain ⟨hz, hk⟩ := hF
  rw [h0] at hz hk
  exact ⟨by rw [e1]; exact hz, fun q h1 h2 => by rw [e1]; exact hk q h1 h2,
    ⟨Nat.le_trans hS.1 (by rw [e1]; exact hz), fun q h1 h2 => by rw [e1, hk q (Nat.lt_of_lt_of_le h1 hS.1) (fun z => h2 (hA q (Nat.lt_of_lt_of_le h1 hS.1) z))]; exact hS.2.1 q h1 h2, fun q hq => by
      rcases List.mem_append.mp hq with h | h
      · exact hS.2.2 q h
      · exact hf _ (hL q h)⟩⟩
theorem vx_calli {S SX : Type} {post : Int32 → S → Prop} {px : SX → Prop} {B : S → State → Prop} {BX : String → SX → State → Prop} {AX : Nat → Prop} (hr : vx_Run p l e R s m args below meth c H locs cells slots mc ms (F0 m pc ls st0) rest (va_Qi post B A1 a) (vx_X px BX AX) free) (hS : va_S A0 H0 H locs) (hA : ∀ q, q < H.size → A1 q → A0 q) (hf : ∀ q, free q → A0 q) (hAX : ∀ q, q < H.size → AX q → A0 q)
    (kx : ∀ (E : String) (ce : Cell) (q9 : Addr) (u : SX) (t : State) (H1 : Heap) (locs1 : List Loc), t.heap = H1 → s.vm.Alike t.vm → px u → BX E u t → H.size ≤ H1.size → (∀ q : Nat, q < H.size → ¬ AX q → H1[q]? = H[q]?) → va_S A0 H0 H1 locs1 → H1[q9]? = some ce → ce.vm = .none → s.vm.findClass E = some ce.cls → vx_W p l e R s m args below meth c H1 locs1 (cells + mc) (slots + ms) Q (F0 m pc ls rest) q9)
    (kk : ∀ (r : Int32) (u : S) (t : State) (H1 : Heap) (locs1 : List Loc), t.heap = H1 → s.vm.Alike t.vm → post r u → B u t → H.size ≤ H1.size → (∀ q : Nat, q < H.size → ¬ A1 q → H1[q]? = H[q]?) → va_S A0 H0 H1 locs1 → W p l e R s m args below meth c H1 locs1 (cells + mc) (slots + ms) Q (F0 m (pc + 3) ls (.int r :: rest))) : W p l e R s m args below meth c H locs cells slots Q (F0 m pc ls st0) := by
  intro T hT X
  rcases hr T hT X with ⟨v, st₀, t, T', L, h0, X', hL, e1, e2, ⟨⟨r, u, hv, hp, hb⟩, hF⟩, st⟩ | ⟨q, st₀, t, T', L, E, ce, h0, X', hL, e1, e2, ⟨u, hp, hb, hF⟩, hce, hcv, hcl, st⟩
  · cases hv
    obtain ⟨k1, k2, k3⟩ := vx_keep h0 e1 hS hA hf hL hF
    obtain ⟨t2, a1, b1⟩ := kk r u t T'.heap (locs ++ L) e1.symm (by rw [← e2]; exact X'.warmed.alike) hp hb k1 k2 k3 T' rfl X'
    exact ⟨t2, st t2 a1, b1⟩
  · obtain ⟨k1, k2, k3⟩ := vx_keep h0 e1 hS hAX hf hL hF
    obtain ⟨t2, a1, b1⟩ := kx E ce q u t T'.heap (locs ++ L) e1.symm (by rw [← e2]; exact X'.warmed.alike) hp hb k1 k2 k3 (by rw [e1]; exact hce) hcv hcl T' rfl X'
    exact ⟨t2, st.trans a1, b1⟩
theorem vx_calll {S SX : Type} {post : Int64 → S → Prop} {px : SX → Prop} {B : S → State → Prop} {BX : String → SX → State → Prop} {AX : Nat → Prop} (hr : vx_Run p l e R s m args below meth c H locs cells slots mc ms (F0 m pc ls st0) rest (va_Ql post B A1 a) (vx_X px BX AX) free) (hS : va_S A0 H0 H locs) (hA : ∀ q, q < H.size → A1 q → A0 q) (hf : ∀ q, free q → A0 q) (hAX : ∀ q, q < H.size → AX q → A0 q)
    (kx : ∀ (E : String) (ce : Cell) (q9 : Addr) (u : SX) (t : State) (H1 : Heap) (locs1 : List Loc), t.heap = H1 → s.vm.Alike t.vm → px u → BX E u t → H.size ≤ H1.size → (∀ q : Nat, q < H.size → ¬ AX q → H1[q]? = H[q]?) → va_S A0 H0 H1 locs1 → H1[q9]? = some ce → ce.vm = .none → s.vm.findClass E = some ce.cls → vx_W p l e R s m args below meth c H1 locs1 (cells + mc) (slots + ms) Q (F0 m pc ls rest) q9)
    (kk : ∀ (r : Int64) (u : S) (t : State) (H1 : Heap) (locs1 : List Loc), t.heap = H1 → s.vm.Alike t.vm → post r u → B u t → H.size ≤ H1.size → (∀ q : Nat, q < H.size → ¬ A1 q → H1[q]? = H[q]?) → va_S A0 H0 H1 locs1 → W p l e R s m args below meth c H1 locs1 (cells + mc) (slots + ms) Q (F0 m (pc + 3) ls (.long r :: rest))) : W p l e R s m args below meth c H locs cells slots Q (F0 m pc ls st0) := by
  intro T hT X
  rcases hr T hT X with ⟨v, st₀, t, T', L, h0, X', hL, e1, e2, ⟨⟨r, u, hv, hp, hb⟩, hF⟩, st⟩ | ⟨q, st₀, t, T', L, E, ce, h0, X', hL, e1, e2, ⟨u, hp, hb, hF⟩, hce, hcv, hcl, st⟩
  · cases hv
    obtain ⟨k1, k2, k3⟩ := vx_keep h0 e1 hS hA hf hL hF
    obtain ⟨t2, a1, b1⟩ := kk r u t T'.heap (locs ++ L) e1.symm (by rw [← e2]; exact X'.warmed.alike) hp hb k1 k2 k3 T' rfl X'
    exact ⟨t2, st t2 a1, b1⟩
  · obtain ⟨k1, k2, k3⟩ := vx_keep h0 e1 hS hAX hf hL hF
    obtain ⟨t2, a1, b1⟩ := kx E ce q u t T'.heap (locs ++ L) e1.symm (by rw [← e2]; exact X'.warmed.alike) hp hb k1 k2 k3 (by rw [e1]; exact hce) hcv hcl T' rfl X'
    exact ⟨t2, st.trans a1, b1⟩
theorem vx_callf {S SX : Type} {post : UInt32 → S → Prop} {px : SX → Prop} {B : S → State → Prop} {BX : String → SX → State → Prop} {AX : Nat → Prop} (hr : vx_Run p l e R s m args below meth c H locs cells slots mc ms (F0 m pc ls st0) rest (va_Qf post B A1 a) (vx_X px BX AX) free) (hS : va_S A0 H0 H locs) (hA : ∀ q, q < H.size → A1 q → A0 q) (hf : ∀ q, free q → A0 q) (hAX : ∀ q, q < H.size → AX q → A0 q)
    (kx : ∀ (E : String) (ce : Cell) (q9 : Addr) (u : SX) (t : State) (H1 : Heap) (locs1 : List Loc), t.heap = H1 → s.vm.Alike t.vm → px u → BX E u t → H.size ≤ H1.size → (∀ q : Nat, q < H.size → ¬ AX q → H1[q]? = H[q]?) → va_S A0 H0 H1 locs1 → H1[q9]? = some ce → ce.vm = .none → s.vm.findClass E = some ce.cls → vx_W p l e R s m args below meth c H1 locs1 (cells + mc) (slots + ms) Q (F0 m pc ls rest) q9)
    (kk : ∀ (r : UInt32) (u : S) (t : State) (H1 : Heap) (locs1 : List Loc), t.heap = H1 → s.vm.Alike t.vm → post r u → B u t → H.size ≤ H1.size → (∀ q : Nat, q < H.size → ¬ A1 q → H1[q]? = H[q]?) → va_S A0 H0 H1 locs1 → W p l e R s m args below meth c H1 locs1 (cells + mc) (slots + ms) Q (F0 m (pc + 3) ls (.float r :: rest))) : W p l e R s m args below meth c H locs cells slots Q (F0 m pc ls st0) := by
  intro T hT X
  rcases hr T hT X with ⟨v, st₀, t, T', L, h0, X', hL, e1, e2, ⟨⟨r, u, hv, hp, hb⟩, hF⟩, st⟩ | ⟨q, st₀, t, T', L, E, ce, h0, X', hL, e1, e2, ⟨u, hp, hb, hF⟩, hce, hcv, hcl, st⟩
  · cases hv
    obtain ⟨k1, k2, k3⟩ := vx_keep h0 e1 hS hA hf hL hF
    obtain ⟨t2, a1, b1⟩ := kk r u t T'.heap (locs ++ L) e1.symm (by rw [← e2]; exact X'.warmed.alike) hp hb k1 k2 k3 T' rfl X'
    exact ⟨t2, st t2 a1, b1⟩
  · obtain ⟨k1, k2, k3⟩ := vx_keep h0 e1 hS hAX hf hL hF
    obtain ⟨t2, a1, b1⟩ := kx E ce q u t T'.heap (locs ++ L) e1.symm (by rw [← e2]; exact X'.warmed.alike) hp hb k1 k2 k3 (by rw [e1]; exact hce) hcv hcl T' rfl X'
    exact ⟨t2, st.trans a1, b1⟩
theorem vx_calld {S SX : Type} {post : UInt64 → S → Prop} {px : SX → Prop} {B : S → State → Prop} {BX : String → SX → State → Prop} {AX : Nat → Prop} (hr : vx_Run p l e R s m args below meth c H locs cells slots mc ms (F0 m pc ls st0) rest (va_Qd post B A1 a) (vx_X px BX AX) free) (hS : va_S A0 H0 H locs) (hA : ∀ q, q < H.size → A1 q → A0 q) (hf : ∀ q, free q → A0 q) (hAX : ∀ q, q < H.size → AX q → A0 q)
    (kx : ∀ (E : String) (ce : Cell) (q9 : Addr) (u : SX) (t : State) (H1 : Heap) (locs1 : List Loc), t.heap = H1 → s.vm.Alike t.vm → px u → BX E u t → H.size ≤ H1.size → (∀ q : Nat, q < H.size → ¬ AX q → H1[q]? = H[q]?) → va_S A0 H0 H1 locs1 → H1[q9]? = some ce → ce.vm = .none → s.vm.findClass E = some ce.cls → vx_W p l e R s m args below meth c H1 locs1 (cells + mc) (slots + ms) Q (F0 m pc ls rest) q9)
    (kk : ∀ (r : UInt64) (u : S) (t : State) (H1 : Heap) (locs1 : List Loc), t.heap = H1 → s.vm.Alike t.vm → post r u → B u t → H.size ≤ H1.size → (∀ q : Nat, q < H.size → ¬ A1 q → H1[q]? = H[q]?) → va_S A0 H0 H1 locs1 → W p l e R s m args below meth c H1 locs1 (cells + mc) (slots + ms) Q (F0 m (pc + 3) ls (.double r :: rest))) : W p l e R s m args below meth c H locs cells slots Q (F0 m pc ls st0) := by
  intro T hT X
  rcases hr T hT X with ⟨v, st₀, t, T', L, h0, X', hL, e1, e2, ⟨⟨r, u, hv, hp, hb⟩, hF⟩, st⟩ | ⟨q, st₀, t, T', L, E, ce, h0, X', hL, e1, e2, ⟨u, hp, hb, hF⟩, hce, hcv, hcl, st⟩
  · cases hv
    obtain ⟨k1, k2, k3⟩ := vx_keep h0 e1 hS hA hf hL hF
    obtain ⟨t2, a1, b1⟩ := kk r u t T'.heap (locs ++ L) e1.symm (by rw [← e2]; exact X'.warmed.alike) hp hb k1 k2 k3 T' rfl X'
    exact ⟨t2, st t2 a1, b1⟩
  · obtain ⟨k1, k2, k3⟩ := vx_keep h0 e1 hS hAX hf hL hF
    obtain ⟨t2, a1, b1⟩ := kx E ce q u t T'.heap (locs ++ L) e1.symm (by rw [← e2]; exact X'.warmed.alike) hp hb k1 k2 k3 (by rw [e1]; exact hce) hcv hcl T' rfl X'
    exact ⟨t2, st.trans a1, b1⟩
theorem vx_callv {S SX : Type} {post : S → Prop} {px : SX → Prop} {B : S → State → Prop} {BX : String → SX → State → Prop} {AX : Nat → Prop} (hr : vx_Run p l e R s m args below meth c H locs cells slots mc ms (F0 m pc ls st0) rest (va_Qv post B A1 a) (vx_X px BX AX) free) (hS : va_S A0 H0 H locs) (hA : ∀ q, q < H.size → A1 q → A0 q) (hf : ∀ q, free q → A0 q) (hAX : ∀ q, q < H.size → AX q → A0 q)
    (kx : ∀ (E : String) (ce : Cell) (q9 : Addr) (u : SX) (t : State) (H1 : Heap) (locs1 : List Loc), t.heap = H1 → s.vm.Alike t.vm → px u → BX E u t → H.size ≤ H1.size → (∀ q : Nat, q < H.size → ¬ AX q → H1[q]? = H[q]?) → va_S A0 H0 H1 locs1 → H1[q9]? = some ce → ce.vm = .none → s.vm.findClass E = some ce.cls → vx_W p l e R s m args below meth c H1 locs1 (cells + mc) (slots + ms) Q (F0 m pc ls rest) q9)
    (kk : ∀ (u : S) (t : State) (H1 : Heap) (locs1 : List Loc), t.heap = H1 → s.vm.Alike t.vm → post u → B u t → H.size ≤ H1.size → (∀ q : Nat, q < H.size → ¬ A1 q → H1[q]? = H[q]?) → va_S A0 H0 H1 locs1 → W p l e R s m args below meth c H1 locs1 (cells + mc) (slots + ms) Q (F0 m (pc + 3) ls (rest))) : W p l e R s m args below meth c H locs cells slots Q (F0 m pc ls st0) := by
  intro T hT X
  rcases hr T hT X with ⟨v, st₀, t, T', L, h0, X', hL, e1, e2, ⟨⟨u, hv, hp, hb⟩, hF⟩, st⟩ | ⟨q, st₀, t, T', L, E, ce, h0, X', hL, e1, e2, ⟨u, hp, hb, hF⟩, hce, hcv, hcl, st⟩
  · cases hv
    obtain ⟨k1, k2, k3⟩ := vx_keep h0 e1 hS hA hf hL hF
    obtain ⟨t2, a1, b1⟩ := kk u t T'.heap (locs ++ L) e1.symm (by rw [← e2]; exact X'.warmed.alike) hp hb k1 k2 k3 T' rfl X'
    exact ⟨t2, st t2 a1, b1⟩
  · obtain ⟨k1, k2, k3⟩ := vx_keep h0 e1 hS hAX hf hL hF
    obtain ⟨t2, a1, b1⟩ := kx E ce q u t T'.heap (locs ++ L) e1.symm (by rw [← e2]; exact X'.warmed.alike) hp hb k1 k2 k3 (by rw [e1]; exact hce) hcv hcl T' rfl X'
    exact ⟨t2, st.trans a1, b1⟩
/-- caught by the row x of this method's table; the rows ahead don't take it -/
theorem vx_catch {own name : String} {E : String} {ce : Cell} {q : Addr} (hown : s.vm.findClass own = some m.cls) (pre : List ExceptionTableEntry) (x : ExceptionTableEntry) (suf : List ExceptionTableEntry) (hsplit : c.exceptionTable.toList = pre ++ x :: suf)
    (hpass : ∀ z ∈ pre, covers z pc = false ∨ (z.catchType ≠ 0 ∧ ∃ nm : String, (Cond.classLink own z.catchType nm).before args s = true ∧ va_Nc E nm s)) (hx : covers x pc = true) (h0 : x.catchType ≠ 0)
    (hlink : (Cond.classLink own x.catchType name).before args s = true) (hcast : (Cond.castable E name).before args s = true) (hcell : H[q]? = some ce) (hv : ce.vm = .none) (hcl : s.vm.findClass E = some ce.cls)
    (kk : W p l e R s m args below meth c H locs cells slots Q (F0 m x.handlerPc ls [.ref q])) : vx_W p l e R s m args below meth c H locs cells slots Q (F0 m pc ls rest) q := by
  intro T hT X
  have hpl : e.platform.magicAccessors = ({} : Platform).magicAccessors := by rw [X.admits.platform]
  obtain ⟨c3, c4, hc3, hc4, hasg⟩ := Cond.castable_spec hcast
  cases Option.some.inj (hc3.symm.trans hcl)
  obtain ⟨c5, hc5, hcl5⟩ := Cond.classLink_spec hown hlink e.platform hpl
  cases Option.some.inj (hc4.symm.trans hc5)
  obtain ⟨vm', X', st⟩ := X.thenCaughtThrough q (g := F0 m pc ls rest) rfl (Steps.refl _) (by rw [hT]; exact hcell) (by rw [hv]; rfl) (by obtain ⟨k9, h9, -⟩ := Vm.findClass_spec hcl; exact ⟨k9, h9⟩) pre x suf hsplit
    (fun z hz => by
      rcases hpass z hz with h | ⟨hz0, nm, hl1, hn1⟩
      · exact Or.inl h
      · obtain ⟨c6, hc6, hcl6⟩ := Cond.classLink_spec hown hl1 e.platform hpl
        obtain ⟨a8, b8, h1, h2, h3⟩ := hn1
        cases Option.some.inj (h1.symm.trans hcl)
        cases Option.some.inj (h2.symm.trans hc6)
        exact Or.inr ⟨hz0, _, hcl6, h3⟩) hx (Or.inr ⟨h0, c4, hcl5, hasg⟩)
  obtain ⟨t, a1, b1⟩ := kk (T.setVm vm') hT X'
  exact ⟨t, st.trans a1, b1⟩
end Rows
section Ends
variable {p : Program} {l : Launch} {e : Env} {R : Room} {s : State} {m : MethodId} {args : Array Value} {below : List Frame} {meth : Method} {c : Code} {H : Heap} {locs : List Loc} {cells slots : Nat} {Q : State → Prop}
variable {mc ms : Nat} {free : Addr → Prop} {A0 A1 : Nat → Prop} {H0 : Heap} {a : Array Value} {ls : Array Slot} {st0 rest : List Value}
variable {Qc : Array Value → State → Outcome → State → Prop} {XC : String → State → State → Prop}
/-- what a body that may throw owes at its end -/
def vx_MQ (below : List Frame) (Qc : Array Value → State → Outcome → State → Prop) (XC : String → State → State → Prop) (a : Array Value) (s : State) (mc ms : Nat) (free : Addr → Prop) : State → Prop := fun t =>
  ∃ o, t.status = .running ∧ Ended t below o ∧ vx_Q Qc XC mc ms free a s o t
theorem vx_ret {g : JFrame} {mc ms : Nat} (k : W p l e R s m args below meth c H locs cells slots (MQ below Qc args s mc ms free) g) : W p l e R s m args below meth c H locs cells slots (vx_MQ below Qc XC args s mc ms free) g := by
  intro T hT X
  obtain ⟨t, a1, o, b1, b2, b3, b4⟩ := k T hT X
  exact ⟨t, a1, o, b1, b2, Or.inl ⟨b3, b4⟩⟩
/-- not caught here: it goes on to the caller -/
theorem vx_widen {g : JFrame} {q : Addr} {k n : Nat} (h1 : cells ≤ k) (h2 : slots ≤ n) (kk : vx_W p l e R s m args below meth c H locs k n Q g q) : vx_W p l e R s m args below meth c H locs cells slots Q g q := fun T hT X => kk T hT (stand_widen X h1 h2)
theorem vx_out {pc : Nat} {E : String} {ce : Cell} {q : Addr} {mc ms : Nat} (hout : ∀ x ∈ c.exceptionTable.toList, covers x pc = false) (hlocks : meth.locks = false) (hcell : H[q]? = some ce) (hv : ce.vm = .none) (hcl : s.vm.findClass E = some ce.cls)
    (hx : ∀ t : State, t.heap = H → s.vm.Alike t.vm → XC E s t) (hf : ∀ z ∈ locs, free z.base) (hc : cells ≤ mc) (hs : slots ≤ ms) :
    vx_W p l e R s m args below meth c H locs cells slots (vx_MQ below Qc XC args s mc ms free) (F0 m pc ls rest) q := by
  intro T hT X
  obtain ⟨st1, hrun, hend, hW, hsm⟩ := X.leaveThrown q (g := F0 m pc ls rest) rfl rfl rfl hout hlocks
  have hcell9 : (T.setFrames (.throwing q :: below)).heap[q]? = some ce := by
    show T.heap[q]? = some ce
    rw [hT]; exact hcell
  exact ⟨_, st1, .threw q, hrun, hend, Or.inr ⟨q, rfl, E, ce, locs, hx _ hT hW.alike, hcell9, hv, hcl, hW, hsm.mono hc hs, hf⟩⟩
theorem vx_frame {U : State} {k n : Nat} (h : s.sameButNew ({ U with vm := s.vm } : State) locs k n) : s.heap.size ≤ U.heap.size ∧ ∀ q : Nat, q < s.heap.size → (∀ z ∈ locs, z.base ≠ q) → U.heap[q]? = s.heap[q]? := by
  obtain ⟨-, h2, -, -, -, h6⟩ := h
  refine ⟨h2, fun q hq hz => ?_⟩
  obtain ⟨c9, e1, e2, e3, e4⟩ := h6 q _ (Array.getElem?_eq_getElem hq)
  have hs : c9.slots = (s.heap[q]).slots := Array.ext_getElem? fun i => e4 i fun hm => hz _ hm rfl
  have h9 : c9 = s.heap[q] := by
    rw [hs] at e2
    exact e2
  have e5 : U.heap[q]? = some c9 := e1
  rw [e5, h9, Array.getElem?_eq_getElem hq]
/-- the words of a throw but the four that speak of the heap -/
def vx_no (w : Cond) : Bool := decide (w ≠ .isRef (.static Bundle.tN "UNASSIGNED_STACK" Bundle.steD)) && decide (w ≠ .isRef (.static Bundle.tN "SUPPRESSED_SENTINEL" Bundle.listD)) && decide (w ≠ .laysStatic Bundle.tN "UNASSIGNED_STACK" Bundle.steD) && decide (w ≠ .laysStatic Bundle.tN "SUPPRESSED_SENTINEL" Bundle.listD)
def vx_at0 (own : String) (ic : Nat) (X : String) (names : List String) : List Cond := (Bundle.ownAtoms0 own ic X names).filter vx_no
def vx_atS (own : String) (ic : Nat) (X : String) (names : List String) : List Cond := (Bundle.ownAtoms own ic X names).filter vx_no
/-- a word that the tables alone decide, or a good one -/
def vx_ot (w : Cond) : Bool := w.onTables || goodWord w
theorem vx_ot_at {args a' : Array Value} {s U : State} {w : Cond} (hW : s.WarmedH U.vm) (hvm : s.vm = U.vm) (hg : vx_ot w = true) (h : w.before args s = true) : w.before a' U = true := by
  simp only [vx_ot, Bool.or_eq_true] at hg
  rcases hg with hg | hg
  · exact va_tabs hg hvm h
  · exact word_at hW (good_of_word hg) h
/-- a list's words: the good ones out of the method's own list, the others by premises of their own -/
theorem vx_hat {args : Array Value} {s : State} {L B : List Cond} (h1 : ∀ w ∈ L.filter goodWord, w.before args s = true) (h2 : ∀ w ∈ L.filter (fun w => !goodWord w), w ∈ B) (h3 : ∀ w ∈ B, w.before args s = true) : ∀ w ∈ L, w.before args s = true := by
  intro w hw
  by_cases g : goodWord w = true
  · exact h1 w (List.mem_filter.mpr ⟨hw, g⟩)
  · refine h3 w (h2 w (List.mem_filter.mpr ⟨hw, ?_⟩))
    show (!goodWord w) = true
    cases hgw : goodWord w
    · rfl
    · exact absurd hgw g
theorem vx_c {args : Array Value} {s : State} {w : Cond} {B : List Cond} (h : w.before args s = true) (t : ∀ w ∈ B, w.before args s = true) : ∀ w' ∈ w :: B, w'.before args s = true := fun w' h' => (List.mem_cons.mp h').elim (fun e => by rw [e]; exact h) (t w')
theorem vx_n {args : Array Value} {s : State} : ∀ w ∈ ([] : List Cond), w.before args s = true := fun _ h => nomatch h
theorem vx_own {args : Array Value} {s : State} {L : List Cond} (h1 : ∀ w ∈ L.filter vx_no, w.before args s = true)
    (hU : (Cond.isRef (.static Bundle.tN "UNASSIGNED_STACK" Bundle.steD)).before args s = true) (hN : (Cond.isRef (.static Bundle.tN "SUPPRESSED_SENTINEL" Bundle.listD)).before args s = true)
    (lU : (Cond.laysStatic Bundle.tN "UNASSIGNED_STACK" Bundle.steD).before args s = true) (lN : (Cond.laysStatic Bundle.tN "SUPPRESSED_SENTINEL" Bundle.listD).before args s = true) : ∀ w ∈ L, w.before args s = true := by
  intro w hw
  by_cases e1 : w = .isRef (.static Bundle.tN "UNASSIGNED_STACK" Bundle.steD)
  · rw [e1]; exact hU
  · by_cases e2 : w = .isRef (.static Bundle.tN "SUPPRESSED_SENTINEL" Bundle.listD)
    · rw [e2]; exact hN
    · by_cases e3 : w = .laysStatic Bundle.tN "UNASSIGNED_STACK" Bundle.steD
      · rw [e3]; exact lU
      · by_cases e4 : w = .laysStatic Bundle.tN "SUPPRESSED_SENTINEL" Bundle.listD
        · rw [e4]; exact lN
        · exact h1 w (List.mem_filter.mpr ⟨hw, by unfold vx_no; rw [decide_eq_true e1, decide_eq_true e2, decide_eq_true e3, decide_eq_true e4]; rfl⟩)
/-- where a static field lies, its class's statics cell in H -/
def vx_L (C n d : String) (A : Nat → Prop) (U : State) (H : Heap) : Prop := ∃ (c : ClassId) (k : Class) (i : Nat) (f : Field) (a : Nat) (cell : Cell), U.vm.findClass C = some c ∧ U.fieldFound? C n d = some (c, k, i, f) ∧ f.isStatic = true ∧ k.statics = some a ∧ H[a]? = some cell ∧ cell.vm.isStatics = true ∧ cell.cls = c ∧ f.slot < cell.slots.size ∧ k.staticTypes[f.slot]? = some f.type ∧ ¬ A a
theorem vx_L.moved {C n d : String} {A : Nat → Prop} {u U : State} {H : Heap} (hvm : u.vm.Alike U.vm) (h : vx_L C n d A u H) : vx_L C n d A U H := by
  obtain ⟨c, k, i, f, a, cell, h1, h2, h3, h4, h5, h6, h7, h8, h9, h10⟩ := h
  obtain ⟨k', hi', he⟩ := State.fieldFound?_setVm hvm h2
  exact ⟨c, k', i, f, a, cell, by rw [hvm.findClass]; exact h1, hi', h3, by rw [he]; exact h4, h5, h6, h7, h8, by rw [he]; exact h9, h10⟩
theorem vx_L.kept {C n d : String} {A : Nat → Prop} {U : State} {H H1 : Heap} (h : vx_L C n d A U H) (hq : ∀ a : Nat, a < H.size → ¬ A a → H1[a]? = H[a]?) : vx_L C n d A U H1 := by
  obtain ⟨c, k, i, f, a, cell, h1, h2, h3, h4, h5, h6, h7, h8, h9, h10⟩ := h
  exact ⟨c, k, i, f, a, cell, h1, h2, h3, h4, by rw [hq a (Array.getElem?_eq_some_iff.mp h5).1 h10]; exact h5, h6, h7, h8, h9, h10⟩
theorem vx_L.narrow {C n d : String} {A B : Nat → Prop} {U : State} {H : Heap} (h : vx_L C n d A U H) (hAB : ∀ q, B q → A q) : vx_L C n d B U H := by
  obtain ⟨c, k, i, f, a, cell, h1, h2, h3, h4, h5, h6, h7, h8, h9, h10⟩ := h
  exact ⟨c, k, i, f, a, cell, h1, h2, h3, h4, h5, h6, h7, h8, h9, fun z => h10 (hAB _ z)⟩
theorem vx_L.word {C n d : String} {A : Nat → Prop} {s : State} {args : Array Value} (h : vx_L C n d A s s.heap) : (Cond.laysStatic C n d).before args s = true := by
  obtain ⟨c, k, i, f, a, cell, h1, h2, h3, h4, h5, h6, h7, h8, h9, -⟩ := h
  show (Cond.laysStatic C n d).holds args s none s [] = true
  exact Cond.laysStatic_of h1 h2 h3 h4 h5 h6 h7 h8 h9
/-- .. and what it holds: null or some reference -/
def vx_Zq (C n d : String) (A : Nat → Prop) (U : State) (H : Heap) : Prop := va_Zq C n d A U H ∧ vx_L C n d A U H
theorem vx_Zq.moved {C n d : String} {A : Nat → Prop} {u U : State} {H : Heap} (hvm : u.vm.Alike U.vm) (h : vx_Zq C n d A u H) : vx_Zq C n d A U H := ⟨va_Zq.moved hvm h.1, vx_L.moved hvm h.2⟩
theorem vx_Zq.kept {C n d : String} {A : Nat → Prop} {U : State} {H H1 : Heap} (h : vx_Zq C n d A U H) (hq : ∀ a : Nat, a < H.size → ¬ A a → H1[a]? = H[a]?) : vx_Zq C n d A U H1 := ⟨va_Zq.kept h.1 hq, vx_L.kept h.2 hq⟩
theorem vx_Zq.narrow {C n d : String} {A B : Nat → Prop} {U : State} {H : Heap} (h : vx_Zq C n d A U H) (hAB : ∀ q, B q → A q) : vx_Zq C n d B U H := ⟨va_Zq.narrow h.1 hAB, vx_L.narrow h.2 hAB⟩
theorem vx_Zqof {args : Array Value} {s : State} {C n d : String} {A : Nat → Prop} (hl : (Cond.laysStatic C n d).before args s = true) (hini : (Cond.initialized C).before args s = true) (h : (Cond.isRef (.static C n d)).before args s = true) (hA : ∀ a : Nat, a < s.heap.size → ¬ A a) : vx_Zq C n d A s s.heap := by
  refine ⟨va_Zqof hl hini h hA, ?_⟩
  obtain ⟨c, k, i, f, a, cell, h1, h2, h3, h4, h5, h6, h7, h8, h9⟩ := Cond.laysStatic_spec hl
  exact ⟨c, k, i, f, a, cell, h1, h2, h3, h4, h5, h6, h7, h8, h9, hA a (Array.getElem?_eq_some_iff.mp h5).1⟩
theorem vx_isRef {C n d : String} {v : Value} {A : Nat → Prop} {s : State} {args : Array Value} (h : va_Z C n d v A s s.heap) (hv : v.isRef = true) : (Cond.isRef (.static C n d)).before args s = true := by
  obtain ⟨cf, kf, fi, f, a, cell, h1, h2, h3, h4, h5, h6, h7, -⟩ := h
  have he : (Term.static C n d).eval args s none [] s = some v := by
    simp [Term.eval, State.fieldNamed?, h1, h2, h4, h5, h6, h7]
  simp only [Cond.before, Cond.holds, Cond.value, he]
  cases v <;> simp_all [Value.isRef]
theorem vx_isRefq {C n d : String} {A : Nat → Prop} {s : State} {args : Array Value} (h : va_Zq C n d A s s.heap) : (Cond.isRef (.static C n d)).before args s = true := by
  rcases h with h | ⟨t, h⟩
  · exact vx_isRef h rfl
  · exact vx_isRef h rfl
/-- the same frame, seen from here: as if the method were called anew in this heap -/
theorem vx_rebase {T : State} (X : Stand p l e R s m args below meth c T locs cells slots) {R' : Room} (hf : R'.frames ≤ R.frames) (hl : R'.locals ≤ R.locals) (hc : cells + R'.cells ≤ R.cells) (hs : slots + R'.slots ≤ R.slots) :
    Stand p l e R' ((T.setVm s.vm).setFrames (.invoking m args :: below)) m args below meth c T [] 0 0 := by
  have htop : (T.setVm s.vm).topJava?.isSome := X.here.top
  have hF : ((T.setVm s.vm).setFrames (.invoking m args :: below)).frames = .invoking m args :: below := State.frames_setFrames _ (State.cur_lt_of_top htop)
  obtain ⟨g₀, hg0⟩ := Option.isSome_iff_exists.mp htop
  obtain ⟨r, hr⟩ := State.topJava?_eq_some.mp hg0
  have hl9 : e.platform.stackLimits (T.setVm s.vm).me = e.platform.stackLimits s.me := X.limits
  have hb9 : (T.setVm s.vm).me.stackBytes = s.me.stackBytes := X.bytes
  refine ⟨X.admits, X.cas, X.clock, hF, ?_, X.hears, X.method, X.code, X.here, X.tail, X.warmed, ?_, ?_, ?_⟩
  · have h := X.room
    have hU : ((T.setVm s.vm).setFrames (.invoking m args :: below)).localsInUse = s.localsInUse := by
      rw [State.localsInUse_invoking hF (meth := meth) (c := c) X.method X.code, State.localsInUse_invoking X.frames X.method X.code]
    simp only [State.hasRoom, Bool.and_eq_true, decide_eq_true_eq] at h ⊢
    obtain ⟨⟨⟨⟨h1, h2, h3, h4, h5, h6⟩, h7⟩, h8⟩, h9⟩ := h
    rw [X.frames, List.length_cons] at h2 h3
    have q1 := X.heapSize
    have q2 := X.used
    simp only [hF, hU, List.length_cons, State.stackLimits_setFrames, State.stackBytes_setFrames, hl9, hb9]
    refine ⟨⟨⟨⟨by omega, by omega, by omega, by omega, by omega, h6⟩, ?_⟩, ?_⟩, X.book⟩
    · show T.heap.size + R'.cells ≤ e.platform.maxCells
      omega
    · show T.slotsUsed + R'.slots ≤ e.platform.maxSlots
      omega
  · rw [State.stackLimits_setFrames]; rfl
  · rw [State.stackBytes_setFrames]; rfl
  · refine ⟨?_, Nat.le_refl _, Nat.le_refl _, ?_, ?_, fun a c9 h9 => ⟨c9, h9, rfl, rfl, fun _ _ => rfl⟩⟩
    · obtain ⟨t, ht, -⟩ := State.frames_cons hr
      show T.setVm s.vm = { ((T.setVm s.vm).setFrames (.invoking m args :: below)).setFrames (T.setVm s.vm).frames with heap := T.heap, slotsUsed := T.slotsUsed }
      rw [State.setFrames_setFrames, State.setFrames_self ht]
      rfl
    · show T.slotsUsed = T.slotsUsed + ((T.heap.toList.drop T.heap.size).map (·.slots.size)).sum
      rw [List.drop_eq_nil_of_le (Nat.le_of_eq Array.length_toList)]
      rfl
    · show ((T.heap.toList.drop T.heap.size).map (·.slots.size)).sum ≤ 0
      rw [List.drop_eq_nil_of_le (Nat.le_of_eq Array.length_toList)]
      exact Nat.le_refl _
/-- 'throw new E()': new; dup; invokespecial; athrow -/
theorem vx_throw0 {cc : ByteArray} {pc : Nat} (hexec : p.tables.exec = Jvm.exec) (hb : c.code = cc) (hl : l.stackTraces = false) {own cls : String} {names : List String} {ik ic mc ms : Nat} {A : Nat → Prop}
    (hown : s.vm.findClass own = some m.cls) (hcls : Bundle.fit cls = true) (hnames : ∀ n ∈ names, Bundle.fit n = true)
    (hk : (Cond.classLink own ik cls).before args s = true) (hini : (Cond.initialized cls).before args s = true) (hat : ∀ w ∈ vx_at0 own ic cls names, w.before args s = true)
    (hgood : ∀ w ∈ Cond.classLink own ik cls :: Cond.initialized cls :: vx_at0 own ic cls names, vx_ot w = true)
    (hU : vx_Zq Bundle.tN "UNASSIGNED_STACK" Bundle.steD A s s.heap) (hN : vx_Zq Bundle.tN "SUPPRESSED_SENTINEL" Bundle.listD A s s.heap) (hS : va_S A s.heap H locs) (hsize : ls.size = c.maxLocals)
    (d0 : decode cc pc = .ok (.new ik, 3)) (d3 : decode cc (pc + 3) = .ok (.dup, 1)) (d4 : decode cc (pc + 4) = .ok (.invokespecial ic, 3)) (d7 : decode cc (pc + 7) = .ok (.athrow, 1))
    (hout : ∀ x ∈ c.exceptionTable.toList, covers x (pc + 7) = false)
    (hRframes : names.length + 3 < R.frames) (hRlocals : (rest.map fun v => v.category).sum + (13 * (names.length + 1) + 42) ≤ R.locals) (hRcells : cells + 1 ≤ R.cells) (hRslots : slots + 6 ≤ R.slots) (hlocks : meth.locks = false)
    (hx : ∀ t : State, s.vm.Alike t.vm → H.size ≤ t.heap.size → (∀ q : Nat, q < H.size → t.heap[q]? = H[q]?) → XC cls s t)
    (hf : ∀ z ∈ locs, free z.base) (hc : cells + 1 ≤ mc) (hs : slots + 6 ≤ ms) :
    W p l e R s m args below meth c H locs cells slots (vx_MQ below Qc XC args s mc ms free) (F0 m pc ls rest) := by
  intro T hT X
  have htr : e.platform.stackTraces = false := (show e.platform.stackTraces = l.stackTraces by rw [X.admits.platform]).trans hl
  have Y := vx_rebase X (R' := { frames := R.frames, locals := R.locals, cells := 1, slots := 6 }) (Nat.le_refl _) (Nat.le_refl _) hRcells hRslots
  obtain ⟨s', hA⟩ : ∃ z, z = (T.setVm s.vm).setFrames (.invoking m args :: below) := ⟨_, rfl⟩
  rw [← hA] at Y
  have hvm : s'.vm = s.vm := by rw [hA]; rfl
  have hhp : s'.heap = H := by rw [hA]; exact hT
  have hW0 : s.WarmedH s'.vm := by rw [hvm]; exact State.WarmedH.refl s
  have hat' : ∀ w ∈ vx_at0 own ic cls names, w.before args s' = true := fun w hw => vx_ot_at hW0 hvm.symm (hgood w (List.mem_cons_of_mem _ (List.mem_cons_of_mem _ hw))) (hat w hw)
  have hk' : (Cond.classLink own ik cls).before args s' = true := vx_ot_at hW0 hvm.symm (hgood _ List.mem_cons_self) hk
  have hini' : (Cond.initialized cls).before args s' = true := vx_ot_at hW0 hvm.symm (hgood _ (List.mem_cons_of_mem _ List.mem_cons_self)) hini
  have hU' : vx_Zq Bundle.tN "UNASSIGNED_STACK" Bundle.steD A s' s'.heap := by rw [hhp]; exact vx_Zq.moved hW0.alike (hU.kept hS.2.1)
  have hN' : vx_Zq Bundle.tN "SUPPRESSED_SENTINEL" Bundle.listD A s' s'.heap := by rw [hhp]; exact vx_Zq.moved hW0.alike (hN.kept hS.2.1)
  have h : ∀ w ∈ Bundle.ownAtoms0 own ic cls names, w.before args s' = true := vx_own hat' (vx_isRefq hU'.1) (vx_isRefq hN'.1) hU'.2.word hN'.2.word
  have hown' : s'.vm.findClass own = some m.cls := by rw [hvm]; exact hown
  have hins : (Cond.instantiable cls 6).before args s' = true := h _ (by simp [Bundle.ownAtoms0])
  obtain ⟨vm₁, cX, kX, hfX, hkX, -, -, X₁, st1⟩ := Y.newCold hexec (own := own) (C := cls) (index := ik) (n := 6) hown' hk' hins hini'
    (g := F0 m pc ls rest) rfl (by rw [hb]; exact d0) (Nat.le_refl _) (Nat.le_refl _)
  generalize hT1 : (T.setVm vm₁).pushCell { cls := cX, slots := kX.instanceTypes.map defaultValue, vm := .none } = T1 at X₁ st1
  have hcat : (Value.ref T.heap.size).category = 1 := rfl
  have hcellA : T1.heap[T.heap.size]? = some (freshCell cX kX) := by rw [← hT1]; exact State.heap_pushCell_size _ _
  have d3' : decode c.code (pc + 3) = .ok (.dup, 1) := by rw [hb]; exact d3
  obtain ⟨U, hsteps, hrun, hend, hW, hsame, ce, hce, hO⟩ := X₁.ctorThrow0 hexec htr (own := own) (cls := cls) (names := names) (ic := ic) hown' hcls hnames h (fun x hx => nomatch hx) hfX hkX hcellA (by rw [hhp, hT]; exact Nat.le_refl _)
    (g := { method := m, pc := pc + 4, locals := ls, stack := .ref T.heap.size :: .ref T.heap.size :: rest, locked := none }) rfl hsize rfl rfl (rest := rest) rfl
    (by rw [hb]; exact d4) (by rw [hb]; exact d7) hout hRframes (by simp only [List.map_cons, List.sum_cons, hcat]; omega) hlocks
  obtain ⟨f1, f2⟩ := vx_frame hsame
  rw [hhp] at f1 f2
  have hWs : s.WarmedH U.vm := State.WarmedH.trans hW0 hW
  have hcl : s.vm.findClass cls = some ce.cls := by
    have h9 := hO.cls
    rw [hvm] at h9
    exact h9
  have hall : s.sameButNew ({ U with vm := s.vm } : State) locs mc ms := by
    subst hA
    obtain ⟨e1, e2⟩ := hsame
    rw [State.setFrames_setFrames] at e1
    have h2 : (T.setVm s.vm).sameButNew ({ U with vm := s.vm } : State) [] (0 + 1) (0 + 6) := ⟨e1, e2⟩
    have h3 := X.same.trans h2
    rw [List.append_nil] at h3
    exact h3.mono hc hs
  refine ⟨U, ?_, .threw T.heap.size, hrun, hend, Or.inr ⟨T.heap.size, rfl, cls, ce, locs, hx U hWs.alike f1 (fun q hq => f2 q hq (fun z hz => nomatch hz)), hce, hO.vm, hcl, hWs, hall, hf⟩⟩
  refine st1 _ ?_
  show Steps p.tables e below (T1.setTop { method := m, pc := pc + 3, locals := ls, stack := .ref T.heap.size :: rest, locked := none }) _
  jvm_step X₁.here [X₁.here.top, hexec, d3', Value.category]
  exact hsteps
/-- 'throw new E("text")': new; dup; ldc; invokespecial; athrow -/
theorem vx_throwS {cc : ByteArray} {pc : Nat} (hexec : p.tables.exec = Jvm.exec) (hb : c.code = cc) (hl : l.stackTraces = false) {own cls text : String} {names : List String} {ik is ic mc ms sa : Nat} {A : Nat → Prop}
    (hown : s.vm.findClass own = some m.cls) (hcls : Bundle.fit cls = true) (hnames : ∀ n ∈ names, Bundle.fit n = true)
    (hk : (Cond.classLink own ik cls).before args s = true) (hini : (Cond.initialized cls).before args s = true) (hstr : vk_R own is text sa s) (hat : ∀ w ∈ vx_atS own ic cls names, w.before args s = true)
    (hgood : ∀ w ∈ Cond.classLink own ik cls :: Cond.initialized cls :: vx_atS own ic cls names, vx_ot w = true)
    (hU : vx_Zq Bundle.tN "UNASSIGNED_STACK" Bundle.steD A s s.heap) (hN : vx_Zq Bundle.tN "SUPPRESSED_SENTINEL" Bundle.listD A s s.heap) (hS : va_S A s.heap H locs) (hsize : ls.size = c.maxLocals)
    (d0 : decode cc pc = .ok (.new ik, 3)) (d3 : decode cc (pc + 3) = .ok (.dup, 1)) (d4 : decode cc (pc + 4) = .ok (.ldc is, 2)) (d6 : decode cc (pc + 6) = .ok (.invokespecial ic, 3)) (d9 : decode cc (pc + 9) = .ok (.athrow, 1))
    (hout : ∀ x ∈ c.exceptionTable.toList, covers x (pc + 9) = false)
    (hRframes : names.length + 3 < R.frames) (hRlocals : (rest.map fun v => v.category).sum + (13 * (names.length + 1) + 43) ≤ R.locals) (hRcells : cells + 1 ≤ R.cells) (hRslots : slots + 6 ≤ R.slots) (hlocks : meth.locks = false)
    (hx : ∀ t : State, s.vm.Alike t.vm → H.size ≤ t.heap.size → (∀ q : Nat, q < H.size → t.heap[q]? = H[q]?) → XC cls s t)
    (hf : ∀ z ∈ locs, free z.base) (hc : cells + 1 ≤ mc) (hs : slots + 6 ≤ ms) :
    W p l e R s m args below meth c H locs cells slots (vx_MQ below Qc XC args s mc ms free) (F0 m pc ls rest) := by
  intro T hT X
  have htr : e.platform.stackTraces = false := (show e.platform.stackTraces = l.stackTraces by rw [X.admits.platform]).trans hl
  have Y := vx_rebase X (R' := { frames := R.frames, locals := R.locals, cells := 1, slots := 6 }) (Nat.le_refl _) (Nat.le_refl _) hRcells hRslots
  obtain ⟨s', hA⟩ : ∃ z, z = (T.setVm s.vm).setFrames (.invoking m args :: below) := ⟨_, rfl⟩
  rw [← hA] at Y
  have hvm : s'.vm = s.vm := by rw [hA]; rfl
  have hhp : s'.heap = H := by rw [hA]; exact hT
  have hW0 : s.WarmedH s'.vm := by rw [hvm]; exact State.WarmedH.refl s
  have hat' : ∀ w ∈ vx_atS own ic cls names, w.before args s' = true := fun w hw => vx_ot_at hW0 hvm.symm (hgood w (List.mem_cons_of_mem _ (List.mem_cons_of_mem _ hw))) (hat w hw)
  have hk' : (Cond.classLink own ik cls).before args s' = true := vx_ot_at hW0 hvm.symm (hgood _ List.mem_cons_self) hk
  have hini' : (Cond.initialized cls).before args s' = true := vx_ot_at hW0 hvm.symm (hgood _ (List.mem_cons_of_mem _ List.mem_cons_self)) hini
  have hU' : vx_Zq Bundle.tN "UNASSIGNED_STACK" Bundle.steD A s' s'.heap := by rw [hhp]; exact vx_Zq.moved hW0.alike (hU.kept hS.2.1)
  have hN' : vx_Zq Bundle.tN "SUPPRESSED_SENTINEL" Bundle.listD A s' s'.heap := by rw [hhp]; exact vx_Zq.moved hW0.alike (hN.kept hS.2.1)
  have h : ∀ w ∈ Bundle.ownAtoms own ic cls names, w.before args s' = true := vx_own hat' (vx_isRefq hU'.1) (vx_isRefq hN'.1) hU'.2.word hN'.2.word
  have hown' : s'.vm.findClass own = some m.cls := by rw [hvm]; exact hown
  have hins : (Cond.instantiable cls 6).before args s' = true := h _ (by simp [Bundle.ownAtoms])
  obtain ⟨vm₁, cX, kX, hfX, hkX, -, -, X₁, st1⟩ := Y.newCold hexec (own := own) (C := cls) (index := ik) (n := 6) hown' hk' hins hini'
    (g := F0 m pc ls rest) rfl (by rw [hb]; exact d0) (Nat.le_refl _) (Nat.le_refl _)
  generalize hT1 : (T.setVm vm₁).pushCell { cls := cX, slots := kX.instanceTypes.map defaultValue, vm := .none } = T1 at X₁ st1
  have hcat : (Value.ref T.heap.size).category = 1 := rfl
  have hcellA : T1.heap[T.heap.size]? = some (freshCell cX kX) := by rw [← hT1]; exact State.heap_pushCell_size _ _
  have d3' : decode c.code (pc + 3) = .ok (.dup, 1) := by rw [hb]; exact d3
  have d4' : decode c.code (pc + 4) = .ok (.ldc is, 2) := by rw [hb]; exact d4
  have hstr' : vk_R own is text sa s' := vk_R.warm hW0 hstr
  obtain ⟨U, hsteps, hrun, hend, hW, hsame, ce, hce, hO⟩ := X₁.ctorThrowS hexec htr (own := own) (cls := cls) (names := names) (ic := ic) hown' hcls hnames h (fun x hx => nomatch hx) hfX hkX hcellA (by rw [hhp, hT]; exact Nat.le_refl _) (msg := .ref sa) rfl
    (g := { method := m, pc := pc + 6, locals := ls, stack := .ref sa :: .ref T.heap.size :: .ref T.heap.size :: rest, locked := none }) rfl hsize rfl rfl (rest := rest) rfl
    (by rw [hb]; exact d6) (by rw [hb]; exact d9) hout hRframes (by simp only [List.map_cons, List.sum_cons, hcat]; omega) hlocks
  obtain ⟨f1, f2⟩ := vx_frame hsame
  rw [hhp] at f1 f2
  have hWs : s.WarmedH U.vm := State.WarmedH.trans hW0 hW
  have hcl : s.vm.findClass cls = some ce.cls := by
    have h9 := hO.cls
    rw [hvm] at h9
    exact h9
  have hall : s.sameButNew ({ U with vm := s.vm } : State) locs mc ms := by
    subst hA
    obtain ⟨e1, e2⟩ := hsame
    rw [State.setFrames_setFrames] at e1
    have h2 : (T.setVm s.vm).sameButNew ({ U with vm := s.vm } : State) [] (0 + 1) (0 + 6) := ⟨e1, e2⟩
    have h3 := X.same.trans h2
    rw [List.append_nil] at h3
    exact h3.mono hc hs
  refine ⟨U, ?_, .threw T.heap.size, hrun, hend, Or.inr ⟨T.heap.size, rfl, cls, ce, locs, hx U hWs.alike f1 (fun q hq => f2 q hq (fun z hz => nomatch hz)), hce, hO.vm, hcl, hWs, hall, hf⟩⟩
  refine st1 _ ?_
  show Steps p.tables e below (T1.setTop { method := m, pc := pc + 3, locals := ls, stack := .ref T.heap.size :: rest, locked := none }) _
  jvm_step X₁.here [X₁.here.top, hexec, d3', Value.category]
  exact X₁.ldcString hexec (own := own) (text := text) (index := is) (a := sa) hown' hstr'.1 hstr'.2
    (g := { method := m, pc := pc + 4, locals := ls, stack := .ref T.heap.size :: .ref T.heap.size :: rest, locked := none }) rfl d4' _ hsteps
/-- 'throw new E("text")', the text by a wide index -/
theorem vx_throwSW {cc : ByteArray} {pc : Nat} (hexec : p.tables.exec = Jvm.exec) (hb : c.code = cc) (hl : l.stackTraces = false) {own cls text : String} {names : List String} {ik is ic mc ms sa : Nat} {A : Nat → Prop}
    (hown : s.vm.findClass own = some m.cls) (hcls : Bundle.fit cls = true) (hnames : ∀ n ∈ names, Bundle.fit n = true)
    (hk : (Cond.classLink own ik cls).before args s = true) (hini : (Cond.initialized cls).before args s = true) (hstr : vk_R own is text sa s) (hat : ∀ w ∈ vx_atS own ic cls names, w.before args s = true)
    (hgood : ∀ w ∈ Cond.classLink own ik cls :: Cond.initialized cls :: vx_atS own ic cls names, vx_ot w = true)
    (hU : vx_Zq Bundle.tN "UNASSIGNED_STACK" Bundle.steD A s s.heap) (hN : vx_Zq Bundle.tN "SUPPRESSED_SENTINEL" Bundle.listD A s s.heap) (hS : va_S A s.heap H locs) (hsize : ls.size = c.maxLocals)
    (d0 : decode cc pc = .ok (.new ik, 3)) (d3 : decode cc (pc + 3) = .ok (.dup, 1)) (d4 : decode cc (pc + 4) = .ok (.ldc_w is, 3)) (d7 : decode cc (pc + 7) = .ok (.invokespecial ic, 3)) (d10 : decode cc (pc + 10) = .ok (.athrow, 1))
    (hout : ∀ x ∈ c.exceptionTable.toList, covers x (pc + 10) = false)
    (hRframes : names.length + 3 < R.frames) (hRlocals : (rest.map fun v => v.category).sum + (13 * (names.length + 1) + 43) ≤ R.locals) (hRcells : cells + 1 ≤ R.cells) (hRslots : slots + 6 ≤ R.slots) (hlocks : meth.locks = false)
    (hx : ∀ t : State, s.vm.Alike t.vm → H.size ≤ t.heap.size → (∀ q : Nat, q < H.size → t.heap[q]? = H[q]?) → XC cls s t)
    (hf : ∀ z ∈ locs, free z.base) (hc : cells + 1 ≤ mc) (hs : slots + 6 ≤ ms) :
    W p l e R s m args below meth c H locs cells slots (vx_MQ below Qc XC args s mc ms free) (F0 m pc ls rest) := by
  intro T hT X
  have htr : e.platform.stackTraces = false := (show e.platform.stackTraces = l.stackTraces by rw [X.admits.platform]).trans hl
  have Y := vx_rebase X (R' := { frames := R.frames, locals := R.locals, cells := 1, slots := 6 }) (Nat.le_refl _) (Nat.le_refl _) hRcells hRslots
  obtain ⟨s', hA⟩ : ∃ z, z = (T.setVm s.vm).setFrames (.invoking m args :: below) := ⟨_, rfl⟩
  rw [← hA] at Y
  have hvm : s'.vm = s.vm := by rw [hA]; rfl
  have hhp : s'.heap = H := by rw [hA]; exact hT
  have hW0 : s.WarmedH s'.vm := by rw [hvm]; exact State.WarmedH.refl s
  have hat' : ∀ w ∈ vx_atS own ic cls names, w.before args s' = true := fun w hw => vx_ot_at hW0 hvm.symm (hgood w (List.mem_cons_of_mem _ (List.mem_cons_of_mem _ hw))) (hat w hw)
  have hk' : (Cond.classLink own ik cls).before args s' = true := vx_ot_at hW0 hvm.symm (hgood _ List.mem_cons_self) hk
  have hini' : (Cond.initialized cls).before args s' = true := vx_ot_at hW0 hvm.symm (hgood _ (List.mem_cons_of_mem _ List.mem_cons_self)) hini
  have hU' : vx_Zq Bundle.tN "UNASSIGNED_STACK" Bundle.steD A s' s'.heap := by rw [hhp]; exact vx_Zq.moved hW0.alike (hU.kept hS.2.1)
  have hN' : vx_Zq Bundle.tN "SUPPRESSED_SENTINEL" Bundle.listD A s' s'.heap := by rw [hhp]; exact vx_Zq.moved hW0.alike (hN.kept hS.2.1)
  have h : ∀ w ∈ Bundle.ownAtoms own ic cls names, w.before args s' = true := vx_own hat' (vx_isRefq hU'.1) (vx_isRefq hN'.1) hU'.2.word hN'.2.word
  have hown' : s'.vm.findClass own = some m.cls := by rw [hvm]; exact hown
  have hins : (Cond.instantiable cls 6).before args s' = true := h _ (by simp [Bundle.ownAtoms])
  obtain ⟨vm₁, cX, kX, hfX, hkX, -, -, X₁, st1⟩ := Y.newCold hexec (own := own) (C := cls) (index := ik) (n := 6) hown' hk' hins hini'
    (g := F0 m pc ls rest) rfl (by rw [hb]; exact d0) (Nat.le_refl _) (Nat.le_refl _)
  generalize hT1 : (T.setVm vm₁).pushCell { cls := cX, slots := kX.instanceTypes.map defaultValue, vm := .none } = T1 at X₁ st1
  have hcat : (Value.ref T.heap.size).category = 1 := rfl
  have hcellA : T1.heap[T.heap.size]? = some (freshCell cX kX) := by rw [← hT1]; exact State.heap_pushCell_size _ _
  have d3' : decode c.code (pc + 3) = .ok (.dup, 1) := by rw [hb]; exact d3
  have d4' : decode c.code (pc + 4) = .ok (.ldc_w is, 3) := by rw [hb]; exact d4
  have hstr' : vk_R own is text sa s' := vk_R.warm hW0 hstr
  obtain ⟨U, hsteps, hrun, hend, hW, hsame, ce, hce, hO⟩ := X₁.ctorThrowS hexec htr (own := own) (cls := cls) (names := names) (ic := ic) hown' hcls hnames h (fun x hx => nomatch hx) hfX hkX hcellA (by rw [hhp, hT]; exact Nat.le_refl _) (msg := .ref sa) rfl
    (g := { method := m, pc := pc + 7, locals := ls, stack := .ref sa :: .ref T.heap.size :: .ref T.heap.size :: rest, locked := none }) rfl hsize rfl rfl (rest := rest) rfl
    (by rw [hb]; exact d7) (by rw [hb]; exact d10) hout hRframes (by simp only [List.map_cons, List.sum_cons, hcat]; omega) hlocks
  obtain ⟨f1, f2⟩ := vx_frame hsame
  rw [hhp] at f1 f2
  have hWs : s.WarmedH U.vm := State.WarmedH.trans hW0 hW
  have hcl : s.vm.findClass cls = some ce.cls := by
    have h9 := hO.cls
    rw [hvm] at h9
    exact h9
  have hall : s.sameButNew ({ U with vm := s.vm } : State) locs mc ms := by
    subst hA
    obtain ⟨e1, e2⟩ := hsame
    rw [State.setFrames_setFrames] at e1
    have h2 : (T.setVm s.vm).sameButNew ({ U with vm := s.vm } : State) [] (0 + 1) (0 + 6) := ⟨e1, e2⟩
    have h3 := X.same.trans h2
    rw [List.append_nil] at h3
    exact h3.mono hc hs
  refine ⟨U, ?_, .threw T.heap.size, hrun, hend, Or.inr ⟨T.heap.size, rfl, cls, ce, locs, hx U hWs.alike f1 (fun q hq => f2 q hq (fun z hz => nomatch hz)), hce, hO.vm, hcl, hWs, hall, hf⟩⟩
  refine st1 _ ?_
  show Steps p.tables e below (T1.setTop { method := m, pc := pc + 3, locals := ls, stack := .ref T.heap.size :: rest, locked := none }) _
  jvm_step X₁.here [X₁.here.top, hexec, d3', Value.category]
  exact X₁.ldcStringW hexec (own := own) (text := text) (index := is) (a := sa) hown' hstr'.1 hstr'.2
    (g := { method := m, pc := pc + 4, locals := ls, stack := .ref T.heap.size :: .ref T.heap.size :: rest, locked := none }) rfl d4' _ hsteps
end Ends
section Bodies
variable {l : Launch}
theorem vx_ofW {y : MethodName} {ws ws' : List Cond} {rm : Room} {Pc : Array Value → State → Prop} {Qc : Array Value → State → Outcome → State → Prop} {XC : String → State → State → Prop} {mc ms : Nat} {free : Addr → Prop} {cc : ByteArray} {maxL : Nat} {ret : Option FieldType}
    (hy : plainName y.cls = true) (hw : ws = Cond.code y cc maxL ret :: ws')
    (body : ∀ p e s m args below meth c s₁, BodyLoose p l y (headSpec ws rm) cc maxL ret e s m args below meth c s₁ → c.maxLocals = maxL → (∀ x ∈ c.exceptionTable.toList, False) → Pc args s →
      W p l e (headSpec ws rm).room s m args below meth c s.heap [] 0 0 (vx_MQ below Qc XC args s mc ms free) (entryFrame m args maxL)) : vx_Met l y ws rm Pc Qc XC mc ms free := by
  refine MetFree.of_bodyS (code := cc) (maxLocals := maxL) (ret := ret) hy ?_ ?_
  · intro args s m h hn
    obtain ⟨meth, c, h1, h2, h3, h4, h5, h6, -, -⟩ := Cond.code_spec hn (atoms_spec (ws := ws) h _ (by rw [hw]; exact List.mem_cons_self))
    exact ⟨meth, c, h1, h2, h3, h4, h5, h6⟩
  · intro p e s m args below meth c s₁ B hml hP _
    have hh0 : s₁.heap = s.heap := by rw [B.state]; rfl
    have ht : ∀ x ∈ c.exceptionTable.toList, False := by
      obtain ⟨meth9, c9, h1, h2, -, -, -, -, h7, -⟩ := Cond.code_spec B.named (atoms_spec (ws := ws) B.pre _ (by rw [hw]; exact List.mem_cons_self))
      cases Option.some.inj (h1.symm.trans B.method)
      cases Option.some.inj (h2.symm.trans (Stand.of_body B).code)
      intro x hx
      rw [Array.isEmpty_iff.mp h7] at hx
      cases hx
    obtain ⟨t, a1, o, b1, b2, b3⟩ := body p e s m args below meth c s₁ B hml ht hP s₁ hh0 (Stand.of_body B)
    exact ⟨t, o, a1, b1, b2, b3⟩
/-- the table of a body with handlers -/
theorem vx_table {p : Program} {x y : MethodName} {S : Spec} {cc bytes : ByteArray} {maxL maxL' : Nat} {ret ret' : Option FieldType} {e : Env} {s s₁ : State} {m : MethodId} {args : Array Value} {below : List Frame} {meth : Method} {c : Code} {hh : List (Nat × Nat × Nat × Nat)}
    (B : BodyLoose p l y S cc maxL ret e s m args below meth c s₁) (h : (Cond.codeWith y bytes maxL' ret' hh).before args s = true) : c.exceptionTable.toList = tableOf hh := by
  obtain ⟨m9, meth9, c9, hn9, h1, h2, -, -, h6, -⟩ := Cond.codeWith_spec h
  cases Option.some.inj (hn9.symm.trans B.named)
  cases Option.some.inj (h1.symm.trans B.method)
  cases Option.some.inj (h2.symm.trans (Stand.of_body B).code)
  rw [← h6, table_eq]
end Bodies
end VXA
/-! ===== END ===== -/
/-! ===== BEGIN a static call of a method with an exception table ===== -/
section VXS
variable {p : Program} {l : Launch} {e : Env} {R : Room} {s : State} {m : MethodId} {args : Array Value} {below : List Frame} {meth : Method} {c : Code} {T : State} {H : Heap} {locs : List Loc} {cells slots : Nat}
abbrev vx_CSW (R : Room) (s : State) (args : Array Value) (own : String) (index : Nat) (y : MethodName) (bytes : ByteArray) (maxL : Nat) (ret : Option FieldType) (hh : List (Nat × Nat × Nat × Nat)) (ws : List Cond) (rm : Room) (mc ms n : Nat) : Prop :=
  (rm.cells = mc ∧ rm.slots = ms ∧ rm.frames + 1 ≤ R.frames ∧ 8 + (maxL + 11) + rm.locals ≤ R.locals ∧ (∀ w ∈ ws, ∀ (a' : Array Value) (U : State), s.WarmedH U.vm → w.before a' U = true) ∧ Cond.codeWith y bytes maxL ret hh ∈ ws) ∧
  (Cond.codeWith y bytes maxL ret hh).before args s = true ∧ (Cond.initialized y.cls).before args s = true ∧ (y.cls ≠ "java/lang/invoke/MethodHandle" ∧ y.cls ≠ "java/lang/invoke/VarHandle") ∧
  (∀ sig, parseMethodDescriptor y.desc = some sig → n = sig.parameters.length) ∧ (Cond.methodLink own index y).before args s = true ∧ (Cond.static y).before args s = true
theorem vx_cwSW {own : String} {index maxL mc ms : Nat} {y : MethodName} {bytes : ByteArray} {ret : Option FieldType} {hh : List (Nat × Nat × Nat × Nat)} {Ts ws ws' : List Cond} {rm : Room} (n : Nat) (ht : ∀ w ∈ Ts, w.before args s = true) (hT : GoodIn Ts (va_wsS own index y ws)) (hw : ws = Cond.codeWith y bytes maxL ret hh :: ws') (hrc : rm.cells = mc) (hrs : rm.slots = ms)
    (hd : y.cls ≠ "java/lang/invoke/MethodHandle" ∧ y.cls ≠ "java/lang/invoke/VarHandle" ∧ (parseMethodDescriptor y.desc).map (fun d => d.parameters.length) = some n) (hR : rm.frames + 1 ≤ R.frames ∧ 8 + (maxL + 11) + rm.locals ≤ R.locals) :
    vx_CSW R s args own index y bytes maxL ret hh ws rm mc ms n := by
  have ok : ∀ w ∈ va_wsS own index y ws, w.before args s = true := fun w h => ht w (hT w h).1
  have hG : GoodIn Ts ws := fun w h => hT w (by unfold va_wsS; exact List.mem_append_right _ h)
  have hc : Cond.codeWith y bytes maxL ret hh ∈ ws := by rw [hw]; exact List.mem_cons_self
  refine ⟨⟨hrc, hrs, hR.1, hR.2, pay_in ht hG, hc⟩, ht _ (hG _ hc).1, ok _ (by simp [va_wsS]), ⟨hd.1, hd.2.1⟩, fun sig h => ?_, ok _ (by simp [va_wsS]), ok _ (by simp [va_wsS])⟩
  have h2 := hd.2.2
  rw [h] at h2
  exact (Option.some.inj h2).symm
theorem vx_callSW (X : Stand p l e R s m args below meth c T locs cells slots) (hexec : p.tables.exec = Jvm.exec) {own : String} {index : Nat} {y : MethodName} {bytes : ByteArray} {maxL : Nat} {ret : Option FieldType} {hh : List (Nat × Nat × Nat × Nat)}
    (hown : s.vm.findClass own = some m.cls) (hlink : (Cond.methodLink own index y).before args s = true) (hstat : (Cond.static y).before args s = true) (hinit : (Cond.initialized y.cls).before args s = true)
    (hcode : (Cond.codeWith y bytes maxL ret hh).before args s = true) (hy : y.cls ≠ "java/lang/invoke/MethodHandle" ∧ y.cls ≠ "java/lang/invoke/VarHandle")
    {W9 : Nat} {Pre : Pt → Array Value → Prop} {Post : Pt → Array Value → Option Value → Pt → Prop} (hK : Back l R p e below s args y 3 W9 Pre Post)
    {g : JFrame} (hg : g.method = m) (hsize : g.locals.size = c.maxLocals) {argsL rest : List Value} (hlen : ∀ sig, parseMethodDescriptor y.desc = some sig → argsL.length = sig.parameters.length)
    (hstack : g.stack = argsL.reverse ++ rest) (hW : 2 * g.monitorRoom + (rest.map fun v => v.category).sum ≤ W9) (hdg : decode c.code g.pc = .ok (.invokestatic index, 3))
    (hpre : ∀ vm₁, s.WarmedH vm₁ → Pre ⟨T.setVm vm₁, locs, cells, slots⟩ argsL.toArray) :
    ∃ (v : Option Value) (vm₁ : Vm) (B : Pt), s.WarmedH vm₁ ∧ Stand p l e R s m args below meth c B.U B.locs B.cells B.slots ∧ Post ⟨T.setVm vm₁, locs, cells, slots⟩ argsL.toArray v B ∧
      ∀ target, Steps p.tables e below (B.U.setTop { g with pc := g.pc + 3, stack := v.toList ++ rest }) target → Steps p.tables e below (T.setTop g) target := by
  obtain ⟨mk, methM, cM, hnamed, hmethM, -, -, -, -, -, -, hsigM⟩ := Cond.codeWith_spec hcode
  have hstatic : methM.isStatic = true := Cond.static_spec hnamed hmethM hstat
  obtain ⟨kP, hkP, -⟩ := className_of_methodNamed hnamed
  have hinitP : kP.init = .initialized := Cond.initialized_spec (findClass_of_methodNamed hnamed) hkP hinit
  obtain ⟨vm₁, X₁, hstep₁⟩ := X.invokestatic hexec hown hlink hnamed hmethM hstatic hkP hinitP hy (g := g) hg (argsL := argsL) (rest := rest) (hlen _ hsigM) hstack hdg
  obtain ⟨v, B, X', hpost, hsteps⟩ := hK m meth c ⟨T.setVm vm₁, locs, cells, slots⟩ { g with stack := rest } (.invokestatic index) mk argsL.toArray X₁ hg hsize hdg hW (X₁.named hnamed) (hpre vm₁ X₁.warmed)
  exact ⟨v, vm₁, B, X₁.warmed, X', hpost, fun target h => hstep₁ _ fun acts => by rw [doInvoke_state]; exact hsteps.trans h⟩
theorem vx_runSW {y : MethodName} {bytes cc : ByteArray} {maxL nL mc ms n index : Nat} {ret : Option FieldType} {hh : List (Nat × Nat × Nat × Nat)} {ws : List Cond} {rm : Room} {Pc : Array Value → State → Prop} {Qc : Array Value → State → Outcome → State → Prop} {free : Addr → Prop} {Ts : List Cond} {own : String} {As rest : List Value} {g : JFrame}
    (S : CallFix p m c cc nL s args Ts own) (hM : Met l y ws rm Pc Qc mc ms free) (cw : vx_CSW R s args own index y bytes maxL ret hh ws rm mc ms n) (hp : PreS s H Pc As)
    (hg : g.method = m) (hn : As.length = n) (hsize : g.locals.size = nL) (hstack : g.stack = As.reverse ++ rest) (hW : 2 * g.monitorRoom + (rest.map fun v => v.category).sum ≤ 8) (hdg : decode cc g.pc = .ok (.invokestatic index, 3)) (hf : cells + mc ≤ R.cells ∧ slots + ms ≤ R.slots) :
    va_Run p l e R s m args below meth c H locs cells slots mc ms g rest (Qc As.toArray) (free) := by
  obtain ⟨⟨hrc, hrs, hfr, hlo, hws, hcw⟩, hcode, hini, hy, hlen, hl, hstt⟩ := cw
  have hK : Back l R p e below s args y 3 8 (PreOf R mc ms Pc) (PostOf Qc mc ms free) := va_backW (hh := hh) (bytes := bytes) (maxL := maxL) (ret := ret) hM hp.1 hrc hrs hfr hlo hws hcw (fun a' U hW => word_at hW (Or.inl (by first | rfl | simp [Cond.onTables, Cond.keeps, Cond.steady])) hini)
  obtain ⟨hx, hb, hml, ho, -⟩ := S
  intro T hT X
  obtain ⟨v, vm₁, ⟨U', l2, c2, s2⟩, hW₁, X', ⟨g', mk, t, L, e1, e2, hq, h1, hL, h2, h3⟩, st⟩ := vx_callSW X hx (hh := hh) (bytes := bytes) (maxL := maxL) (ret := ret) ho hl hstt hini hcode hy hK hg (hsize.trans hml.symm) (argsL := As) (rest := rest) (fun sig h => hn.trans (hlen sig h)) hstack hW (by rw [hb]; exact hdg)
    (fun vm₁ hW₁ => ⟨hf.1, hf.2, hp.2 (T.setVm vm₁) hT hW₁⟩)
  dsimp only [Pt.U, Pt.locs, Pt.cells, Pt.slots] at X' e1 e2 h1 h2 h3 st
  subst h1; subst h2; subst h3
  exact ⟨v, (T.setVm vm₁).calling g' mk As.toArray, t, U', L, hT, X', hL, e1, e2, hq, st⟩
/-- not caught here, past rows that name other classes: it goes on to the caller -/
theorem vx_outP {p : Program} {l : Launch} {e : Env} {R : Room} {s : State} {m : MethodId} {args : Array Value} {below : List Frame} {meth : Method} {c : Code} {H : Heap} {locs : List Loc} {cells slots : Nat} {free : Addr → Prop} {ls : Array Slot} {rest : List Value} {Qc : Array Value → State → Outcome → State → Prop} {XC : String → State → State → Prop}
    {pc : Nat} {own E : String} {ce : Cell} {q : Addr} {mc ms : Nat} (hown : s.vm.findClass own = some m.cls) (hlocks : meth.locks = false)
    (hpass : ∀ z ∈ c.exceptionTable.toList, covers z pc = false ∨ (z.catchType ≠ 0 ∧ ∃ nm : String, (Cond.classLink own z.catchType nm).before args s = true ∧ va_Nc E nm s)) (hcell : H[q]? = some ce) (hv : ce.vm = .none) (hcl : s.vm.findClass E = some ce.cls)
    (hx : ∀ t : State, t.heap = H → s.vm.Alike t.vm → XC E s t) (hf : ∀ z ∈ locs, free z.base) (hc : cells ≤ mc) (hs : slots ≤ ms) :
    vx_W p l e R s m args below meth c H locs cells slots (vx_MQ below Qc XC args s mc ms free) (F0 m pc ls rest) q := by
  intro T hT X
  have hpl : e.platform.magicAccessors = ({} : Platform).magicAccessors := by rw [X.admits.platform]
  obtain ⟨vm', hW', X', st⟩ := X.outThrough hlocks q (g := F0 m pc ls rest) rfl rfl rfl (cell := ce) (by rw [hT]; exact hcell) (by rw [hv]; rfl)
    (by obtain ⟨k9, h9, -⟩ := Vm.findClass_spec hcl; exact ⟨k9, h9⟩) (fun z hz => by
      rcases hpass z hz with h | ⟨hz0, nm, hl1, hn1⟩
      · exact Or.inl h
      · obtain ⟨c6, hc6, hcl6⟩ := Cond.classLink_spec hown hl1 e.platform hpl
        obtain ⟨a8, b8, h1, h2, h3⟩ := hn1
        cases Option.some.inj (h1.symm.trans hcl)
        cases Option.some.inj (h2.symm.trans hc6)
        exact Or.inr ⟨hz0, _, hcl6, h3⟩)
  obtain ⟨g₀, hfr⟩ := X'.frames_eq
  have hcell9 : ((T.setVm vm').setFrames (.throwing q :: below)).heap[q]? = some ce := by
    show T.heap[q]? = some ce
    rw [hT]; exact hcell
  have hend : Ended ((T.setVm vm').setFrames (.throwing q :: below)) below (.threw q) := State.frames_setFrames _ (State.cur_lt_of_frames hfr)
  refine ⟨(T.setVm vm').setFrames (.throwing q :: below), ?_, .threw q, X'.here.running, hend, Or.inr ⟨q, rfl, E, ce, locs, hx _ hT (X'.ends _).1.alike, hcell9, hv, hcl, (X'.ends _).1, (X'.ends _).2.mono hc hs, hf⟩⟩
  rw [X.pushThrowing_eq]
  exact st
/-- a thing of a world lies in the heap -/
theorem vx_lt {D : va_G} {cl : List vw_C} {ws : va_W} {H1 : Heap} (h : va_P D cl ws H1) {k : Nat} {q : Nat × va_E} (hk : ws[k]? = some q) : q.1 < H1.size := (h k q hk).lt
end VXS
/-! ===== END ===== -/
/-! ===== BEGIN methods with a table of their own: called by a name, returning or throwing ===== -/
section VXH
/-! vx_backW, vx_callVX, vx_callSX, vx_callVW, vx_runVW, vx_runVX, vx_runSX, vx_ofWH follow the same proofs as their sisters above (Free/Laws.lean, Shelf42/LK1.lean); vx_outP calls Shelf42/NT130.lean (outThrough). -/
section
variable {l : Launch} {R : Room} {p : Program} {e : Env} {below : List Frame} {s : State} {sargs : Array Value} {y : MethodName} {len W9 : Nat}
theorem vx_backW {ws : List Cond} {rm : Room} {Pc : Array Value → State → Prop} {Qc : Array Value → State → Outcome → State → Prop} {XC : String → State → State → Prop} {mc ms : Nat} {free : Addr → Prop} {bytes : ByteArray} {maxL : Nat} {ret : Option FieldType} {hh : List (Nat × Nat × Nat × Nat)}
    (hM : vx_Met l y ws rm Pc Qc XC mc ms free) (hblind : FrameBlind Pc) (hrc : rm.cells = mc) (hrs : rm.slots = ms)
    (hframes : rm.frames + 1 ≤ R.frames) (hlocals : W9 + (maxL + 11) + rm.locals ≤ R.locals)
    (hws : ∀ w ∈ ws, ∀ a' U, s.WarmedH U.vm → w.before a' U = true) (hcode : Cond.codeWith y bytes maxL ret hh ∈ ws) (hinit : ∀ a' U, s.WarmedH U.vm → (Cond.initialized y.cls).before a' U = true) :
    vx_Back l R p e below s sargs y len W9 (PreOf R mc ms Pc) (PostOf Qc mc ms free) (vx_Post XC mc ms free) := by
  intro m meth c A g ig mk a X hg hsize hdg hW hn hp
  have h1 : (headSpec ws rm).pre.before a A.U = true := atoms_intro fun w hw => hws w hw _ _ X.warmed
  have h2 : (Cond.codeWith y bytes maxL ret hh).before a A.U = true := hws _ hcode _ _ X.warmed
  have h3 : (Cond.initialized y.cls).before a A.U = true := hinit _ _ X.warmed
  have h4 : A.cells + (headSpec ws rm).room.cells ≤ R.cells := by rw [show (headSpec ws rm).room.cells = mc from hrc]; exact hp.1
  have h5 : A.slots + (headSpec ws rm).room.slots ≤ R.slots := by rw [show (headSpec ws rm).room.slots = ms from hrs]; exact hp.2.1
  have hPc : Pc a (A.U.calling g mk a) := hblind _ _ _ _ hp.2.2
  obtain ⟨U, Ls, c0, s0⟩ := A
  dsimp only [Pt.U, Pt.locs, Pt.cells, Pt.slots] at h1 h2 h3 h4 h5 X hn hPc ⊢
  obtain ⟨m9, methY, cY, hn9, hmY, hcY, -, hlY, -⟩ := Cond.codeWith_spec h2
  cases Option.some.inj (hn9.symm.trans hn)
  obtain ⟨kY, hkY, -⟩ := className_of_methodNamed hn
  have hinitY : kY.init = .initialized := Cond.initialized_spec (findClass_of_methodNamed hn) hkY h3
  have h : At U g.method c below := by rw [hg]; exact X.here
  have hlocals9 : W9 + (maxL + 11) + (headSpec ws rm).room.locals ≤ R.locals := hlocals
  have happ : (headSpec ws rm).appliesLoose y e.platform (U.calling g mk a) = true :=
    Spec.appliesLoose_calling (g := g) h hdg hn hkY hinitY
      (X.room_calling (g := g) (R' := (headSpec ws rm).room) hsize hmY hcY hframes (by rw [hlY]; omega) h4 h5) h1
  obtain ⟨mid, hmid⟩ := h.above
  have hfr : (U.setTop g).frames = (.java g :: mid) ++ below := by rw [State.frames_setTop' g h.top, hmid]; rfl
  obtain ⟨o, s₂, hsteps, -, hend, hq⟩ := Steps.callFree hM p X.admits X.cas X.clock (acts := []) hfr happ hPc trivial
  have hq' : vx_Q Qc XC mc ms free a (U.calling g mk a) o s₂ := hq
  rw [State.frames_setTop' g h.top] at hend
  obtain ⟨g₀, hg0⟩ := Option.isSome_iff_exists.mp h.top
  obtain ⟨r, hr⟩ := State.topJava?_eq_some.mp hg0
  have hr' : (({ U with heap := s₂.heap, slotsUsed := s₂.slotsUsed } : State).setVm s₂.vm).frames = .java g₀ :: r := hr
  rcases hq' with ⟨hqc, L, hfe, hL⟩ | ⟨q, rfl, E, ce, L, hx, hce, hcv, hcl, hW₂, hsm, hL⟩
  · obtain ⟨⟨v, rfl⟩, hW₂, e2, q2, q3, q4, q5, q6⟩ := id hfe
    have e3 : s₂ = ({ (U.calling g mk a).setFrames s₂.frames with heap := s₂.heap, slotsUsed := s₂.slotsUsed } : State).setVm s₂.vm := by
      have : s₂ = ({ s₂ with vm := (U.calling g mk a).vm } : State).setVm s₂.vm := rfl
      rw [e2] at this
      exact this
    obtain ⟨c₂, i₂, len₂, hc₂, hd₂, hf₂⟩ := hend
    have hW' : U.WarmedH s₂.vm := hW₂
    have hcc : c₂ = c := by
      have h1 : s₂.code? g.method = U.code? g.method := by
        rw [State.code?_eq, State.code?_eq, hW'.alike.method?]
      exact Option.some.inj (hc₂.symm.trans (h1.trans h.code))
    subst hcc
    have hlen : len₂ = len := by rw [hdg] at hd₂; cases hd₂; rfl
    subst hlen
    have hs₂ : s₂ = (({ U with heap := s₂.heap, slotsUsed := s₂.slotsUsed } : State).setVm s₂.vm).setTop { g with pc := g.pc + len₂, stack := v.toList ++ g.stack } := by
      refine e3.trans ?_
      rw [hf₂, State.calling_eq h.top, State.setFrames_setFrames, State.setTop_of_frames _ hr', hr]
      rfl
    have hsame : U.sameButNew ({ U with heap := s₂.heap, slotsUsed := s₂.slotsUsed } : State) L mc ms := by
      refine ⟨?_, q2, q3, q4, q5, q6⟩
      obtain ⟨t, ht, -⟩ := State.frames_cons hr
      show ({ U with heap := s₂.heap, slotsUsed := s₂.slotsUsed } : State) = { U.setFrames U.frames with heap := s₂.heap, slotsUsed := s₂.slotsUsed }
      rw [State.setFrames_self ht]
    subst hg
    refine Or.inl ⟨v, ⟨(({ U with heap := s₂.heap, slotsUsed := s₂.slotsUsed } : State).setVm s₂.vm), Ls ++ L, c0 + mc, s0 + ms⟩,
      ⟨X.admits, X.cas, X.clock, X.frames, X.room, X.hears, X.method, X.code, (X.here.setHeapUsed s₂.heap s₂.slotsUsed).setVm hW'.alike, X.tail, State.WarmedH.trans X.warmed hW', X.limits, X.bytes, X.same.trans (hsame.setVm s.vm)⟩,
      ⟨g, mk, s₂, L, rfl, rfl, hqc, rfl, hL, rfl, rfl⟩, ?_⟩
    show Steps p.tables e below _ ((({ U with heap := s₂.heap, slotsUsed := s₂.slotsUsed } : State).setVm s₂.vm).setTop { g with pc := g.pc + len₂, stack := v.toList ++ g.stack })
    rw [← hs₂]
    exact hsteps
  · obtain ⟨e2, q2, q3, q4, q5, q6⟩ := id hsm
    have e3 : s₂ = ({ (U.calling g mk a).setFrames s₂.frames with heap := s₂.heap, slotsUsed := s₂.slotsUsed } : State).setVm s₂.vm := by
      have : s₂ = ({ s₂ with vm := (U.calling g mk a).vm } : State).setVm s₂.vm := rfl
      rw [e2] at this
      exact this
    have hf₂ : s₂.frames = .throwing q :: .java g :: U.frames.tail := hend
    have hW' : U.WarmedH s₂.vm := hW₂
    have hs₂ : s₂ = ((({ U with heap := s₂.heap, slotsUsed := s₂.slotsUsed } : State).setVm s₂.vm).setTop g).pushFrame (.throwing q) := by
      refine e3.trans ?_
      rw [hf₂, State.calling_eq h.top, State.setFrames_setFrames, State.pushFrame, State.frames_setTop _ hr', State.setTop_of_frames _ hr', State.setFrames_setFrames, hr]
      rfl
    have hsame : U.sameButNew ({ U with heap := s₂.heap, slotsUsed := s₂.slotsUsed } : State) L mc ms := by
      refine ⟨?_, q2, q3, q4, q5, q6⟩
      obtain ⟨t, ht, -⟩ := State.frames_cons hr
      show ({ U with heap := s₂.heap, slotsUsed := s₂.slotsUsed } : State) = { U.setFrames U.frames with heap := s₂.heap, slotsUsed := s₂.slotsUsed }
      rw [State.setFrames_self ht]
    subst hg
    refine Or.inr ⟨q, ⟨(({ U with heap := s₂.heap, slotsUsed := s₂.slotsUsed } : State).setVm s₂.vm), Ls ++ L, c0 + mc, s0 + ms⟩,
      ⟨X.admits, X.cas, X.clock, X.frames, X.room, X.hears, X.method, X.code, (X.here.setHeapUsed s₂.heap s₂.slotsUsed).setVm hW'.alike, X.tail, State.WarmedH.trans X.warmed hW', X.limits, X.bytes, X.same.trans (hsame.setVm s.vm)⟩,
      ⟨g, mk, s₂, L, E, ce, rfl, rfl, hx, hce, hcv, hcl, rfl, hL, rfl, rfl⟩, ?_⟩
    show Steps p.tables e below _ (((({ U with heap := s₂.heap, slotsUsed := s₂.slotsUsed } : State).setVm s₂.vm).setTop g).pushFrame (.throwing q))
    rw [← hs₂]
    exact hsteps
end
variable {p : Program} {l : Launch} {e : Env} {R : Room} {s : State} {m : MethodId} {args : Array Value} {below : List Frame} {meth : Method} {c : Code} {T : State} {H : Heap} {locs : List Loc} {cells slots : Nat}
theorem vx_callVX (X : Stand p l e R s m args below meth c T locs cells slots) (hexec : p.tables.exec = Jvm.exec) {own C : String} {index : Nat} {y : MethodName} {bytes : ByteArray} {maxL : Nat} {ret : Option FieldType} {hh : List (Nat × Nat × Nat × Nat)}
    (hown : s.vm.findClass own = some m.cls) (hlink : (Cond.methodLink own index y).before args s = true) (hinst : (Cond.instanceMethod y).before args s = true) (hsel : (Cond.selects C y y).before args s = true)
    (hcode : (Cond.codeWith y bytes maxL ret hh).before args s = true) (hy : y.cls ≠ "java/lang/invoke/MethodHandle" ∧ y.cls ≠ "java/lang/invoke/VarHandle")
    {W9 : Nat} {Pre : Pt → Array Value → Prop} {Post : Pt → Array Value → Option Value → Pt → Prop} {PostX : Pt → Array Value → Addr → Pt → Prop} (hK : vx_Back l R p e below s args y 3 W9 Pre Post PostX)
    {b : Addr} {cellB : Cell} (hcell : T.heap[b]? = some cellB) (hobj : cellB.vm.isStatics = false) (hcls : s.vm.findClass C = some cellB.cls)
    {g : JFrame} (hg : g.method = m) (hsize : g.locals.size = c.maxLocals) {argsL rest : List Value} (hlen : ∀ sig, parseMethodDescriptor y.desc = some sig → argsL.length = sig.parameters.length)
    (hstack : g.stack = argsL.reverse ++ .ref b :: rest) (hW : 2 * g.monitorRoom + (rest.map fun v => v.category).sum ≤ W9) (hdg : decode c.code g.pc = .ok (.invokevirtual index, 3))
    (hpre : ∀ vm₁, s.WarmedH vm₁ → Pre ⟨T.setVm vm₁, locs, cells, slots⟩ (Value.ref b :: argsL).toArray) :
    (∃ (v : Option Value) (vm₁ : Vm) (B : Pt), s.WarmedH vm₁ ∧ Stand p l e R s m args below meth c B.U B.locs B.cells B.slots ∧ Post ⟨T.setVm vm₁, locs, cells, slots⟩ (Value.ref b :: argsL).toArray v B ∧
      ∀ target, Steps p.tables e below (B.U.setTop { g with pc := g.pc + 3, stack := v.toList ++ rest }) target → Steps p.tables e below (T.setTop g) target) ∨
    (∃ (q : Addr) (vm₁ : Vm) (B : Pt), s.WarmedH vm₁ ∧ Stand p l e R s m args below meth c B.U B.locs B.cells B.slots ∧ PostX ⟨T.setVm vm₁, locs, cells, slots⟩ (Value.ref b :: argsL).toArray q B ∧
      Steps p.tables e below (T.setTop g) ((B.U.setTop { g with stack := rest }).pushFrame (.throwing q))) := by
  obtain ⟨mk, methM, hnamed, hmethM, hstM, habM⟩ := Cond.instanceMethod_spec hinst
  obtain ⟨m8, methM', cM, hn8, hmethM', -, -, -, -, -, -, hsigM⟩ := Cond.codeWith_spec hcode
  cases Option.some.inj (hn8.symm.trans hnamed)
  cases hmethM.symm.trans hmethM'
  obtain ⟨c2, r2, m2, q1, q2, q3, q4, kP, hkP, hkPi⟩ := Cond.selects_spec hsel
  cases hcls.symm.trans q1
  cases (State.methodFound?_of_named hnamed hy).symm.trans q2
  cases hnamed.symm.trans q3
  have hselP : selectMethod e.platform s.vm cellB.cls mk = .method mk := by rw [Launch.admits_selectMethod X.admits]; exact q4
  obtain ⟨vm₁, X₁, hstep₁⟩ := X.invokevirtual hexec hown hlink hnamed hmethM hstM hkP hkPi hy (a := b) (cell := cellB) hcell
    (fun z h => by rw [h] at hobj; cases hobj) hselP hmethM habM hkP hkPi (g := g) hg (argsL := argsL) (rest := rest) (hlen _ hsigM) hstack hdg
  rcases hK m meth c ⟨T.setVm vm₁, locs, cells, slots⟩ { g with stack := rest } (.invokevirtual index) mk (Value.ref b :: argsL).toArray X₁ hg hsize hdg hW (X₁.named hnamed) (hpre vm₁ X₁.warmed) with ⟨v, B, X', hpost, hsteps⟩ | ⟨q, B, X', hpost, hsteps⟩
  · exact Or.inl ⟨v, vm₁, B, X₁.warmed, X', hpost, fun target h => hstep₁ _ fun acts => by rw [doInvoke_state]; exact hsteps.trans h⟩
  · exact Or.inr ⟨q, vm₁, B, X₁.warmed, X', hpost, hstep₁ _ fun acts => by rw [doInvoke_state]; exact hsteps⟩
theorem vx_callSX (X : Stand p l e R s m args below meth c T locs cells slots) (hexec : p.tables.exec = Jvm.exec) {own : String} {index : Nat} {y : MethodName} {bytes : ByteArray} {maxL : Nat} {ret : Option FieldType} {hh : List (Nat × Nat × Nat × Nat)}
    (hown : s.vm.findClass own = some m.cls) (hlink : (Cond.methodLink own index y).before args s = true) (hstat : (Cond.static y).before args s = true) (hinit : (Cond.initialized y.cls).before args s = true)
    (hcode : (Cond.codeWith y bytes maxL ret hh).before args s = true) (hy : y.cls ≠ "java/lang/invoke/MethodHandle" ∧ y.cls ≠ "java/lang/invoke/VarHandle")
    {W9 : Nat} {Pre : Pt → Array Value → Prop} {Post : Pt → Array Value → Option Value → Pt → Prop} {PostX : Pt → Array Value → Addr → Pt → Prop} (hK : vx_Back l R p e below s args y 3 W9 Pre Post PostX)
    {g : JFrame} (hg : g.method = m) (hsize : g.locals.size = c.maxLocals) {argsL rest : List Value} (hlen : ∀ sig, parseMethodDescriptor y.desc = some sig → argsL.length = sig.parameters.length)
    (hstack : g.stack = argsL.reverse ++ rest) (hW : 2 * g.monitorRoom + (rest.map fun v => v.category).sum ≤ W9) (hdg : decode c.code g.pc = .ok (.invokestatic index, 3))
    (hpre : ∀ vm₁, s.WarmedH vm₁ → Pre ⟨T.setVm vm₁, locs, cells, slots⟩ argsL.toArray) :
    (∃ (v : Option Value) (vm₁ : Vm) (B : Pt), s.WarmedH vm₁ ∧ Stand p l e R s m args below meth c B.U B.locs B.cells B.slots ∧ Post ⟨T.setVm vm₁, locs, cells, slots⟩ argsL.toArray v B ∧
      ∀ target, Steps p.tables e below (B.U.setTop { g with pc := g.pc + 3, stack := v.toList ++ rest }) target → Steps p.tables e below (T.setTop g) target) ∨
    (∃ (q : Addr) (vm₁ : Vm) (B : Pt), s.WarmedH vm₁ ∧ Stand p l e R s m args below meth c B.U B.locs B.cells B.slots ∧ PostX ⟨T.setVm vm₁, locs, cells, slots⟩ argsL.toArray q B ∧
      Steps p.tables e below (T.setTop g) ((B.U.setTop { g with stack := rest }).pushFrame (.throwing q))) := by
  obtain ⟨mk, methM, cM, hnamed, hmethM, -, -, -, -, -, -, hsigM⟩ := Cond.codeWith_spec hcode
  have hstatic : methM.isStatic = true := Cond.static_spec hnamed hmethM hstat
  obtain ⟨kP, hkP, -⟩ := className_of_methodNamed hnamed
  have hinitP : kP.init = .initialized := Cond.initialized_spec (findClass_of_methodNamed hnamed) hkP hinit
  obtain ⟨vm₁, X₁, hstep₁⟩ := X.invokestatic hexec hown hlink hnamed hmethM hstatic hkP hinitP hy (g := g) hg (argsL := argsL) (rest := rest) (hlen _ hsigM) hstack hdg
  rcases hK m meth c ⟨T.setVm vm₁, locs, cells, slots⟩ { g with stack := rest } (.invokestatic index) mk argsL.toArray X₁ hg hsize hdg hW (X₁.named hnamed) (hpre vm₁ X₁.warmed) with ⟨v, B, X', hpost, hsteps⟩ | ⟨q, B, X', hpost, hsteps⟩
  · exact Or.inl ⟨v, vm₁, B, X₁.warmed, X', hpost, fun target h => hstep₁ _ fun acts => by rw [doInvoke_state]; exact hsteps.trans h⟩
  · exact Or.inr ⟨q, vm₁, B, X₁.warmed, X', hpost, hstep₁ _ fun acts => by rw [doInvoke_state]; exact hsteps⟩
theorem vx_callVW (X : Stand p l e R s m args below meth c T locs cells slots) (hexec : p.tables.exec = Jvm.exec) {own C : String} {index : Nat} {y : MethodName} {bytes : ByteArray} {maxL : Nat} {ret : Option FieldType} {hh : List (Nat × Nat × Nat × Nat)}
    (hown : s.vm.findClass own = some m.cls) (hlink : (Cond.methodLink own index y).before args s = true) (hinst : (Cond.instanceMethod y).before args s = true) (hsel : (Cond.selects C y y).before args s = true)
    (hcode : (Cond.codeWith y bytes maxL ret hh).before args s = true) (hy : y.cls ≠ "java/lang/invoke/MethodHandle" ∧ y.cls ≠ "java/lang/invoke/VarHandle")
    {W9 : Nat} {Pre : Pt → Array Value → Prop} {Post : Pt → Array Value → Option Value → Pt → Prop} (hK : Back l R p e below s args y 3 W9 Pre Post)
    {b : Addr} {cellB : Cell} (hcell : T.heap[b]? = some cellB) (hobj : cellB.vm.isStatics = false) (hcls : s.vm.findClass C = some cellB.cls)
    {g : JFrame} (hg : g.method = m) (hsize : g.locals.size = c.maxLocals) {argsL rest : List Value} (hlen : ∀ sig, parseMethodDescriptor y.desc = some sig → argsL.length = sig.parameters.length)
    (hstack : g.stack = argsL.reverse ++ .ref b :: rest) (hW : 2 * g.monitorRoom + (rest.map fun v => v.category).sum ≤ W9) (hdg : decode c.code g.pc = .ok (.invokevirtual index, 3))
    (hpre : ∀ vm₁, s.WarmedH vm₁ → Pre ⟨T.setVm vm₁, locs, cells, slots⟩ (Value.ref b :: argsL).toArray) :
    ∃ (v : Option Value) (vm₁ : Vm) (B : Pt), s.WarmedH vm₁ ∧ Stand p l e R s m args below meth c B.U B.locs B.cells B.slots ∧ Post ⟨T.setVm vm₁, locs, cells, slots⟩ (Value.ref b :: argsL).toArray v B ∧
      ∀ target, Steps p.tables e below (B.U.setTop { g with pc := g.pc + 3, stack := v.toList ++ rest }) target → Steps p.tables e below (T.setTop g) target := by
  obtain ⟨mk, methM, hnamed, hmethM, hstM, habM⟩ := Cond.instanceMethod_spec hinst
  obtain ⟨m8, methM', cM, hn8, hmethM', -, -, -, -, -, -, hsigM⟩ := Cond.codeWith_spec hcode
  cases Option.some.inj (hn8.symm.trans hnamed)
  cases hmethM.symm.trans hmethM'
  obtain ⟨c2, r2, m2, q1, q2, q3, q4, kP, hkP, hkPi⟩ := Cond.selects_spec hsel
  cases hcls.symm.trans q1
  cases (State.methodFound?_of_named hnamed hy).symm.trans q2
  cases hnamed.symm.trans q3
  have hselP : selectMethod e.platform s.vm cellB.cls mk = .method mk := by rw [Launch.admits_selectMethod X.admits]; exact q4
  obtain ⟨vm₁, X₁, hstep₁⟩ := X.invokevirtual hexec hown hlink hnamed hmethM hstM hkP hkPi hy (a := b) (cell := cellB) hcell
    (fun z h => by rw [h] at hobj; cases hobj) hselP hmethM habM hkP hkPi (g := g) hg (argsL := argsL) (rest := rest) (hlen _ hsigM) hstack hdg
  obtain ⟨v, B, X', hpost, hsteps⟩ := hK m meth c ⟨T.setVm vm₁, locs, cells, slots⟩ { g with stack := rest } (.invokevirtual index) mk (Value.ref b :: argsL).toArray X₁ hg hsize hdg hW (X₁.named hnamed) (hpre vm₁ X₁.warmed)
  exact ⟨v, vm₁, B, X₁.warmed, X', hpost, fun target h => hstep₁ _ fun acts => by rw [doInvoke_state]; exact hsteps.trans h⟩
abbrev vx_CVW (R : Room) (s : State) (args : Array Value) (own C : String) (index : Nat) (y : MethodName) (bytes : ByteArray) (maxL : Nat) (ret : Option FieldType) (hh : List (Nat × Nat × Nat × Nat)) (ws : List Cond) (rm : Room) (mc ms n : Nat) : Prop :=
  (rm.cells = mc ∧ rm.slots = ms ∧ rm.frames + 1 ≤ R.frames ∧ 8 + (maxL + 11) + rm.locals ≤ R.locals ∧ (∀ w ∈ ws, ∀ (a' : Array Value) (U : State), s.WarmedH U.vm → w.before a' U = true) ∧ Cond.codeWith y bytes maxL ret hh ∈ ws) ∧
  (Cond.codeWith y bytes maxL ret hh).before args s = true ∧ (Cond.initialized y.cls).before args s = true ∧ (y.cls ≠ "java/lang/invoke/MethodHandle" ∧ y.cls ≠ "java/lang/invoke/VarHandle") ∧
  (∀ sig, parseMethodDescriptor y.desc = some sig → n = sig.parameters.length) ∧ (Cond.methodLink own index y).before args s = true ∧ (Cond.instanceMethod y).before args s = true ∧ (Cond.selects C y y).before args s = true
theorem vx_cwVW {own C : String} {index maxL mc ms : Nat} {y : MethodName} {bytes : ByteArray} {ret : Option FieldType} {hh : List (Nat × Nat × Nat × Nat)} {Ts ws ws' : List Cond} {rm : Room} (n : Nat) (ht : ∀ w ∈ Ts, w.before args s = true) (hT : GoodIn Ts (wsV own index C y ws)) (hw : ws = Cond.codeWith y bytes maxL ret hh :: ws') (hrc : rm.cells = mc) (hrs : rm.slots = ms)
    (hd : y.cls = C ∧ y.cls ≠ "java/lang/invoke/MethodHandle" ∧ y.cls ≠ "java/lang/invoke/VarHandle" ∧ (parseMethodDescriptor y.desc).map (fun d => d.parameters.length) = some n) (hR : rm.frames + 1 ≤ R.frames ∧ 8 + (maxL + 11) + rm.locals ≤ R.locals) :
    vx_CVW R s args own C index y bytes maxL ret hh ws rm mc ms n := by
  obtain ⟨hC, hd⟩ := hd
  subst hC
  have ok : ∀ w ∈ wsV own index y.cls y ws, w.before args s = true := fun w h => ht w (hT w h).1
  have hG : GoodIn Ts ws := fun w h => hT w (by unfold wsV; exact List.mem_append_right _ h)
  have hc : Cond.codeWith y bytes maxL ret hh ∈ ws := by rw [hw]; exact List.mem_cons_self
  refine ⟨⟨hrc, hrs, hR.1, hR.2, pay_in ht hG, hc⟩, ht _ (hG _ hc).1, ok _ (by simp [wsV]), ⟨hd.1, hd.2.1⟩, fun sig h => ?_, ok _ (by simp [wsV]), ok _ (by simp [wsV]), ok _ (by simp [wsV])⟩
  have h2 := hd.2.2
  rw [h] at h2
  exact (Option.some.inj h2).symm
theorem vx_runVW {y : MethodName} {bytes cc : ByteArray} {maxL nL mc ms n index : Nat} {ret : Option FieldType} {hh : List (Nat × Nat × Nat × Nat)} {ws : List Cond} {rm : Room} {Pc : Array Value → State → Prop} {Qc : Array Value → State → Outcome → State → Prop} {free : Addr → Prop} {Ts : List Cond} {own C : String} {b : Addr} {As rest : List Value} {g : JFrame}
    (S : CallFix p m c cc nL s args Ts own) (hM : Met l y ws rm Pc Qc mc ms free) (cw : vx_CVW R s args own C index y bytes maxL ret hh ws rm mc ms n) (hp : PreV s H C b Pc As)
    (hg : g.method = m) (hn : As.length = n) (hsize : g.locals.size = nL) (hstack : g.stack = As.reverse ++ .ref b :: rest) (hW : 2 * g.monitorRoom + (rest.map fun v => v.category).sum ≤ 8) (hdg : decode cc g.pc = .ok (.invokevirtual index, 3)) (hf : cells + mc ≤ R.cells ∧ slots + ms ≤ R.slots) :
    va_Run p l e R s m args below meth c H locs cells slots mc ms g rest (Qc (Value.ref b :: As).toArray) free := by
  obtain ⟨⟨hrc, hrs, hfr, hlo, hws, hcw⟩, hcode, hini, hy, hlen, hl, hin, hse⟩ := cw
  have hK : Back l R p e below s args y 3 8 (PreOf R mc ms Pc) (PostOf Qc mc ms free) := va_backW (hh := hh) (bytes := bytes) (maxL := maxL) (ret := ret) hM hp.1 hrc hrs hfr hlo hws hcw (fun a' U hW => word_at hW (Or.inl (by first | rfl | simp [Cond.onTables, Cond.keeps, Cond.steady])) hini)
  obtain ⟨hx, hb, hml, ho, -⟩ := S
  obtain ⟨-, ⟨cellB, hcB, hoB, hclB⟩, hPc⟩ := hp
  intro T hT X
  obtain ⟨v, vm₁, ⟨U', l2, c2, s2⟩, hW₁, X', ⟨g', mk, t, L, e1, e2, hq, h1, hL, h2, h3⟩, st⟩ := vx_callVW X hx (C := C) (hh := hh) (bytes := bytes) (maxL := maxL) (ret := ret) ho hl hin hse hcode hy hK (by rw [hT]; exact hcB) hoB hclB hg (hsize.trans hml.symm) (argsL := As) (rest := rest) (fun sig h => hn.trans (hlen sig h)) hstack hW (by rw [hb]; exact hdg)
    (fun vm₁ hW₁ => ⟨hf.1, hf.2, hPc (T.setVm vm₁) hT hW₁⟩)
  dsimp only [Pt.U, Pt.locs, Pt.cells, Pt.slots] at X' e1 e2 h1 h2 h3 st
  subst h1; subst h2; subst h3
  exact ⟨v, (T.setVm vm₁).calling g' mk (Value.ref b :: As).toArray, t, U', L, hT, X', hL, e1, e2, hq, st⟩
section
variable {y : MethodName} {bytes cc : ByteArray} {maxL nL mc ms n index : Nat} {ret : Option FieldType} {ws : List Cond} {rm : Room} {Pc : Array Value → State → Prop} {Qc : Array Value → State → Outcome → State → Prop} {XC : String → State → State → Prop} {free : Addr → Prop} {Ts : List Cond} {own C : String} {b : Addr} {As rest : List Value} {g : JFrame}
theorem vx_runVX {hh : List (Nat × Nat × Nat × Nat)} (S : CallFix p m c cc nL s args Ts own) (hM : vx_Met l y ws rm Pc Qc XC mc ms free) (cw : vx_CVW R s args own C index y bytes maxL ret hh ws rm mc ms n) (hp : PreV s H C b Pc As)
    (hg : g.method = m) (hn : As.length = n) (hsize : g.locals.size = nL) (hstack : g.stack = As.reverse ++ .ref b :: rest) (hW : 2 * g.monitorRoom + (rest.map fun v => v.category).sum ≤ 8) (hdg : decode cc g.pc = .ok (.invokevirtual index, 3)) (hf : cells + mc ≤ R.cells ∧ slots + ms ≤ R.slots) :
    vx_Run p l e R s m args below meth c H locs cells slots mc ms g rest (Qc (Value.ref b :: As).toArray) XC free := by
  obtain ⟨⟨hrc, hrs, hfr, hlo, hws, hcw⟩, hcode, hini, hy, hlen, hl, hin, hse⟩ := cw
  have hK : vx_Back l R p e below s args y 3 8 (PreOf R mc ms Pc) (PostOf Qc mc ms free) (vx_Post XC mc ms free) := vx_backW (hh := hh) (bytes := bytes) (maxL := maxL) (ret := ret) hM hp.1 hrc hrs hfr hlo hws hcw (fun a' U hW => word_at hW (Or.inl (by first | rfl | simp [Cond.onTables, Cond.keeps, Cond.steady])) hini)
  obtain ⟨hx, hb, hml, ho, -⟩ := S
  obtain ⟨-, ⟨cellB, hcB, hoB, hclB⟩, hPc⟩ := hp
  intro T hT X
  rcases vx_callVX X hx (C := C) (hh := hh) (bytes := bytes) (maxL := maxL) (ret := ret) ho hl hin hse hcode hy hK (by rw [hT]; exact hcB) hoB hclB hg (hsize.trans hml.symm) (argsL := As) (rest := rest) (fun sig h => hn.trans (hlen sig h)) hstack hW (by rw [hb]; exact hdg)
    (fun vm₁ hW₁ => ⟨hf.1, hf.2, hPc (T.setVm vm₁) hT hW₁⟩) with ⟨v, vm₁, ⟨U', l2, c2, s2⟩, hW₁, X', ⟨g', mk, t, L, e1, e2, hq, h1, hL, h2, h3⟩, st⟩ | ⟨q, vm₁, ⟨U', l2, c2, s2⟩, hW₁, X', ⟨g', mk, t, L, E, ce, e1, e2, hq, hce, hcv, hcl, h1, hL, h2, h3⟩, st⟩
  · dsimp only [Pt.U, Pt.locs, Pt.cells, Pt.slots] at X' e1 e2 h1 h2 h3 st
    subst h1; subst h2; subst h3
    exact Or.inl ⟨v, (T.setVm vm₁).calling g' mk (Value.ref b :: As).toArray, t, U', L, hT, X', hL, e1, e2, hq, st⟩
  · dsimp only [Pt.U, Pt.locs, Pt.cells, Pt.slots] at X' e1 e2 h1 h2 h3 st hcl
    subst h1; subst h2; subst h3
    exact Or.inr ⟨q, (T.setVm vm₁).calling g' mk (Value.ref b :: As).toArray, t, U', L, E, ce, hT, X', hL, e1, e2, hq, hce, hcv, vx_cls hW₁ hcl, st⟩
theorem vx_runSX {hh : List (Nat × Nat × Nat × Nat)} (S : CallFix p m c cc nL s args Ts own) (hM : vx_Met l y ws rm Pc Qc XC mc ms free) (cw : vx_CSW R s args own index y bytes maxL ret hh ws rm mc ms n) (hp : PreS s H Pc As)
    (hg : g.method = m) (hn : As.length = n) (hsize : g.locals.size = nL) (hstack : g.stack = As.reverse ++ rest) (hW : 2 * g.monitorRoom + (rest.map fun v => v.category).sum ≤ 8) (hdg : decode cc g.pc = .ok (.invokestatic index, 3)) (hf : cells + mc ≤ R.cells ∧ slots + ms ≤ R.slots) :
    vx_Run p l e R s m args below meth c H locs cells slots mc ms g rest (Qc As.toArray) XC free := by
  obtain ⟨⟨hrc, hrs, hfr, hlo, hws, hcw⟩, hcode, hini, hy, hlen, hl, hstt⟩ := cw
  have hK : vx_Back l R p e below s args y 3 8 (PreOf R mc ms Pc) (PostOf Qc mc ms free) (vx_Post XC mc ms free) := vx_backW (hh := hh) (bytes := bytes) (maxL := maxL) (ret := ret) hM hp.1 hrc hrs hfr hlo hws hcw (fun a' U hW => word_at hW (Or.inl (by first | rfl | simp [Cond.onTables, Cond.keeps, Cond.steady])) hini)
  obtain ⟨hx, hb, hml, ho, -⟩ := S
  intro T hT X
  rcases vx_callSX X hx (hh := hh) (bytes := bytes) (maxL := maxL) (ret := ret) ho hl hstt hini hcode hy hK hg (hsize.trans hml.symm) (argsL := As) (rest := rest) (fun sig h => hn.trans (hlen sig h)) hstack hW (by rw [hb]; exact hdg)
    (fun vm₁ hW₁ => ⟨hf.1, hf.2, hp.2 (T.setVm vm₁) hT hW₁⟩) with ⟨v, vm₁, ⟨U', l2, c2, s2⟩, hW₁, X', ⟨g', mk, t, L, e1, e2, hq, h1, hL, h2, h3⟩, st⟩ | ⟨q, vm₁, ⟨U', l2, c2, s2⟩, hW₁, X', ⟨g', mk, t, L, E, ce, e1, e2, hq, hce, hcv, hcl, h1, hL, h2, h3⟩, st⟩
  · dsimp only [Pt.U, Pt.locs, Pt.cells, Pt.slots] at X' e1 e2 h1 h2 h3 st
    subst h1; subst h2; subst h3
    exact Or.inl ⟨v, (T.setVm vm₁).calling g' mk As.toArray, t, U', L, hT, X', hL, e1, e2, hq, st⟩
  · dsimp only [Pt.U, Pt.locs, Pt.cells, Pt.slots] at X' e1 e2 h1 h2 h3 st hcl
    subst h1; subst h2; subst h3
    exact Or.inr ⟨q, (T.setVm vm₁).calling g' mk As.toArray, t, U', L, E, ce, hT, X', hL, e1, e2, hq, hce, hcv, vx_cls hW₁ hcl, st⟩
end
end VXH
theorem vx_ofWH {l : Launch} {y : MethodName} {ws ws' : List Cond} {rm : Room} {Pc : Array Value → State → Prop} {Qc : Array Value → State → Outcome → State → Prop} {XC : String → State → State → Prop} {mc ms : Nat} {free : Addr → Prop} {cc : ByteArray} {maxL : Nat} {ret : Option FieldType} {hh : List (Nat × Nat × Nat × Nat)}
    (hy : plainName y.cls = true) (hw : ws = Cond.codeWith y cc maxL ret hh :: ws')
    (body : ∀ p e s m args below meth c s₁, BodyLoose p l y (headSpec ws rm) cc maxL ret e s m args below meth c s₁ → c.maxLocals = maxL → Pc args s →
      W p l e (headSpec ws rm).room s m args below meth c s.heap [] 0 0 (vx_MQ below Qc XC args s mc ms free) (entryFrame m args maxL)) : vx_Met l y ws rm Pc Qc XC mc ms free := by
  refine MetFree.of_bodyS (code := cc) (maxLocals := maxL) (ret := ret) hy ?_ ?_
  · intro args s m h hn
    obtain ⟨m9, meth, c, hn9, h1, h2, h3, h4, -, h5, h6, -⟩ := Cond.codeWith_spec (atoms_spec (ws := ws) h _ (by rw [hw]; exact List.mem_cons_self))
    cases hn.symm.trans hn9
    exact ⟨meth, c, h1, h2, h3, h4, h5, h6⟩
  · intro p e s m args below meth c s₁ B hml hP _
    have hh0 : s₁.heap = s.heap := by rw [B.state]; rfl
    obtain ⟨t, a1, o, b1, b2, b3⟩ := body p e s m args below meth c s₁ B hml hP s₁ hh0 (Stand.of_body B)
    exact ⟨t, o, a1, b1, b2, b3⟩
/-! ===== END ===== -/

/-! ===== BEGIN what the machine throws by itself, no traces kept ===== -/
section VXM
set_option maxHeartbeats 1000000 in
/-- the machine throws cls with the message text, no traces kept: from its note over the frame g to 'throwing' over the same frame (follows the proofs of Stand.vmThrowsMessage, Shelf/KitTracedVmS.lean, and Stand.throwsMessageColdBareV, StandMessageColdV.lean, without the step out of the frame) -/
theorem vx_vmAt {p : Program} {l : Launch} {e : Env} {R : Room} {s : State} {m₀ : MethodId} {args : Array Value} {below : List Frame} {meth : Method} {c : Code} {W : State} {locs : List Loc} {cells slots : Nat}
    (X : Stand p l e R s m₀ args below meth c W locs cells slots) (hexec : p.tables.exec = Jvm.exec) (htr : e.platform.stackTraces = false) {cls : String} {names : List String} {text : String}
    (hcls : Bundle.fit cls = true) (hnames : ∀ n ∈ names, Bundle.fit n = true) (hsoe : (cls == "java/lang/StackOverflowError") = false) (hoom : (cls == "java/lang/OutOfMemoryError") = false)
    (h : ∀ a ∈ Bundle.messageArmAtoms cls names, a.before args s = true)
    (hlocs : ∀ x ∈ locs, ∀ cell, s.heap[x.base]? = some cell → cell.vm.isStatics = false)
    (htext : (text == notModelled) = false) (hlimit : ¬ (stringBytes (stringToUtf16 text)).size > e.platform.arrayLengthLimit) (hheap : ¬ (stringBytes (stringToUtf16 text)).size * componentBytes .byte > e.platform.maxHeapBytes)
    {g : JFrame} (hg : g.method = m₀) (hsize : g.locals.size = c.maxLocals)
    (hRframes : names.length + 4 < R.frames) (hRlocals : 2 * g.monitorRoom + (g.stack.map fun v => v.category).sum + 10240 ≤ R.locals) (hshort : 13 * names.length + 55 ≤ 10240)
    (hRcells : cells + 3 ≤ R.cells) (hRslots : slots + ((stringBytes (stringToUtf16 text)).size + 4 + 6) ≤ R.slots) (hlocks : meth.locks = false) :
    ∃ (S : State) (q : Addr) (ce : Cell), (∀ target, Steps p.tables e below ((S.setTop g).pushFrame (.throwing q)) target → Steps p.tables e below ((W.setTop g).pushFrame (.throwNew cls (some text) none)) target) ∧
      Stand p l e R s m₀ args below meth c S locs (cells + 3) (slots + ((stringBytes (stringToUtf16 text)).size + 4 + 6)) ∧ S.heap[q]? = some ce ∧ s.vm.findClass cls = some ce.cls ∧ ce.vm = .none := by
  have howns : e.platform.frameOwnsMonitors = true := by rw [X.admits.platform]
  have hfin : e.platform.finalization = false := by rw [X.admits.platform]
  have hpl : e.platform.magicAccessors = ({} : Platform).magicAccessors := by rw [X.admits.platform]
  have a : ∀ x, x ∈ Bundle.messageArmAtoms cls names → x.holds args s none s [] = true := fun x hx => h x hx
  obtain ⟨T, Z0, L, -, Y⟩ := ThrowableC.of_atoms (args := args) howns hfin hpl (fun x hx => h x (by simp [Bundle.messageArmAtoms, hx]))
  obtain ⟨Z, M, LZ, LM, hnZ⟩ := Init0T.ofS_atoms (args := args) hpl L Y (fun x hx => h x (by simp [Bundle.messageArmAtoms, hx]))
  obtain ⟨P1, Ps, hlen, L1, hL, hP1m, hlink1, hlink⟩ := Bundle.chainS (args := args) hpl hnZ names cls hcls hnames (fun x hx => h x (by simp [Bundle.messageArmAtoms, hx]))
  obtain ⟨Zs, LZs, hn4, hfitv, hfitc⟩ := StringT.of_atoms (args := args) (fun x hx => h x (by simp [Bundle.messageArmAtoms, hx]))
  have hfound : s.vm.findClass cls = some P1.m.cls := findClass_of_methodNamed hP1m
  obtain ⟨c1, kX, hc1, hk, hord, -, -, hn6⟩ := Cond.instantiable_spec (a (.instantiable cls 6) (by simp [Bundle.messageArmAtoms]))
  cases Option.some.inj (hc1.symm.trans hfound)
  have hinit := Cond.initialized_spec hfound hk (a (.initialized cls) (by simp [Bundle.messageArmAtoms]))
  have hctor : kX.findMethod "<init>" "(Ljava/lang/String;)V" = some P1.m.idx := findMethod_of_methodNamed hP1m hk
  have hsel0 : selectMethod e.platform s.vm P1.m.cls T.fill0 = .method T.fill0 := by
    obtain ⟨c2, r2, m2, q1, q2, q3, q4, -⟩ := Cond.selects_spec (a (.selects cls Bundle.tFill0 Bundle.tFill0) (by simp [Bundle.messageArmAtoms]))
    cases Option.some.inj (q1.symm.trans hfound)
    cases Option.some.inj (q2.symm.trans (State.methodFound?_of_named Y.fill0 (by decide)))
    cases Option.some.inj (q3.symm.trans Y.fill0)
    rw [Launch.admits_selectMethod X.admits]; exact q4
  have hselF : selectMethod e.platform s.vm P1.m.cls T.fill = .method T.fill := by
    obtain ⟨c2, r2, m2, q1, q2, q3, q4, -⟩ := Cond.selects_spec (a (.selects cls Bundle.tFill Bundle.tFill) (by simp [Bundle.messageArmAtoms]))
    cases Option.some.inj (q1.symm.trans hfound)
    cases Option.some.inj (q2.symm.trans (State.methodFound?_of_named Y.fill (by decide)))
    cases Option.some.inj (q3.symm.trans Y.fill)
    rw [Launch.admits_selectMethod X.admits]; exact q4
  obtain ⟨cellS0, hcS0, hiss⟩ := Y.statics
  obtain ⟨u0, hu0⟩ := Cond.staticRefV Y.unassigned L.unassignedStatic L.statics hcS0 hiss (a (.isRef (.static Bundle.tN "UNASSIGNED_STACK" Bundle.steD)) (by simp [Bundle.messageArmAtoms]))
  obtain ⟨sen, hsen⟩ := Cond.staticRefV Y.sentinel L.sentinelStatic L.statics hcS0 hiss (a (.isRef (.static Bundle.tN "SUPPRESSED_SENTINEL" Bundle.listD)) (by simp [Bundle.messageArmAtoms]))
  obtain ⟨ci198, i198, fB, hk198, hg198, ha198, hsB, -, hnB, htB, hffB⟩ := Cond.ownField (t := .object "java/lang/Object") Y.found L.cls (by decide +kernel) (a (.fieldLink Bundle.tN 198 Bundle.tN "backtrace" "Ljava/lang/Object;") (by simp [Bundle.messageArmAtoms])) (a (.lays Bundle.tN Bundle.tN "backtrace" "Ljava/lang/Object;") (by simp [Bundle.messageArmAtoms])) e.platform hpl
  obtain ⟨cellS, hcS', heS, -, hkeep⟩ := X.same.2.2.2.2.2 T.aS cellS0 hcS0
  have hcellS : W.heap[T.aS]? = some cellS := hcS'
  have hout' : ∀ i, (⟨T.aS, i⟩ : Loc) ∉ locs := fun i hmem => by
    have := hlocs _ hmem cellS0 hcS0
    rw [hiss] at this; cases this
  have hknownS : cellS.vm ≠ .unknown := by
    rw [heS]; intro hu
    rw [show cellS0.vm = .unknown from hu] at hiss
    cases hiss
  have hvU : cellS.slots[T.fUnassigned.slot]? = some u0.v := by rw [hkeep _ (hout' _)]; exact hu0
  have hvSen : cellS.slots[T.fSentinel.slot]? = some sen.v := by rw [hkeep _ (hout' _)]; exact hsen
  obtain ⟨iM, hffM⟩ := Y.msg
  obtain ⟨tyC, dC, hdC, hdnC⟩ := Cond.laysAt hfound hk Y.cause (a (.lays cls Bundle.tN "cause" "Ljava/lang/Throwable;") (by simp [Bundle.messageArmAtoms]))
  obtain ⟨tyS, dS, hdS, hdnS⟩ := Cond.laysAt hfound hk Y.stack (a (.lays cls Bundle.tN "stackTrace" Bundle.steD) (by simp [Bundle.messageArmAtoms]))
  obtain ⟨tyP, dP, hdP, hdnP⟩ := Cond.laysAt hfound hk Y.supp (a (.lays cls Bundle.tN "suppressedExceptions" Bundle.listD) (by simp [Bundle.messageArmAtoms]))
  obtain ⟨tyM, dM, hdM, hdnM⟩ := Cond.laysAt hfound hk hffM (a (.lays cls Bundle.tN "detailMessage" "Ljava/lang/String;") (by simp [Bundle.messageArmAtoms]))
  obtain ⟨tyB, dB, hdB, hdnB⟩ := Cond.laysAt hfound hk hffB (a (.lays cls Bundle.tN "backtrace" "Ljava/lang/Object;") (by simp [Bundle.messageArmAtoms]))
  have bC := Cond.laysApart hdB hdC hdnB hdnC (by rw [hnB, Y.causeName]; decide)
  have bS := Cond.laysApart hdB hdS hdnB hdnS (by rw [hnB, Y.stackName]; decide)
  have bP := Cond.laysApart hdB hdP hdnB hdnP (by rw [hnB, Y.suppName]; decide)
  have hbk : ((preparedCellV T.toThrowableT (freshCell P1.m.cls kX) (W.heap.size + 2) u0 sen).withEntry W.cur).slots[fB.slot]? = some .null := by
    have := fresh_default (c := P1.m.cls) tyB
    rw [htB] at this
    simpa [preparedCellV, Cell.setSlot, Cell.withEntry, Array.getElem?_setIfInBounds, bC, bS, bP, bC.symm, bS.symm, bP.symm, defaultValue] using this
  have tkC := Takes.of_laid (v := .ref (W.heap.size + 2)) hk hord tyC (by rw [Y.causeType]; rfl)
  have tkS := Takes.of_laid (v := u0.v) hk hord tyS (by rw [Y.stackType]; exact fits_refV_array _ u0)
  have tkP := Takes.of_laid (v := sen.v) hk hord tyP (by rw [Y.suppType]; exact fits_refV_object _ sen)
  have tkM := Takes.of_laid (v := .ref (W.heap.size + 1)) hk hord tyM (by rw [Y.msgType]; rfl)
  have hskip : SkipFacts T e.platform s (fun u => u) u0 ((preparedCellV T.toThrowableT (freshCell P1.m.cls kX) (W.heap.size + 2) u0 sen).withEntry W.cur) := ⟨{ ci198 := ci198, i198 := i198, fBack := fB }, ⟨hk198, hg198, ha198, hsB⟩, hbk, fun _ _ => rfl⟩
  have h0 : At W g.method c below := by rw [hg]; exact X.here
  obtain ⟨hbeyond, hfreeW⟩ := X.vmMayThrow hsize (.throwNew cls (some text) none) (fun f hf => by cases hf) rfl hRlocals
  have hfr' : W.frames.length + Ps.length + 4 < (e.platform.stackLimits W.me).1 := by have := X.framesAbove hRframes; omega
  have hwd' : (stackUse (.java g :: W.frames.tail)).2 + 13 * Ps.length + 55 ≤ (e.platform.stackLimits W.me).2 := by have := X.stackAbove hsize (K := 13 * Ps.length + 55) (by omega); omega
  have hslots : W.slotsUsed + (stringBytes (stringToUtf16 text)).size + Zs.kS.instanceTypes.size + kX.instanceTypes.size ≤ e.platform.maxSlots := by
    have := X.slotsAbove hRslots
    rw [hn4, hn6]
    omega
  obtain ⟨vm', hW', st⟩ := Steps.vmThrowsMessageColdByV p (s₀ := s) (S := W) (g := g) h0 hexec T L Z LZ M LM X.warmed (t := W.cur) rfl Zs LZs P1 L1 Ps hL hlink1 hlink hsoe hoom hfound hk hinit hord hctor
    (Launch.admits_hotImplicitExceptions X.admits) hbeyond hfreeW htext hlimit hheap (X.cellsAbove hRcells) hslots (hfitv _) (hfitc _)
    (Nn := fun u => u) heapOnly_id (fun _ _ => rfl) (fun _ => rfl) (fun u x y => setCell_twice _ _ _ _) (fun _ => Nat.le_refl _) (cN := ((preparedCellV T.toThrowableT (freshCell P1.m.cls kX) (W.heap.size + 2) u0 sen).withEntry W.cur))
    hsel0 hcellS hknownS hvU tkS (fun _ hu => hu) (fun _ hu => hu) rfl rfl rfl (by simp [preparedCellV, Cell.setSlot, Cell.withEntry]) hskip (fun _ _ hA hW _ hroom _ hrest => L.nativeOff p htr hA hW hroom hrest) hselF hvSen tkC tkP tkM Y.objLocals rfl hfr' hwd'
  rw [plainBareV_eq T.toThrowableT (W.heap.size + 2) u0 sen (.ref (W.heap.size + 1)) W.cur rfl rfl] at st
  obtain ⟨-, -, w3, w4, -, -, -⟩ := withThrown_facts e.platform W Zs text P1.m.cls kX
  have X3 := ((X.pushed (bytesOf Zs.cB (stringToUtf16 text))).pushed (stringAt Zs.cS Zs.kS Zs.fv Zs.fc (stringToUtf16 text) W.heap.size)).pushed (freshCell P1.m.cls kX)
  rw [← withString_eq] at X3
  have X4 := X3.noted hW'
  have ha : (W.heap.size + 2) < ((withThrown W Zs text P1.m.cls kX).setVm vm').heap.size := by show _ < (withThrown W Zs text P1.m.cls kX).heap.size; rw [w3]; omega
  have hcell : ((withThrown W Zs text P1.m.cls kX).setVm vm').heap[(W.heap.size + 2)]? = some (freshCell P1.m.cls kX) := w4
  have X5 := ((((X4.stored hcell T.fCause.slot (.ref (W.heap.size + 2))).storedAgain ha T.fStack.slot u0.v).storedAgain ha T.fSupp.slot sen.v).storedAgain ha T.fStack.slot u0.v).storedAgain ha T.fMsg.slot (.ref (W.heap.size + 1))
  obtain ⟨g₁, hfrM⟩ := X5.frames_eq
  have hU : ((((withThrown W Zs text P1.m.cls kX).setVm vm').setCell (W.heap.size + 2) (plainBareV T.toThrowableT (freshCell P1.m.cls kX) (W.heap.size + 2) u0 sen (.ref (W.heap.size + 1)))).setTop g).pushFrame (.throwing (W.heap.size + 2)) = (((withThrown W Zs text P1.m.cls kX).setVm vm').setCell (W.heap.size + 2) (plainBareV T.toThrowableT (freshCell P1.m.cls kX) (W.heap.size + 2) u0 sen (.ref (W.heap.size + 1)))).setFrames (.throwing (W.heap.size + 2) :: .java g :: below) := by
    rw [State.pushFrame, State.frames_setTop _ hfrM, State.setTop_of_frames _ hfrM, State.setFrames_setFrames]
  have b1 : (bytesOf Zs.cB (stringToUtf16 text)).slots.size = (stringBytes (stringToUtf16 text)).size := by
    rw [(Cell.writeAll_facts _ _).2.2]; simp [bytes0]
  have b2 : (stringAt Zs.cS Zs.kS Zs.fv Zs.fc (stringToUtf16 text) W.heap.size).slots.size = 4 := by simp [string0, Cell.setSlot, hn4]
  have b3 : (freshCell P1.m.cls kX).slots.size = 6 := by simp [hn6]
  rw [b1, b2, b3] at X5
  have e9 : slots + (stringBytes (stringToUtf16 text)).size + 4 + 6 = slots + ((stringBytes (stringToUtf16 text)).size + 4 + 6) := by omega
  rw [e9] at X5
  simp only [List.append_assoc, List.cons_append, List.nil_append] at X5
  refine ⟨((withThrown W Zs text P1.m.cls kX).setVm vm').setCell (W.heap.size + 2) (plainBareV T.toThrowableT (freshCell P1.m.cls kX) (W.heap.size + 2) u0 sen (.ref (W.heap.size + 1))), W.heap.size + 2, _, fun target ht => st _ (by rw [X.tail, ← hU]; exact ht),
    X5.forget (fun y hy => ?_), heapAt_setCell_self _ ha, hfound, rfl⟩
  simp only [List.mem_cons, List.not_mem_nil, or_false] at hy
  have hge : s.heap.size ≤ W.heap.size := X.same.2.1
  rcases hy with rfl | rfl | rfl | rfl | rfl <;> exact Nat.le_trans hge (Nat.le_add_right _ 2)
set_option maxHeartbeats 1000000 in
/-- the machine throws NullPointerException, no traces kept: from its note over the frame g to 'throwing' over the same frame (follows the proof of Stand.vmThrowsNpe, Shelf42/KT2.lean; throwsNpeColdBareVAt, Shelf42/NT91.lean, called) -/
theorem vx_npeAt {p : Program} {l : Launch} {e : Env} {R : Room} {s : State} {m₀ : MethodId} {args : Array Value} {below : List Frame} {meth : Method} {c : Code} {W : State} {locs : List Loc} {cells slots : Nat}
    (X : Stand p l e R s m₀ args below meth c W locs cells slots) (hexec : p.tables.exec = Jvm.exec) (htr : e.platform.stackTraces = false) {n : Nat}
    (h : ∀ a ∈ Bundle.npeArmAtoms n, a.before args s = true)
    (hlocs : ∀ x ∈ locs, ∀ cell, s.heap[x.base]? = some cell → cell.vm.isStatics = false)
    {g : JFrame} (hg : g.method = m₀) (hsize : g.locals.size = c.maxLocals)
    (hRframes : 7 < R.frames) (hRlocals : 2 * g.monitorRoom + (g.stack.map fun v => v.category).sum + 10240 ≤ R.locals)
    (hRcells : cells + 1 ≤ R.cells) (hRslots : slots + n ≤ R.slots) (hlocks : meth.locks = false) :
    ∃ (S : State) (q : Addr) (ce : Cell), (∀ target, Steps p.tables e below ((S.setTop g).pushFrame (.throwing q)) target → Steps p.tables e below ((W.setTop g).pushFrame (.throwNew "java/lang/NullPointerException" none none)) target) ∧
      Stand p l e R s m₀ args below meth c S locs (cells + 1) (slots + n) ∧ S.heap[q]? = some ce ∧ s.vm.findClass "java/lang/NullPointerException" = some ce.cls ∧ ce.vm = .none := by
  have howns : e.platform.frameOwnsMonitors = true := by rw [X.admits.platform]
  have hfin : e.platform.finalization = false := by rw [X.admits.platform]
  have hpl : e.platform.magicAccessors = ({} : Platform).magicAccessors := by rw [X.admits.platform]
  have hpl2 : e.platform.arrayCloneIsPublic = true := by rw [X.admits.platform]
  have a' : ∀ x, x ∈ Bundle.npeArmAtoms n → x.holds args s none s [] = true := fun x hx => h x hx
  obtain ⟨T, Z, L, LZ, Y⟩ := ThrowableC.of_atoms (args := args) howns hfin hpl (fun x hx => h x (by simp [Bundle.npeArmAtoms, hx]))
  obtain ⟨N, LN, hcN, hnNF, hordN, hffS⟩ := NpeC.of_atoms (args := args) hpl hpl2 L Y (fun x hx => h x (by simp [Bundle.npeArmAtoms, hx]))
  obtain ⟨P1, L1, hP1m, hP1s⟩ := PassC.of_atoms (args := args) (s := s) hpl (X := Bundle.nN) (Y := Bundle.rN) (by decide) (by decide) LibCode.NullPointerException.Init0.at_0 LibCode.NullPointerException.Init0.at_1 LibCode.NullPointerException.Init0.at_4 (fun x hx => h x (by simp [Bundle.npeArmAtoms, hx]))
  obtain ⟨PR, LR, hPRm, hPRs⟩ := PassC.of_atoms (args := args) (s := s) hpl (X := Bundle.rN) (Y := Bundle.eN) (by decide) (by decide) LibCode.RuntimeException.Init0.at_0 LibCode.RuntimeException.Init0.at_1 LibCode.RuntimeException.Init0.at_4 (fun x hx => h x (by simp [Bundle.npeArmAtoms, hx]))
  obtain ⟨PE, LEx, hPEm, hPEs⟩ := PassC.of_atoms (args := args) (s := s) hpl (X := Bundle.eN) (Y := Bundle.tN) (by decide) (by decide) LibCode.Exception.Init0.at_0 LibCode.Exception.Init0.at_1 LibCode.Exception.Init0.at_4 (fun x hx => h x (by simp [Bundle.npeArmAtoms, hx]))
  have hfound : s.vm.findClass Bundle.nN = some P1.m.cls := findClass_of_methodNamed hP1m
  have ecls : N.cN = P1.m.cls := Option.some.inj (hcN.symm.trans hfound)
  have hk : s.vm.classes[P1.m.cls]? = some N.kN := by rw [← ecls]; exact LN.cls
  have hinit := Cond.initialized_spec hfound hk (a' (.initialized Bundle.nN) (by simp [Bundle.npeArmAtoms]))
  have hctor : N.kN.findMethod "<init>" "()V" = some P1.m.idx := findMethod_of_methodNamed hP1m hk
  obtain ⟨c1, k1, hc1, hk1, -, -, -, hn⟩ := Cond.instantiable_spec (a' (.instantiable Bundle.nN n) (by simp [Bundle.npeArmAtoms]))
  cases Option.some.inj (hc1.symm.trans hfound)
  cases Option.some.inj (hk1.symm.trans hk)
  have hfsz : (freshCell P1.m.cls N.kN).slots.size = n := by simp [hn]
  have hlink1 : P1.sup = PR.m := Option.some.inj (hP1s.symm.trans hPRm)
  have hlinkR : PR.sup = PE.m := Option.some.inj (hPRs.symm.trans hPEm)
  have hlinkE : PE.sup = Z.m T.toThrowableT := Option.some.inj (hPEs.symm.trans Y.init0)
  have hLs : ∀ P, P ∈ [PR, PE] → P.Links0 e.platform s := fun P hP => by
    simp only [List.mem_cons, List.not_mem_nil, or_false] at hP
    rcases hP with rfl | rfl
    · exact LR
    · exact LEx
  have hsel0 : selectMethod e.platform s.vm P1.m.cls T.fill0 = .method T.fill0 := by
    obtain ⟨c2, r2, m2, q1, q2, q3, q4, -⟩ := Cond.selects_spec (a' (.selects Bundle.nN Bundle.tFill0 Bundle.tFill0) (by simp [Bundle.npeArmAtoms]))
    cases Option.some.inj (q1.symm.trans hfound)
    cases Option.some.inj (q2.symm.trans (State.methodFound?_of_named Y.fill0 (by decide)))
    cases Option.some.inj (q3.symm.trans Y.fill0)
    rw [Launch.admits_selectMethod X.admits]; exact q4
  have hselF : selectMethod e.platform s.vm P1.m.cls T.fill = .method N.fill := by
    obtain ⟨c2, r2, m2, q1, q2, q3, q4, -⟩ := Cond.selects_spec (a' (.selects Bundle.nN Bundle.tFill Bundle.nFill) (by simp [Bundle.npeArmAtoms]))
    cases Option.some.inj (q1.symm.trans hfound)
    cases Option.some.inj (q2.symm.trans (State.methodFound?_of_named Y.fill (by decide)))
    cases Option.some.inj (q3.symm.trans hnNF)
    rw [Launch.admits_selectMethod X.admits]; exact q4
  obtain ⟨cellS0, hcS0, hiss⟩ := Y.statics
  obtain ⟨u0, hu0⟩ := Cond.staticRefV Y.unassigned L.unassignedStatic L.statics hcS0 hiss (a' (.isRef (.static Bundle.tN "UNASSIGNED_STACK" Bundle.steD)) (by simp [Bundle.npeArmAtoms]))
  obtain ⟨sen, hsen⟩ := Cond.staticRefV Y.sentinel L.sentinelStatic L.statics hcS0 hiss (a' (.isRef (.static Bundle.tN "SUPPRESSED_SENTINEL" Bundle.listD)) (by simp [Bundle.npeArmAtoms]))
  obtain ⟨ci198, i198, fB, hk198, hg198, ha198, hsB, -, hnB, htB, hffB⟩ := Cond.ownField (t := .object "java/lang/Object") Y.found L.cls (by decide +kernel) (a' (.fieldLink Bundle.tN 198 Bundle.tN "backtrace" Bundle.objD) (by simp [Bundle.npeArmAtoms])) (a' (.lays Bundle.tN Bundle.tN "backtrace" Bundle.objD) (by simp [Bundle.npeArmAtoms])) e.platform hpl
  obtain ⟨cellS, hcS', heS, -, hkeep⟩ := X.same.2.2.2.2.2 T.aS cellS0 hcS0
  have hcellS : W.heap[T.aS]? = some cellS := hcS'
  have hout' : ∀ i, (⟨T.aS, i⟩ : Loc) ∉ locs := fun i hmem => by
    have := hlocs _ hmem cellS0 hcS0
    rw [hiss] at this; cases this
  have hknownS : cellS.vm ≠ .unknown := by
    rw [heS]; intro hu
    rw [show cellS0.vm = .unknown from hu] at hiss
    cases hiss
  have hvU : cellS.slots[T.fUnassigned.slot]? = some u0.v := by rw [hkeep _ (hout' _)]; exact hu0
  have hvSen : cellS.slots[T.fSentinel.slot]? = some sen.v := by rw [hkeep _ (hout' _)]; exact hsen
  obtain ⟨tyC, dC, hdC, hdnC⟩ := Cond.laysAt hfound hk Y.cause (a' (.lays Bundle.nN Bundle.tN "cause" "Ljava/lang/Throwable;") (by simp [Bundle.npeArmAtoms]))
  obtain ⟨tyS, dS, hdS, hdnS⟩ := Cond.laysAt hfound hk Y.stack (a' (.lays Bundle.nN Bundle.tN "stackTrace" Bundle.steD) (by simp [Bundle.npeArmAtoms]))
  obtain ⟨tyP, dP, hdP, hdnP⟩ := Cond.laysAt hfound hk Y.supp (a' (.lays Bundle.nN Bundle.tN "suppressedExceptions" Bundle.listD) (by simp [Bundle.npeArmAtoms]))
  obtain ⟨tyX, dX, hdX, hdnX⟩ := Cond.laysAt hfound hk hffS (a' (.lays Bundle.nN Bundle.nN "extendedMessageState" "I") (by simp [Bundle.npeArmAtoms, Bundle.npeAtoms]))
  obtain ⟨hnX, htX⟩ := State.fieldFound?_type hffS (t := .int) (by decide +kernel)
  have xC := Cond.laysApart hdC hdX hdnC hdnX (by rw [hnX, Y.causeName]; decide)
  have xS := Cond.laysApart hdS hdX hdnS hdnX (by rw [hnX, Y.stackName]; decide)
  have xP := Cond.laysApart hdP hdX hdnP hdnX (by rw [hnX, Y.suppName]; decide)
  have hv0 : (freshCell P1.m.cls N.kN).slots[N.fState.slot]? = some (.int 0) := by
    have := fresh_default (c := P1.m.cls) tyX
    rw [htX] at this; exact this
  obtain ⟨tyB, dB, hdB, hdnB⟩ := Cond.laysAt hfound hk hffB (a' (.lays Bundle.nN Bundle.tN "backtrace" Bundle.objD) (by simp [Bundle.npeArmAtoms]))
  have bC := Cond.laysApart hdB hdC hdnB hdnC (by rw [hnB, Y.causeName]; decide)
  have bS := Cond.laysApart hdB hdS hdnB hdnS (by rw [hnB, Y.stackName]; decide)
  have bP := Cond.laysApart hdB hdP hdnB hdnP (by rw [hnB, Y.suppName]; decide)
  have bX := Cond.laysApart hdB hdX hdnB hdnX (by rw [hnB, hnX]; decide)
  have hbk : ((npeCell N.toNpeT (preparedCellV T.toThrowableT (freshCell P1.m.cls N.kN) W.heap.size u0 sen) W.cur).withEntry W.cur).slots[fB.slot]? = some .null := by
    have := fresh_default (c := P1.m.cls) tyB
    rw [htB] at this
    simpa [npeCell, preparedCellV, Cell.setSlot, Cell.withEntry, Array.getElem?_setIfInBounds, bC, bS, bP, bX, bC.symm, bS.symm, bP.symm, bX.symm, defaultValue] using this
  have tkC := Takes.of_laid (v := .ref W.heap.size) hk hordN tyC (by rw [Y.causeType]; rfl)
  have tkS := Takes.of_laid (v := u0.v) hk hordN tyS (by rw [Y.stackType]; exact fits_refV_array _ u0)
  have tkP := Takes.of_laid (v := sen.v) hk hordN tyP (by rw [Y.suppType]; exact fits_refV_object _ sen)
  have tkX := Takes.of_laid (v := .int 1) hk hordN tyX (by rw [htX]; rfl)
  have hskip : SkipFacts T e.platform s (fun u => u) u0 ((npeCell N.toNpeT (preparedCellV T.toThrowableT (freshCell P1.m.cls N.kN) W.heap.size u0 sen) W.cur).withEntry W.cur) := ⟨{ ci198 := ci198, i198 := i198, fBack := fB }, ⟨hk198, hg198, ha198, hsB⟩, hbk, fun _ _ => rfl⟩
  obtain ⟨vm', X3, st, -⟩ := X.throwsNpeColdBareVAt hexec hg hsize T L Z LZ N LN P1 L1 [PR, PE] hLs hlink1 ⟨hlinkR, hlinkE, trivial⟩ hfound hk hinit hordN hctor hsel0 hselF hcellS hknownS hvU hvSen
    hv0 xC xS xP tkC tkS tkP tkX Y.objLocals hskip (fun _ _ hA hW _ hroom _ hrest => L.nativeOff p htr hA hW hroom hrest) (by simpa using hRframes) hRlocals (by simp) hRcells (by rw [hn]; exact hRslots)
  have hlt : W.heap.size < ((W.pushCell (freshCell P1.m.cls N.kN)).setVm vm').heap.size := by
    show W.heap.size < (W.pushCell (freshCell P1.m.cls N.kN)).heap.size
    rw [State.heap_size_pushCell]; omega
  rw [hfsz] at X3
  obtain ⟨g₁, hfrM⟩ := X3.frames_eq
  have hU : ((((W.pushCell (freshCell P1.m.cls N.kN)).setVm vm').setCell W.heap.size (npeBareV T.toThrowableT N.toNpeT (freshCell P1.m.cls N.kN) W.heap.size u0 sen)).setTop g).pushFrame (.throwing W.heap.size) = (((W.pushCell (freshCell P1.m.cls N.kN)).setVm vm').setCell W.heap.size (npeBareV T.toThrowableT N.toNpeT (freshCell P1.m.cls N.kN) W.heap.size u0 sen)).setFrames (.throwing W.heap.size :: .java g :: below) := by
    rw [State.pushFrame, State.frames_setTop _ hfrM, State.setTop_of_frames _ hfrM, State.setFrames_setFrames]
  refine ⟨_, W.heap.size, _, fun target ht => st.trans (by rw [← hU]; exact ht), X3.forget (fun y hy => ?_), heapAt_setCell_self _ hlt, hfound, rfl⟩
  simp only [List.mem_cons, List.not_mem_nil, or_false] at hy
  have hge : s.heap.size ≤ W.heap.size := X.same.2.1
  rcases hy with rfl | rfl | rfl | rfl | rfl <;> exact hge
/-- the words of a machine's NullPointerException, but the four that speak of the heap -/
def vx_atN (n : Nat) : List Cond := (Bundle.npeArmAtoms n).filter vx_no
/-- the words of a machine's throw with a message, but the four that speak of the heap -/
def vx_atM (X : String) (names : List String) : List Cond := (Bundle.messageArmAtoms X names).filter vx_no
section
variable {p : Program} {l : Launch} {e : Env} {R : Room} {s : State} {m : MethodId} {args : Array Value} {below : List Frame} {meth : Method} {c : Code} {H : Heap} {locs : List Loc} {cells slots : Nat}
/-- a frame seen from a rebased start, seen from the first start again -/
theorem vx_back9 {T S : State} {R' : Room} {k n : Nat} (X : Stand p l e R s m args below meth c T locs cells slots) (Y : Stand p l e R' ((T.setVm s.vm).setFrames (.invoking m args :: below)) m args below meth c T [] 0 0) (Z : Stand p l e R' ((T.setVm s.vm).setFrames (.invoking m args :: below)) m args below meth c S [] k n) :
    Stand p l e R s m args below meth c S locs (cells + k) (slots + n) := by
  have hW0 : s.WarmedH ((T.setVm s.vm).setFrames (.invoking m args :: below)).vm := State.WarmedH.refl s
  refine { admits := X.admits, cas := X.cas, clock := X.clock, frames := X.frames, room := X.room, hears := X.hears, method := X.method, code := X.code, here := Z.here, tail := Z.tail, warmed := State.WarmedH.trans hW0 Z.warmed, limits := Z.limits.trans (Y.limits.symm.trans X.limits), bytes := Z.bytes.trans (Y.bytes.symm.trans X.bytes), same := ?_ }
  obtain ⟨e1, e2⟩ := Z.same
  rw [State.setFrames_setFrames] at e1
  have h2 : (T.setVm s.vm).sameButNew (S.setVm s.vm) [] k n := ⟨e1, e2⟩
  have h3 := X.same.trans h2
  rw [List.append_nil] at h3
  exact h3
/-- from the machine's note that E is thrown here with this text -/
def vx_Note (p : Program) (l : Launch) (e : Env) (R : Room) (s : State) (m : MethodId) (args : Array Value) (below : List Frame) (meth : Method) (c : Code) (H : Heap) (locs : List Loc) (cells slots : Nat) (Q : State → Prop) (g : JFrame) (E text : String) : Prop :=
  ∀ T : State, T.heap = H → Stand p l e R s m args below meth c T locs cells slots → ∃ t, Steps p.tables e below ((T.setTop g).pushFrame (.throwNew E (some text) none)) t ∧ Q t
theorem vx_vm {pc : Nat} {ls : Array Slot} {rest : List Value} {Q : State → Prop} (hexec : p.tables.exec = Jvm.exec) (hl : l.stackTraces = false) {cls text : String} {names : List String} {nb : Nat} {A : Nat → Prop}
    (hcls : Bundle.fit cls = true) (hnames : ∀ n ∈ names, Bundle.fit n = true) (hsoe : (cls == "java/lang/StackOverflowError") = false) (hoom : (cls == "java/lang/OutOfMemoryError") = false)
    (hat : ∀ w ∈ vx_atM cls names, w.before args s = true) (hgood : ∀ w ∈ vx_atM cls names, vx_ot w = true)
    (hU : vx_Zq Bundle.tN "UNASSIGNED_STACK" Bundle.steD A s s.heap) (hN : vx_Zq Bundle.tN "SUPPRESSED_SENTINEL" Bundle.listD A s s.heap) (hS : va_S A s.heap H locs) (hsize : ls.size = c.maxLocals)
    (htext : (text == notModelled) = false) (hnb : (stringBytes (stringToUtf16 text)).size ≤ nb) (hnb1 : nb ≤ 1000)
    (hRframes : names.length + 4 < R.frames) (hRlocals : (rest.map fun v => v.category).sum + 10240 ≤ R.locals) (hshort : 13 * names.length + 55 ≤ 10240) (hRcells : cells + 3 ≤ R.cells) (hRslots : slots + (nb + 10) ≤ R.slots) (hlocks : meth.locks = false)
    (k : ∀ (H1 : Heap) (q9 : Addr) (ce : Cell), H.size ≤ H1.size → (∀ q : Nat, q < H.size → H1[q]? = H[q]?) → va_S A s.heap H1 locs → H1[q9]? = some ce → ce.vm = .none → s.vm.findClass cls = some ce.cls → vx_W p l e R s m args below meth c H1 locs (cells + 3) (slots + (nb + 10)) Q (F0 m pc ls rest) q9) :
    vx_Note p l e R s m args below meth c H locs cells slots Q (F0 m pc ls rest) cls text := by
  intro T hT X
  have htr : e.platform.stackTraces = false := (show e.platform.stackTraces = l.stackTraces by rw [X.admits.platform]).trans hl
  have Y := vx_rebase X (R' := { frames := R.frames, locals := R.locals, cells := 3, slots := nb + 10 }) (Nat.le_refl _) (Nat.le_refl _) hRcells hRslots
  have hhp : ((T.setVm s.vm).setFrames (.invoking m args :: below)).heap = H := hT
  have hW0 : s.WarmedH ((T.setVm s.vm).setFrames (.invoking m args :: below)).vm := State.WarmedH.refl s
  have hat' : ∀ w ∈ vx_atM cls names, w.before args ((T.setVm s.vm).setFrames (.invoking m args :: below)) = true := fun w hw => vx_ot_at hW0 rfl (hgood w hw) (hat w hw)
  have hU' : vx_Zq Bundle.tN "UNASSIGNED_STACK" Bundle.steD A ((T.setVm s.vm).setFrames (.invoking m args :: below)) ((T.setVm s.vm).setFrames (.invoking m args :: below)).heap := by rw [hhp]; exact vx_Zq.moved hW0.alike (hU.kept hS.2.1)
  have hN' : vx_Zq Bundle.tN "SUPPRESSED_SENTINEL" Bundle.listD A ((T.setVm s.vm).setFrames (.invoking m args :: below)) ((T.setVm s.vm).setFrames (.invoking m args :: below)).heap := by rw [hhp]; exact vx_Zq.moved hW0.alike (hN.kept hS.2.1)
  obtain ⟨S, q, ce, st, Z, hce, hcl', hv⟩ := vx_vmAt Y hexec htr (cls := cls) (names := names) (text := text) hcls hnames hsoe hoom (vx_own hat' (vx_isRefq hU'.1) (vx_isRefq hN'.1) hU'.2.word hN'.2.word) (fun x hx => nomatch hx) htext
    (by rw [Launch.admits_arrayLengthLimit X.admits]; omega) (by rw [Launch.admits_maxHeapBytes X.admits]; simp only [componentBytes]; omega)
    (g := F0 m pc ls rest) rfl hsize hRframes (by show 2 * 0 + (rest.map fun v => v.category).sum + 10240 ≤ R.locals; omega) hshort (by show 0 + 3 ≤ 3; omega) (by show 0 + (_ + 4 + 6) ≤ nb + 10; omega) hlocks
  obtain ⟨f1, f2⟩ := vx_frame Z.same
  have f1' : H.size ≤ S.heap.size := by rw [← hT]; exact f1
  have f2' : ∀ q : Nat, q < H.size → S.heap[q]? = H[q]? := fun q hq => by
    rw [← hT]
    exact f2 q (by rw [← hT] at hq; exact hq) (fun z hz => nomatch hz)
  have X5 := vx_back9 X Y Z
  have X6 : Stand p l e R s m args below meth c S locs (cells + 3) (slots + (nb + 10)) := { X5 with same := X5.same.mono (by omega) (by omega) }
  obtain ⟨t, a1, b1⟩ := k S.heap q ce f1' f2' ⟨Nat.le_trans hS.1 f1', fun q h1 h2 => (f2' q (Nat.lt_of_lt_of_le h1 hS.1)).trans (hS.2.1 q h1 h2), hS.2.2⟩ hce hv hcl' S rfl X6
  exact ⟨t, st t a1, b1⟩
/-- from the machine's note that NullPointerException is thrown here -/
def vx_NoteN (p : Program) (l : Launch) (e : Env) (R : Room) (s : State) (m : MethodId) (args : Array Value) (below : List Frame) (meth : Method) (c : Code) (H : Heap) (locs : List Loc) (cells slots : Nat) (Q : State → Prop) (g : JFrame) : Prop :=
  ∀ T : State, T.heap = H → Stand p l e R s m args below meth c T locs cells slots → ∃ t, Steps p.tables e below ((T.setTop g).pushFrame (.throwNew "java/lang/NullPointerException" none none)) t ∧ Q t
theorem vx_npe {pc : Nat} {ls : Array Slot} {rest : List Value} {Q : State → Prop} (hexec : p.tables.exec = Jvm.exec) (hl : l.stackTraces = false) {nb : Nat} {A : Nat → Prop}
    (hat : ∀ w ∈ vx_atN nb, w.before args s = true) (hgood : ∀ w ∈ vx_atN nb, vx_ot w = true)
    (hU : vx_Zq Bundle.tN "UNASSIGNED_STACK" Bundle.steD A s s.heap) (hN : vx_Zq Bundle.tN "SUPPRESSED_SENTINEL" Bundle.listD A s s.heap) (hS : va_S A s.heap H locs) (hsize : ls.size = c.maxLocals)
    (hRframes : 7 < R.frames) (hRlocals : (rest.map fun v => v.category).sum + 10240 ≤ R.locals) (hRcells : cells + 1 ≤ R.cells) (hRslots : slots + nb ≤ R.slots) (hlocks : meth.locks = false)
    (k : ∀ (H1 : Heap) (q9 : Addr) (ce : Cell), H.size ≤ H1.size → (∀ q : Nat, q < H.size → H1[q]? = H[q]?) → va_S A s.heap H1 locs → H1[q9]? = some ce → ce.vm = .none → s.vm.findClass "java/lang/NullPointerException" = some ce.cls → vx_W p l e R s m args below meth c H1 locs (cells + 1) (slots + nb) Q (F0 m pc ls rest) q9) :
    vx_NoteN p l e R s m args below meth c H locs cells slots Q (F0 m pc ls rest) := by
  intro T hT X
  have htr : e.platform.stackTraces = false := (show e.platform.stackTraces = l.stackTraces by rw [X.admits.platform]).trans hl
  have Y := vx_rebase X (R' := { frames := R.frames, locals := R.locals, cells := 1, slots := nb }) (Nat.le_refl _) (Nat.le_refl _) hRcells hRslots
  have hhp : ((T.setVm s.vm).setFrames (.invoking m args :: below)).heap = H := hT
  have hW0 : s.WarmedH ((T.setVm s.vm).setFrames (.invoking m args :: below)).vm := State.WarmedH.refl s
  have hat' : ∀ w ∈ vx_atN nb, w.before args ((T.setVm s.vm).setFrames (.invoking m args :: below)) = true := fun w hw => vx_ot_at hW0 rfl (hgood w hw) (hat w hw)
  have hU' : vx_Zq Bundle.tN "UNASSIGNED_STACK" Bundle.steD A ((T.setVm s.vm).setFrames (.invoking m args :: below)) ((T.setVm s.vm).setFrames (.invoking m args :: below)).heap := by rw [hhp]; exact vx_Zq.moved hW0.alike (hU.kept hS.2.1)
  have hN' : vx_Zq Bundle.tN "SUPPRESSED_SENTINEL" Bundle.listD A ((T.setVm s.vm).setFrames (.invoking m args :: below)) ((T.setVm s.vm).setFrames (.invoking m args :: below)).heap := by rw [hhp]; exact vx_Zq.moved hW0.alike (hN.kept hS.2.1)
  obtain ⟨S, q, ce, st, Z, hce, hcl', hv⟩ := vx_npeAt Y hexec htr (n := nb) (vx_own hat' (vx_isRefq hU'.1) (vx_isRefq hN'.1) hU'.2.word hN'.2.word) (fun x hx => nomatch hx)
    (g := F0 m pc ls rest) rfl hsize hRframes (by show 2 * 0 + (rest.map fun v => v.category).sum + 10240 ≤ R.locals; omega) (by show 0 + 1 ≤ 1; omega) (by show 0 + nb ≤ nb; omega) hlocks
  obtain ⟨f1, f2⟩ := vx_frame Z.same
  have f1' : H.size ≤ S.heap.size := by rw [← hT]; exact f1
  have f2' : ∀ q : Nat, q < H.size → S.heap[q]? = H[q]? := fun q hq => by
    rw [← hT]
    exact f2 q (by rw [← hT] at hq; exact hq) (fun z hz => nomatch hz)
  have X5 := vx_back9 X Y Z
  have X6 : Stand p l e R s m args below meth c S locs (cells + 1) (slots + nb) := { X5 with same := X5.same.mono (by omega) (by omega) }
  obtain ⟨t, a1, b1⟩ := k S.heap q ce f1' f2' ⟨Nat.le_trans hS.1 f1', fun q h1 h2 => (f2' q (Nat.lt_of_lt_of_le h1 hS.1)).trans (hS.2.1 q h1 h2), hS.2.2⟩ hce hv hcl' S rfl X6
  exact ⟨t, st t a1, b1⟩
variable {Q : State → Prop} {cc : ByteArray} {pc : Nat} {ls : Array Slot} {rest : List Value}
theorem vx_idivZ (hexec : p.tables.exec = Jvm.exec) (hb : c.code = cc) {a b : Int32} (h0 : b = 0) (d : decode cc pc = .ok (.idiv, 1)) (k : vx_Note p l e R s m args below meth c H locs cells slots Q (F0 m pc ls rest) "java/lang/ArithmeticException" "/ by zero") :
    W p l e R s m args below meth c H locs cells slots Q (F0 m pc ls (.int b :: .int a :: rest)) := by
  intro T hT X
  obtain ⟨t, st, q⟩ := k T hT X
  exact ⟨t, X.idivZero hexec (g := F0 m pc ls (.int b :: .int a :: rest)) rfl (a := a) (rest := rest) (by rw [h0]) (by rw [hb]; exact d) t st, q⟩
theorem vx_iremZ (hexec : p.tables.exec = Jvm.exec) (hb : c.code = cc) {a b : Int32} (h0 : b = 0) (d : decode cc pc = .ok (.irem, 1)) (k : vx_Note p l e R s m args below meth c H locs cells slots Q (F0 m pc ls rest) "java/lang/ArithmeticException" "/ by zero") :
    W p l e R s m args below meth c H locs cells slots Q (F0 m pc ls (.int b :: .int a :: rest)) := by
  intro T hT X
  obtain ⟨t, st, q⟩ := k T hT X
  exact ⟨t, X.iremZero hexec (g := F0 m pc ls (.int b :: .int a :: rest)) rfl (a := a) (rest := rest) (by rw [h0]) (by rw [hb]; exact d) t st, q⟩
theorem vx_ldivZ (hexec : p.tables.exec = Jvm.exec) (hb : c.code = cc) {a b : Int64} (h0 : b = 0) (d : decode cc pc = .ok (.ldiv, 1)) (k : vx_Note p l e R s m args below meth c H locs cells slots Q (F0 m pc ls rest) "java/lang/ArithmeticException" "/ by zero") :
    W p l e R s m args below meth c H locs cells slots Q (F0 m pc ls (.long b :: .long a :: rest)) := by
  intro T hT X
  obtain ⟨t, st, q⟩ := k T hT X
  exact ⟨t, X.ldivZero hexec (g := F0 m pc ls (.long b :: .long a :: rest)) rfl (a := a) (rest := rest) (by rw [h0]) (by rw [hb]; exact d) t st, q⟩
theorem vx_lremZ (hexec : p.tables.exec = Jvm.exec) (hb : c.code = cc) {a b : Int64} (h0 : b = 0) (d : decode cc pc = .ok (.lrem, 1)) (k : vx_Note p l e R s m args below meth c H locs cells slots Q (F0 m pc ls rest) "java/lang/ArithmeticException" "/ by zero") :
    W p l e R s m args below meth c H locs cells slots Q (F0 m pc ls (.long b :: .long a :: rest)) := by
  intro T hT X
  obtain ⟨t, st, q⟩ := k T hT X
  exact ⟨t, X.lremZero hexec (g := F0 m pc ls (.long b :: .long a :: rest)) rfl (a := a) (rest := rest) (by rw [h0]) (by rw [hb]; exact d) t st, q⟩
theorem vx_ialdZ {D : va_G} {cl : List vw_C} {ws : va_W} {tys : List (ClassId × FieldType)} {a : Nat} (hexec : p.tables.exec = Jvm.exec) (hb : c.code = cc) (hK : va_K D cl tys s) (hP : va_P D cl ws H) (q0 t0 : Nat) {cA : ClassId} {n : Nat} {f : Nat → Int32} (ha : ws[q0]? = some (a, .inl (cA, n, .inl f))) (ht : tys[t0]? = some (cA, .int)) {i : Int32} (hout : ¬ vp_in i n) (hdg : decode cc pc = .ok (.iaload, 1))
    (k : ∀ tx : String, tx = (toString "Index " ++ toString i ++ toString " out of bounds for length " ++ toString n : String) → vx_Note p l e R s m args below meth c H locs cells slots Q (F0 m pc ls rest) "java/lang/ArrayIndexOutOfBoundsException" tx) : W p l e R s m args below meth c H locs cells slots Q (F0 m pc ls (.int i :: .ref a :: rest)) := by
  intro T hT X
  obtain ⟨t, st, q⟩ := k _ rfl T hT X
  refine ⟨t, ?_, q⟩
  have h1 := X.ialoadOut hexec (by rw [hT]; exact hP q0 _ ha) ((hK.2 t0 _ ht).1 n (fun j => .int (f j))) (j := i) (by show (i < 0 ∨ (arrV _ _ _).slots.size ≤ _); rw [arrV_size]; exact Classical.byContradiction hout) (g := F0 m pc ls (.int i :: .ref a :: rest)) rfl (rest := rest) rfl (by rw [hb]; exact hdg) t
  simp only [arrV_size] at h1
  exact h1 st
theorem vx_iastZ {D : va_G} {cl : List vw_C} {ws : va_W} {tys : List (ClassId × FieldType)} {a : Nat} (hexec : p.tables.exec = Jvm.exec) (hb : c.code = cc) (hK : va_K D cl tys s) (hP : va_P D cl ws H) (q0 t0 : Nat) {cA : ClassId} {n : Nat} {f : Nat → Int32} (ha : ws[q0]? = some (a, .inl (cA, n, .inl f))) (ht : tys[t0]? = some (cA, .int)) {i : Int32} {x : Int32} (hout : ¬ vp_in i n) (hdg : decode cc pc = .ok (.iastore, 1))
    (k : ∀ tx : String, tx = (toString "Index " ++ toString i ++ toString " out of bounds for length " ++ toString n : String) → vx_Note p l e R s m args below meth c H locs cells slots Q (F0 m pc ls rest) "java/lang/ArrayIndexOutOfBoundsException" tx) : W p l e R s m args below meth c H locs cells slots Q (F0 m pc ls (.int x :: .int i :: .ref a :: rest)) := by
  intro T hT X
  obtain ⟨t, st, q⟩ := k _ rfl T hT X
  refine ⟨t, ?_, q⟩
  have h1 := X.iastoreOut hexec (by rw [hT]; exact hP q0 _ ha) ((hK.2 t0 _ ht).1 n (fun j => .int (f j))) (j := i) (by show (i < 0 ∨ (arrV _ _ _).slots.size ≤ _); rw [arrV_size]; exact Classical.byContradiction hout) (g := F0 m pc ls (.int x :: .int i :: .ref a :: rest)) rfl (rest := rest) rfl (by rw [hb]; exact hdg) t
  simp only [arrV_size] at h1
  exact h1 st
theorem vx_baldZ {D : va_G} {cl : List vw_C} {ws : va_W} {tys : List (ClassId × FieldType)} {a : Nat} (hexec : p.tables.exec = Jvm.exec) (hb : c.code = cc) (hK : va_K D cl tys s) (hP : va_P D cl ws H) (q0 t0 : Nat) {cA : ClassId} {n : Nat} {f : Nat → Int32} (ha : ws[q0]? = some (a, .inl (cA, n, .inl f))) (ht : tys[t0]? = some (cA, .byte)) {i : Int32} (hout : ¬ vp_in i n) (hdg : decode cc pc = .ok (.baload, 1))
    (k : ∀ tx : String, tx = (toString "Index " ++ toString i ++ toString " out of bounds for length " ++ toString n : String) → vx_Note p l e R s m args below meth c H locs cells slots Q (F0 m pc ls rest) "java/lang/ArrayIndexOutOfBoundsException" tx) : W p l e R s m args below meth c H locs cells slots Q (F0 m pc ls (.int i :: .ref a :: rest)) := by
  intro T hT X
  obtain ⟨t, st, q⟩ := k _ rfl T hT X
  refine ⟨t, ?_, q⟩
  have h1 := X.baloadOut hexec (by rw [hT]; exact hP q0 _ ha) ((hK.2 t0 _ ht).1 n (fun j => .int (f j))) (j := i) (by show (i < 0 ∨ (arrV _ _ _).slots.size ≤ _); rw [arrV_size]; exact Classical.byContradiction hout) (g := F0 m pc ls (.int i :: .ref a :: rest)) rfl (rest := rest) rfl (by rw [hb]; exact hdg) t
  simp only [arrV_size] at h1
  exact h1 st
theorem vx_bastZ {D : va_G} {cl : List vw_C} {ws : va_W} {tys : List (ClassId × FieldType)} {a : Nat} (hexec : p.tables.exec = Jvm.exec) (hb : c.code = cc) (hK : va_K D cl tys s) (hP : va_P D cl ws H) (q0 t0 : Nat) {cA : ClassId} {n : Nat} {f : Nat → Int32} (ha : ws[q0]? = some (a, .inl (cA, n, .inl f))) (ht : tys[t0]? = some (cA, .byte)) {i : Int32} {x : Int32} (hout : ¬ vp_in i n) (hdg : decode cc pc = .ok (.bastore, 1))
    (k : ∀ tx : String, tx = (toString "Index " ++ toString i ++ toString " out of bounds for length " ++ toString n : String) → vx_Note p l e R s m args below meth c H locs cells slots Q (F0 m pc ls rest) "java/lang/ArrayIndexOutOfBoundsException" tx) : W p l e R s m args below meth c H locs cells slots Q (F0 m pc ls (.int x :: .int i :: .ref a :: rest)) := by
  intro T hT X
  obtain ⟨t, st, q⟩ := k _ rfl T hT X
  refine ⟨t, ?_, q⟩
  have h1 := X.bastoreOut hexec (by rw [hT]; exact hP q0 _ ha) ((hK.2 t0 _ ht).1 n (fun j => .int (f j))) (j := i) (by show (i < 0 ∨ (arrV _ _ _).slots.size ≤ _); rw [arrV_size]; exact Classical.byContradiction hout) (g := F0 m pc ls (.int x :: .int i :: .ref a :: rest)) rfl (rest := rest) rfl (by rw [hb]; exact hdg) t
  simp only [arrV_size] at h1
  exact h1 st
theorem vx_zaldZ {D : va_G} {cl : List vw_C} {ws : va_W} {tys : List (ClassId × FieldType)} {a : Nat} (hexec : p.tables.exec = Jvm.exec) (hb : c.code = cc) (hK : va_K D cl tys s) (hP : va_P D cl ws H) (q0 t0 : Nat) {cA : ClassId} {n : Nat} {f : Nat → Int32} (ha : ws[q0]? = some (a, .inl (cA, n, .inl f))) (ht : tys[t0]? = some (cA, .boolean)) {i : Int32} (hout : ¬ vp_in i n) (hdg : decode cc pc = .ok (.baload, 1))
    (k : ∀ tx : String, tx = (toString "Index " ++ toString i ++ toString " out of bounds for length " ++ toString n : String) → vx_Note p l e R s m args below meth c H locs cells slots Q (F0 m pc ls rest) "java/lang/ArrayIndexOutOfBoundsException" tx) : W p l e R s m args below meth c H locs cells slots Q (F0 m pc ls (.int i :: .ref a :: rest)) := by
  intro T hT X
  obtain ⟨t, st, q⟩ := k _ rfl T hT X
  refine ⟨t, ?_, q⟩
  have h1 := X.baloadOut hexec (by rw [hT]; exact hP q0 _ ha) ((hK.2 t0 _ ht).1 n (fun j => .int (f j))) (j := i) (by show (i < 0 ∨ (arrV _ _ _).slots.size ≤ _); rw [arrV_size]; exact Classical.byContradiction hout) (g := F0 m pc ls (.int i :: .ref a :: rest)) rfl (rest := rest) rfl (by rw [hb]; exact hdg) t
  simp only [arrV_size] at h1
  exact h1 st
theorem vx_zastZ {D : va_G} {cl : List vw_C} {ws : va_W} {tys : List (ClassId × FieldType)} {a : Nat} (hexec : p.tables.exec = Jvm.exec) (hb : c.code = cc) (hK : va_K D cl tys s) (hP : va_P D cl ws H) (q0 t0 : Nat) {cA : ClassId} {n : Nat} {f : Nat → Int32} (ha : ws[q0]? = some (a, .inl (cA, n, .inl f))) (ht : tys[t0]? = some (cA, .boolean)) {i : Int32} {x : Int32} (hout : ¬ vp_in i n) (hdg : decode cc pc = .ok (.bastore, 1))
    (k : ∀ tx : String, tx = (toString "Index " ++ toString i ++ toString " out of bounds for length " ++ toString n : String) → vx_Note p l e R s m args below meth c H locs cells slots Q (F0 m pc ls rest) "java/lang/ArrayIndexOutOfBoundsException" tx) : W p l e R s m args below meth c H locs cells slots Q (F0 m pc ls (.int x :: .int i :: .ref a :: rest)) := by
  intro T hT X
  obtain ⟨t, st, q⟩ := k _ rfl T hT X
  refine ⟨t, ?_, q⟩
  have h1 := X.bastoreOut hexec (by rw [hT]; exact hP q0 _ ha) ((hK.2 t0 _ ht).1 n (fun j => .int (f j))) (j := i) (by show (i < 0 ∨ (arrV _ _ _).slots.size ≤ _); rw [arrV_size]; exact Classical.byContradiction hout) (g := F0 m pc ls (.int x :: .int i :: .ref a :: rest)) rfl (rest := rest) rfl (by rw [hb]; exact hdg) t
  simp only [arrV_size] at h1
  exact h1 st
theorem vx_caldZ {D : va_G} {cl : List vw_C} {ws : va_W} {tys : List (ClassId × FieldType)} {a : Nat} (hexec : p.tables.exec = Jvm.exec) (hb : c.code = cc) (hK : va_K D cl tys s) (hP : va_P D cl ws H) (q0 t0 : Nat) {cA : ClassId} {n : Nat} {f : Nat → Int32} (ha : ws[q0]? = some (a, .inl (cA, n, .inl f))) (ht : tys[t0]? = some (cA, .char)) {i : Int32} (hout : ¬ vp_in i n) (hdg : decode cc pc = .ok (.caload, 1))
    (k : ∀ tx : String, tx = (toString "Index " ++ toString i ++ toString " out of bounds for length " ++ toString n : String) → vx_Note p l e R s m args below meth c H locs cells slots Q (F0 m pc ls rest) "java/lang/ArrayIndexOutOfBoundsException" tx) : W p l e R s m args below meth c H locs cells slots Q (F0 m pc ls (.int i :: .ref a :: rest)) := by
  intro T hT X
  obtain ⟨t, st, q⟩ := k _ rfl T hT X
  refine ⟨t, ?_, q⟩
  have h1 := X.caloadOut hexec (by rw [hT]; exact hP q0 _ ha) ((hK.2 t0 _ ht).1 n (fun j => .int (f j))) (j := i) (by show (i < 0 ∨ (arrV _ _ _).slots.size ≤ _); rw [arrV_size]; exact Classical.byContradiction hout) (g := F0 m pc ls (.int i :: .ref a :: rest)) rfl (rest := rest) rfl (by rw [hb]; exact hdg) t
  simp only [arrV_size] at h1
  exact h1 st
theorem vx_castZ {D : va_G} {cl : List vw_C} {ws : va_W} {tys : List (ClassId × FieldType)} {a : Nat} (hexec : p.tables.exec = Jvm.exec) (hb : c.code = cc) (hK : va_K D cl tys s) (hP : va_P D cl ws H) (q0 t0 : Nat) {cA : ClassId} {n : Nat} {f : Nat → Int32} (ha : ws[q0]? = some (a, .inl (cA, n, .inl f))) (ht : tys[t0]? = some (cA, .char)) {i : Int32} {x : Int32} (hout : ¬ vp_in i n) (hdg : decode cc pc = .ok (.castore, 1))
    (k : ∀ tx : String, tx = (toString "Index " ++ toString i ++ toString " out of bounds for length " ++ toString n : String) → vx_Note p l e R s m args below meth c H locs cells slots Q (F0 m pc ls rest) "java/lang/ArrayIndexOutOfBoundsException" tx) : W p l e R s m args below meth c H locs cells slots Q (F0 m pc ls (.int x :: .int i :: .ref a :: rest)) := by
  intro T hT X
  obtain ⟨t, st, q⟩ := k _ rfl T hT X
  refine ⟨t, ?_, q⟩
  have h1 := X.castoreOut hexec (by rw [hT]; exact hP q0 _ ha) ((hK.2 t0 _ ht).1 n (fun j => .int (f j))) (j := i) (by show (i < 0 ∨ (arrV _ _ _).slots.size ≤ _); rw [arrV_size]; exact Classical.byContradiction hout) (g := F0 m pc ls (.int x :: .int i :: .ref a :: rest)) rfl (rest := rest) rfl (by rw [hb]; exact hdg) t
  simp only [arrV_size] at h1
  exact h1 st
theorem vx_saldZ {D : va_G} {cl : List vw_C} {ws : va_W} {tys : List (ClassId × FieldType)} {a : Nat} (hexec : p.tables.exec = Jvm.exec) (hb : c.code = cc) (hK : va_K D cl tys s) (hP : va_P D cl ws H) (q0 t0 : Nat) {cA : ClassId} {n : Nat} {f : Nat → Int32} (ha : ws[q0]? = some (a, .inl (cA, n, .inl f))) (ht : tys[t0]? = some (cA, .short)) {i : Int32} (hout : ¬ vp_in i n) (hdg : decode cc pc = .ok (.saload, 1))
    (k : ∀ tx : String, tx = (toString "Index " ++ toString i ++ toString " out of bounds for length " ++ toString n : String) → vx_Note p l e R s m args below meth c H locs cells slots Q (F0 m pc ls rest) "java/lang/ArrayIndexOutOfBoundsException" tx) : W p l e R s m args below meth c H locs cells slots Q (F0 m pc ls (.int i :: .ref a :: rest)) := by
  intro T hT X
  obtain ⟨t, st, q⟩ := k _ rfl T hT X
  refine ⟨t, ?_, q⟩
  have h1 := X.saloadOut hexec (by rw [hT]; exact hP q0 _ ha) ((hK.2 t0 _ ht).1 n (fun j => .int (f j))) (j := i) (by show (i < 0 ∨ (arrV _ _ _).slots.size ≤ _); rw [arrV_size]; exact Classical.byContradiction hout) (g := F0 m pc ls (.int i :: .ref a :: rest)) rfl (rest := rest) rfl (by rw [hb]; exact hdg) t
  simp only [arrV_size] at h1
  exact h1 st
theorem vx_sastZ {D : va_G} {cl : List vw_C} {ws : va_W} {tys : List (ClassId × FieldType)} {a : Nat} (hexec : p.tables.exec = Jvm.exec) (hb : c.code = cc) (hK : va_K D cl tys s) (hP : va_P D cl ws H) (q0 t0 : Nat) {cA : ClassId} {n : Nat} {f : Nat → Int32} (ha : ws[q0]? = some (a, .inl (cA, n, .inl f))) (ht : tys[t0]? = some (cA, .short)) {i : Int32} {x : Int32} (hout : ¬ vp_in i n) (hdg : decode cc pc = .ok (.sastore, 1))
    (k : ∀ tx : String, tx = (toString "Index " ++ toString i ++ toString " out of bounds for length " ++ toString n : String) → vx_Note p l e R s m args below meth c H locs cells slots Q (F0 m pc ls rest) "java/lang/ArrayIndexOutOfBoundsException" tx) : W p l e R s m args below meth c H locs cells slots Q (F0 m pc ls (.int x :: .int i :: .ref a :: rest)) := by
  intro T hT X
  obtain ⟨t, st, q⟩ := k _ rfl T hT X
  refine ⟨t, ?_, q⟩
  have h1 := X.sastoreOut hexec (by rw [hT]; exact hP q0 _ ha) ((hK.2 t0 _ ht).1 n (fun j => .int (f j))) (j := i) (by show (i < 0 ∨ (arrV _ _ _).slots.size ≤ _); rw [arrV_size]; exact Classical.byContradiction hout) (g := F0 m pc ls (.int x :: .int i :: .ref a :: rest)) rfl (rest := rest) rfl (by rw [hb]; exact hdg) t
  simp only [arrV_size] at h1
  exact h1 st
theorem vx_laldZ {D : va_G} {cl : List vw_C} {ws : va_W} {tys : List (ClassId × FieldType)} {a : Nat} (hexec : p.tables.exec = Jvm.exec) (hb : c.code = cc) (hK : va_K D cl tys s) (hP : va_P D cl ws H) (q0 t0 : Nat) {cA : ClassId} {n : Nat} {f : Nat → Int64} (ha : ws[q0]? = some (a, .inl (cA, n, .inr (.inl f)))) (ht : tys[t0]? = some (cA, .long)) {i : Int32} (hout : ¬ vp_in i n) (hdg : decode cc pc = .ok (.laload, 1))
    (k : ∀ tx : String, tx = (toString "Index " ++ toString i ++ toString " out of bounds for length " ++ toString n : String) → vx_Note p l e R s m args below meth c H locs cells slots Q (F0 m pc ls rest) "java/lang/ArrayIndexOutOfBoundsException" tx) : W p l e R s m args below meth c H locs cells slots Q (F0 m pc ls (.int i :: .ref a :: rest)) := by
  intro T hT X
  obtain ⟨t, st, q⟩ := k _ rfl T hT X
  refine ⟨t, ?_, q⟩
  have h1 := X.laloadOut hexec (by rw [hT]; exact hP q0 _ ha) ((hK.2 t0 _ ht).1 n (fun j => .long (f j))) (j := i) (by show (i < 0 ∨ (arrV _ _ _).slots.size ≤ _); rw [arrV_size]; exact Classical.byContradiction hout) (g := F0 m pc ls (.int i :: .ref a :: rest)) rfl (rest := rest) rfl (by rw [hb]; exact hdg) t
  simp only [arrV_size] at h1
  exact h1 st
theorem vx_lastZ {D : va_G} {cl : List vw_C} {ws : va_W} {tys : List (ClassId × FieldType)} {a : Nat} (hexec : p.tables.exec = Jvm.exec) (hb : c.code = cc) (hK : va_K D cl tys s) (hP : va_P D cl ws H) (q0 t0 : Nat) {cA : ClassId} {n : Nat} {f : Nat → Int64} (ha : ws[q0]? = some (a, .inl (cA, n, .inr (.inl f)))) (ht : tys[t0]? = some (cA, .long)) {i : Int32} {x : Int64} (hout : ¬ vp_in i n) (hdg : decode cc pc = .ok (.lastore, 1))
    (k : ∀ tx : String, tx = (toString "Index " ++ toString i ++ toString " out of bounds for length " ++ toString n : String) → vx_Note p l e R s m args below meth c H locs cells slots Q (F0 m pc ls rest) "java/lang/ArrayIndexOutOfBoundsException" tx) : W p l e R s m args below meth c H locs cells slots Q (F0 m pc ls (.long x :: .int i :: .ref a :: rest)) := by
  intro T hT X
  obtain ⟨t, st, q⟩ := k _ rfl T hT X
  refine ⟨t, ?_, q⟩
  have h1 := X.lastoreOut hexec (by rw [hT]; exact hP q0 _ ha) ((hK.2 t0 _ ht).1 n (fun j => .long (f j))) (j := i) (by show (i < 0 ∨ (arrV _ _ _).slots.size ≤ _); rw [arrV_size]; exact Classical.byContradiction hout) (g := F0 m pc ls (.long x :: .int i :: .ref a :: rest)) rfl (rest := rest) rfl (by rw [hb]; exact hdg) t
  simp only [arrV_size] at h1
  exact h1 st
theorem vx_faldZ {D : va_G} {cl : List vw_C} {ws : va_W} {tys : List (ClassId × FieldType)} {a : Nat} (hexec : p.tables.exec = Jvm.exec) (hb : c.code = cc) (hK : va_K D cl tys s) (hP : va_P D cl ws H) (q0 t0 : Nat) {cA : ClassId} {n : Nat} {f : Nat → UInt32} (ha : ws[q0]? = some (a, .inl (cA, n, .inr (.inr (.inl f))))) (ht : tys[t0]? = some (cA, .float)) {i : Int32} (hout : ¬ vp_in i n) (hdg : decode cc pc = .ok (.faload, 1))
    (k : ∀ tx : String, tx = (toString "Index " ++ toString i ++ toString " out of bounds for length " ++ toString n : String) → vx_Note p l e R s m args below meth c H locs cells slots Q (F0 m pc ls rest) "java/lang/ArrayIndexOutOfBoundsException" tx) : W p l e R s m args below meth c H locs cells slots Q (F0 m pc ls (.int i :: .ref a :: rest)) := by
  intro T hT X
  obtain ⟨t, st, q⟩ := k _ rfl T hT X
  refine ⟨t, ?_, q⟩
  have h1 := X.faloadOut hexec (by rw [hT]; exact hP q0 _ ha) ((hK.2 t0 _ ht).1 n (fun j => .float (f j))) (j := i) (by show (i < 0 ∨ (arrV _ _ _).slots.size ≤ _); rw [arrV_size]; exact Classical.byContradiction hout) (g := F0 m pc ls (.int i :: .ref a :: rest)) rfl (rest := rest) rfl (by rw [hb]; exact hdg) t
  simp only [arrV_size] at h1
  exact h1 st
theorem vx_fastZ {D : va_G} {cl : List vw_C} {ws : va_W} {tys : List (ClassId × FieldType)} {a : Nat} (hexec : p.tables.exec = Jvm.exec) (hb : c.code = cc) (hK : va_K D cl tys s) (hP : va_P D cl ws H) (q0 t0 : Nat) {cA : ClassId} {n : Nat} {f : Nat → UInt32} (ha : ws[q0]? = some (a, .inl (cA, n, .inr (.inr (.inl f))))) (ht : tys[t0]? = some (cA, .float)) {i : Int32} {x : UInt32} (hout : ¬ vp_in i n) (hdg : decode cc pc = .ok (.fastore, 1))
    (k : ∀ tx : String, tx = (toString "Index " ++ toString i ++ toString " out of bounds for length " ++ toString n : String) → vx_Note p l e R s m args below meth c H locs cells slots Q (F0 m pc ls rest) "java/lang/ArrayIndexOutOfBoundsException" tx) : W p l e R s m args below meth c H locs cells slots Q (F0 m pc ls (.float x :: .int i :: .ref a :: rest)) := by
  intro T hT X
  obtain ⟨t, st, q⟩ := k _ rfl T hT X
  refine ⟨t, ?_, q⟩
  have h1 := X.fastoreOut hexec (by rw [hT]; exact hP q0 _ ha) ((hK.2 t0 _ ht).1 n (fun j => .float (f j))) (j := i) (by show (i < 0 ∨ (arrV _ _ _).slots.size ≤ _); rw [arrV_size]; exact Classical.byContradiction hout) (g := F0 m pc ls (.float x :: .int i :: .ref a :: rest)) rfl (rest := rest) rfl (by rw [hb]; exact hdg) t
  simp only [arrV_size] at h1
  exact h1 st
theorem vx_daldZ {D : va_G} {cl : List vw_C} {ws : va_W} {tys : List (ClassId × FieldType)} {a : Nat} (hexec : p.tables.exec = Jvm.exec) (hb : c.code = cc) (hK : va_K D cl tys s) (hP : va_P D cl ws H) (q0 t0 : Nat) {cA : ClassId} {n : Nat} {f : Nat → UInt64} (ha : ws[q0]? = some (a, .inl (cA, n, .inr (.inr (.inr (.inl f)))))) (ht : tys[t0]? = some (cA, .double)) {i : Int32} (hout : ¬ vp_in i n) (hdg : decode cc pc = .ok (.daload, 1))
    (k : ∀ tx : String, tx = (toString "Index " ++ toString i ++ toString " out of bounds for length " ++ toString n : String) → vx_Note p l e R s m args below meth c H locs cells slots Q (F0 m pc ls rest) "java/lang/ArrayIndexOutOfBoundsException" tx) : W p l e R s m args below meth c H locs cells slots Q (F0 m pc ls (.int i :: .ref a :: rest)) := by
  intro T hT X
  obtain ⟨t, st, q⟩ := k _ rfl T hT X
  refine ⟨t, ?_, q⟩
  have h1 := X.daloadOut hexec (by rw [hT]; exact hP q0 _ ha) ((hK.2 t0 _ ht).1 n (fun j => .double (f j))) (j := i) (by show (i < 0 ∨ (arrV _ _ _).slots.size ≤ _); rw [arrV_size]; exact Classical.byContradiction hout) (g := F0 m pc ls (.int i :: .ref a :: rest)) rfl (rest := rest) rfl (by rw [hb]; exact hdg) t
  simp only [arrV_size] at h1
  exact h1 st
theorem vx_dastZ {D : va_G} {cl : List vw_C} {ws : va_W} {tys : List (ClassId × FieldType)} {a : Nat} (hexec : p.tables.exec = Jvm.exec) (hb : c.code = cc) (hK : va_K D cl tys s) (hP : va_P D cl ws H) (q0 t0 : Nat) {cA : ClassId} {n : Nat} {f : Nat → UInt64} (ha : ws[q0]? = some (a, .inl (cA, n, .inr (.inr (.inr (.inl f)))))) (ht : tys[t0]? = some (cA, .double)) {i : Int32} {x : UInt64} (hout : ¬ vp_in i n) (hdg : decode cc pc = .ok (.dastore, 1))
    (k : ∀ tx : String, tx = (toString "Index " ++ toString i ++ toString " out of bounds for length " ++ toString n : String) → vx_Note p l e R s m args below meth c H locs cells slots Q (F0 m pc ls rest) "java/lang/ArrayIndexOutOfBoundsException" tx) : W p l e R s m args below meth c H locs cells slots Q (F0 m pc ls (.double x :: .int i :: .ref a :: rest)) := by
  intro T hT X
  obtain ⟨t, st, q⟩ := k _ rfl T hT X
  refine ⟨t, ?_, q⟩
  have h1 := X.dastoreOut hexec (by rw [hT]; exact hP q0 _ ha) ((hK.2 t0 _ ht).1 n (fun j => .double (f j))) (j := i) (by show (i < 0 ∨ (arrV _ _ _).slots.size ≤ _); rw [arrV_size]; exact Classical.byContradiction hout) (g := F0 m pc ls (.double x :: .int i :: .ref a :: rest)) rfl (rest := rest) rfl (by rw [hb]; exact hdg) t
  simp only [arrV_size] at h1
  exact h1 st
theorem vx_arraylengthN (hexec : p.tables.exec = Jvm.exec) (hb : c.code = cc) (hdg : decode cc pc = .ok (.arraylength, 1)) (k : vx_NoteN p l e R s m args below meth c H locs cells slots Q (F0 m pc ls rest)) : W p l e R s m args below meth c H locs cells slots Q (F0 m pc ls (.null :: rest)) := by
  intro T hT X
  obtain ⟨t, st, q⟩ := k T hT X
  exact ⟨t, X.arraylengthNull hexec (g := F0 m pc ls (.null :: rest)) rfl (rest := rest) rfl (by rw [hb]; exact hdg) t st, q⟩
theorem vx_ialoadN (hexec : p.tables.exec = Jvm.exec) (hb : c.code = cc) {i : Int32} (hdg : decode cc pc = .ok (.iaload, 1)) (k : vx_NoteN p l e R s m args below meth c H locs cells slots Q (F0 m pc ls rest)) : W p l e R s m args below meth c H locs cells slots Q (F0 m pc ls (.int i :: .null :: rest)) := by
  intro T hT X
  obtain ⟨t, st, q⟩ := k T hT X
  exact ⟨t, X.ialoadNull hexec (g := F0 m pc ls (.int i :: .null :: rest)) rfl (rest := rest) rfl (by rw [hb]; exact hdg) t st, q⟩
theorem vx_laloadN (hexec : p.tables.exec = Jvm.exec) (hb : c.code = cc) {i : Int32} (hdg : decode cc pc = .ok (.laload, 1)) (k : vx_NoteN p l e R s m args below meth c H locs cells slots Q (F0 m pc ls rest)) : W p l e R s m args below meth c H locs cells slots Q (F0 m pc ls (.int i :: .null :: rest)) := by
  intro T hT X
  obtain ⟨t, st, q⟩ := k T hT X
  exact ⟨t, X.laloadNull hexec (g := F0 m pc ls (.int i :: .null :: rest)) rfl (rest := rest) rfl (by rw [hb]; exact hdg) t st, q⟩
theorem vx_faloadN (hexec : p.tables.exec = Jvm.exec) (hb : c.code = cc) {i : Int32} (hdg : decode cc pc = .ok (.faload, 1)) (k : vx_NoteN p l e R s m args below meth c H locs cells slots Q (F0 m pc ls rest)) : W p l e R s m args below meth c H locs cells slots Q (F0 m pc ls (.int i :: .null :: rest)) := by
  intro T hT X
  obtain ⟨t, st, q⟩ := k T hT X
  exact ⟨t, X.faloadNull hexec (g := F0 m pc ls (.int i :: .null :: rest)) rfl (rest := rest) rfl (by rw [hb]; exact hdg) t st, q⟩
theorem vx_daloadN (hexec : p.tables.exec = Jvm.exec) (hb : c.code = cc) {i : Int32} (hdg : decode cc pc = .ok (.daload, 1)) (k : vx_NoteN p l e R s m args below meth c H locs cells slots Q (F0 m pc ls rest)) : W p l e R s m args below meth c H locs cells slots Q (F0 m pc ls (.int i :: .null :: rest)) := by
  intro T hT X
  obtain ⟨t, st, q⟩ := k T hT X
  exact ⟨t, X.daloadNull hexec (g := F0 m pc ls (.int i :: .null :: rest)) rfl (rest := rest) rfl (by rw [hb]; exact hdg) t st, q⟩
theorem vx_aaloadN (hexec : p.tables.exec = Jvm.exec) (hb : c.code = cc) {i : Int32} (hdg : decode cc pc = .ok (.aaload, 1)) (k : vx_NoteN p l e R s m args below meth c H locs cells slots Q (F0 m pc ls rest)) : W p l e R s m args below meth c H locs cells slots Q (F0 m pc ls (.int i :: .null :: rest)) := by
  intro T hT X
  obtain ⟨t, st, q⟩ := k T hT X
  exact ⟨t, X.aaloadNull hexec (g := F0 m pc ls (.int i :: .null :: rest)) rfl (rest := rest) rfl (by rw [hb]; exact hdg) t st, q⟩
theorem vx_baloadN (hexec : p.tables.exec = Jvm.exec) (hb : c.code = cc) {i : Int32} (hdg : decode cc pc = .ok (.baload, 1)) (k : vx_NoteN p l e R s m args below meth c H locs cells slots Q (F0 m pc ls rest)) : W p l e R s m args below meth c H locs cells slots Q (F0 m pc ls (.int i :: .null :: rest)) := by
  intro T hT X
  obtain ⟨t, st, q⟩ := k T hT X
  exact ⟨t, X.baloadNull hexec (g := F0 m pc ls (.int i :: .null :: rest)) rfl (rest := rest) rfl (by rw [hb]; exact hdg) t st, q⟩
theorem vx_caloadN (hexec : p.tables.exec = Jvm.exec) (hb : c.code = cc) {i : Int32} (hdg : decode cc pc = .ok (.caload, 1)) (k : vx_NoteN p l e R s m args below meth c H locs cells slots Q (F0 m pc ls rest)) : W p l e R s m args below meth c H locs cells slots Q (F0 m pc ls (.int i :: .null :: rest)) := by
  intro T hT X
  obtain ⟨t, st, q⟩ := k T hT X
  exact ⟨t, X.caloadNull hexec (g := F0 m pc ls (.int i :: .null :: rest)) rfl (rest := rest) rfl (by rw [hb]; exact hdg) t st, q⟩
theorem vx_saloadN (hexec : p.tables.exec = Jvm.exec) (hb : c.code = cc) {i : Int32} (hdg : decode cc pc = .ok (.saload, 1)) (k : vx_NoteN p l e R s m args below meth c H locs cells slots Q (F0 m pc ls rest)) : W p l e R s m args below meth c H locs cells slots Q (F0 m pc ls (.int i :: .null :: rest)) := by
  intro T hT X
  obtain ⟨t, st, q⟩ := k T hT X
  exact ⟨t, X.saloadNull hexec (g := F0 m pc ls (.int i :: .null :: rest)) rfl (rest := rest) rfl (by rw [hb]; exact hdg) t st, q⟩
theorem vx_iastoreN (hexec : p.tables.exec = Jvm.exec) (hb : c.code = cc) {x : Int32} {i : Int32} (hdg : decode cc pc = .ok (.iastore, 1)) (k : vx_NoteN p l e R s m args below meth c H locs cells slots Q (F0 m pc ls rest)) : W p l e R s m args below meth c H locs cells slots Q (F0 m pc ls (.int x :: .int i :: .null :: rest)) := by
  intro T hT X
  obtain ⟨t, st, q⟩ := k T hT X
  exact ⟨t, X.iastoreNull hexec (g := F0 m pc ls (.int x :: .int i :: .null :: rest)) rfl (rest := rest) rfl (by rw [hb]; exact hdg) t st, q⟩
theorem vx_lastoreN (hexec : p.tables.exec = Jvm.exec) (hb : c.code = cc) {x : Int64} {i : Int32} (hdg : decode cc pc = .ok (.lastore, 1)) (k : vx_NoteN p l e R s m args below meth c H locs cells slots Q (F0 m pc ls rest)) : W p l e R s m args below meth c H locs cells slots Q (F0 m pc ls (.long x :: .int i :: .null :: rest)) := by
  intro T hT X
  obtain ⟨t, st, q⟩ := k T hT X
  exact ⟨t, X.lastoreNull hexec (g := F0 m pc ls (.long x :: .int i :: .null :: rest)) rfl (rest := rest) rfl (by rw [hb]; exact hdg) t st, q⟩
theorem vx_fastoreN (hexec : p.tables.exec = Jvm.exec) (hb : c.code = cc) {x : UInt32} {i : Int32} (hdg : decode cc pc = .ok (.fastore, 1)) (k : vx_NoteN p l e R s m args below meth c H locs cells slots Q (F0 m pc ls rest)) : W p l e R s m args below meth c H locs cells slots Q (F0 m pc ls (.float x :: .int i :: .null :: rest)) := by
  intro T hT X
  obtain ⟨t, st, q⟩ := k T hT X
  exact ⟨t, X.fastoreNull hexec (g := F0 m pc ls (.float x :: .int i :: .null :: rest)) rfl (rest := rest) rfl (by rw [hb]; exact hdg) t st, q⟩
theorem vx_dastoreN (hexec : p.tables.exec = Jvm.exec) (hb : c.code = cc) {x : UInt64} {i : Int32} (hdg : decode cc pc = .ok (.dastore, 1)) (k : vx_NoteN p l e R s m args below meth c H locs cells slots Q (F0 m pc ls rest)) : W p l e R s m args below meth c H locs cells slots Q (F0 m pc ls (.double x :: .int i :: .null :: rest)) := by
  intro T hT X
  obtain ⟨t, st, q⟩ := k T hT X
  exact ⟨t, X.dastoreNull hexec (g := F0 m pc ls (.double x :: .int i :: .null :: rest)) rfl (rest := rest) rfl (by rw [hb]; exact hdg) t st, q⟩
theorem vx_bastoreN (hexec : p.tables.exec = Jvm.exec) (hb : c.code = cc) {x : Int32} {i : Int32} (hdg : decode cc pc = .ok (.bastore, 1)) (k : vx_NoteN p l e R s m args below meth c H locs cells slots Q (F0 m pc ls rest)) : W p l e R s m args below meth c H locs cells slots Q (F0 m pc ls (.int x :: .int i :: .null :: rest)) := by
  intro T hT X
  obtain ⟨t, st, q⟩ := k T hT X
  exact ⟨t, X.bastoreNull hexec (g := F0 m pc ls (.int x :: .int i :: .null :: rest)) rfl (rest := rest) rfl (by rw [hb]; exact hdg) t st, q⟩
theorem vx_castoreN (hexec : p.tables.exec = Jvm.exec) (hb : c.code = cc) {x : Int32} {i : Int32} (hdg : decode cc pc = .ok (.castore, 1)) (k : vx_NoteN p l e R s m args below meth c H locs cells slots Q (F0 m pc ls rest)) : W p l e R s m args below meth c H locs cells slots Q (F0 m pc ls (.int x :: .int i :: .null :: rest)) := by
  intro T hT X
  obtain ⟨t, st, q⟩ := k T hT X
  exact ⟨t, X.castoreNull hexec (g := F0 m pc ls (.int x :: .int i :: .null :: rest)) rfl (rest := rest) rfl (by rw [hb]; exact hdg) t st, q⟩
theorem vx_sastoreN (hexec : p.tables.exec = Jvm.exec) (hb : c.code = cc) {x : Int32} {i : Int32} (hdg : decode cc pc = .ok (.sastore, 1)) (k : vx_NoteN p l e R s m args below meth c H locs cells slots Q (F0 m pc ls rest)) : W p l e R s m args below meth c H locs cells slots Q (F0 m pc ls (.int x :: .int i :: .null :: rest)) := by
  intro T hT X
  obtain ⟨t, st, q⟩ := k T hT X
  exact ⟨t, X.sastoreNull hexec (g := F0 m pc ls (.int x :: .int i :: .null :: rest)) rfl (rest := rest) rfl (by rw [hb]; exact hdg) t st, q⟩
theorem vx_invokeN {own C : String} {index maxL : Nat} {y : MethodName} {bytes : ByteArray} {ret : Option FieldType} (hexec : p.tables.exec = Jvm.exec) (hb : c.code = cc) (hown : s.vm.findClass own = some m.cls) (hlink : (Cond.methodLink own index y).before args s = true) (hinst : (Cond.instanceMethod y).before args s = true) (hcode : (Cond.code y bytes maxL ret).before args s = true) (hsel : (Cond.selects C y y).before args s = true)
    (hx : y.cls ≠ "java/lang/invoke/MethodHandle" ∧ y.cls ≠ "java/lang/invoke/VarHandle") {As : List Value} (hlen : (parseMethodDescriptor y.desc).map (fun d => d.parameters.length) = some As.length) (hdg : decode cc pc = .ok (.invokevirtual index, 3))
    (k : vx_NoteN p l e R s m args below meth c H locs cells slots Q (F0 m pc ls rest)) {st0 : List Value} (hst : st0 = As.reverse ++ .null :: rest) : W p l e R s m args below meth c H locs cells slots Q (F0 m pc ls st0) := by
  intro T hT X
  obtain ⟨r0, r, hn, hrm, hstR, hsigR⟩ := va_Decl.of hinst hcode
  obtain ⟨c2, r2, m2, q1, q2, q3, q4, kP, hkP, hkPi⟩ := Cond.selects_spec hsel
  cases hn.symm.trans q3
  have hl9 : As.length = r.sig.parameters.length := by
    rw [hsigR] at hlen
    exact (Option.some.inj hlen).symm
  obtain ⟨vm', X1, st1⟩ := X.invokevirtualNull hexec hown hlink hn hrm hstR hkP hkPi hx (g := F0 m pc ls st0) rfl (argsL := As) (rest := rest) hl9 hst (by rw [hb]; exact hdg)
  obtain ⟨t, st, q⟩ := k (T.setVm vm') hT X1
  exact ⟨t, st1 t st, q⟩
theorem vx_newarrayZ {atype : ArrayType} (hexec : p.tables.exec = Jvm.exec) (hb : c.code = cc) {n : Int32} (h0 : n < 0) (hdg : decode cc pc = .ok (.newarray atype, 2)) (k : ∀ tx : String, tx = toString n → vx_Note p l e R s m args below meth c H locs cells slots Q (F0 m pc ls rest) "java/lang/NegativeArraySizeException" tx) : W p l e R s m args below meth c H locs cells slots Q (F0 m pc ls (.int n :: rest)) := by
  intro T hT X
  obtain ⟨t, st, q⟩ := k _ rfl T hT X
  exact ⟨t, X.newarrayNegative hexec (g := F0 m pc ls (.int n :: rest)) rfl h0 (rest := rest) rfl (by rw [hb]; exact hdg) t st, q⟩
end
end VXM
/-! ===== END ===== -/
end
section
/-! ===== BEGIN printed: names, fields, word lists, decode rows ===== -/
def RX0 : String := "FeatureSolve$Choices"
def TX0 : u_T := fun k => match k with
  | 0 => ("FeatureSolve$Choices", "size", "I", false)
  | 1 => ("FeatureSolve$Choices", "must", "I", false)
  | 2 => ("FeatureSolve$Choices", "mustNot", "I", false)
  | _ => ("FeatureSolve$Choices", "told", "[I", true)
def tyX0 : Nat → FieldType := fun k => match k with
  | 0 => .int
  | 1 => .int
  | 2 => .int
  | _ => .array .int
abbrev wsX00 : List Cond := u_ws RX0 TX0 4
theorem nmX0 : ∀ a, a < 4 → ∀ b, b < 4 → a ≠ b → (TX0 a).2.1 ≠ (TX0 b).2.1 := by decide +kernel
theorem tyX0_ok : ∀ k, k < 4 → parseFieldDescriptor (TX0 k).2.2.1 = some (tyX0 k) := by decide +kernel
abbrev cX0_init : ByteArray := prog_2_method_1_code
def yX0_init : MethodName := ⟨RX0, "<init>", "()V"⟩
abbrev cX0_get : ByteArray := prog_2_method_2_code
def yX0_get : MethodName := ⟨RX0, "get", "(I)I"⟩
abbrev cX0_tell : ByteArray := prog_2_method_3_code
def yX0_tell : MethodName := ⟨RX0, "tell", "(IZ)V"⟩
abbrev cX0_drop : ByteArray := prog_2_method_4_code
def yX0_drop : MethodName := ⟨RX0, "drop", "(I)V"⟩
def RX1 : String := "FeatureSolve$Formulas"
def TX1 : u_T := fun k => match k with
  | 0 => ("FeatureSolve$Formulas", "size", "I", false)
  | 1 => ("FeatureSolve$Formulas", "ops", "[I", true)
  | 2 => ("FeatureSolve$Formulas", "leftBits", "[I", true)
  | 3 => ("FeatureSolve$Formulas", "leftWants", "[I", true)
  | 4 => ("FeatureSolve$Formulas", "rightBits", "[I", true)
  | _ => ("FeatureSolve$Formulas", "rightWants", "[I", true)
def tyX1 : Nat → FieldType := fun k => match k with
  | 0 => .int
  | 1 => .array .int
  | 2 => .array .int
  | 3 => .array .int
  | 4 => .array .int
  | _ => .array .int
abbrev wsX10 : List Cond := u_ws RX1 TX1 6
theorem nmX1 : ∀ a, a < 6 → ∀ b, b < 6 → a ≠ b → (TX1 a).2.1 ≠ (TX1 b).2.1 := by decide +kernel
theorem tyX1_ok : ∀ k, k < 6 → parseFieldDescriptor (TX1 k).2.2.1 = some (tyX1 k) := by decide +kernel
abbrev cX1_init : ByteArray := prog_3_method_1_code
def yX1_init : MethodName := ⟨RX1, "<init>", "()V"⟩
abbrev cX1_add : ByteArray := prog_3_method_2_code
def yX1_add : MethodName := ⟨RX1, "add", "(III)I"⟩
abbrev cX1_keeps : ByteArray := prog_3_method_3_code
def yX1_keeps : MethodName := ⟨RX1, "keeps", "(I)Z"⟩
abbrev cX1_isAlwaysTrue : ByteArray := prog_3_method_4_code
def yX1_isAlwaysTrue : MethodName := ⟨RX1, "isAlwaysTrue", "(III)Z"⟩
abbrev cX1_holdsIn : ByteArray := prog_3_method_5_code
def yX1_holdsIn : MethodName := ⟨RX1, "holdsIn", "(IIII)Z"⟩
abbrev cX1_holds : ByteArray := prog_3_method_6_code
def yX1_holds : MethodName := ⟨RX1, "holds", "(IZZ)Z"⟩
abbrev cX1_bitOf : ByteArray := prog_3_method_7_code
def yX1_bitOf : MethodName := ⟨RX1, "bitOf", "(I)I"⟩
def RX2 : String := "FeatureSolve$Found"
def TX2 : u_T := fun k => match k with
  | 0 => ("FeatureSolve$Found", "last", "I", false)
  | 1 => ("FeatureSolve$Found", "size", "I", false)
  | _ => ("FeatureSolve$Found", "kept", "[I", true)
def tyX2 : Nat → FieldType := fun k => match k with
  | 0 => .int
  | 1 => .int
  | _ => .array .int
abbrev wsX20 : List Cond := u_ws RX2 TX2 3
theorem nmX2 : ∀ a, a < 3 → ∀ b, b < 3 → a ≠ b → (TX2 a).2.1 ≠ (TX2 b).2.1 := by decide +kernel
theorem tyX2_ok : ∀ k, k < 3 → parseFieldDescriptor (TX2 k).2.2.1 = some (tyX2 k) := by decide +kernel
abbrev cX2_init : ByteArray := prog_4_method_1_code
def yX2_init : MethodName := ⟨RX2, "<init>", "()V"⟩
abbrev cX2_keep : ByteArray := prog_4_method_2_code
def yX2_keep : MethodName := ⟨RX2, "keep", "(I)V"⟩
abbrev cX2_keepNone : ByteArray := prog_4_method_3_code
def yX2_keepNone : MethodName := ⟨RX2, "keepNone", "()V"⟩
abbrev cX2_has : ByteArray := prog_4_method_4_code
def yX2_has : MethodName := ⟨RX2, "has", "(I)Z"⟩
abbrev cX2_get : ByteArray := prog_4_method_5_code
def yX2_get : MethodName := ⟨RX2, "get", "(I)I"⟩
def RX3 : String := "FeatureSolve$Reason"
def TX3 : u_T := fun k => match k with
  | 0 => ("FeatureSolve$Reason", "size", "I", false)
  | _ => ("FeatureSolve$Reason", "left", "[I", true)
def tyX3 : Nat → FieldType := fun k => match k with
  | 0 => .int
  | _ => .array .int
abbrev wsX30 : List Cond := u_ws RX3 TX3 2
theorem nmX3 : ∀ a, a < 2 → ∀ b, b < 2 → a ≠ b → (TX3 a).2.1 ≠ (TX3 b).2.1 := by decide +kernel
theorem tyX3_ok : ∀ k, k < 2 → parseFieldDescriptor (TX3 k).2.2.1 = some (tyX3 k) := by decide +kernel
abbrev cX3_init : ByteArray := prog_5_method_1_code
def yX3_init : MethodName := ⟨RX3, "<init>", "()V"⟩
abbrev cX3_clear : ByteArray := prog_5_method_2_code
def yX3_clear : MethodName := ⟨RX3, "clear", "()V"⟩
abbrev cX3_add : ByteArray := prog_5_method_3_code
def yX3_add : MethodName := ⟨RX3, "add", "(I)V"⟩
abbrev cX3_get : ByteArray := prog_5_method_4_code
def yX3_get : MethodName := ⟨RX3, "get", "(I)I"⟩
def RX4 : String := "FeatureSolve$Sums"
def TX4 : u_T := fun k => match k with
  | 0 => ("FeatureSolve$Sums", "values", "[I", true)
  | _ => ("FeatureSolve$Sums", "limits", "[I", true)
def tyX4 : Nat → FieldType := fun k => match k with
  | 0 => .array .int
  | _ => .array .int
abbrev wsX40 : List Cond := u_ws RX4 TX4 2
theorem nmX4 : ∀ a, a < 2 → ∀ b, b < 2 → a ≠ b → (TX4 a).2.1 ≠ (TX4 b).2.1 := by decide +kernel
theorem tyX4_ok : ∀ k, k < 2 → parseFieldDescriptor (TX4 k).2.2.1 = some (tyX4 k) := by decide +kernel
abbrev cX4_init : ByteArray := prog_6_method_1_code
def yX4_init : MethodName := ⟨RX4, "<init>", "()V"⟩
abbrev cX4_set : ByteArray := prog_6_method_2_code
def yX4_set : MethodName := ⟨RX4, "set", "(III)V"⟩
abbrev cX4_limit : ByteArray := prog_6_method_3_code
def yX4_limit : MethodName := ⟨RX4, "limit", "(II)V"⟩
abbrev cX4_keeps : ByteArray := prog_6_method_4_code
def yX4_keeps : MethodName := ⟨RX4, "keeps", "(I)Z"⟩
def RX5 : String := "FeatureSolve$Tree"
def TX5 : u_T := fun k => match k with
  | 0 => ("FeatureSolve$Tree", "size", "I", false)
  | 1 => ("FeatureSolve$Tree", "kinds", "[I", true)
  | 2 => ("FeatureSolve$Tree", "depths", "[I", true)
  | 3 => ("FeatureSolve$Tree", "parentBits", "[I", true)
  | 4 => ("FeatureSolve$Tree", "groupedBits", "[I", true)
  | 5 => ("FeatureSolve$Tree", "least", "[I", true)
  | 6 => ("FeatureSolve$Tree", "most", "[I", true)
  | _ => ("FeatureSolve$Tree", "bounded", "I", false)
def tyX5 : Nat → FieldType := fun k => match k with
  | 0 => .int
  | 1 => .array .int
  | 2 => .array .int
  | 3 => .array .int
  | 4 => .array .int
  | 5 => .array .int
  | 6 => .array .int
  | _ => .int
abbrev wsX50 : List Cond := u_ws RX5 TX5 8
theorem nmX5 : ∀ a, a < 8 → ∀ b, b < 8 → a ≠ b → (TX5 a).2.1 ≠ (TX5 b).2.1 := by decide +kernel
theorem tyX5_ok : ∀ k, k < 8 → parseFieldDescriptor (TX5 k).2.2.1 = some (tyX5 k) := by decide +kernel
abbrev cX5_init : ByteArray := prog_7_method_1_code
def yX5_init : MethodName := ⟨RX5, "<init>", "()V"⟩
abbrev cX5_has : ByteArray := prog_7_method_2_code
def yX5_has : MethodName := ⟨RX5, "has", "(I)Z"⟩
abbrev cX5_hasSigned : ByteArray := prog_7_method_3_code
def yX5_hasSigned : MethodName := ⟨RX5, "hasSigned", "(I)Z"⟩
abbrev cX5_takesParent : ByteArray := prog_7_method_4_code
def yX5_takesParent : MethodName := ⟨RX5, "takesParent", "(I)Z"⟩
abbrev cX5_add : ByteArray := prog_7_method_5_code
def yX5_add : MethodName := ⟨RX5, "add", "(II)I"⟩
abbrev cX5_bound : ByteArray := prog_7_method_6_code
def yX5_bound : MethodName := ⟨RX5, "bound", "(III)I"⟩
abbrev cX5_above : ByteArray := prog_7_method_7_code
def yX5_above : MethodName := ⟨RX5, "above", "(I)I"⟩
abbrev cX5_mayBeIn : ByteArray := prog_7_method_8_code
def yX5_mayBeIn : MethodName := ⟨RX5, "mayBeIn", "(II)Z"⟩
abbrev cX5_mayBeOut : ByteArray := prog_7_method_9_code
def yX5_mayBeOut : MethodName := ⟨RX5, "mayBeOut", "(II)Z"⟩
abbrev cX5_keepsGroups : ByteArray := prog_7_method_10_code
def yX5_keepsGroups : MethodName := ⟨RX5, "keepsGroups", "(I)Z"⟩
def RX6 : String := "FeatureSolve$Variants"
def TX6 : u_T := fun k => match k with
  | 0 => ("FeatureSolve$Variants", "tree", "LFeatureSolve$Tree;", true)
  | 1 => ("FeatureSolve$Variants", "formulas", "LFeatureSolve$Formulas;", true)
  | 2 => ("FeatureSolve$Variants", "sums", "LFeatureSolve$Sums;", true)
  | 3 => ("FeatureSolve$Variants", "row", "[I", true)
  | 4 => ("FeatureSolve$Variants", "size", "I", false)
  | _ => ("FeatureSolve$Variants", "upToDate", "Z", false)
def tyX6 : Nat → FieldType := fun k => match k with
  | 0 => .object "FeatureSolve$Tree"
  | 1 => .object "FeatureSolve$Formulas"
  | 2 => .object "FeatureSolve$Sums"
  | 3 => .array .int
  | 4 => .int
  | _ => .boolean
abbrev wsX60 : List Cond := u_ws RX6 TX6 6
theorem nmX6 : ∀ a, a < 6 → ∀ b, b < 6 → a ≠ b → (TX6 a).2.1 ≠ (TX6 b).2.1 := by decide +kernel
theorem tyX6_ok : ∀ k, k < 6 → parseFieldDescriptor (TX6 k).2.2.1 = some (tyX6 k) := by decide +kernel
abbrev cX6_init : ByteArray := prog_8_method_1_code
def yX6_init : MethodName := ⟨RX6, "<init>", "()V"⟩
abbrev cX6_outdate : ByteArray := prog_8_method_2_code
def yX6_outdate : MethodName := ⟨RX6, "outdate", "()V"⟩
abbrev cX6_first : ByteArray := prog_8_method_3_code
def yX6_first : MethodName := ⟨RX6, "first", "(II)I"⟩
abbrev cX6_number : ByteArray := prog_8_method_4_code
def yX6_number : MethodName := ⟨RX6, "number", "(II)I"⟩
abbrev cX6_inAll : ByteArray := prog_8_method_5_code
def yX6_inAll : MethodName := ⟨RX6, "inAll", "(II)I"⟩
abbrev cX6_inSome : ByteArray := prog_8_method_6_code
def yX6_inSome : MethodName := ⟨RX6, "inSome", "(II)I"⟩
abbrev cX6_fits : ByteArray := prog_8_method_7_code
def yX6_fits : MethodName := ⟨RX6, "fits", "(III)Z"⟩
abbrev cX6_update : ByteArray := prog_8_method_8_code
def yX6_update : MethodName := ⟨RX6, "update", "()V"⟩
abbrev cX6_branch : ByteArray := prog_8_method_9_code
def yX6_branch : MethodName := ⟨RX6, "branch", "(I)V"⟩
abbrev cX6_dropUnkept : ByteArray := prog_8_method_10_code
def yX6_dropUnkept : MethodName := ⟨RX6, "dropUnkept", "()V"⟩
def RX7 : String := "FeatureSolve"
def TX7 : u_T := fun k => match k with
  | 0 => ("FeatureSolve", "variants", "LFeatureSolve$Variants;", true)
  | 1 => ("FeatureSolve", "tree", "LFeatureSolve$Tree;", true)
  | 2 => ("FeatureSolve", "formulas", "LFeatureSolve$Formulas;", true)
  | 3 => ("FeatureSolve", "sums", "LFeatureSolve$Sums;", true)
  | 4 => ("FeatureSolve", "choices", "LFeatureSolve$Choices;", true)
  | 5 => ("FeatureSolve", "found", "LFeatureSolve$Found;", true)
  | _ => ("FeatureSolve", "reason", "LFeatureSolve$Reason;", true)
def tyX7 : Nat → FieldType := fun k => match k with
  | 0 => .object "FeatureSolve$Variants"
  | 1 => .object "FeatureSolve$Tree"
  | 2 => .object "FeatureSolve$Formulas"
  | 3 => .object "FeatureSolve$Sums"
  | 4 => .object "FeatureSolve$Choices"
  | 5 => .object "FeatureSolve$Found"
  | _ => .object "FeatureSolve$Reason"
abbrev wsX70 : List Cond := u_ws RX7 TX7 7
theorem nmX7 : ∀ a, a < 7 → ∀ b, b < 7 → a ≠ b → (TX7 a).2.1 ≠ (TX7 b).2.1 := by decide +kernel
theorem tyX7_ok : ∀ k, k < 7 → parseFieldDescriptor (TX7 k).2.2.1 = some (tyX7 k) := by decide +kernel
abbrev cX7_init : ByteArray := prog_1_method_1_code
def yX7_init : MethodName := ⟨RX7, "<init>", "()V"⟩
abbrev cX7_feature : ByteArray := prog_1_method_2_code
def yX7_feature : MethodName := ⟨RX7, "feature", "(II)I"⟩
abbrev cX7_group : ByteArray := prog_1_method_3_code
def yX7_group : MethodName := ⟨RX7, "group", "(III)I"⟩
abbrev cX7_formula : ByteArray := prog_1_method_4_code
def yX7_formula : MethodName := ⟨RX7, "formula", "(III)I"⟩
abbrev cX7_attribute : ByteArray := prog_1_method_5_code
def yX7_attribute : MethodName := ⟨RX7, "attribute", "(III)I"⟩
abbrev cX7_choose : ByteArray := prog_1_method_6_code
def yX7_choose : MethodName := ⟨RX7, "choose", "(IZ)I"⟩
abbrev cX7_solve : ByteArray := prog_1_method_7_code
def yX7_solve : MethodName := ⟨RX7, "solve", "()I"⟩
abbrev cX7_chosen : ByteArray := prog_1_method_8_code
def yX7_chosen : MethodName := ⟨RX7, "chosen", "(I)Z"⟩
abbrev cX7_why : ByteArray := prog_1_method_9_code
def yX7_why : MethodName := ⟨RX7, "why", "(I)I"⟩
abbrev cX7_count : ByteArray := prog_1_method_10_code
def yX7_count : MethodName := ⟨RX7, "count", "(J)J"⟩
abbrev cX7_forces : ByteArray := prog_1_method_11_code
def yX7_forces : MethodName := ⟨RX7, "forces", "(II)I"⟩
abbrev cX7_differ : ByteArray := prog_1_method_12_code
def yX7_differ : MethodName := ⟨RX7, "differ", "(II)I"⟩
abbrev cX7_level : ByteArray := prog_1_method_13_code
def yX7_level : MethodName := ⟨RX7, "level", "(I)I"⟩
abbrev cX7_forced : ByteArray := prog_1_method_14_code
def yX7_forced : MethodName := ⟨RX7, "forced", "(IIII)I"⟩
abbrev cX7_explain : ByteArray := prog_1_method_15_code
def yX7_explain : MethodName := ⟨RX7, "explain", "()V"⟩
abbrev cX7_bit : ByteArray := prog_1_method_16_code
def yX7_bit : MethodName := ⟨RX7, "bit", "(I)I"⟩
abbrev cX7_at : ByteArray := prog_1_method_17_code
def yX7_at : MethodName := ⟨RX7, "at", "([II)I"⟩
abbrev cX7_put : ByteArray := prog_1_method_18_code
def yX7_put : MethodName := ⟨RX7, "put", "([III)V"⟩
def RX8 : String := "FeatureSolveModel"
def TX8 : u_T := fun k => match k with
  | 0 => ("FeatureSolveModel", "thrown", "I", false)
  | 1 => ("FeatureSolveModel", "parents", "[I", true)
  | 2 => ("FeatureSolveModel", "kinds", "[I", true)
  | 3 => ("FeatureSolveModel", "grouped", "[Z", true)
  | 4 => ("FeatureSolveModel", "least", "[I", true)
  | 5 => ("FeatureSolveModel", "most", "[I", true)
  | 6 => ("FeatureSolveModel", "sums", "[I", true)
  | 7 => ("FeatureSolveModel", "features", "I", false)
  | 8 => ("FeatureSolveModel", "ops", "[I", true)
  | 9 => ("FeatureSolveModel", "as", "[I", true)
  | 10 => ("FeatureSolveModel", "bs", "[I", true)
  | 11 => ("FeatureSolveModel", "formulas", "I", false)
  | 12 => ("FeatureSolveModel", "limited", "[Z", true)
  | 13 => ("FeatureSolveModel", "limits", "[I", true)
  | 14 => ("FeatureSolveModel", "choices", "[I", true)
  | 15 => ("FeatureSolveModel", "choiceCount", "I", false)
  | 16 => ("FeatureSolveModel", "known", "Z", false)
  | 17 => ("FeatureSolveModel", "sets", "[I", true)
  | 18 => ("FeatureSolveModel", "setCount", "I", false)
  | 19 => ("FeatureSolveModel", "found", "[I", true)
  | 20 => ("FeatureSolveModel", "foundCount", "I", false)
  | 21 => ("FeatureSolveModel", "foundFeatures", "[I", true)
  | 22 => ("FeatureSolveModel", "solved", "Z", false)
  | 23 => ("FeatureSolveModel", "last", "I", false)
  | 24 => ("FeatureSolveModel", "lastFeatures", "I", false)
  | 25 => ("FeatureSolveModel", "whys", "[I", true)
  | _ => ("FeatureSolveModel", "whyCount", "I", false)
def tyX8 : Nat → FieldType := fun k => match k with
  | 0 => .int
  | 1 => .array .int
  | 2 => .array .int
  | 3 => .array .boolean
  | 4 => .array .int
  | 5 => .array .int
  | 6 => .array .int
  | 7 => .int
  | 8 => .array .int
  | 9 => .array .int
  | 10 => .array .int
  | 11 => .int
  | 12 => .array .boolean
  | 13 => .array .int
  | 14 => .array .int
  | 15 => .int
  | 16 => .boolean
  | 17 => .array .int
  | 18 => .int
  | 19 => .array .int
  | 20 => .int
  | 21 => .array .int
  | 22 => .boolean
  | 23 => .int
  | 24 => .int
  | 25 => .array .int
  | _ => .int
abbrev wsX80 : List Cond := u_ws RX8 TX8 27
theorem nmX8 : ∀ a, a < 27 → ∀ b, b < 27 → a ≠ b → (TX8 a).2.1 ≠ (TX8 b).2.1 := by decide +kernel
theorem tyX8_ok : ∀ k, k < 27 → parseFieldDescriptor (TX8 k).2.2.1 = some (tyX8 k) := by decide +kernel
abbrev cX8_init : ByteArray := prog_10_method_1_code
def yX8_init : MethodName := ⟨RX8, "<init>", "()V"⟩
abbrev cX8_thrown : ByteArray := prog_10_method_2_code
def yX8_thrown : MethodName := ⟨RX8, "thrown", "()I"⟩
abbrev cX8_isFeature : ByteArray := prog_10_method_3_code
def yX8_isFeature : MethodName := ⟨RX8, "isFeature", "(I)Z"⟩
abbrev cX8_feature : ByteArray := prog_10_method_4_code
def yX8_feature : MethodName := ⟨RX8, "feature", "(II)I"⟩
abbrev cX8_groupedBelow : ByteArray := prog_10_method_5_code
def yX8_groupedBelow : MethodName := ⟨RX8, "groupedBelow", "(I)I"⟩
abbrev cX8_group : ByteArray := prog_10_method_6_code
def yX8_group : MethodName := ⟨RX8, "group", "(III)I"⟩
abbrev cX8_isLiteral : ByteArray := prog_10_method_7_code
def yX8_isLiteral : MethodName := ⟨RX8, "isLiteral", "(I)Z"⟩
abbrev cX8_formula : ByteArray := prog_10_method_8_code
def yX8_formula : MethodName := ⟨RX8, "formula", "(III)I"⟩
abbrev cX8_attribute : ByteArray := prog_10_method_9_code
def yX8_attribute : MethodName := ⟨RX8, "attribute", "(III)I"⟩
abbrev cX8_choiceOf : ByteArray := prog_10_method_10_code
def yX8_choiceOf : MethodName := ⟨RX8, "choiceOf", "(I)I"⟩
abbrev cX8_forget : ByteArray := prog_10_method_11_code
def yX8_forget : MethodName := ⟨RX8, "forget", "(I)V"⟩
abbrev cX8_choose : ByteArray := prog_10_method_12_code
def yX8_choose : MethodName := ⟨RX8, "choose", "(IZ)I"⟩
abbrev cX8_isIn : ByteArray := prog_10_method_13_code
def yX8_isIn : MethodName := ⟨RX8, "isIn", "(II)Z"⟩
abbrev cX8_holds : ByteArray := prog_10_method_14_code
def yX8_holds : MethodName := ⟨RX8, "holds", "(II)Z"⟩
abbrev cX8_keepsTree : ByteArray := prog_10_method_15_code
def yX8_keepsTree : MethodName := ⟨RX8, "keepsTree", "(I)Z"⟩
abbrev cX8_keepsFormulas : ByteArray := prog_10_method_16_code
def yX8_keepsFormulas : MethodName := ⟨RX8, "keepsFormulas", "(I)Z"⟩
abbrev cX8_keepsLimits : ByteArray := prog_10_method_17_code
def yX8_keepsLimits : MethodName := ⟨RX8, "keepsLimits", "(I)Z"⟩
abbrev cX8_know : ByteArray := prog_10_method_18_code
def yX8_know : MethodName := ⟨RX8, "know", "()V"⟩
abbrev cX8_keepsChoices : ByteArray := prog_10_method_19_code
def yX8_keepsChoices : MethodName := ⟨RX8, "keepsChoices", "(II)Z"⟩
abbrev cX8_firstWithout : ByteArray := prog_10_method_20_code
def yX8_firstWithout : MethodName := ⟨RX8, "firstWithout", "(I)I"⟩
abbrev cX8_solve : ByteArray := prog_10_method_21_code
def yX8_solve : MethodName := ⟨RX8, "solve", "()I"⟩
abbrev cX8_wasIn : ByteArray := prog_10_method_22_code
def yX8_wasIn : MethodName := ⟨RX8, "wasIn", "(III)Z"⟩
abbrev cX8_chosen : ByteArray := prog_10_method_23_code
def yX8_chosen : MethodName := ⟨RX8, "chosen", "(I)Z"⟩
abbrev cX8_why : ByteArray := prog_10_method_24_code
def yX8_why : MethodName := ⟨RX8, "why", "(I)I"⟩
abbrev cX8_count : ByteArray := prog_10_method_25_code
def yX8_count : MethodName := ⟨RX8, "count", "(J)J"⟩
abbrev cX8_forces : ByteArray := prog_10_method_26_code
def yX8_forces : MethodName := ⟨RX8, "forces", "(II)I"⟩
abbrev cX8_differ : ByteArray := prog_10_method_27_code
def yX8_differ : MethodName := ⟨RX8, "differ", "(II)I"⟩
abbrev cX8_level : ByteArray := prog_10_method_28_code
def yX8_level : MethodName := ⟨RX8, "level", "(I)I"⟩
def RJx00060 : String := "java/lang/ArrayIndexOutOfBoundsException"
def TJx00060 : u_T := fun k => match k with
  | 0 => ("java/lang/Throwable", "backtrace", "Ljava/lang/Object;", false)
  | 1 => ("java/lang/Throwable", "detailMessage", "Ljava/lang/String;", false)
  | 2 => ("java/lang/Throwable", "cause", "Ljava/lang/Throwable;", false)
  | 3 => ("java/lang/Throwable", "stackTrace", "[Ljava/lang/StackTraceElement;", false)
  | 4 => ("java/lang/Throwable", "depth", "I", false)
  | _ => ("java/lang/Throwable", "suppressedExceptions", "Ljava/util/List;", false)
def tyJx00060 : Nat → FieldType := fun k => match k with
  | 0 => .object "java/lang/Object"
  | 1 => .object "java/lang/String"
  | 2 => .object "java/lang/Throwable"
  | 3 => .array (.object "java/lang/StackTraceElement")
  | 4 => .int
  | _ => .object "java/util/List"
abbrev wsJx000600 : List Cond := u_ws RJx00060 TJx00060 6
theorem nmJx00060 : ∀ a, a < 6 → ∀ b, b < 6 → a ≠ b → (TJx00060 a).2.1 ≠ (TJx00060 b).2.1 := by decide +kernel
theorem tyJx00060_ok : ∀ k, k < 6 → parseFieldDescriptor (TJx00060 k).2.2.1 = some (tyJx00060 k) := by decide +kernel
abbrev cJx00060_init_da8c8 : ByteArray := prog_11_method_1_code
def yJx00060_init_da8c8 : MethodName := ⟨RJx00060, "<init>", "()V"⟩
abbrev cJx00060_init_a7421 : ByteArray := prog_11_method_2_code
def yJx00060_init_a7421 : MethodName := ⟨RJx00060, "<init>", "(Ljava/lang/String;)V"⟩
def RJ6 : String := "java/lang/Integer"
def TJ6 : u_T := fun k => match k with
  | _ => ("", "", "", false)
def tyJ6 : Nat → FieldType := fun k => match k with
  | _ => .int
abbrev wsJ60 : List Cond := u_ws RJ6 TJ6 0
theorem nmJ6 : ∀ a, a < 0 → ∀ b, b < 0 → a ≠ b → (TJ6 a).2.1 ≠ (TJ6 b).2.1 := by decide +kernel
theorem tyJ6_ok : ∀ k, k < 0 → parseFieldDescriptor (TJ6 k).2.2.1 = some (tyJ6 k) := by decide +kernel
abbrev cJ6_bitCount_0f7a4 : ByteArray := prog_14_method_49_code
def yJ6_bitCount_0f7a4 : MethodName := ⟨RJ6, "bitCount", "(I)I"⟩
def RJ0 : String := "java/lang/String"
def TJ0 : u_T := fun k => match k with
  | 0 => ("java/lang/String", "value", "[B", true)
  | _ => ("java/lang/String", "coder", "B", true)
def tyJ0 : Nat → FieldType := fun k => match k with
  | 0 => .array .byte
  | _ => .byte
abbrev wsJ00 : List Cond := u_ws RJ0 TJ0 2
theorem nmJ0 : ∀ a, a < 2 → ∀ b, b < 2 → a ≠ b → (TJ0 a).2.1 ≠ (TJ0 b).2.1 := by decide +kernel
theorem tyJ0_ok : ∀ k, k < 2 → parseFieldDescriptor (TJ0 k).2.2.1 = some (tyJ0 k) := by decide +kernel
def RL : String := "FeatureSolveLaw"
abbrev cL_level : ByteArray := method_3_code
def yL_level : MethodName := ⟨RL, "level", "(LFeatureSolve;I[J)I"⟩
abbrev cL_law : ByteArray := code
def yL_law : MethodName := ⟨RL, "law", "([I)Z"⟩
def wsX0_init : List Cond := .code yX0_init cX0_init 1 none :: ([.methodLink RX0 3 objectInit, .instanceMethod objectInit, .code objectInit ⟨#[0xb1]⟩ 1 none, .arrayClass .int, .fieldLink RX0 9 "FeatureSolve$Choices" "told" "[I"] ++ wsX00)
def wsX7_at : List Cond := .code yX7_at cX7_at 2 (some .int) :: ([] ++ (vx_atM "java/lang/ArrayIndexOutOfBoundsException" ["java/lang/IndexOutOfBoundsException", "java/lang/RuntimeException", "java/lang/Exception"]).filter goodWord)
def wsX0_get : List Cond := .code yX0_get cX0_get 2 (some .int) :: ([.fieldLink RX0 9 "FeatureSolve$Choices" "told" "[I", .static yX7_at, .initialized RX7, .code yX7_at cX7_at 2 (some .int)] ++ wsX00 ++ (vx_atM "java/lang/ArrayIndexOutOfBoundsException" ["java/lang/IndexOutOfBoundsException", "java/lang/RuntimeException", "java/lang/Exception"]).filter goodWord)
def wsX7_put : List Cond := .code yX7_put cX7_put 3 none :: ([] ++ (vx_atM "java/lang/ArrayIndexOutOfBoundsException" ["java/lang/IndexOutOfBoundsException", "java/lang/RuntimeException", "java/lang/Exception"]).filter goodWord)
def wsX7_bit : List Cond := .code yX7_bit cX7_bit 1 (some .int) :: ([])
def wsX0_drop : List Cond := .code yX0_drop cX0_drop 5 none :: ([.fieldLink RX0 23 "FeatureSolve$Choices" "size" "I", .fieldLink RX0 9 "FeatureSolve$Choices" "told" "[I", .fieldLink RX0 31 "FeatureSolve$Choices" "must" "I", .fieldLink RX0 38 "FeatureSolve$Choices" "mustNot" "I", .static yX7_at, .initialized RX7, .code yX7_at cX7_at 2 (some .int), .static yX7_put, .code yX7_put cX7_put 3 none, .static yX7_bit, .code yX7_bit cX7_bit 1 (some .int)] ++ wsX00 ++ (vx_atM "java/lang/ArrayIndexOutOfBoundsException" ["java/lang/IndexOutOfBoundsException", "java/lang/RuntimeException", "java/lang/Exception"]).filter goodWord)
def wsX0_tell : List Cond := .code yX0_tell cX0_tell 3 none :: ([.fieldLink RX0 9 "FeatureSolve$Choices" "told" "[I", .fieldLink RX0 23 "FeatureSolve$Choices" "size" "I", .fieldLink RX0 31 "FeatureSolve$Choices" "must" "I", .fieldLink RX0 38 "FeatureSolve$Choices" "mustNot" "I", .methodLink RX0 19 yX0_drop, .instanceMethod yX0_drop, .selects RX0 yX0_drop yX0_drop, .initialized RX0, .code yX0_drop cX0_drop 5 none, .static yX7_at, .initialized RX7, .code yX7_at cX7_at 2 (some .int), .static yX7_put, .code yX7_put cX7_put 3 none, .static yX7_bit, .code yX7_bit cX7_bit 1 (some .int)] ++ wsX00 ++ (vx_atM "java/lang/ArrayIndexOutOfBoundsException" ["java/lang/IndexOutOfBoundsException", "java/lang/RuntimeException", "java/lang/Exception"]).filter goodWord)
def wsX1_init : List Cond := .code yX1_init cX1_init 1 none :: ([.methodLink RX1 3 objectInit, .instanceMethod objectInit, .code objectInit ⟨#[0xb1]⟩ 1 none, .arrayClass .int, .fieldLink RX1 9 "FeatureSolve$Formulas" "ops" "[I", .fieldLink RX1 15 "FeatureSolve$Formulas" "leftBits" "[I", .fieldLink RX1 18 "FeatureSolve$Formulas" "leftWants" "[I", .fieldLink RX1 21 "FeatureSolve$Formulas" "rightBits" "[I", .fieldLink RX1 24 "FeatureSolve$Formulas" "rightWants" "[I"] ++ wsX10)
def wsX1_bitOf : List Cond := .code yX1_bitOf cX1_bitOf 1 (some .int) :: ([.static yX7_bit, .initialized RX7, .code yX7_bit cX7_bit 1 (some .int)])
def wsX1_add : List Cond := .code yX1_add cX1_add 4 (some .int) :: ([.fieldLink RX1 9 "FeatureSolve$Formulas" "ops" "[I", .fieldLink RX1 27 "FeatureSolve$Formulas" "size" "I", .fieldLink RX1 15 "FeatureSolve$Formulas" "leftBits" "[I", .fieldLink RX1 18 "FeatureSolve$Formulas" "leftWants" "[I", .fieldLink RX1 21 "FeatureSolve$Formulas" "rightBits" "[I", .fieldLink RX1 24 "FeatureSolve$Formulas" "rightWants" "[I", .static yX7_put, .initialized RX7, .code yX7_put cX7_put 3 none, .methodLink RX1 35 yX1_bitOf, .static yX1_bitOf, .initialized RX1, .code yX1_bitOf cX1_bitOf 1 (some .int), .static yX7_bit, .code yX7_bit cX7_bit 1 (some .int)] ++ wsX10 ++ (vx_atM "java/lang/ArrayIndexOutOfBoundsException" ["java/lang/IndexOutOfBoundsException", "java/lang/RuntimeException", "java/lang/Exception"]).filter goodWord)
def wsX1_holds : List Cond := .code yX1_holds cX1_holds 3 (some .boolean) :: ([])
def wsX1_keeps : List Cond := .code yX1_keeps cX1_keeps 5 (some .boolean) :: ([.fieldLink RX1 27 "FeatureSolve$Formulas" "size" "I", .fieldLink RX1 15 "FeatureSolve$Formulas" "leftBits" "[I", .fieldLink RX1 18 "FeatureSolve$Formulas" "leftWants" "[I", .fieldLink RX1 21 "FeatureSolve$Formulas" "rightBits" "[I", .fieldLink RX1 24 "FeatureSolve$Formulas" "rightWants" "[I", .fieldLink RX1 9 "FeatureSolve$Formulas" "ops" "[I", .static yX7_at, .initialized RX7, .code yX7_at cX7_at 2 (some .int), .methodLink RX1 46 yX1_holds, .static yX1_holds, .initialized RX1, .code yX1_holds cX1_holds 3 (some .boolean)] ++ wsX10 ++ (vx_atM "java/lang/ArrayIndexOutOfBoundsException" ["java/lang/IndexOutOfBoundsException", "java/lang/RuntimeException", "java/lang/Exception"]).filter goodWord)
def wsX1_holdsIn : List Cond := .code yX1_holdsIn cX1_holdsIn 4 (some .boolean) :: ([.methodLink RX1 35 yX1_bitOf, .static yX1_bitOf, .initialized RX1, .code yX1_bitOf cX1_bitOf 1 (some .int), .static yX7_bit, .initialized RX7, .code yX7_bit cX7_bit 1 (some .int), .methodLink RX1 46 yX1_holds, .static yX1_holds, .code yX1_holds cX1_holds 3 (some .boolean)])
def wsX1_isAlwaysTrue : List Cond := .code yX1_isAlwaysTrue cX1_isAlwaysTrue 5 (some .boolean) :: ([.methodLink RX1 35 yX1_bitOf, .static yX1_bitOf, .initialized RX1, .code yX1_bitOf cX1_bitOf 1 (some .int), .static yX7_bit, .initialized RX7, .code yX7_bit cX7_bit 1 (some .int), .methodLink RX1 50 yX1_holdsIn, .static yX1_holdsIn, .code yX1_holdsIn cX1_holdsIn 4 (some .boolean), .methodLink RX1 46 yX1_holds, .static yX1_holds, .code yX1_holds cX1_holds 3 (some .boolean)])
def wsX2_init : List Cond := .code yX2_init cX2_init 1 none :: ([.methodLink RX2 3 objectInit, .instanceMethod objectInit, .code objectInit ⟨#[0xb1]⟩ 1 none, .arrayClass .int, .fieldLink RX2 9 "FeatureSolve$Found" "kept" "[I"] ++ wsX20)
def wsX2_keep : List Cond := .code yX2_keep cX2_keep 2 none :: ([.fieldLink RX2 15 "FeatureSolve$Found" "last" "I", .fieldLink RX2 19 "FeatureSolve$Found" "size" "I", .fieldLink RX2 9 "FeatureSolve$Found" "kept" "[I", .static yX7_put, .initialized RX7, .code yX7_put cX7_put 3 none] ++ wsX20 ++ (vx_atM "java/lang/ArrayIndexOutOfBoundsException" ["java/lang/IndexOutOfBoundsException", "java/lang/RuntimeException", "java/lang/Exception"]).filter goodWord)
def wsX2_keepNone : List Cond := .code yX2_keepNone cX2_keepNone 1 none :: ([.fieldLink RX2 15 "FeatureSolve$Found" "last" "I"] ++ wsX20)
def wsX2_has : List Cond := .code yX2_has cX2_has 2 (some .boolean) :: ([.fieldLink RX2 19 "FeatureSolve$Found" "size" "I"] ++ wsX20)
def wsX2_get : List Cond := .code yX2_get cX2_get 2 (some .int) :: ([.fieldLink RX2 9 "FeatureSolve$Found" "kept" "[I", .static yX7_at, .initialized RX7, .code yX7_at cX7_at 2 (some .int)] ++ wsX20 ++ (vx_atM "java/lang/ArrayIndexOutOfBoundsException" ["java/lang/IndexOutOfBoundsException", "java/lang/RuntimeException", "java/lang/Exception"]).filter goodWord)
def wsX3_init : List Cond := .code yX3_init cX3_init 1 none :: ([.methodLink RX3 3 objectInit, .instanceMethod objectInit, .code objectInit ⟨#[0xb1]⟩ 1 none, .arrayClass .int, .fieldLink RX3 9 "FeatureSolve$Reason" "left" "[I"] ++ wsX30)
def wsX3_clear : List Cond := .code yX3_clear cX3_clear 1 none :: ([.fieldLink RX3 15 "FeatureSolve$Reason" "size" "I"] ++ wsX30)
def wsX3_add : List Cond := .code yX3_add cX3_add 2 none :: ([.fieldLink RX3 9 "FeatureSolve$Reason" "left" "[I", .fieldLink RX3 15 "FeatureSolve$Reason" "size" "I", .static yX7_put, .initialized RX7, .code yX7_put cX7_put 3 none] ++ wsX30 ++ (vx_atM "java/lang/ArrayIndexOutOfBoundsException" ["java/lang/IndexOutOfBoundsException", "java/lang/RuntimeException", "java/lang/Exception"]).filter goodWord)
def wsX3_get : List Cond := .code yX3_get cX3_get 2 (some .int) :: ([.fieldLink RX3 15 "FeatureSolve$Reason" "size" "I", .fieldLink RX3 9 "FeatureSolve$Reason" "left" "[I", .static yX7_at, .initialized RX7, .code yX7_at cX7_at 2 (some .int)] ++ wsX30 ++ (vx_atM "java/lang/ArrayIndexOutOfBoundsException" ["java/lang/IndexOutOfBoundsException", "java/lang/RuntimeException", "java/lang/Exception"]).filter goodWord)
def wsX4_init : List Cond := .code yX4_init cX4_init 1 none :: ([.methodLink RX4 3 objectInit, .instanceMethod objectInit, .code objectInit ⟨#[0xb1]⟩ 1 none, .arrayClass .int, .fieldLink RX4 11 "FeatureSolve$Sums" "values" "[I", .fieldLink RX4 15 "FeatureSolve$Sums" "limits" "[I"] ++ wsX40 ++ (vx_atM "java/lang/ArrayIndexOutOfBoundsException" ["java/lang/IndexOutOfBoundsException", "java/lang/RuntimeException", "java/lang/Exception"]).filter goodWord)
def wsX4_set : List Cond := .code yX4_set cX4_set 4 none :: ([.fieldLink RX4 11 "FeatureSolve$Sums" "values" "[I", .static yX7_put, .initialized RX7, .code yX7_put cX7_put 3 none] ++ wsX40 ++ (vx_atM "java/lang/ArrayIndexOutOfBoundsException" ["java/lang/IndexOutOfBoundsException", "java/lang/RuntimeException", "java/lang/Exception"]).filter goodWord)
def wsX4_limit : List Cond := .code yX4_limit cX4_limit 3 none :: ([.fieldLink RX4 15 "FeatureSolve$Sums" "limits" "[I", .static yX7_put, .initialized RX7, .code yX7_put cX7_put 3 none] ++ wsX40 ++ (vx_atM "java/lang/ArrayIndexOutOfBoundsException" ["java/lang/IndexOutOfBoundsException", "java/lang/RuntimeException", "java/lang/Exception"]).filter goodWord)
def wsX4_keeps : List Cond := .code yX4_keeps cX4_keeps 6 (some .boolean) :: ([.fieldLink RX4 15 "FeatureSolve$Sums" "limits" "[I", .fieldLink RX4 11 "FeatureSolve$Sums" "values" "[I", .static yX7_at, .initialized RX7, .code yX7_at cX7_at 2 (some .int), .static yX7_bit, .code yX7_bit cX7_bit 1 (some .int)] ++ wsX40 ++ (vx_atM "java/lang/ArrayIndexOutOfBoundsException" ["java/lang/IndexOutOfBoundsException", "java/lang/RuntimeException", "java/lang/Exception"]).filter goodWord)
def wsX5_init : List Cond := .code yX5_init cX5_init 1 none :: ([.methodLink RX5 3 objectInit, .instanceMethod objectInit, .code objectInit ⟨#[0xb1]⟩ 1 none, .arrayClass .int, .fieldLink RX5 9 "FeatureSolve$Tree" "kinds" "[I", .fieldLink RX5 15 "FeatureSolve$Tree" "depths" "[I", .fieldLink RX5 18 "FeatureSolve$Tree" "parentBits" "[I", .fieldLink RX5 21 "FeatureSolve$Tree" "groupedBits" "[I", .fieldLink RX5 24 "FeatureSolve$Tree" "least" "[I", .fieldLink RX5 27 "FeatureSolve$Tree" "most" "[I"] ++ wsX50)
def wsX5_has : List Cond := .code yX5_has cX5_has 2 (some .boolean) :: ([.fieldLink RX5 30 "FeatureSolve$Tree" "size" "I"] ++ wsX50)
def wsX5_hasSigned : List Cond := .code yX5_hasSigned cX5_hasSigned 2 (some .boolean) :: ([.methodLink RX5 34 yX5_has, .instanceMethod yX5_has, .selects RX5 yX5_has yX5_has, .initialized RX5, .code yX5_has cX5_has 2 (some .boolean), .fieldLink RX5 30 "FeatureSolve$Tree" "size" "I"] ++ wsX50)
def wsX5_takesParent : List Cond := .code yX5_takesParent cX5_takesParent 2 (some .boolean) :: ([.fieldLink RX5 30 "FeatureSolve$Tree" "size" "I", .methodLink RX5 34 yX5_has, .instanceMethod yX5_has, .selects RX5 yX5_has yX5_has, .initialized RX5, .code yX5_has cX5_has 2 (some .boolean)] ++ wsX50)
def wsX5_add : List Cond := .code yX5_add cX5_add 3 (some .int) :: ([.fieldLink RX5 30 "FeatureSolve$Tree" "size" "I", .fieldLink RX5 9 "FeatureSolve$Tree" "kinds" "[I", .fieldLink RX5 15 "FeatureSolve$Tree" "depths" "[I", .fieldLink RX5 18 "FeatureSolve$Tree" "parentBits" "[I", .fieldLink RX5 21 "FeatureSolve$Tree" "groupedBits" "[I", .static yX7_put, .initialized RX7, .code yX7_put cX7_put 3 none, .static yX7_at, .code yX7_at cX7_at 2 (some .int), .static yX7_bit, .code yX7_bit cX7_bit 1 (some .int)] ++ wsX50 ++ (vx_atM "java/lang/ArrayIndexOutOfBoundsException" ["java/lang/IndexOutOfBoundsException", "java/lang/RuntimeException", "java/lang/Exception"]).filter goodWord)
def wsJ6_bitCount_0f7a4 : List Cond := .code yJ6_bitCount_0f7a4 cJ6_bitCount_0f7a4 1 (some .int) :: ([.constant RJ6 265 (1431655765), .constant RJ6 266 (858993459), .constant RJ6 267 (252645135)])
def wsX5_bound : List Cond := .code yX5_bound cX5_bound 4 (some .int) :: ([.fieldLink RX5 24 "FeatureSolve$Tree" "least" "[I", .fieldLink RX5 27 "FeatureSolve$Tree" "most" "[I", .fieldLink RX5 50 "FeatureSolve$Tree" "bounded" "I", .fieldLink RX5 21 "FeatureSolve$Tree" "groupedBits" "[I", .static yX7_put, .initialized RX7, .code yX7_put cX7_put 3 none, .static yX7_bit, .code yX7_bit cX7_bit 1 (some .int), .static yX7_at, .code yX7_at cX7_at 2 (some .int), .methodLink RX5 53 yJ6_bitCount_0f7a4, .static yJ6_bitCount_0f7a4, .initialized RJ6, .code yJ6_bitCount_0f7a4 cJ6_bitCount_0f7a4 1 (some .int), .constant RJ6 265 (1431655765), .constant RJ6 266 (858993459), .constant RJ6 267 (252645135)] ++ wsX50 ++ (vx_atM "java/lang/ArrayIndexOutOfBoundsException" ["java/lang/IndexOutOfBoundsException", "java/lang/RuntimeException", "java/lang/Exception"]).filter goodWord)
def wsX5_above : List Cond := .code yX5_above cX5_above 2 (some .int) :: ([.fieldLink RX5 15 "FeatureSolve$Tree" "depths" "[I", .static yX7_at, .initialized RX7, .code yX7_at cX7_at 2 (some .int)] ++ wsX50 ++ (vx_atM "java/lang/ArrayIndexOutOfBoundsException" ["java/lang/IndexOutOfBoundsException", "java/lang/RuntimeException", "java/lang/Exception"]).filter goodWord)
def wsX5_mayBeIn : List Cond := .code yX5_mayBeIn cX5_mayBeIn 3 (some .boolean) :: ([.fieldLink RX5 18 "FeatureSolve$Tree" "parentBits" "[I", .static yX7_at, .initialized RX7, .code yX7_at cX7_at 2 (some .int)] ++ wsX50 ++ (vx_atM "java/lang/ArrayIndexOutOfBoundsException" ["java/lang/IndexOutOfBoundsException", "java/lang/RuntimeException", "java/lang/Exception"]).filter goodWord)
def wsX5_mayBeOut : List Cond := .code yX5_mayBeOut cX5_mayBeOut 3 (some .boolean) :: ([.fieldLink RX5 9 "FeatureSolve$Tree" "kinds" "[I", .fieldLink RX5 18 "FeatureSolve$Tree" "parentBits" "[I", .static yX7_at, .initialized RX7, .code yX7_at cX7_at 2 (some .int)] ++ wsX50 ++ (vx_atM "java/lang/ArrayIndexOutOfBoundsException" ["java/lang/IndexOutOfBoundsException", "java/lang/RuntimeException", "java/lang/Exception"]).filter goodWord)
def wsX5_keepsGroups : List Cond := .code yX5_keepsGroups cX5_keepsGroups 5 (some .boolean) :: ([.fieldLink RX5 30 "FeatureSolve$Tree" "size" "I", .fieldLink RX5 21 "FeatureSolve$Tree" "groupedBits" "[I", .fieldLink RX5 50 "FeatureSolve$Tree" "bounded" "I", .fieldLink RX5 24 "FeatureSolve$Tree" "least" "[I", .fieldLink RX5 27 "FeatureSolve$Tree" "most" "[I", .static yX7_at, .initialized RX7, .code yX7_at cX7_at 2 (some .int), .methodLink RX5 53 yJ6_bitCount_0f7a4, .static yJ6_bitCount_0f7a4, .initialized RJ6, .code yJ6_bitCount_0f7a4 cJ6_bitCount_0f7a4 1 (some .int), .constant RJ6 265 (1431655765), .constant RJ6 266 (858993459), .constant RJ6 267 (252645135), .static yX7_bit, .code yX7_bit cX7_bit 1 (some .int)] ++ wsX50 ++ (vx_atM "java/lang/ArrayIndexOutOfBoundsException" ["java/lang/IndexOutOfBoundsException", "java/lang/RuntimeException", "java/lang/Exception"]).filter goodWord)
def wsX6_init_r1 : List Cond := [Cond.methodLink RX6 3 objectInit, Cond.instanceMethod objectInit, Cond.code objectInit ⟨#[0xb1]⟩ 1 none, Cond.classLink RX6 9 RX5, Cond.instantiable RX5 8, Cond.initialized RX5, Cond.fieldLink RX6 12 "FeatureSolve$Variants" "tree" "LFeatureSolve$Tree;", Cond.classLink RX6 18 RX1, Cond.instantiable RX1 6, Cond.initialized RX1, Cond.fieldLink RX6 21 "FeatureSolve$Variants" "formulas" "LFeatureSolve$Formulas;", Cond.classLink RX6 25 RX4, Cond.instantiable RX4 2, Cond.initialized RX4, Cond.fieldLink RX6 28 "FeatureSolve$Variants" "sums" "LFeatureSolve$Sums;", Cond.arrayClass .int, Cond.fieldLink RX6 32 "FeatureSolve$Variants" "row" "[I", Cond.instanceMethod yX5_init, Cond.code yX5_init cX5_init 1 none, Cond.methodLink RX5 3 objectInit, Cond.fieldLink RX5 9 "FeatureSolve$Tree" "kinds" "[I", Cond.fieldLink RX5 15 "FeatureSolve$Tree" "depths" "[I", Cond.fieldLink RX5 18 "FeatureSolve$Tree" "parentBits" "[I", Cond.fieldLink RX5 21 "FeatureSolve$Tree" "groupedBits" "[I"]
def wsX6_init_r2 : List Cond := [Cond.fieldLink RX5 24 "FeatureSolve$Tree" "least" "[I", Cond.fieldLink RX5 27 "FeatureSolve$Tree" "most" "[I", Cond.instanceMethod yX1_init, Cond.code yX1_init cX1_init 1 none, Cond.methodLink RX1 3 objectInit, Cond.fieldLink RX1 9 "FeatureSolve$Formulas" "ops" "[I", Cond.fieldLink RX1 15 "FeatureSolve$Formulas" "leftBits" "[I", Cond.fieldLink RX1 18 "FeatureSolve$Formulas" "leftWants" "[I", Cond.fieldLink RX1 21 "FeatureSolve$Formulas" "rightBits" "[I", Cond.fieldLink RX1 24 "FeatureSolve$Formulas" "rightWants" "[I", Cond.instanceMethod yX4_init, Cond.code yX4_init cX4_init 1 none, Cond.methodLink RX4 3 objectInit, Cond.fieldLink RX4 11 "FeatureSolve$Sums" "values" "[I", Cond.fieldLink RX4 15 "FeatureSolve$Sums" "limits" "[I"]
def wsX6_init : List Cond := .code yX6_init cX6_init 1 none :: ((wsX6_init_r1 ++ wsX6_init_r2) ++ wsX50 ++ wsX60 ++ wsX10 ++ wsX40 ++ (vx_atM "java/lang/ArrayIndexOutOfBoundsException" ["java/lang/IndexOutOfBoundsException", "java/lang/RuntimeException", "java/lang/Exception"]).filter goodWord)
def wsX6_outdate : List Cond := .code yX6_outdate cX6_outdate 1 none :: ([.fieldLink RX6 36 "FeatureSolve$Variants" "upToDate" "Z"] ++ wsX60)
def wsX6_branch : List Cond := .code yX6_branch cX6_branch 6 none :: ([.fieldLink RX6 43 "FeatureSolve$Variants" "size" "I", .fieldLink RX6 32 "FeatureSolve$Variants" "row" "[I", .fieldLink RX6 12 "FeatureSolve$Variants" "tree" "LFeatureSolve$Tree;", .static yX7_at, .initialized RX7, .code yX7_at cX7_at 2 (some .int), .methodLink RX6 67 yX5_mayBeIn, .instanceMethod yX5_mayBeIn, .selects RX5 yX5_mayBeIn yX5_mayBeIn, .initialized RX5, .code yX5_mayBeIn cX5_mayBeIn 3 (some .boolean), .fieldLink RX5 18 "FeatureSolve$Tree" "parentBits" "[I", .methodLink RX6 71 yX5_mayBeOut, .instanceMethod yX5_mayBeOut, .selects RX5 yX5_mayBeOut yX5_mayBeOut, .code yX5_mayBeOut cX5_mayBeOut 3 (some .boolean), .fieldLink RX5 9 "FeatureSolve$Tree" "kinds" "[I", .static yX7_put, .code yX7_put cX7_put 3 none, .static yX7_bit, .code yX7_bit cX7_bit 1 (some .int)] ++ wsX60 ++ wsX50 ++ (vx_atM "java/lang/ArrayIndexOutOfBoundsException" ["java/lang/IndexOutOfBoundsException", "java/lang/RuntimeException", "java/lang/Exception"]).filter goodWord)
def wsX6_dropUnkept_r1 : List Cond := [Cond.fieldLink RX6 43 "FeatureSolve$Variants" "size" "I", Cond.fieldLink RX6 32 "FeatureSolve$Variants" "row" "[I", Cond.fieldLink RX6 12 "FeatureSolve$Variants" "tree" "LFeatureSolve$Tree;", Cond.fieldLink RX6 21 "FeatureSolve$Variants" "formulas" "LFeatureSolve$Formulas;", Cond.fieldLink RX6 28 "FeatureSolve$Variants" "sums" "LFeatureSolve$Sums;", Cond.static yX7_at, Cond.initialized RX7, Cond.code yX7_at cX7_at 2 (some .int), Cond.methodLink RX6 78 yX5_keepsGroups, Cond.instanceMethod yX5_keepsGroups, Cond.selects RX5 yX5_keepsGroups yX5_keepsGroups, Cond.initialized RX5, Cond.code yX5_keepsGroups cX5_keepsGroups 5 (some .boolean), Cond.fieldLink RX5 30 "FeatureSolve$Tree" "size" "I", Cond.fieldLink RX5 21 "FeatureSolve$Tree" "groupedBits" "[I", Cond.fieldLink RX5 50 "FeatureSolve$Tree" "bounded" "I", Cond.fieldLink RX5 24 "FeatureSolve$Tree" "least" "[I", Cond.fieldLink RX5 27 "FeatureSolve$Tree" "most" "[I", Cond.methodLink RX5 53 yJ6_bitCount_0f7a4, Cond.static yJ6_bitCount_0f7a4, Cond.initialized RJ6, Cond.code yJ6_bitCount_0f7a4 cJ6_bitCount_0f7a4 1 (some .int), Cond.constant RJ6 265 (1431655765), Cond.constant RJ6 266 (858993459)]
def wsX6_dropUnkept_r2 : List Cond := [Cond.constant RJ6 267 (252645135), Cond.static yX7_bit, Cond.code yX7_bit cX7_bit 1 (some .int), Cond.methodLink RX6 82 yX1_keeps, Cond.instanceMethod yX1_keeps, Cond.selects RX1 yX1_keeps yX1_keeps, Cond.initialized RX1, Cond.code yX1_keeps cX1_keeps 5 (some .boolean), Cond.fieldLink RX1 27 "FeatureSolve$Formulas" "size" "I", Cond.fieldLink RX1 15 "FeatureSolve$Formulas" "leftBits" "[I", Cond.fieldLink RX1 18 "FeatureSolve$Formulas" "leftWants" "[I", Cond.fieldLink RX1 21 "FeatureSolve$Formulas" "rightBits" "[I", Cond.fieldLink RX1 24 "FeatureSolve$Formulas" "rightWants" "[I", Cond.fieldLink RX1 9 "FeatureSolve$Formulas" "ops" "[I", Cond.methodLink RX1 46 yX1_holds, Cond.static yX1_holds, Cond.code yX1_holds cX1_holds 3 (some .boolean), Cond.methodLink RX6 85 yX4_keeps, Cond.instanceMethod yX4_keeps, Cond.selects RX4 yX4_keeps yX4_keeps, Cond.initialized RX4, Cond.code yX4_keeps cX4_keeps 6 (some .boolean), Cond.fieldLink RX4 15 "FeatureSolve$Sums" "limits" "[I", Cond.fieldLink RX4 11 "FeatureSolve$Sums" "values" "[I"]
def wsX6_dropUnkept_r3 : List Cond := [Cond.static yX7_put, Cond.code yX7_put cX7_put 3 none]
def wsX6_dropUnkept : List Cond := .code yX6_dropUnkept cX6_dropUnkept 4 none :: ((wsX6_dropUnkept_r1 ++ (wsX6_dropUnkept_r2 ++ wsX6_dropUnkept_r3)) ++ wsX60 ++ wsX50 ++ wsX10 ++ wsX40 ++ (vx_atM "java/lang/ArrayIndexOutOfBoundsException" ["java/lang/IndexOutOfBoundsException", "java/lang/RuntimeException", "java/lang/Exception"]).filter goodWord)
def wsX6_update_r1 : List Cond := [Cond.fieldLink RX6 36 "FeatureSolve$Variants" "upToDate" "Z", Cond.fieldLink RX6 32 "FeatureSolve$Variants" "row" "[I", Cond.fieldLink RX6 43 "FeatureSolve$Variants" "size" "I", Cond.fieldLink RX6 12 "FeatureSolve$Variants" "tree" "LFeatureSolve$Tree;", Cond.fieldLink RX6 59 "FeatureSolve$Tree" "size" "I", Cond.static yX7_put, Cond.initialized RX7, Cond.code yX7_put cX7_put 3 none, Cond.methodLink RX6 60 yX6_branch, Cond.instanceMethod yX6_branch, Cond.selects RX6 yX6_branch yX6_branch, Cond.initialized RX6, Cond.code yX6_branch cX6_branch 6 none, Cond.static yX7_at, Cond.code yX7_at cX7_at 2 (some .int), Cond.methodLink RX6 67 yX5_mayBeIn, Cond.instanceMethod yX5_mayBeIn, Cond.selects RX5 yX5_mayBeIn yX5_mayBeIn, Cond.initialized RX5, Cond.code yX5_mayBeIn cX5_mayBeIn 3 (some .boolean), Cond.fieldLink RX5 18 "FeatureSolve$Tree" "parentBits" "[I", Cond.methodLink RX6 71 yX5_mayBeOut, Cond.instanceMethod yX5_mayBeOut, Cond.selects RX5 yX5_mayBeOut yX5_mayBeOut]
def wsX6_update_r2 : List Cond := [Cond.code yX5_mayBeOut cX5_mayBeOut 3 (some .boolean), Cond.fieldLink RX5 9 "FeatureSolve$Tree" "kinds" "[I", Cond.static yX7_bit, Cond.code yX7_bit cX7_bit 1 (some .int), Cond.methodLink RX6 64 yX6_dropUnkept, Cond.instanceMethod yX6_dropUnkept, Cond.selects RX6 yX6_dropUnkept yX6_dropUnkept, Cond.code yX6_dropUnkept cX6_dropUnkept 4 none, Cond.fieldLink RX6 21 "FeatureSolve$Variants" "formulas" "LFeatureSolve$Formulas;", Cond.fieldLink RX6 28 "FeatureSolve$Variants" "sums" "LFeatureSolve$Sums;", Cond.methodLink RX6 78 yX5_keepsGroups, Cond.instanceMethod yX5_keepsGroups, Cond.selects RX5 yX5_keepsGroups yX5_keepsGroups, Cond.code yX5_keepsGroups cX5_keepsGroups 5 (some .boolean), Cond.fieldLink RX5 30 "FeatureSolve$Tree" "size" "I", Cond.fieldLink RX5 21 "FeatureSolve$Tree" "groupedBits" "[I", Cond.fieldLink RX5 50 "FeatureSolve$Tree" "bounded" "I", Cond.fieldLink RX5 24 "FeatureSolve$Tree" "least" "[I", Cond.fieldLink RX5 27 "FeatureSolve$Tree" "most" "[I", Cond.methodLink RX5 53 yJ6_bitCount_0f7a4, Cond.static yJ6_bitCount_0f7a4, Cond.initialized RJ6, Cond.code yJ6_bitCount_0f7a4 cJ6_bitCount_0f7a4 1 (some .int), Cond.constant RJ6 265 (1431655765)]
def wsX6_update_r3 : List Cond := [Cond.constant RJ6 266 (858993459), Cond.constant RJ6 267 (252645135), Cond.methodLink RX6 82 yX1_keeps, Cond.instanceMethod yX1_keeps, Cond.selects RX1 yX1_keeps yX1_keeps, Cond.initialized RX1, Cond.code yX1_keeps cX1_keeps 5 (some .boolean), Cond.fieldLink RX1 27 "FeatureSolve$Formulas" "size" "I", Cond.fieldLink RX1 15 "FeatureSolve$Formulas" "leftBits" "[I", Cond.fieldLink RX1 18 "FeatureSolve$Formulas" "leftWants" "[I", Cond.fieldLink RX1 21 "FeatureSolve$Formulas" "rightBits" "[I", Cond.fieldLink RX1 24 "FeatureSolve$Formulas" "rightWants" "[I", Cond.fieldLink RX1 9 "FeatureSolve$Formulas" "ops" "[I", Cond.methodLink RX1 46 yX1_holds, Cond.static yX1_holds, Cond.code yX1_holds cX1_holds 3 (some .boolean), Cond.methodLink RX6 85 yX4_keeps, Cond.instanceMethod yX4_keeps, Cond.selects RX4 yX4_keeps yX4_keeps, Cond.initialized RX4, Cond.code yX4_keeps cX4_keeps 6 (some .boolean), Cond.fieldLink RX4 15 "FeatureSolve$Sums" "limits" "[I", Cond.fieldLink RX4 11 "FeatureSolve$Sums" "values" "[I"]
def wsX6_update : List Cond := .code yX6_update cX6_update 2 none :: ((wsX6_update_r1 ++ (wsX6_update_r2 ++ wsX6_update_r3)) ++ wsX60 ++ wsX50 ++ wsX10 ++ wsX40 ++ (vx_atM "java/lang/ArrayIndexOutOfBoundsException" ["java/lang/IndexOutOfBoundsException", "java/lang/RuntimeException", "java/lang/Exception"]).filter goodWord)
def wsX6_fits : List Cond := .code yX6_fits cX6_fits 3 (some .boolean) :: ([])
def wsX6_first_r1 : List Cond := [Cond.fieldLink RX6 43 "FeatureSolve$Variants" "size" "I", Cond.fieldLink RX6 32 "FeatureSolve$Variants" "row" "[I", Cond.methodLink RX6 40 yX6_update, Cond.instanceMethod yX6_update, Cond.selects RX6 yX6_update yX6_update, Cond.initialized RX6, Cond.code yX6_update cX6_update 2 none, Cond.fieldLink RX6 36 "FeatureSolve$Variants" "upToDate" "Z", Cond.fieldLink RX6 12 "FeatureSolve$Variants" "tree" "LFeatureSolve$Tree;", Cond.fieldLink RX6 59 "FeatureSolve$Tree" "size" "I", Cond.static yX7_put, Cond.initialized RX7, Cond.code yX7_put cX7_put 3 none, Cond.methodLink RX6 60 yX6_branch, Cond.instanceMethod yX6_branch, Cond.selects RX6 yX6_branch yX6_branch, Cond.code yX6_branch cX6_branch 6 none, Cond.static yX7_at, Cond.code yX7_at cX7_at 2 (some .int), Cond.methodLink RX6 67 yX5_mayBeIn, Cond.instanceMethod yX5_mayBeIn, Cond.selects RX5 yX5_mayBeIn yX5_mayBeIn, Cond.initialized RX5, Cond.code yX5_mayBeIn cX5_mayBeIn 3 (some .boolean)]
def wsX6_first_r2 : List Cond := [Cond.fieldLink RX5 18 "FeatureSolve$Tree" "parentBits" "[I", Cond.methodLink RX6 71 yX5_mayBeOut, Cond.instanceMethod yX5_mayBeOut, Cond.selects RX5 yX5_mayBeOut yX5_mayBeOut, Cond.code yX5_mayBeOut cX5_mayBeOut 3 (some .boolean), Cond.fieldLink RX5 9 "FeatureSolve$Tree" "kinds" "[I", Cond.static yX7_bit, Cond.code yX7_bit cX7_bit 1 (some .int), Cond.methodLink RX6 64 yX6_dropUnkept, Cond.instanceMethod yX6_dropUnkept, Cond.selects RX6 yX6_dropUnkept yX6_dropUnkept, Cond.code yX6_dropUnkept cX6_dropUnkept 4 none, Cond.fieldLink RX6 21 "FeatureSolve$Variants" "formulas" "LFeatureSolve$Formulas;", Cond.fieldLink RX6 28 "FeatureSolve$Variants" "sums" "LFeatureSolve$Sums;", Cond.methodLink RX6 78 yX5_keepsGroups, Cond.instanceMethod yX5_keepsGroups, Cond.selects RX5 yX5_keepsGroups yX5_keepsGroups, Cond.code yX5_keepsGroups cX5_keepsGroups 5 (some .boolean), Cond.fieldLink RX5 30 "FeatureSolve$Tree" "size" "I", Cond.fieldLink RX5 21 "FeatureSolve$Tree" "groupedBits" "[I", Cond.fieldLink RX5 50 "FeatureSolve$Tree" "bounded" "I", Cond.fieldLink RX5 24 "FeatureSolve$Tree" "least" "[I", Cond.fieldLink RX5 27 "FeatureSolve$Tree" "most" "[I", Cond.methodLink RX5 53 yJ6_bitCount_0f7a4]
def wsX6_first_r3 : List Cond := [Cond.static yJ6_bitCount_0f7a4, Cond.initialized RJ6, Cond.code yJ6_bitCount_0f7a4 cJ6_bitCount_0f7a4 1 (some .int), Cond.constant RJ6 265 (1431655765), Cond.constant RJ6 266 (858993459), Cond.constant RJ6 267 (252645135), Cond.methodLink RX6 82 yX1_keeps, Cond.instanceMethod yX1_keeps, Cond.selects RX1 yX1_keeps yX1_keeps, Cond.initialized RX1, Cond.code yX1_keeps cX1_keeps 5 (some .boolean), Cond.fieldLink RX1 27 "FeatureSolve$Formulas" "size" "I", Cond.fieldLink RX1 15 "FeatureSolve$Formulas" "leftBits" "[I", Cond.fieldLink RX1 18 "FeatureSolve$Formulas" "leftWants" "[I", Cond.fieldLink RX1 21 "FeatureSolve$Formulas" "rightBits" "[I", Cond.fieldLink RX1 24 "FeatureSolve$Formulas" "rightWants" "[I", Cond.fieldLink RX1 9 "FeatureSolve$Formulas" "ops" "[I", Cond.methodLink RX1 46 yX1_holds, Cond.static yX1_holds, Cond.code yX1_holds cX1_holds 3 (some .boolean), Cond.methodLink RX6 85 yX4_keeps, Cond.instanceMethod yX4_keeps, Cond.selects RX4 yX4_keeps yX4_keeps, Cond.initialized RX4]
def wsX6_first_r4 : List Cond := [Cond.code yX4_keeps cX4_keeps 6 (some .boolean), Cond.fieldLink RX4 15 "FeatureSolve$Sums" "limits" "[I", Cond.fieldLink RX4 11 "FeatureSolve$Sums" "values" "[I", Cond.methodLink RX6 51 yX6_fits, Cond.static yX6_fits, Cond.code yX6_fits cX6_fits 3 (some .boolean)]
def wsX6_first : List Cond := .code yX6_first cX6_first 4 (some .int) :: ((wsX6_first_r1 ++ (wsX6_first_r2 ++ (wsX6_first_r3 ++ wsX6_first_r4))) ++ wsX60 ++ wsX50 ++ wsX10 ++ wsX40 ++ (vx_atM "java/lang/ArrayIndexOutOfBoundsException" ["java/lang/IndexOutOfBoundsException", "java/lang/RuntimeException", "java/lang/Exception"]).filter goodWord)
def wsX6_number_r1 : List Cond := [Cond.fieldLink RX6 43 "FeatureSolve$Variants" "size" "I", Cond.fieldLink RX6 32 "FeatureSolve$Variants" "row" "[I", Cond.methodLink RX6 40 yX6_update, Cond.instanceMethod yX6_update, Cond.selects RX6 yX6_update yX6_update, Cond.initialized RX6, Cond.code yX6_update cX6_update 2 none, Cond.fieldLink RX6 36 "FeatureSolve$Variants" "upToDate" "Z", Cond.fieldLink RX6 12 "FeatureSolve$Variants" "tree" "LFeatureSolve$Tree;", Cond.fieldLink RX6 59 "FeatureSolve$Tree" "size" "I", Cond.static yX7_put, Cond.initialized RX7, Cond.code yX7_put cX7_put 3 none, Cond.methodLink RX6 60 yX6_branch, Cond.instanceMethod yX6_branch, Cond.selects RX6 yX6_branch yX6_branch, Cond.code yX6_branch cX6_branch 6 none, Cond.static yX7_at, Cond.code yX7_at cX7_at 2 (some .int), Cond.methodLink RX6 67 yX5_mayBeIn, Cond.instanceMethod yX5_mayBeIn, Cond.selects RX5 yX5_mayBeIn yX5_mayBeIn, Cond.initialized RX5, Cond.code yX5_mayBeIn cX5_mayBeIn 3 (some .boolean)]
def wsX6_number_r2 : List Cond := [Cond.fieldLink RX5 18 "FeatureSolve$Tree" "parentBits" "[I", Cond.methodLink RX6 71 yX5_mayBeOut, Cond.instanceMethod yX5_mayBeOut, Cond.selects RX5 yX5_mayBeOut yX5_mayBeOut, Cond.code yX5_mayBeOut cX5_mayBeOut 3 (some .boolean), Cond.fieldLink RX5 9 "FeatureSolve$Tree" "kinds" "[I", Cond.static yX7_bit, Cond.code yX7_bit cX7_bit 1 (some .int), Cond.methodLink RX6 64 yX6_dropUnkept, Cond.instanceMethod yX6_dropUnkept, Cond.selects RX6 yX6_dropUnkept yX6_dropUnkept, Cond.code yX6_dropUnkept cX6_dropUnkept 4 none, Cond.fieldLink RX6 21 "FeatureSolve$Variants" "formulas" "LFeatureSolve$Formulas;", Cond.fieldLink RX6 28 "FeatureSolve$Variants" "sums" "LFeatureSolve$Sums;", Cond.methodLink RX6 78 yX5_keepsGroups, Cond.instanceMethod yX5_keepsGroups, Cond.selects RX5 yX5_keepsGroups yX5_keepsGroups, Cond.code yX5_keepsGroups cX5_keepsGroups 5 (some .boolean), Cond.fieldLink RX5 30 "FeatureSolve$Tree" "size" "I", Cond.fieldLink RX5 21 "FeatureSolve$Tree" "groupedBits" "[I", Cond.fieldLink RX5 50 "FeatureSolve$Tree" "bounded" "I", Cond.fieldLink RX5 24 "FeatureSolve$Tree" "least" "[I", Cond.fieldLink RX5 27 "FeatureSolve$Tree" "most" "[I", Cond.methodLink RX5 53 yJ6_bitCount_0f7a4]
def wsX6_number_r3 : List Cond := [Cond.static yJ6_bitCount_0f7a4, Cond.initialized RJ6, Cond.code yJ6_bitCount_0f7a4 cJ6_bitCount_0f7a4 1 (some .int), Cond.constant RJ6 265 (1431655765), Cond.constant RJ6 266 (858993459), Cond.constant RJ6 267 (252645135), Cond.methodLink RX6 82 yX1_keeps, Cond.instanceMethod yX1_keeps, Cond.selects RX1 yX1_keeps yX1_keeps, Cond.initialized RX1, Cond.code yX1_keeps cX1_keeps 5 (some .boolean), Cond.fieldLink RX1 27 "FeatureSolve$Formulas" "size" "I", Cond.fieldLink RX1 15 "FeatureSolve$Formulas" "leftBits" "[I", Cond.fieldLink RX1 18 "FeatureSolve$Formulas" "leftWants" "[I", Cond.fieldLink RX1 21 "FeatureSolve$Formulas" "rightBits" "[I", Cond.fieldLink RX1 24 "FeatureSolve$Formulas" "rightWants" "[I", Cond.fieldLink RX1 9 "FeatureSolve$Formulas" "ops" "[I", Cond.methodLink RX1 46 yX1_holds, Cond.static yX1_holds, Cond.code yX1_holds cX1_holds 3 (some .boolean), Cond.methodLink RX6 85 yX4_keeps, Cond.instanceMethod yX4_keeps, Cond.selects RX4 yX4_keeps yX4_keeps, Cond.initialized RX4]
def wsX6_number_r4 : List Cond := [Cond.code yX4_keeps cX4_keeps 6 (some .boolean), Cond.fieldLink RX4 15 "FeatureSolve$Sums" "limits" "[I", Cond.fieldLink RX4 11 "FeatureSolve$Sums" "values" "[I", Cond.methodLink RX6 51 yX6_fits, Cond.static yX6_fits, Cond.code yX6_fits cX6_fits 3 (some .boolean)]
def wsX6_number : List Cond := .code yX6_number cX6_number 5 (some .int) :: ((wsX6_number_r1 ++ (wsX6_number_r2 ++ (wsX6_number_r3 ++ wsX6_number_r4))) ++ wsX60 ++ wsX50 ++ wsX10 ++ wsX40 ++ (vx_atM "java/lang/ArrayIndexOutOfBoundsException" ["java/lang/IndexOutOfBoundsException", "java/lang/RuntimeException", "java/lang/Exception"]).filter goodWord)
def wsX6_inAll_r1 : List Cond := [Cond.fieldLink RX6 43 "FeatureSolve$Variants" "size" "I", Cond.fieldLink RX6 32 "FeatureSolve$Variants" "row" "[I", Cond.methodLink RX6 40 yX6_update, Cond.instanceMethod yX6_update, Cond.selects RX6 yX6_update yX6_update, Cond.initialized RX6, Cond.code yX6_update cX6_update 2 none, Cond.fieldLink RX6 36 "FeatureSolve$Variants" "upToDate" "Z", Cond.fieldLink RX6 12 "FeatureSolve$Variants" "tree" "LFeatureSolve$Tree;", Cond.fieldLink RX6 59 "FeatureSolve$Tree" "size" "I", Cond.static yX7_put, Cond.initialized RX7, Cond.code yX7_put cX7_put 3 none, Cond.methodLink RX6 60 yX6_branch, Cond.instanceMethod yX6_branch, Cond.selects RX6 yX6_branch yX6_branch, Cond.code yX6_branch cX6_branch 6 none, Cond.static yX7_at, Cond.code yX7_at cX7_at 2 (some .int), Cond.methodLink RX6 67 yX5_mayBeIn, Cond.instanceMethod yX5_mayBeIn, Cond.selects RX5 yX5_mayBeIn yX5_mayBeIn, Cond.initialized RX5, Cond.code yX5_mayBeIn cX5_mayBeIn 3 (some .boolean)]
def wsX6_inAll_r2 : List Cond := [Cond.fieldLink RX5 18 "FeatureSolve$Tree" "parentBits" "[I", Cond.methodLink RX6 71 yX5_mayBeOut, Cond.instanceMethod yX5_mayBeOut, Cond.selects RX5 yX5_mayBeOut yX5_mayBeOut, Cond.code yX5_mayBeOut cX5_mayBeOut 3 (some .boolean), Cond.fieldLink RX5 9 "FeatureSolve$Tree" "kinds" "[I", Cond.static yX7_bit, Cond.code yX7_bit cX7_bit 1 (some .int), Cond.methodLink RX6 64 yX6_dropUnkept, Cond.instanceMethod yX6_dropUnkept, Cond.selects RX6 yX6_dropUnkept yX6_dropUnkept, Cond.code yX6_dropUnkept cX6_dropUnkept 4 none, Cond.fieldLink RX6 21 "FeatureSolve$Variants" "formulas" "LFeatureSolve$Formulas;", Cond.fieldLink RX6 28 "FeatureSolve$Variants" "sums" "LFeatureSolve$Sums;", Cond.methodLink RX6 78 yX5_keepsGroups, Cond.instanceMethod yX5_keepsGroups, Cond.selects RX5 yX5_keepsGroups yX5_keepsGroups, Cond.code yX5_keepsGroups cX5_keepsGroups 5 (some .boolean), Cond.fieldLink RX5 30 "FeatureSolve$Tree" "size" "I", Cond.fieldLink RX5 21 "FeatureSolve$Tree" "groupedBits" "[I", Cond.fieldLink RX5 50 "FeatureSolve$Tree" "bounded" "I", Cond.fieldLink RX5 24 "FeatureSolve$Tree" "least" "[I", Cond.fieldLink RX5 27 "FeatureSolve$Tree" "most" "[I", Cond.methodLink RX5 53 yJ6_bitCount_0f7a4]
def wsX6_inAll_r3 : List Cond := [Cond.static yJ6_bitCount_0f7a4, Cond.initialized RJ6, Cond.code yJ6_bitCount_0f7a4 cJ6_bitCount_0f7a4 1 (some .int), Cond.constant RJ6 265 (1431655765), Cond.constant RJ6 266 (858993459), Cond.constant RJ6 267 (252645135), Cond.methodLink RX6 82 yX1_keeps, Cond.instanceMethod yX1_keeps, Cond.selects RX1 yX1_keeps yX1_keeps, Cond.initialized RX1, Cond.code yX1_keeps cX1_keeps 5 (some .boolean), Cond.fieldLink RX1 27 "FeatureSolve$Formulas" "size" "I", Cond.fieldLink RX1 15 "FeatureSolve$Formulas" "leftBits" "[I", Cond.fieldLink RX1 18 "FeatureSolve$Formulas" "leftWants" "[I", Cond.fieldLink RX1 21 "FeatureSolve$Formulas" "rightBits" "[I", Cond.fieldLink RX1 24 "FeatureSolve$Formulas" "rightWants" "[I", Cond.fieldLink RX1 9 "FeatureSolve$Formulas" "ops" "[I", Cond.methodLink RX1 46 yX1_holds, Cond.static yX1_holds, Cond.code yX1_holds cX1_holds 3 (some .boolean), Cond.methodLink RX6 85 yX4_keeps, Cond.instanceMethod yX4_keeps, Cond.selects RX4 yX4_keeps yX4_keeps, Cond.initialized RX4]
def wsX6_inAll_r4 : List Cond := [Cond.code yX4_keeps cX4_keeps 6 (some .boolean), Cond.fieldLink RX4 15 "FeatureSolve$Sums" "limits" "[I", Cond.fieldLink RX4 11 "FeatureSolve$Sums" "values" "[I", Cond.methodLink RX6 51 yX6_fits, Cond.static yX6_fits, Cond.code yX6_fits cX6_fits 3 (some .boolean)]
def wsX6_inAll : List Cond := .code yX6_inAll cX6_inAll 5 (some .int) :: ((wsX6_inAll_r1 ++ (wsX6_inAll_r2 ++ (wsX6_inAll_r3 ++ wsX6_inAll_r4))) ++ wsX60 ++ wsX50 ++ wsX10 ++ wsX40 ++ (vx_atM "java/lang/ArrayIndexOutOfBoundsException" ["java/lang/IndexOutOfBoundsException", "java/lang/RuntimeException", "java/lang/Exception"]).filter goodWord)
def wsX6_inSome_r1 : List Cond := [Cond.fieldLink RX6 43 "FeatureSolve$Variants" "size" "I", Cond.fieldLink RX6 32 "FeatureSolve$Variants" "row" "[I", Cond.methodLink RX6 40 yX6_update, Cond.instanceMethod yX6_update, Cond.selects RX6 yX6_update yX6_update, Cond.initialized RX6, Cond.code yX6_update cX6_update 2 none, Cond.fieldLink RX6 36 "FeatureSolve$Variants" "upToDate" "Z", Cond.fieldLink RX6 12 "FeatureSolve$Variants" "tree" "LFeatureSolve$Tree;", Cond.fieldLink RX6 59 "FeatureSolve$Tree" "size" "I", Cond.static yX7_put, Cond.initialized RX7, Cond.code yX7_put cX7_put 3 none, Cond.methodLink RX6 60 yX6_branch, Cond.instanceMethod yX6_branch, Cond.selects RX6 yX6_branch yX6_branch, Cond.code yX6_branch cX6_branch 6 none, Cond.static yX7_at, Cond.code yX7_at cX7_at 2 (some .int), Cond.methodLink RX6 67 yX5_mayBeIn, Cond.instanceMethod yX5_mayBeIn, Cond.selects RX5 yX5_mayBeIn yX5_mayBeIn, Cond.initialized RX5, Cond.code yX5_mayBeIn cX5_mayBeIn 3 (some .boolean)]
def wsX6_inSome_r2 : List Cond := [Cond.fieldLink RX5 18 "FeatureSolve$Tree" "parentBits" "[I", Cond.methodLink RX6 71 yX5_mayBeOut, Cond.instanceMethod yX5_mayBeOut, Cond.selects RX5 yX5_mayBeOut yX5_mayBeOut, Cond.code yX5_mayBeOut cX5_mayBeOut 3 (some .boolean), Cond.fieldLink RX5 9 "FeatureSolve$Tree" "kinds" "[I", Cond.static yX7_bit, Cond.code yX7_bit cX7_bit 1 (some .int), Cond.methodLink RX6 64 yX6_dropUnkept, Cond.instanceMethod yX6_dropUnkept, Cond.selects RX6 yX6_dropUnkept yX6_dropUnkept, Cond.code yX6_dropUnkept cX6_dropUnkept 4 none, Cond.fieldLink RX6 21 "FeatureSolve$Variants" "formulas" "LFeatureSolve$Formulas;", Cond.fieldLink RX6 28 "FeatureSolve$Variants" "sums" "LFeatureSolve$Sums;", Cond.methodLink RX6 78 yX5_keepsGroups, Cond.instanceMethod yX5_keepsGroups, Cond.selects RX5 yX5_keepsGroups yX5_keepsGroups, Cond.code yX5_keepsGroups cX5_keepsGroups 5 (some .boolean), Cond.fieldLink RX5 30 "FeatureSolve$Tree" "size" "I", Cond.fieldLink RX5 21 "FeatureSolve$Tree" "groupedBits" "[I", Cond.fieldLink RX5 50 "FeatureSolve$Tree" "bounded" "I", Cond.fieldLink RX5 24 "FeatureSolve$Tree" "least" "[I", Cond.fieldLink RX5 27 "FeatureSolve$Tree" "most" "[I", Cond.methodLink RX5 53 yJ6_bitCount_0f7a4]
def wsX6_inSome_r3 : List Cond := [Cond.static yJ6_bitCount_0f7a4, Cond.initialized RJ6, Cond.code yJ6_bitCount_0f7a4 cJ6_bitCount_0f7a4 1 (some .int), Cond.constant RJ6 265 (1431655765), Cond.constant RJ6 266 (858993459), Cond.constant RJ6 267 (252645135), Cond.methodLink RX6 82 yX1_keeps, Cond.instanceMethod yX1_keeps, Cond.selects RX1 yX1_keeps yX1_keeps, Cond.initialized RX1, Cond.code yX1_keeps cX1_keeps 5 (some .boolean), Cond.fieldLink RX1 27 "FeatureSolve$Formulas" "size" "I", Cond.fieldLink RX1 15 "FeatureSolve$Formulas" "leftBits" "[I", Cond.fieldLink RX1 18 "FeatureSolve$Formulas" "leftWants" "[I", Cond.fieldLink RX1 21 "FeatureSolve$Formulas" "rightBits" "[I", Cond.fieldLink RX1 24 "FeatureSolve$Formulas" "rightWants" "[I", Cond.fieldLink RX1 9 "FeatureSolve$Formulas" "ops" "[I", Cond.methodLink RX1 46 yX1_holds, Cond.static yX1_holds, Cond.code yX1_holds cX1_holds 3 (some .boolean), Cond.methodLink RX6 85 yX4_keeps, Cond.instanceMethod yX4_keeps, Cond.selects RX4 yX4_keeps yX4_keeps, Cond.initialized RX4]
def wsX6_inSome_r4 : List Cond := [Cond.code yX4_keeps cX4_keeps 6 (some .boolean), Cond.fieldLink RX4 15 "FeatureSolve$Sums" "limits" "[I", Cond.fieldLink RX4 11 "FeatureSolve$Sums" "values" "[I", Cond.methodLink RX6 51 yX6_fits, Cond.static yX6_fits, Cond.code yX6_fits cX6_fits 3 (some .boolean)]
def wsX6_inSome : List Cond := .code yX6_inSome cX6_inSome 5 (some .int) :: ((wsX6_inSome_r1 ++ (wsX6_inSome_r2 ++ (wsX6_inSome_r3 ++ wsX6_inSome_r4))) ++ wsX60 ++ wsX50 ++ wsX10 ++ wsX40 ++ (vx_atM "java/lang/ArrayIndexOutOfBoundsException" ["java/lang/IndexOutOfBoundsException", "java/lang/RuntimeException", "java/lang/Exception"]).filter goodWord)
def wsX7_init_r1 : List Cond := [Cond.methodLink RX7 1 objectInit, Cond.instanceMethod objectInit, Cond.code objectInit ⟨#[0xb1]⟩ 1 none, Cond.classLink RX7 7 RX6, Cond.instantiable RX6 6, Cond.initialized RX6, Cond.fieldLink RX7 10 "FeatureSolve" "variants" "LFeatureSolve$Variants;", Cond.fieldLink RX7 16 "FeatureSolve$Variants" "tree" "LFeatureSolve$Tree;", Cond.fieldLink RX7 20 "FeatureSolve" "tree" "LFeatureSolve$Tree;", Cond.fieldLink RX7 21 "FeatureSolve$Variants" "formulas" "LFeatureSolve$Formulas;", Cond.fieldLink RX7 25 "FeatureSolve" "formulas" "LFeatureSolve$Formulas;", Cond.fieldLink RX7 26 "FeatureSolve$Variants" "sums" "LFeatureSolve$Sums;", Cond.fieldLink RX7 30 "FeatureSolve" "sums" "LFeatureSolve$Sums;", Cond.classLink RX7 31 RX0, Cond.instantiable RX0 4, Cond.initialized RX0, Cond.fieldLink RX7 34 "FeatureSolve" "choices" "LFeatureSolve$Choices;", Cond.classLink RX7 38 RX2, Cond.instantiable RX2 3, Cond.initialized RX2, Cond.fieldLink RX7 41 "FeatureSolve" "found" "LFeatureSolve$Found;", Cond.classLink RX7 45 RX3, Cond.instantiable RX3 2, Cond.initialized RX3]
def wsX7_init_r2 : List Cond := [Cond.fieldLink RX7 48 "FeatureSolve" "reason" "LFeatureSolve$Reason;", Cond.instanceMethod yX6_init, Cond.code yX6_init cX6_init 1 none, Cond.methodLink RX6 3 objectInit, Cond.classLink RX6 9 RX5, Cond.instantiable RX5 8, Cond.initialized RX5, Cond.fieldLink RX6 12 "FeatureSolve$Variants" "tree" "LFeatureSolve$Tree;", Cond.classLink RX6 18 RX1, Cond.instantiable RX1 6, Cond.initialized RX1, Cond.fieldLink RX6 21 "FeatureSolve$Variants" "formulas" "LFeatureSolve$Formulas;", Cond.classLink RX6 25 RX4, Cond.instantiable RX4 2, Cond.initialized RX4, Cond.fieldLink RX6 28 "FeatureSolve$Variants" "sums" "LFeatureSolve$Sums;", Cond.arrayClass .int, Cond.fieldLink RX6 32 "FeatureSolve$Variants" "row" "[I", Cond.instanceMethod yX5_init, Cond.code yX5_init cX5_init 1 none, Cond.methodLink RX5 3 objectInit, Cond.fieldLink RX5 9 "FeatureSolve$Tree" "kinds" "[I", Cond.fieldLink RX5 15 "FeatureSolve$Tree" "depths" "[I", Cond.fieldLink RX5 18 "FeatureSolve$Tree" "parentBits" "[I"]
def wsX7_init_r3 : List Cond := [Cond.fieldLink RX5 21 "FeatureSolve$Tree" "groupedBits" "[I", Cond.fieldLink RX5 24 "FeatureSolve$Tree" "least" "[I", Cond.fieldLink RX5 27 "FeatureSolve$Tree" "most" "[I", Cond.instanceMethod yX1_init, Cond.code yX1_init cX1_init 1 none, Cond.methodLink RX1 3 objectInit, Cond.fieldLink RX1 9 "FeatureSolve$Formulas" "ops" "[I", Cond.fieldLink RX1 15 "FeatureSolve$Formulas" "leftBits" "[I", Cond.fieldLink RX1 18 "FeatureSolve$Formulas" "leftWants" "[I", Cond.fieldLink RX1 21 "FeatureSolve$Formulas" "rightBits" "[I", Cond.fieldLink RX1 24 "FeatureSolve$Formulas" "rightWants" "[I", Cond.instanceMethod yX4_init, Cond.code yX4_init cX4_init 1 none, Cond.methodLink RX4 3 objectInit, Cond.fieldLink RX4 11 "FeatureSolve$Sums" "values" "[I", Cond.fieldLink RX4 15 "FeatureSolve$Sums" "limits" "[I", Cond.instanceMethod yX0_init, Cond.code yX0_init cX0_init 1 none, Cond.methodLink RX0 3 objectInit, Cond.fieldLink RX0 9 "FeatureSolve$Choices" "told" "[I", Cond.instanceMethod yX2_init, Cond.code yX2_init cX2_init 1 none, Cond.methodLink RX2 3 objectInit, Cond.fieldLink RX2 9 "FeatureSolve$Found" "kept" "[I"]
def wsX7_init_r4 : List Cond := [Cond.instanceMethod yX3_init, Cond.code yX3_init cX3_init 1 none, Cond.methodLink RX3 3 objectInit, Cond.fieldLink RX3 9 "FeatureSolve$Reason" "left" "[I"]
def wsX7_init : List Cond := .code yX7_init cX7_init 1 none :: ((wsX7_init_r1 ++ (wsX7_init_r2 ++ (wsX7_init_r3 ++ wsX7_init_r4))) ++ wsX60 ++ wsX70 ++ wsX00 ++ wsX20 ++ wsX30 ++ wsX50 ++ wsX10 ++ wsX40 ++ (vx_atM "java/lang/ArrayIndexOutOfBoundsException" ["java/lang/IndexOutOfBoundsException", "java/lang/RuntimeException", "java/lang/Exception"]).filter goodWord)
def wsX7_feature_r1 : List Cond := [Cond.fieldLink RX7 20 "FeatureSolve" "tree" "LFeatureSolve$Tree;", Cond.fieldLink RX7 58 "FeatureSolve$Tree" "size" "I", Cond.fieldLink RX7 10 "FeatureSolve" "variants" "LFeatureSolve$Variants;", Cond.methodLink RX7 52 yX5_takesParent, Cond.instanceMethod yX5_takesParent, Cond.selects RX5 yX5_takesParent yX5_takesParent, Cond.initialized RX5, Cond.code yX5_takesParent cX5_takesParent 2 (some .boolean), Cond.fieldLink RX5 30 "FeatureSolve$Tree" "size" "I", Cond.methodLink RX5 34 yX5_has, Cond.instanceMethod yX5_has, Cond.selects RX5 yX5_has yX5_has, Cond.code yX5_has cX5_has 2 (some .boolean), Cond.methodLink RX7 62 yX6_outdate, Cond.instanceMethod yX6_outdate, Cond.selects RX6 yX6_outdate yX6_outdate, Cond.initialized RX6, Cond.code yX6_outdate cX6_outdate 1 none, Cond.fieldLink RX6 36 "FeatureSolve$Variants" "upToDate" "Z", Cond.methodLink RX7 65 yX5_add, Cond.instanceMethod yX5_add, Cond.selects RX5 yX5_add yX5_add, Cond.code yX5_add cX5_add 3 (some .int), Cond.fieldLink RX5 9 "FeatureSolve$Tree" "kinds" "[I"]
def wsX7_feature_r2 : List Cond := [Cond.fieldLink RX5 15 "FeatureSolve$Tree" "depths" "[I", Cond.fieldLink RX5 18 "FeatureSolve$Tree" "parentBits" "[I", Cond.fieldLink RX5 21 "FeatureSolve$Tree" "groupedBits" "[I", Cond.static yX7_put, Cond.initialized RX7, Cond.code yX7_put cX7_put 3 none, Cond.static yX7_at, Cond.code yX7_at cX7_at 2 (some .int), Cond.static yX7_bit, Cond.code yX7_bit cX7_bit 1 (some .int)]
def wsX7_feature : List Cond := .code yX7_feature cX7_feature 3 (some .int) :: ((wsX7_feature_r1 ++ wsX7_feature_r2) ++ wsX70 ++ wsX50 ++ wsX60 ++ (vx_atM "java/lang/ArrayIndexOutOfBoundsException" ["java/lang/IndexOutOfBoundsException", "java/lang/RuntimeException", "java/lang/Exception"]).filter goodWord)
def wsX7_group_r1 : List Cond := [Cond.fieldLink RX7 20 "FeatureSolve" "tree" "LFeatureSolve$Tree;", Cond.fieldLink RX7 10 "FeatureSolve" "variants" "LFeatureSolve$Variants;", Cond.methodLink RX7 69 yX5_has, Cond.instanceMethod yX5_has, Cond.selects RX5 yX5_has yX5_has, Cond.initialized RX5, Cond.code yX5_has cX5_has 2 (some .boolean), Cond.fieldLink RX5 30 "FeatureSolve$Tree" "size" "I", Cond.methodLink RX7 62 yX6_outdate, Cond.instanceMethod yX6_outdate, Cond.selects RX6 yX6_outdate yX6_outdate, Cond.initialized RX6, Cond.code yX6_outdate cX6_outdate 1 none, Cond.fieldLink RX6 36 "FeatureSolve$Variants" "upToDate" "Z", Cond.methodLink RX7 72 yX5_bound, Cond.instanceMethod yX5_bound, Cond.selects RX5 yX5_bound yX5_bound, Cond.code yX5_bound cX5_bound 4 (some .int), Cond.fieldLink RX5 24 "FeatureSolve$Tree" "least" "[I", Cond.fieldLink RX5 27 "FeatureSolve$Tree" "most" "[I", Cond.fieldLink RX5 50 "FeatureSolve$Tree" "bounded" "I", Cond.fieldLink RX5 21 "FeatureSolve$Tree" "groupedBits" "[I", Cond.static yX7_put, Cond.initialized RX7]
def wsX7_group_r2 : List Cond := [Cond.code yX7_put cX7_put 3 none, Cond.static yX7_bit, Cond.code yX7_bit cX7_bit 1 (some .int), Cond.static yX7_at, Cond.code yX7_at cX7_at 2 (some .int), Cond.methodLink RX5 53 yJ6_bitCount_0f7a4, Cond.static yJ6_bitCount_0f7a4, Cond.initialized RJ6, Cond.code yJ6_bitCount_0f7a4 cJ6_bitCount_0f7a4 1 (some .int), Cond.constant RJ6 265 (1431655765), Cond.constant RJ6 266 (858993459), Cond.constant RJ6 267 (252645135)]
def wsX7_group : List Cond := .code yX7_group cX7_group 4 (some .int) :: ((wsX7_group_r1 ++ wsX7_group_r2) ++ wsX70 ++ wsX50 ++ wsX60 ++ (vx_atM "java/lang/ArrayIndexOutOfBoundsException" ["java/lang/IndexOutOfBoundsException", "java/lang/RuntimeException", "java/lang/Exception"]).filter goodWord)
def wsX7_formula_r1 : List Cond := [Cond.fieldLink RX7 20 "FeatureSolve" "tree" "LFeatureSolve$Tree;", Cond.fieldLink RX7 25 "FeatureSolve" "formulas" "LFeatureSolve$Formulas;", Cond.fieldLink RX7 79 "FeatureSolve$Formulas" "size" "I", Cond.fieldLink RX7 10 "FeatureSolve" "variants" "LFeatureSolve$Variants;", Cond.methodLink RX7 76 yX5_hasSigned, Cond.instanceMethod yX5_hasSigned, Cond.selects RX5 yX5_hasSigned yX5_hasSigned, Cond.initialized RX5, Cond.code yX5_hasSigned cX5_hasSigned 2 (some .boolean), Cond.methodLink RX5 34 yX5_has, Cond.instanceMethod yX5_has, Cond.selects RX5 yX5_has yX5_has, Cond.code yX5_has cX5_has 2 (some .boolean), Cond.fieldLink RX5 30 "FeatureSolve$Tree" "size" "I", Cond.methodLink RX7 82 yX1_isAlwaysTrue, Cond.static yX1_isAlwaysTrue, Cond.initialized RX1, Cond.code yX1_isAlwaysTrue cX1_isAlwaysTrue 5 (some .boolean), Cond.methodLink RX1 35 yX1_bitOf, Cond.static yX1_bitOf, Cond.code yX1_bitOf cX1_bitOf 1 (some .int), Cond.static yX7_bit, Cond.initialized RX7, Cond.code yX7_bit cX7_bit 1 (some .int)]
def wsX7_formula_r2 : List Cond := [Cond.methodLink RX1 50 yX1_holdsIn, Cond.static yX1_holdsIn, Cond.code yX1_holdsIn cX1_holdsIn 4 (some .boolean), Cond.methodLink RX1 46 yX1_holds, Cond.static yX1_holds, Cond.code yX1_holds cX1_holds 3 (some .boolean), Cond.methodLink RX7 62 yX6_outdate, Cond.instanceMethod yX6_outdate, Cond.selects RX6 yX6_outdate yX6_outdate, Cond.initialized RX6, Cond.code yX6_outdate cX6_outdate 1 none, Cond.fieldLink RX6 36 "FeatureSolve$Variants" "upToDate" "Z", Cond.methodLink RX7 86 yX1_add, Cond.instanceMethod yX1_add, Cond.selects RX1 yX1_add yX1_add, Cond.code yX1_add cX1_add 4 (some .int), Cond.fieldLink RX1 9 "FeatureSolve$Formulas" "ops" "[I", Cond.fieldLink RX1 27 "FeatureSolve$Formulas" "size" "I", Cond.fieldLink RX1 15 "FeatureSolve$Formulas" "leftBits" "[I", Cond.fieldLink RX1 18 "FeatureSolve$Formulas" "leftWants" "[I", Cond.fieldLink RX1 21 "FeatureSolve$Formulas" "rightBits" "[I", Cond.fieldLink RX1 24 "FeatureSolve$Formulas" "rightWants" "[I", Cond.static yX7_put, Cond.code yX7_put cX7_put 3 none]
def wsX7_formula : List Cond := .code yX7_formula cX7_formula 4 (some .int) :: ((wsX7_formula_r1 ++ wsX7_formula_r2) ++ wsX70 ++ wsX10 ++ wsX50 ++ wsX60 ++ (vx_atM "java/lang/ArrayIndexOutOfBoundsException" ["java/lang/IndexOutOfBoundsException", "java/lang/RuntimeException", "java/lang/Exception"]).filter goodWord)
def wsX7_attribute_r1 : List Cond := [Cond.fieldLink RX7 20 "FeatureSolve" "tree" "LFeatureSolve$Tree;", Cond.fieldLink RX7 10 "FeatureSolve" "variants" "LFeatureSolve$Variants;", Cond.fieldLink RX7 30 "FeatureSolve" "sums" "LFeatureSolve$Sums;", Cond.methodLink RX7 69 yX5_has, Cond.instanceMethod yX5_has, Cond.selects RX5 yX5_has yX5_has, Cond.initialized RX5, Cond.code yX5_has cX5_has 2 (some .boolean), Cond.fieldLink RX5 30 "FeatureSolve$Tree" "size" "I", Cond.methodLink RX7 62 yX6_outdate, Cond.instanceMethod yX6_outdate, Cond.selects RX6 yX6_outdate yX6_outdate, Cond.initialized RX6, Cond.code yX6_outdate cX6_outdate 1 none, Cond.fieldLink RX6 36 "FeatureSolve$Variants" "upToDate" "Z", Cond.methodLink RX7 88 yX4_limit, Cond.instanceMethod yX4_limit, Cond.selects RX4 yX4_limit yX4_limit, Cond.initialized RX4, Cond.code yX4_limit cX4_limit 3 none, Cond.fieldLink RX4 15 "FeatureSolve$Sums" "limits" "[I", Cond.static yX7_put, Cond.initialized RX7, Cond.code yX7_put cX7_put 3 none]
def wsX7_attribute_r2 : List Cond := [Cond.methodLink RX7 94 yX4_set, Cond.instanceMethod yX4_set, Cond.selects RX4 yX4_set yX4_set, Cond.code yX4_set cX4_set 4 none, Cond.fieldLink RX4 11 "FeatureSolve$Sums" "values" "[I"]
def wsX7_attribute : List Cond := .code yX7_attribute cX7_attribute 6 (some .int) :: ((wsX7_attribute_r1 ++ wsX7_attribute_r2) ++ wsX70 ++ wsX50 ++ wsX60 ++ wsX40 ++ (vx_atM "java/lang/ArrayIndexOutOfBoundsException" ["java/lang/IndexOutOfBoundsException", "java/lang/RuntimeException", "java/lang/Exception"]).filter goodWord)
def wsX7_choose_r1 : List Cond := [Cond.fieldLink RX7 20 "FeatureSolve" "tree" "LFeatureSolve$Tree;", Cond.fieldLink RX7 34 "FeatureSolve" "choices" "LFeatureSolve$Choices;", Cond.fieldLink RX7 106 "FeatureSolve$Choices" "size" "I", Cond.methodLink RX7 76 yX5_hasSigned, Cond.instanceMethod yX5_hasSigned, Cond.selects RX5 yX5_hasSigned yX5_hasSigned, Cond.initialized RX5, Cond.code yX5_hasSigned cX5_hasSigned 2 (some .boolean), Cond.methodLink RX5 34 yX5_has, Cond.instanceMethod yX5_has, Cond.selects RX5 yX5_has yX5_has, Cond.code yX5_has cX5_has 2 (some .boolean), Cond.fieldLink RX5 30 "FeatureSolve$Tree" "size" "I", Cond.methodLink RX7 98 yX0_drop, Cond.instanceMethod yX0_drop, Cond.selects RX0 yX0_drop yX0_drop, Cond.initialized RX0, Cond.code yX0_drop cX0_drop 5 none, Cond.fieldLink RX0 23 "FeatureSolve$Choices" "size" "I", Cond.fieldLink RX0 9 "FeatureSolve$Choices" "told" "[I", Cond.fieldLink RX0 31 "FeatureSolve$Choices" "must" "I", Cond.fieldLink RX0 38 "FeatureSolve$Choices" "mustNot" "I", Cond.static yX7_at, Cond.initialized RX7]
def wsX7_choose_r2 : List Cond := [Cond.code yX7_at cX7_at 2 (some .int), Cond.static yX7_put, Cond.code yX7_put cX7_put 3 none, Cond.static yX7_bit, Cond.code yX7_bit cX7_bit 1 (some .int), Cond.methodLink RX7 102 yX0_tell, Cond.instanceMethod yX0_tell, Cond.selects RX0 yX0_tell yX0_tell, Cond.code yX0_tell cX0_tell 3 none, Cond.methodLink RX0 19 yX0_drop]
def wsX7_choose : List Cond := .code yX7_choose cX7_choose 3 (some .int) :: ((wsX7_choose_r1 ++ wsX7_choose_r2) ++ wsX70 ++ wsX00 ++ wsX50 ++ (vx_atM "java/lang/ArrayIndexOutOfBoundsException" ["java/lang/IndexOutOfBoundsException", "java/lang/RuntimeException", "java/lang/Exception"]).filter goodWord)
def wsX7_explain_r1 : List Cond := [Cond.fieldLink RX7 34 "FeatureSolve" "choices" "LFeatureSolve$Choices;", Cond.fieldLink RX7 107 "FeatureSolve$Choices" "must" "I", Cond.fieldLink RX7 110 "FeatureSolve$Choices" "mustNot" "I", Cond.fieldLink RX7 106 "FeatureSolve$Choices" "size" "I", Cond.fieldLink RX7 10 "FeatureSolve" "variants" "LFeatureSolve$Variants;", Cond.fieldLink RX7 48 "FeatureSolve" "reason" "LFeatureSolve$Reason;", Cond.methodLink RX7 168 yX0_get, Cond.instanceMethod yX0_get, Cond.selects RX0 yX0_get yX0_get, Cond.initialized RX0, Cond.code yX0_get cX0_get 2 (some .int), Cond.fieldLink RX0 9 "FeatureSolve$Choices" "told" "[I", Cond.static yX7_at, Cond.initialized RX7, Cond.code yX7_at cX7_at 2 (some .int), Cond.methodLink RX7 131 yX7_bit, Cond.static yX7_bit, Cond.code yX7_bit cX7_bit 1 (some .int), Cond.methodLink RX7 113 yX6_first, Cond.instanceMethod yX6_first, Cond.selects RX6 yX6_first yX6_first, Cond.initialized RX6, Cond.code yX6_first cX6_first 4 (some .int), Cond.fieldLink RX6 43 "FeatureSolve$Variants" "size" "I"]
def wsX7_explain_r2 : List Cond := [Cond.fieldLink RX6 32 "FeatureSolve$Variants" "row" "[I", Cond.methodLink RX6 40 yX6_update, Cond.instanceMethod yX6_update, Cond.selects RX6 yX6_update yX6_update, Cond.code yX6_update cX6_update 2 none, Cond.fieldLink RX6 36 "FeatureSolve$Variants" "upToDate" "Z", Cond.fieldLink RX6 12 "FeatureSolve$Variants" "tree" "LFeatureSolve$Tree;", Cond.fieldLink RX6 59 "FeatureSolve$Tree" "size" "I", Cond.static yX7_put, Cond.code yX7_put cX7_put 3 none, Cond.methodLink RX6 60 yX6_branch, Cond.instanceMethod yX6_branch, Cond.selects RX6 yX6_branch yX6_branch, Cond.code yX6_branch cX6_branch 6 none, Cond.methodLink RX6 67 yX5_mayBeIn, Cond.instanceMethod yX5_mayBeIn, Cond.selects RX5 yX5_mayBeIn yX5_mayBeIn, Cond.initialized RX5, Cond.code yX5_mayBeIn cX5_mayBeIn 3 (some .boolean), Cond.fieldLink RX5 18 "FeatureSolve$Tree" "parentBits" "[I", Cond.methodLink RX6 71 yX5_mayBeOut, Cond.instanceMethod yX5_mayBeOut, Cond.selects RX5 yX5_mayBeOut yX5_mayBeOut, Cond.code yX5_mayBeOut cX5_mayBeOut 3 (some .boolean)]
def wsX7_explain_r3 : List Cond := [Cond.fieldLink RX5 9 "FeatureSolve$Tree" "kinds" "[I", Cond.methodLink RX6 64 yX6_dropUnkept, Cond.instanceMethod yX6_dropUnkept, Cond.selects RX6 yX6_dropUnkept yX6_dropUnkept, Cond.code yX6_dropUnkept cX6_dropUnkept 4 none, Cond.fieldLink RX6 21 "FeatureSolve$Variants" "formulas" "LFeatureSolve$Formulas;", Cond.fieldLink RX6 28 "FeatureSolve$Variants" "sums" "LFeatureSolve$Sums;", Cond.methodLink RX6 78 yX5_keepsGroups, Cond.instanceMethod yX5_keepsGroups, Cond.selects RX5 yX5_keepsGroups yX5_keepsGroups, Cond.code yX5_keepsGroups cX5_keepsGroups 5 (some .boolean), Cond.fieldLink RX5 30 "FeatureSolve$Tree" "size" "I", Cond.fieldLink RX5 21 "FeatureSolve$Tree" "groupedBits" "[I", Cond.fieldLink RX5 50 "FeatureSolve$Tree" "bounded" "I", Cond.fieldLink RX5 24 "FeatureSolve$Tree" "least" "[I", Cond.fieldLink RX5 27 "FeatureSolve$Tree" "most" "[I", Cond.methodLink RX5 53 yJ6_bitCount_0f7a4, Cond.static yJ6_bitCount_0f7a4, Cond.initialized RJ6, Cond.code yJ6_bitCount_0f7a4 cJ6_bitCount_0f7a4 1 (some .int), Cond.constant RJ6 265 (1431655765), Cond.constant RJ6 266 (858993459), Cond.constant RJ6 267 (252645135), Cond.methodLink RX6 82 yX1_keeps]
def wsX7_explain_r4 : List Cond := [Cond.instanceMethod yX1_keeps, Cond.selects RX1 yX1_keeps yX1_keeps, Cond.initialized RX1, Cond.code yX1_keeps cX1_keeps 5 (some .boolean), Cond.fieldLink RX1 27 "FeatureSolve$Formulas" "size" "I", Cond.fieldLink RX1 15 "FeatureSolve$Formulas" "leftBits" "[I", Cond.fieldLink RX1 18 "FeatureSolve$Formulas" "leftWants" "[I", Cond.fieldLink RX1 21 "FeatureSolve$Formulas" "rightBits" "[I", Cond.fieldLink RX1 24 "FeatureSolve$Formulas" "rightWants" "[I", Cond.fieldLink RX1 9 "FeatureSolve$Formulas" "ops" "[I", Cond.methodLink RX1 46 yX1_holds, Cond.static yX1_holds, Cond.code yX1_holds cX1_holds 3 (some .boolean), Cond.methodLink RX6 85 yX4_keeps, Cond.instanceMethod yX4_keeps, Cond.selects RX4 yX4_keeps yX4_keeps, Cond.initialized RX4, Cond.code yX4_keeps cX4_keeps 6 (some .boolean), Cond.fieldLink RX4 15 "FeatureSolve$Sums" "limits" "[I", Cond.fieldLink RX4 11 "FeatureSolve$Sums" "values" "[I", Cond.methodLink RX6 51 yX6_fits, Cond.static yX6_fits, Cond.code yX6_fits cX6_fits 3 (some .boolean), Cond.methodLink RX7 169 yX3_add]
def wsX7_explain_r5 : List Cond := [Cond.instanceMethod yX3_add, Cond.selects RX3 yX3_add yX3_add, Cond.initialized RX3, Cond.code yX3_add cX3_add 2 none, Cond.fieldLink RX3 9 "FeatureSolve$Reason" "left" "[I", Cond.fieldLink RX3 15 "FeatureSolve$Reason" "size" "I"]
def wsX7_explain : List Cond := .code yX7_explain cX7_explain 7 none :: ((wsX7_explain_r1 ++ (wsX7_explain_r2 ++ (wsX7_explain_r3 ++ (wsX7_explain_r4 ++ wsX7_explain_r5)))) ++ wsX70 ++ wsX00 ++ wsX60 ++ wsX50 ++ wsX10 ++ wsX40 ++ wsX30 ++ (vx_atM "java/lang/ArrayIndexOutOfBoundsException" ["java/lang/IndexOutOfBoundsException", "java/lang/RuntimeException", "java/lang/Exception"]).filter goodWord)
def wsX7_solve_r1 : List Cond := [Cond.fieldLink RX7 10 "FeatureSolve" "variants" "LFeatureSolve$Variants;", Cond.fieldLink RX7 34 "FeatureSolve" "choices" "LFeatureSolve$Choices;", Cond.fieldLink RX7 107 "FeatureSolve$Choices" "must" "I", Cond.fieldLink RX7 110 "FeatureSolve$Choices" "mustNot" "I", Cond.fieldLink RX7 48 "FeatureSolve" "reason" "LFeatureSolve$Reason;", Cond.fieldLink RX7 41 "FeatureSolve" "found" "LFeatureSolve$Found;", Cond.methodLink RX7 113 yX6_first, Cond.instanceMethod yX6_first, Cond.selects RX6 yX6_first yX6_first, Cond.initialized RX6, Cond.code yX6_first cX6_first 4 (some .int), Cond.fieldLink RX6 43 "FeatureSolve$Variants" "size" "I", Cond.fieldLink RX6 32 "FeatureSolve$Variants" "row" "[I", Cond.methodLink RX6 40 yX6_update, Cond.instanceMethod yX6_update, Cond.selects RX6 yX6_update yX6_update, Cond.code yX6_update cX6_update 2 none, Cond.fieldLink RX6 36 "FeatureSolve$Variants" "upToDate" "Z", Cond.fieldLink RX6 12 "FeatureSolve$Variants" "tree" "LFeatureSolve$Tree;", Cond.fieldLink RX6 59 "FeatureSolve$Tree" "size" "I", Cond.static yX7_put, Cond.initialized RX7, Cond.code yX7_put cX7_put 3 none, Cond.methodLink RX6 60 yX6_branch]
def wsX7_solve_r2 : List Cond := [Cond.instanceMethod yX6_branch, Cond.selects RX6 yX6_branch yX6_branch, Cond.code yX6_branch cX6_branch 6 none, Cond.static yX7_at, Cond.code yX7_at cX7_at 2 (some .int), Cond.methodLink RX6 67 yX5_mayBeIn, Cond.instanceMethod yX5_mayBeIn, Cond.selects RX5 yX5_mayBeIn yX5_mayBeIn, Cond.initialized RX5, Cond.code yX5_mayBeIn cX5_mayBeIn 3 (some .boolean), Cond.fieldLink RX5 18 "FeatureSolve$Tree" "parentBits" "[I", Cond.methodLink RX6 71 yX5_mayBeOut, Cond.instanceMethod yX5_mayBeOut, Cond.selects RX5 yX5_mayBeOut yX5_mayBeOut, Cond.code yX5_mayBeOut cX5_mayBeOut 3 (some .boolean), Cond.fieldLink RX5 9 "FeatureSolve$Tree" "kinds" "[I", Cond.static yX7_bit, Cond.code yX7_bit cX7_bit 1 (some .int), Cond.methodLink RX6 64 yX6_dropUnkept, Cond.instanceMethod yX6_dropUnkept, Cond.selects RX6 yX6_dropUnkept yX6_dropUnkept, Cond.code yX6_dropUnkept cX6_dropUnkept 4 none, Cond.fieldLink RX6 21 "FeatureSolve$Variants" "formulas" "LFeatureSolve$Formulas;", Cond.fieldLink RX6 28 "FeatureSolve$Variants" "sums" "LFeatureSolve$Sums;"]
def wsX7_solve_r3 : List Cond := [Cond.methodLink RX6 78 yX5_keepsGroups, Cond.instanceMethod yX5_keepsGroups, Cond.selects RX5 yX5_keepsGroups yX5_keepsGroups, Cond.code yX5_keepsGroups cX5_keepsGroups 5 (some .boolean), Cond.fieldLink RX5 30 "FeatureSolve$Tree" "size" "I", Cond.fieldLink RX5 21 "FeatureSolve$Tree" "groupedBits" "[I", Cond.fieldLink RX5 50 "FeatureSolve$Tree" "bounded" "I", Cond.fieldLink RX5 24 "FeatureSolve$Tree" "least" "[I", Cond.fieldLink RX5 27 "FeatureSolve$Tree" "most" "[I", Cond.methodLink RX5 53 yJ6_bitCount_0f7a4, Cond.static yJ6_bitCount_0f7a4, Cond.initialized RJ6, Cond.code yJ6_bitCount_0f7a4 cJ6_bitCount_0f7a4 1 (some .int), Cond.constant RJ6 265 (1431655765), Cond.constant RJ6 266 (858993459), Cond.constant RJ6 267 (252645135), Cond.methodLink RX6 82 yX1_keeps, Cond.instanceMethod yX1_keeps, Cond.selects RX1 yX1_keeps yX1_keeps, Cond.initialized RX1, Cond.code yX1_keeps cX1_keeps 5 (some .boolean), Cond.fieldLink RX1 27 "FeatureSolve$Formulas" "size" "I", Cond.fieldLink RX1 15 "FeatureSolve$Formulas" "leftBits" "[I", Cond.fieldLink RX1 18 "FeatureSolve$Formulas" "leftWants" "[I"]
def wsX7_solve_r4 : List Cond := [Cond.fieldLink RX1 21 "FeatureSolve$Formulas" "rightBits" "[I", Cond.fieldLink RX1 24 "FeatureSolve$Formulas" "rightWants" "[I", Cond.fieldLink RX1 9 "FeatureSolve$Formulas" "ops" "[I", Cond.methodLink RX1 46 yX1_holds, Cond.static yX1_holds, Cond.code yX1_holds cX1_holds 3 (some .boolean), Cond.methodLink RX6 85 yX4_keeps, Cond.instanceMethod yX4_keeps, Cond.selects RX4 yX4_keeps yX4_keeps, Cond.initialized RX4, Cond.code yX4_keeps cX4_keeps 6 (some .boolean), Cond.fieldLink RX4 15 "FeatureSolve$Sums" "limits" "[I", Cond.fieldLink RX4 11 "FeatureSolve$Sums" "values" "[I", Cond.methodLink RX6 51 yX6_fits, Cond.static yX6_fits, Cond.code yX6_fits cX6_fits 3 (some .boolean), Cond.methodLink RX7 116 yX3_clear, Cond.instanceMethod yX3_clear, Cond.selects RX3 yX3_clear yX3_clear, Cond.initialized RX3, Cond.code yX3_clear cX3_clear 1 none, Cond.fieldLink RX3 15 "FeatureSolve$Reason" "size" "I", Cond.methodLink RX7 119 yX2_keepNone, Cond.instanceMethod yX2_keepNone]
def wsX7_solve_r5 : List Cond := [Cond.selects RX2 yX2_keepNone yX2_keepNone, Cond.initialized RX2, Cond.code yX2_keepNone cX2_keepNone 1 none, Cond.fieldLink RX2 15 "FeatureSolve$Found" "last" "I", Cond.methodLink RX7 122 yX7_explain, Cond.instanceMethod yX7_explain, Cond.selects RX7 yX7_explain yX7_explain, Cond.code yX7_explain cX7_explain 7 none, Cond.fieldLink RX7 106 "FeatureSolve$Choices" "size" "I", Cond.methodLink RX7 168 yX0_get, Cond.instanceMethod yX0_get, Cond.selects RX0 yX0_get yX0_get, Cond.initialized RX0, Cond.code yX0_get cX0_get 2 (some .int), Cond.fieldLink RX0 9 "FeatureSolve$Choices" "told" "[I", Cond.methodLink RX7 131 yX7_bit, Cond.methodLink RX7 169 yX3_add, Cond.instanceMethod yX3_add, Cond.selects RX3 yX3_add yX3_add, Cond.code yX3_add cX3_add 2 none, Cond.fieldLink RX3 9 "FeatureSolve$Reason" "left" "[I", Cond.methodLink RX7 125 yX2_keep, Cond.instanceMethod yX2_keep, Cond.selects RX2 yX2_keep yX2_keep]
def wsX7_solve_r6 : List Cond := [Cond.code yX2_keep cX2_keep 2 none, Cond.fieldLink RX2 19 "FeatureSolve$Found" "size" "I", Cond.fieldLink RX2 9 "FeatureSolve$Found" "kept" "[I"]
def wsX7_solve : List Cond := .code yX7_solve cX7_solve 2 (some .int) :: ((wsX7_solve_r1 ++ (wsX7_solve_r2 ++ (wsX7_solve_r3 ++ (wsX7_solve_r4 ++ (wsX7_solve_r5 ++ wsX7_solve_r6))))) ++ wsX70 ++ wsX00 ++ wsX60 ++ wsX50 ++ wsX10 ++ wsX40 ++ wsX30 ++ wsX20 ++ (vx_atM "java/lang/ArrayIndexOutOfBoundsException" ["java/lang/IndexOutOfBoundsException", "java/lang/RuntimeException", "java/lang/Exception"]).filter goodWord)
def wsX7_chosen : List Cond := .code yX7_chosen cX7_chosen 2 (some .boolean) :: ([.fieldLink RX7 41 "FeatureSolve" "found" "LFeatureSolve$Found;", .fieldLink RX7 128 "FeatureSolve$Found" "last" "I", .methodLink RX7 131 yX7_bit, .static yX7_bit, .initialized RX7, .code yX7_bit cX7_bit 1 (some .int)] ++ wsX70 ++ wsX20)
def wsX7_why : List Cond := .code yX7_why cX7_why 2 (some .int) :: ([.fieldLink RX7 48 "FeatureSolve" "reason" "LFeatureSolve$Reason;", .methodLink RX7 135 yX3_get, .instanceMethod yX3_get, .selects RX3 yX3_get yX3_get, .initialized RX3, .code yX3_get cX3_get 2 (some .int), .fieldLink RX3 15 "FeatureSolve$Reason" "size" "I", .fieldLink RX3 9 "FeatureSolve$Reason" "left" "[I", .static yX7_at, .initialized RX7, .code yX7_at cX7_at 2 (some .int)] ++ wsX70 ++ wsX30 ++ (vx_atM "java/lang/ArrayIndexOutOfBoundsException" ["java/lang/IndexOutOfBoundsException", "java/lang/RuntimeException", "java/lang/Exception"]).filter goodWord)
def wsX7_count_r1 : List Cond := [Cond.constantLong RX7 138 (-2), Cond.fieldLink RX7 20 "FeatureSolve" "tree" "LFeatureSolve$Tree;", Cond.fieldLink RX7 58 "FeatureSolve$Tree" "size" "I", Cond.constantLong RX7 140 (-1), Cond.fieldLink RX7 10 "FeatureSolve" "variants" "LFeatureSolve$Variants;", Cond.fieldLink RX7 34 "FeatureSolve" "choices" "LFeatureSolve$Choices;", Cond.fieldLink RX7 107 "FeatureSolve$Choices" "must" "I", Cond.fieldLink RX7 110 "FeatureSolve$Choices" "mustNot" "I", Cond.methodLink RX7 142 yX6_number, Cond.instanceMethod yX6_number, Cond.selects RX6 yX6_number yX6_number, Cond.initialized RX6, Cond.code yX6_number cX6_number 5 (some .int), Cond.fieldLink RX6 43 "FeatureSolve$Variants" "size" "I", Cond.fieldLink RX6 32 "FeatureSolve$Variants" "row" "[I", Cond.methodLink RX6 40 yX6_update, Cond.instanceMethod yX6_update, Cond.selects RX6 yX6_update yX6_update, Cond.code yX6_update cX6_update 2 none, Cond.fieldLink RX6 36 "FeatureSolve$Variants" "upToDate" "Z", Cond.fieldLink RX6 12 "FeatureSolve$Variants" "tree" "LFeatureSolve$Tree;", Cond.fieldLink RX6 59 "FeatureSolve$Tree" "size" "I", Cond.static yX7_put, Cond.initialized RX7]
def wsX7_count_r2 : List Cond := [Cond.code yX7_put cX7_put 3 none, Cond.methodLink RX6 60 yX6_branch, Cond.instanceMethod yX6_branch, Cond.selects RX6 yX6_branch yX6_branch, Cond.code yX6_branch cX6_branch 6 none, Cond.static yX7_at, Cond.code yX7_at cX7_at 2 (some .int), Cond.methodLink RX6 67 yX5_mayBeIn, Cond.instanceMethod yX5_mayBeIn, Cond.selects RX5 yX5_mayBeIn yX5_mayBeIn, Cond.initialized RX5, Cond.code yX5_mayBeIn cX5_mayBeIn 3 (some .boolean), Cond.fieldLink RX5 18 "FeatureSolve$Tree" "parentBits" "[I", Cond.methodLink RX6 71 yX5_mayBeOut, Cond.instanceMethod yX5_mayBeOut, Cond.selects RX5 yX5_mayBeOut yX5_mayBeOut, Cond.code yX5_mayBeOut cX5_mayBeOut 3 (some .boolean), Cond.fieldLink RX5 9 "FeatureSolve$Tree" "kinds" "[I", Cond.static yX7_bit, Cond.code yX7_bit cX7_bit 1 (some .int), Cond.methodLink RX6 64 yX6_dropUnkept, Cond.instanceMethod yX6_dropUnkept, Cond.selects RX6 yX6_dropUnkept yX6_dropUnkept, Cond.code yX6_dropUnkept cX6_dropUnkept 4 none]
def wsX7_count_r3 : List Cond := [Cond.fieldLink RX6 21 "FeatureSolve$Variants" "formulas" "LFeatureSolve$Formulas;", Cond.fieldLink RX6 28 "FeatureSolve$Variants" "sums" "LFeatureSolve$Sums;", Cond.methodLink RX6 78 yX5_keepsGroups, Cond.instanceMethod yX5_keepsGroups, Cond.selects RX5 yX5_keepsGroups yX5_keepsGroups, Cond.code yX5_keepsGroups cX5_keepsGroups 5 (some .boolean), Cond.fieldLink RX5 30 "FeatureSolve$Tree" "size" "I", Cond.fieldLink RX5 21 "FeatureSolve$Tree" "groupedBits" "[I", Cond.fieldLink RX5 50 "FeatureSolve$Tree" "bounded" "I", Cond.fieldLink RX5 24 "FeatureSolve$Tree" "least" "[I", Cond.fieldLink RX5 27 "FeatureSolve$Tree" "most" "[I", Cond.methodLink RX5 53 yJ6_bitCount_0f7a4, Cond.static yJ6_bitCount_0f7a4, Cond.initialized RJ6, Cond.code yJ6_bitCount_0f7a4 cJ6_bitCount_0f7a4 1 (some .int), Cond.constant RJ6 265 (1431655765), Cond.constant RJ6 266 (858993459), Cond.constant RJ6 267 (252645135), Cond.methodLink RX6 82 yX1_keeps, Cond.instanceMethod yX1_keeps, Cond.selects RX1 yX1_keeps yX1_keeps, Cond.initialized RX1, Cond.code yX1_keeps cX1_keeps 5 (some .boolean), Cond.fieldLink RX1 27 "FeatureSolve$Formulas" "size" "I"]
def wsX7_count_r4 : List Cond := [Cond.fieldLink RX1 15 "FeatureSolve$Formulas" "leftBits" "[I", Cond.fieldLink RX1 18 "FeatureSolve$Formulas" "leftWants" "[I", Cond.fieldLink RX1 21 "FeatureSolve$Formulas" "rightBits" "[I", Cond.fieldLink RX1 24 "FeatureSolve$Formulas" "rightWants" "[I", Cond.fieldLink RX1 9 "FeatureSolve$Formulas" "ops" "[I", Cond.methodLink RX1 46 yX1_holds, Cond.static yX1_holds, Cond.code yX1_holds cX1_holds 3 (some .boolean), Cond.methodLink RX6 85 yX4_keeps, Cond.instanceMethod yX4_keeps, Cond.selects RX4 yX4_keeps yX4_keeps, Cond.initialized RX4, Cond.code yX4_keeps cX4_keeps 6 (some .boolean), Cond.fieldLink RX4 15 "FeatureSolve$Sums" "limits" "[I", Cond.fieldLink RX4 11 "FeatureSolve$Sums" "values" "[I", Cond.methodLink RX6 51 yX6_fits, Cond.static yX6_fits, Cond.code yX6_fits cX6_fits 3 (some .boolean)]
def wsX7_count : List Cond := .code yX7_count cX7_count 3 (some .long) :: ((wsX7_count_r1 ++ (wsX7_count_r2 ++ (wsX7_count_r3 ++ wsX7_count_r4))) ++ wsX70 ++ wsX50 ++ wsX00 ++ wsX60 ++ wsX10 ++ wsX40 ++ (vx_atM "java/lang/ArrayIndexOutOfBoundsException" ["java/lang/IndexOutOfBoundsException", "java/lang/RuntimeException", "java/lang/Exception"]).filter goodWord)
def wsX7_forced : List Cond := .code yX7_forced cX7_forced 9 (some .int) :: ([.fieldLink RX7 20 "FeatureSolve" "tree" "LFeatureSolve$Tree;", .fieldLink RX7 58 "FeatureSolve$Tree" "size" "I", .methodLink RX7 131 yX7_bit, .static yX7_bit, .initialized RX7, .code yX7_bit cX7_bit 1 (some .int)] ++ wsX70 ++ wsX50)
def wsX7_forces_r1 : List Cond := [Cond.fieldLink RX7 20 "FeatureSolve" "tree" "LFeatureSolve$Tree;", Cond.fieldLink RX7 34 "FeatureSolve" "choices" "LFeatureSolve$Choices;", Cond.fieldLink RX7 107 "FeatureSolve$Choices" "must" "I", Cond.fieldLink RX7 10 "FeatureSolve" "variants" "LFeatureSolve$Variants;", Cond.fieldLink RX7 110 "FeatureSolve$Choices" "mustNot" "I", Cond.methodLink RX7 69 yX5_has, Cond.instanceMethod yX5_has, Cond.selects RX5 yX5_has yX5_has, Cond.initialized RX5, Cond.code yX5_has cX5_has 2 (some .boolean), Cond.fieldLink RX5 30 "FeatureSolve$Tree" "size" "I", Cond.methodLink RX7 131 yX7_bit, Cond.static yX7_bit, Cond.initialized RX7, Cond.code yX7_bit cX7_bit 1 (some .int), Cond.methodLink RX7 113 yX6_first, Cond.instanceMethod yX6_first, Cond.selects RX6 yX6_first yX6_first, Cond.initialized RX6, Cond.code yX6_first cX6_first 4 (some .int), Cond.fieldLink RX6 43 "FeatureSolve$Variants" "size" "I", Cond.fieldLink RX6 32 "FeatureSolve$Variants" "row" "[I", Cond.methodLink RX6 40 yX6_update, Cond.instanceMethod yX6_update]
def wsX7_forces_r2 : List Cond := [Cond.selects RX6 yX6_update yX6_update, Cond.code yX6_update cX6_update 2 none, Cond.fieldLink RX6 36 "FeatureSolve$Variants" "upToDate" "Z", Cond.fieldLink RX6 12 "FeatureSolve$Variants" "tree" "LFeatureSolve$Tree;", Cond.fieldLink RX6 59 "FeatureSolve$Tree" "size" "I", Cond.static yX7_put, Cond.code yX7_put cX7_put 3 none, Cond.methodLink RX6 60 yX6_branch, Cond.instanceMethod yX6_branch, Cond.selects RX6 yX6_branch yX6_branch, Cond.code yX6_branch cX6_branch 6 none, Cond.static yX7_at, Cond.code yX7_at cX7_at 2 (some .int), Cond.methodLink RX6 67 yX5_mayBeIn, Cond.instanceMethod yX5_mayBeIn, Cond.selects RX5 yX5_mayBeIn yX5_mayBeIn, Cond.code yX5_mayBeIn cX5_mayBeIn 3 (some .boolean), Cond.fieldLink RX5 18 "FeatureSolve$Tree" "parentBits" "[I", Cond.methodLink RX6 71 yX5_mayBeOut, Cond.instanceMethod yX5_mayBeOut, Cond.selects RX5 yX5_mayBeOut yX5_mayBeOut, Cond.code yX5_mayBeOut cX5_mayBeOut 3 (some .boolean), Cond.fieldLink RX5 9 "FeatureSolve$Tree" "kinds" "[I", Cond.methodLink RX6 64 yX6_dropUnkept]
def wsX7_forces_r3 : List Cond := [Cond.instanceMethod yX6_dropUnkept, Cond.selects RX6 yX6_dropUnkept yX6_dropUnkept, Cond.code yX6_dropUnkept cX6_dropUnkept 4 none, Cond.fieldLink RX6 21 "FeatureSolve$Variants" "formulas" "LFeatureSolve$Formulas;", Cond.fieldLink RX6 28 "FeatureSolve$Variants" "sums" "LFeatureSolve$Sums;", Cond.methodLink RX6 78 yX5_keepsGroups, Cond.instanceMethod yX5_keepsGroups, Cond.selects RX5 yX5_keepsGroups yX5_keepsGroups, Cond.code yX5_keepsGroups cX5_keepsGroups 5 (some .boolean), Cond.fieldLink RX5 21 "FeatureSolve$Tree" "groupedBits" "[I", Cond.fieldLink RX5 50 "FeatureSolve$Tree" "bounded" "I", Cond.fieldLink RX5 24 "FeatureSolve$Tree" "least" "[I", Cond.fieldLink RX5 27 "FeatureSolve$Tree" "most" "[I", Cond.methodLink RX5 53 yJ6_bitCount_0f7a4, Cond.static yJ6_bitCount_0f7a4, Cond.initialized RJ6, Cond.code yJ6_bitCount_0f7a4 cJ6_bitCount_0f7a4 1 (some .int), Cond.constant RJ6 265 (1431655765), Cond.constant RJ6 266 (858993459), Cond.constant RJ6 267 (252645135), Cond.methodLink RX6 82 yX1_keeps, Cond.instanceMethod yX1_keeps, Cond.selects RX1 yX1_keeps yX1_keeps, Cond.initialized RX1]
def wsX7_forces_r4 : List Cond := [Cond.code yX1_keeps cX1_keeps 5 (some .boolean), Cond.fieldLink RX1 27 "FeatureSolve$Formulas" "size" "I", Cond.fieldLink RX1 15 "FeatureSolve$Formulas" "leftBits" "[I", Cond.fieldLink RX1 18 "FeatureSolve$Formulas" "leftWants" "[I", Cond.fieldLink RX1 21 "FeatureSolve$Formulas" "rightBits" "[I", Cond.fieldLink RX1 24 "FeatureSolve$Formulas" "rightWants" "[I", Cond.fieldLink RX1 9 "FeatureSolve$Formulas" "ops" "[I", Cond.methodLink RX1 46 yX1_holds, Cond.static yX1_holds, Cond.code yX1_holds cX1_holds 3 (some .boolean), Cond.methodLink RX6 85 yX4_keeps, Cond.instanceMethod yX4_keeps, Cond.selects RX4 yX4_keeps yX4_keeps, Cond.initialized RX4, Cond.code yX4_keeps cX4_keeps 6 (some .boolean), Cond.fieldLink RX4 15 "FeatureSolve$Sums" "limits" "[I", Cond.fieldLink RX4 11 "FeatureSolve$Sums" "values" "[I", Cond.methodLink RX6 51 yX6_fits, Cond.static yX6_fits, Cond.code yX6_fits cX6_fits 3 (some .boolean), Cond.methodLink RX7 145 yX6_inAll, Cond.instanceMethod yX6_inAll, Cond.selects RX6 yX6_inAll yX6_inAll, Cond.code yX6_inAll cX6_inAll 5 (some .int)]
def wsX7_forces_r5 : List Cond := [Cond.methodLink RX7 148 yX6_inSome, Cond.instanceMethod yX6_inSome, Cond.selects RX6 yX6_inSome yX6_inSome, Cond.code yX6_inSome cX6_inSome 5 (some .int), Cond.methodLink RX7 151 yX7_forced, Cond.instanceMethod yX7_forced, Cond.selects RX7 yX7_forced yX7_forced, Cond.code yX7_forced cX7_forced 9 (some .int), Cond.fieldLink RX7 58 "FeatureSolve$Tree" "size" "I"]
def wsX7_forces : List Cond := .code yX7_forces cX7_forces 6 (some .int) :: ((wsX7_forces_r1 ++ (wsX7_forces_r2 ++ (wsX7_forces_r3 ++ (wsX7_forces_r4 ++ wsX7_forces_r5)))) ++ wsX70 ++ wsX00 ++ wsX50 ++ wsX60 ++ wsX10 ++ wsX40 ++ (vx_atM "java/lang/ArrayIndexOutOfBoundsException" ["java/lang/IndexOutOfBoundsException", "java/lang/RuntimeException", "java/lang/Exception"]).filter goodWord)
def wsX7_differ : List Cond := .code yX7_differ cX7_differ 3 (some .int) :: ([.fieldLink RX7 41 "FeatureSolve" "found" "LFeatureSolve$Found;", .methodLink RX7 155 yX2_has, .instanceMethod yX2_has, .selects RX2 yX2_has yX2_has, .initialized RX2, .code yX2_has cX2_has 2 (some .boolean), .fieldLink RX2 19 "FeatureSolve$Found" "size" "I", .methodLink RX7 156 yX2_get, .instanceMethod yX2_get, .selects RX2 yX2_get yX2_get, .code yX2_get cX2_get 2 (some .int), .fieldLink RX2 9 "FeatureSolve$Found" "kept" "[I", .static yX7_at, .initialized RX7, .code yX7_at cX7_at 2 (some .int), .methodLink RX7 157 yJ6_bitCount_0f7a4, .static yJ6_bitCount_0f7a4, .initialized RJ6, .code yJ6_bitCount_0f7a4 cJ6_bitCount_0f7a4 1 (some .int), .constant RJ6 265 (1431655765), .constant RJ6 266 (858993459), .constant RJ6 267 (252645135)] ++ wsX70 ++ wsX20 ++ (vx_atM "java/lang/ArrayIndexOutOfBoundsException" ["java/lang/IndexOutOfBoundsException", "java/lang/RuntimeException", "java/lang/Exception"]).filter goodWord)
def wsX7_level : List Cond := .code yX7_level cX7_level 2 (some .int) :: ([.fieldLink RX7 20 "FeatureSolve" "tree" "LFeatureSolve$Tree;", .fieldLink RX7 58 "FeatureSolve$Tree" "size" "I", .classLink RX7 162 RJx00060, .instantiable RJx00060 6, .initialized RJx00060, .methodLink RX7 165 yX5_above, .instanceMethod yX5_above, .selects RX5 yX5_above yX5_above, .initialized RX5, .code yX5_above cX5_above 2 (some .int), .fieldLink RX5 15 "FeatureSolve$Tree" "depths" "[I", .static yX7_at, .initialized RX7, .code yX7_at cX7_at 2 (some .int)] ++ wsX70 ++ wsX50 ++ wsJx000600 ++ (vx_atM "java/lang/ArrayIndexOutOfBoundsException" ["java/lang/IndexOutOfBoundsException", "java/lang/RuntimeException", "java/lang/Exception"]).filter goodWord)
def wsX8_init : List Cond := .code yX8_init cX8_init 1 none :: ([.methodLink RX8 1 objectInit, .instanceMethod objectInit, .code objectInit ⟨#[0xb1]⟩ 1 none, .arrayClass .int, .fieldLink RX8 7 "FeatureSolveModel" "parents" "[I", .fieldLink RX8 13 "FeatureSolveModel" "kinds" "[I", .arrayClass .boolean, .fieldLink RX8 16 "FeatureSolveModel" "grouped" "[Z", .fieldLink RX8 20 "FeatureSolveModel" "least" "[I", .fieldLink RX8 23 "FeatureSolveModel" "most" "[I", .fieldLink RX8 26 "FeatureSolveModel" "sums" "[I", .fieldLink RX8 29 "FeatureSolveModel" "ops" "[I", .fieldLink RX8 32 "FeatureSolveModel" "as" "[I", .fieldLink RX8 35 "FeatureSolveModel" "bs" "[I", .fieldLink RX8 38 "FeatureSolveModel" "limited" "[Z", .fieldLink RX8 41 "FeatureSolveModel" "limits" "[I", .fieldLink RX8 44 "FeatureSolveModel" "choices" "[I", .fieldLink RX8 47 "FeatureSolveModel" "sets" "[I", .fieldLink RX8 50 "FeatureSolveModel" "found" "[I", .fieldLink RX8 53 "FeatureSolveModel" "foundFeatures" "[I", .fieldLink RX8 56 "FeatureSolveModel" "whys" "[I"] ++ wsX80)
def wsX8_thrown : List Cond := .code yX8_thrown cX8_thrown 1 (some .int) :: ([.fieldLink RX8 59 "FeatureSolveModel" "thrown" "I"] ++ wsX80)
def wsX8_isFeature : List Cond := .code yX8_isFeature cX8_isFeature 2 (some .boolean) :: ([.fieldLink RX8 63 "FeatureSolveModel" "features" "I"] ++ wsX80)
def wsX8_feature : List Cond := .code yX8_feature cX8_feature 3 (some .int) :: ([.fieldLink RX8 59 "FeatureSolveModel" "thrown" "I", .fieldLink RX8 63 "FeatureSolveModel" "features" "I", .fieldLink RX8 7 "FeatureSolveModel" "parents" "[I", .fieldLink RX8 13 "FeatureSolveModel" "kinds" "[I", .fieldLink RX8 70 "FeatureSolveModel" "known" "Z", .methodLink RX8 66 yX8_isFeature, .instanceMethod yX8_isFeature, .selects RX8 yX8_isFeature yX8_isFeature, .initialized RX8, .code yX8_isFeature cX8_isFeature 2 (some .boolean)] ++ wsX80 ++ (vx_atM "java/lang/ArrayIndexOutOfBoundsException" ["java/lang/IndexOutOfBoundsException", "java/lang/RuntimeException", "java/lang/Exception"]).filter goodWord)
def wsX8_groupedBelow : List Cond := .code yX8_groupedBelow cX8_groupedBelow 4 (some .int) :: ([.fieldLink RX8 63 "FeatureSolveModel" "features" "I", .fieldLink RX8 7 "FeatureSolveModel" "parents" "[I", .fieldLink RX8 13 "FeatureSolveModel" "kinds" "[I"] ++ wsX80 ++ (vx_atM "java/lang/ArrayIndexOutOfBoundsException" ["java/lang/IndexOutOfBoundsException", "java/lang/RuntimeException", "java/lang/Exception"]).filter goodWord)
def wsX8_group : List Cond := .code yX8_group cX8_group 4 (some .int) :: ([.fieldLink RX8 59 "FeatureSolveModel" "thrown" "I", .fieldLink RX8 16 "FeatureSolveModel" "grouped" "[Z", .fieldLink RX8 20 "FeatureSolveModel" "least" "[I", .fieldLink RX8 23 "FeatureSolveModel" "most" "[I", .fieldLink RX8 70 "FeatureSolveModel" "known" "Z", .methodLink RX8 66 yX8_isFeature, .instanceMethod yX8_isFeature, .selects RX8 yX8_isFeature yX8_isFeature, .initialized RX8, .code yX8_isFeature cX8_isFeature 2 (some .boolean), .fieldLink RX8 63 "FeatureSolveModel" "features" "I", .methodLink RX8 74 yX8_groupedBelow, .instanceMethod yX8_groupedBelow, .selects RX8 yX8_groupedBelow yX8_groupedBelow, .code yX8_groupedBelow cX8_groupedBelow 4 (some .int), .fieldLink RX8 7 "FeatureSolveModel" "parents" "[I", .fieldLink RX8 13 "FeatureSolveModel" "kinds" "[I"] ++ wsX80 ++ (vx_atM "java/lang/ArrayIndexOutOfBoundsException" ["java/lang/IndexOutOfBoundsException", "java/lang/RuntimeException", "java/lang/Exception"]).filter goodWord)
def wsX8_isLiteral : List Cond := .code yX8_isLiteral cX8_isLiteral 2 (some .boolean) :: ([.methodLink RX8 66 yX8_isFeature, .instanceMethod yX8_isFeature, .selects RX8 yX8_isFeature yX8_isFeature, .initialized RX8, .code yX8_isFeature cX8_isFeature 2 (some .boolean), .fieldLink RX8 63 "FeatureSolveModel" "features" "I"] ++ wsX80)
def wsX8_formula : List Cond := .code yX8_formula cX8_formula 5 (some .int) :: ([.fieldLink RX8 59 "FeatureSolveModel" "thrown" "I", .fieldLink RX8 81 "FeatureSolveModel" "formulas" "I", .fieldLink RX8 29 "FeatureSolveModel" "ops" "[I", .fieldLink RX8 32 "FeatureSolveModel" "as" "[I", .fieldLink RX8 35 "FeatureSolveModel" "bs" "[I", .fieldLink RX8 70 "FeatureSolveModel" "known" "Z", .methodLink RX8 78 yX8_isLiteral, .instanceMethod yX8_isLiteral, .selects RX8 yX8_isLiteral yX8_isLiteral, .initialized RX8, .code yX8_isLiteral cX8_isLiteral 2 (some .boolean), .methodLink RX8 66 yX8_isFeature, .instanceMethod yX8_isFeature, .selects RX8 yX8_isFeature yX8_isFeature, .code yX8_isFeature cX8_isFeature 2 (some .boolean), .fieldLink RX8 63 "FeatureSolveModel" "features" "I"] ++ wsX80 ++ (vx_atM "java/lang/ArrayIndexOutOfBoundsException" ["java/lang/IndexOutOfBoundsException", "java/lang/RuntimeException", "java/lang/Exception"]).filter goodWord)
def wsX8_attribute : List Cond := .code yX8_attribute cX8_attribute 5 (some .int) :: ([.fieldLink RX8 59 "FeatureSolveModel" "thrown" "I", .fieldLink RX8 38 "FeatureSolveModel" "limited" "[Z", .fieldLink RX8 41 "FeatureSolveModel" "limits" "[I", .fieldLink RX8 26 "FeatureSolveModel" "sums" "[I", .fieldLink RX8 70 "FeatureSolveModel" "known" "Z", .methodLink RX8 66 yX8_isFeature, .instanceMethod yX8_isFeature, .selects RX8 yX8_isFeature yX8_isFeature, .initialized RX8, .code yX8_isFeature cX8_isFeature 2 (some .boolean), .fieldLink RX8 63 "FeatureSolveModel" "features" "I"] ++ wsX80 ++ (vx_atM "java/lang/ArrayIndexOutOfBoundsException" ["java/lang/IndexOutOfBoundsException", "java/lang/RuntimeException", "java/lang/Exception"]).filter goodWord)
def wsX8_choiceOf : List Cond := .code yX8_choiceOf cX8_choiceOf 4 (some .int) :: ([.fieldLink RX8 84 "FeatureSolveModel" "choiceCount" "I", .fieldLink RX8 44 "FeatureSolveModel" "choices" "[I"] ++ wsX80 ++ (vx_atM "java/lang/ArrayIndexOutOfBoundsException" ["java/lang/IndexOutOfBoundsException", "java/lang/RuntimeException", "java/lang/Exception"]).filter goodWord)
def wsX8_forget : List Cond := .code yX8_forget cX8_forget 3 none :: ([.fieldLink RX8 84 "FeatureSolveModel" "choiceCount" "I", .fieldLink RX8 44 "FeatureSolveModel" "choices" "[I"] ++ wsX80 ++ (vx_atM "java/lang/ArrayIndexOutOfBoundsException" ["java/lang/IndexOutOfBoundsException", "java/lang/RuntimeException", "java/lang/Exception"]).filter goodWord)
def wsX8_choose : List Cond := .code yX8_choose cX8_choose 5 (some .int) :: ([.fieldLink RX8 59 "FeatureSolveModel" "thrown" "I", .fieldLink RX8 44 "FeatureSolveModel" "choices" "[I", .fieldLink RX8 84 "FeatureSolveModel" "choiceCount" "I", .methodLink RX8 78 yX8_isLiteral, .instanceMethod yX8_isLiteral, .selects RX8 yX8_isLiteral yX8_isLiteral, .initialized RX8, .code yX8_isLiteral cX8_isLiteral 2 (some .boolean), .methodLink RX8 66 yX8_isFeature, .instanceMethod yX8_isFeature, .selects RX8 yX8_isFeature yX8_isFeature, .code yX8_isFeature cX8_isFeature 2 (some .boolean), .fieldLink RX8 63 "FeatureSolveModel" "features" "I", .methodLink RX8 87 yX8_choiceOf, .instanceMethod yX8_choiceOf, .selects RX8 yX8_choiceOf yX8_choiceOf, .code yX8_choiceOf cX8_choiceOf 4 (some .int), .methodLink RX8 90 yX8_forget, .instanceMethod yX8_forget, .selects RX8 yX8_forget yX8_forget, .code yX8_forget cX8_forget 3 none] ++ wsX80 ++ (vx_atM "java/lang/ArrayIndexOutOfBoundsException" ["java/lang/IndexOutOfBoundsException", "java/lang/RuntimeException", "java/lang/Exception"]).filter goodWord)
def wsX8_isIn : List Cond := .code yX8_isIn cX8_isIn 3 (some .boolean) :: ([.fieldLink RX8 63 "FeatureSolveModel" "features" "I"] ++ wsX80)
def wsX8_holds : List Cond := .code yX8_holds cX8_holds 3 (some .boolean) :: ([.methodLink RX8 94 yX8_isIn, .instanceMethod yX8_isIn, .selects RX8 yX8_isIn yX8_isIn, .initialized RX8, .code yX8_isIn cX8_isIn 3 (some .boolean), .fieldLink RX8 63 "FeatureSolveModel" "features" "I"] ++ wsX80)
def wsX8_keepsTree : List Cond := .code yX8_keepsTree cX8_keepsTree 6 (some .boolean) :: ([.fieldLink RX8 63 "FeatureSolveModel" "features" "I", .fieldLink RX8 7 "FeatureSolveModel" "parents" "[I", .fieldLink RX8 13 "FeatureSolveModel" "kinds" "[I", .fieldLink RX8 16 "FeatureSolveModel" "grouped" "[Z", .fieldLink RX8 20 "FeatureSolveModel" "least" "[I", .fieldLink RX8 23 "FeatureSolveModel" "most" "[I", .methodLink RX8 94 yX8_isIn, .instanceMethod yX8_isIn, .selects RX8 yX8_isIn yX8_isIn, .initialized RX8, .code yX8_isIn cX8_isIn 3 (some .boolean)] ++ wsX80 ++ (vx_atM "java/lang/ArrayIndexOutOfBoundsException" ["java/lang/IndexOutOfBoundsException", "java/lang/RuntimeException", "java/lang/Exception"]).filter goodWord)
def wsX8_keepsFormulas : List Cond := .code yX8_keepsFormulas cX8_keepsFormulas 6 (some .boolean) :: ([.fieldLink RX8 81 "FeatureSolveModel" "formulas" "I", .fieldLink RX8 32 "FeatureSolveModel" "as" "[I", .fieldLink RX8 35 "FeatureSolveModel" "bs" "[I", .fieldLink RX8 29 "FeatureSolveModel" "ops" "[I", .methodLink RX8 98 yX8_holds, .instanceMethod yX8_holds, .selects RX8 yX8_holds yX8_holds, .initialized RX8, .code yX8_holds cX8_holds 3 (some .boolean), .methodLink RX8 94 yX8_isIn, .instanceMethod yX8_isIn, .selects RX8 yX8_isIn yX8_isIn, .code yX8_isIn cX8_isIn 3 (some .boolean), .fieldLink RX8 63 "FeatureSolveModel" "features" "I"] ++ wsX80 ++ (vx_atM "java/lang/ArrayIndexOutOfBoundsException" ["java/lang/IndexOutOfBoundsException", "java/lang/RuntimeException", "java/lang/Exception"]).filter goodWord)
def wsX8_keepsLimits : List Cond := .code yX8_keepsLimits cX8_keepsLimits 6 (some .boolean) :: ([.fieldLink RX8 63 "FeatureSolveModel" "features" "I", .fieldLink RX8 26 "FeatureSolveModel" "sums" "[I", .fieldLink RX8 38 "FeatureSolveModel" "limited" "[Z", .fieldLink RX8 41 "FeatureSolveModel" "limits" "[I", .methodLink RX8 94 yX8_isIn, .instanceMethod yX8_isIn, .selects RX8 yX8_isIn yX8_isIn, .initialized RX8, .code yX8_isIn cX8_isIn 3 (some .boolean)] ++ wsX80 ++ (vx_atM "java/lang/ArrayIndexOutOfBoundsException" ["java/lang/IndexOutOfBoundsException", "java/lang/RuntimeException", "java/lang/Exception"]).filter goodWord)
def wsX8_know_r1 : List Cond := [Cond.fieldLink RX8 70 "FeatureSolveModel" "known" "Z", Cond.fieldLink RX8 101 "FeatureSolveModel" "setCount" "I", Cond.fieldLink RX8 63 "FeatureSolveModel" "features" "I", Cond.fieldLink RX8 47 "FeatureSolveModel" "sets" "[I", Cond.methodLink RX8 104 yX8_keepsTree, Cond.instanceMethod yX8_keepsTree, Cond.selects RX8 yX8_keepsTree yX8_keepsTree, Cond.initialized RX8, Cond.code yX8_keepsTree cX8_keepsTree 6 (some .boolean), Cond.fieldLink RX8 7 "FeatureSolveModel" "parents" "[I", Cond.fieldLink RX8 13 "FeatureSolveModel" "kinds" "[I", Cond.fieldLink RX8 16 "FeatureSolveModel" "grouped" "[Z", Cond.fieldLink RX8 20 "FeatureSolveModel" "least" "[I", Cond.fieldLink RX8 23 "FeatureSolveModel" "most" "[I", Cond.methodLink RX8 94 yX8_isIn, Cond.instanceMethod yX8_isIn, Cond.selects RX8 yX8_isIn yX8_isIn, Cond.code yX8_isIn cX8_isIn 3 (some .boolean), Cond.methodLink RX8 107 yX8_keepsFormulas, Cond.instanceMethod yX8_keepsFormulas, Cond.selects RX8 yX8_keepsFormulas yX8_keepsFormulas, Cond.code yX8_keepsFormulas cX8_keepsFormulas 6 (some .boolean), Cond.fieldLink RX8 81 "FeatureSolveModel" "formulas" "I", Cond.fieldLink RX8 32 "FeatureSolveModel" "as" "[I"]
def wsX8_know_r2 : List Cond := [Cond.fieldLink RX8 35 "FeatureSolveModel" "bs" "[I", Cond.fieldLink RX8 29 "FeatureSolveModel" "ops" "[I", Cond.methodLink RX8 98 yX8_holds, Cond.instanceMethod yX8_holds, Cond.selects RX8 yX8_holds yX8_holds, Cond.code yX8_holds cX8_holds 3 (some .boolean), Cond.methodLink RX8 110 yX8_keepsLimits, Cond.instanceMethod yX8_keepsLimits, Cond.selects RX8 yX8_keepsLimits yX8_keepsLimits, Cond.code yX8_keepsLimits cX8_keepsLimits 6 (some .boolean), Cond.fieldLink RX8 26 "FeatureSolveModel" "sums" "[I", Cond.fieldLink RX8 38 "FeatureSolveModel" "limited" "[Z", Cond.fieldLink RX8 41 "FeatureSolveModel" "limits" "[I"]
def wsX8_know : List Cond := .code yX8_know cX8_know 2 none :: ((wsX8_know_r1 ++ wsX8_know_r2) ++ wsX80 ++ (vx_atM "java/lang/ArrayIndexOutOfBoundsException" ["java/lang/IndexOutOfBoundsException", "java/lang/RuntimeException", "java/lang/Exception"]).filter goodWord)
def wsX8_keepsChoices : List Cond := .code yX8_keepsChoices cX8_keepsChoices 5 (some .boolean) :: ([.fieldLink RX8 84 "FeatureSolveModel" "choiceCount" "I", .fieldLink RX8 44 "FeatureSolveModel" "choices" "[I", .methodLink RX8 98 yX8_holds, .instanceMethod yX8_holds, .selects RX8 yX8_holds yX8_holds, .initialized RX8, .code yX8_holds cX8_holds 3 (some .boolean), .methodLink RX8 94 yX8_isIn, .instanceMethod yX8_isIn, .selects RX8 yX8_isIn yX8_isIn, .code yX8_isIn cX8_isIn 3 (some .boolean), .fieldLink RX8 63 "FeatureSolveModel" "features" "I"] ++ wsX80 ++ (vx_atM "java/lang/ArrayIndexOutOfBoundsException" ["java/lang/IndexOutOfBoundsException", "java/lang/RuntimeException", "java/lang/Exception"]).filter goodWord)
def wsX8_firstWithout_r1 : List Cond := [Cond.fieldLink RX8 101 "FeatureSolveModel" "setCount" "I", Cond.fieldLink RX8 47 "FeatureSolveModel" "sets" "[I", Cond.methodLink RX8 113 yX8_know, Cond.instanceMethod yX8_know, Cond.selects RX8 yX8_know yX8_know, Cond.initialized RX8, Cond.code yX8_know cX8_know 2 none, Cond.fieldLink RX8 70 "FeatureSolveModel" "known" "Z", Cond.fieldLink RX8 63 "FeatureSolveModel" "features" "I", Cond.methodLink RX8 104 yX8_keepsTree, Cond.instanceMethod yX8_keepsTree, Cond.selects RX8 yX8_keepsTree yX8_keepsTree, Cond.code yX8_keepsTree cX8_keepsTree 6 (some .boolean), Cond.fieldLink RX8 7 "FeatureSolveModel" "parents" "[I", Cond.fieldLink RX8 13 "FeatureSolveModel" "kinds" "[I", Cond.fieldLink RX8 16 "FeatureSolveModel" "grouped" "[Z", Cond.fieldLink RX8 20 "FeatureSolveModel" "least" "[I", Cond.fieldLink RX8 23 "FeatureSolveModel" "most" "[I", Cond.methodLink RX8 94 yX8_isIn, Cond.instanceMethod yX8_isIn, Cond.selects RX8 yX8_isIn yX8_isIn, Cond.code yX8_isIn cX8_isIn 3 (some .boolean), Cond.methodLink RX8 107 yX8_keepsFormulas, Cond.instanceMethod yX8_keepsFormulas]
def wsX8_firstWithout_r2 : List Cond := [Cond.selects RX8 yX8_keepsFormulas yX8_keepsFormulas, Cond.code yX8_keepsFormulas cX8_keepsFormulas 6 (some .boolean), Cond.fieldLink RX8 81 "FeatureSolveModel" "formulas" "I", Cond.fieldLink RX8 32 "FeatureSolveModel" "as" "[I", Cond.fieldLink RX8 35 "FeatureSolveModel" "bs" "[I", Cond.fieldLink RX8 29 "FeatureSolveModel" "ops" "[I", Cond.methodLink RX8 98 yX8_holds, Cond.instanceMethod yX8_holds, Cond.selects RX8 yX8_holds yX8_holds, Cond.code yX8_holds cX8_holds 3 (some .boolean), Cond.methodLink RX8 110 yX8_keepsLimits, Cond.instanceMethod yX8_keepsLimits, Cond.selects RX8 yX8_keepsLimits yX8_keepsLimits, Cond.code yX8_keepsLimits cX8_keepsLimits 6 (some .boolean), Cond.fieldLink RX8 26 "FeatureSolveModel" "sums" "[I", Cond.fieldLink RX8 38 "FeatureSolveModel" "limited" "[Z", Cond.fieldLink RX8 41 "FeatureSolveModel" "limits" "[I", Cond.methodLink RX8 116 yX8_keepsChoices, Cond.instanceMethod yX8_keepsChoices, Cond.selects RX8 yX8_keepsChoices yX8_keepsChoices, Cond.code yX8_keepsChoices cX8_keepsChoices 5 (some .boolean), Cond.fieldLink RX8 84 "FeatureSolveModel" "choiceCount" "I", Cond.fieldLink RX8 44 "FeatureSolveModel" "choices" "[I"]
def wsX8_firstWithout : List Cond := .code yX8_firstWithout cX8_firstWithout 3 (some .int) :: ((wsX8_firstWithout_r1 ++ wsX8_firstWithout_r2) ++ wsX80 ++ (vx_atM "java/lang/ArrayIndexOutOfBoundsException" ["java/lang/IndexOutOfBoundsException", "java/lang/RuntimeException", "java/lang/Exception"]).filter goodWord)
def wsX8_solve_r1 : List Cond := [Cond.fieldLink RX8 59 "FeatureSolveModel" "thrown" "I", Cond.fieldLink RX8 119 "FeatureSolveModel" "whyCount" "I", Cond.fieldLink RX8 125 "FeatureSolveModel" "solved" "Z", Cond.fieldLink RX8 128 "FeatureSolveModel" "last" "I", Cond.fieldLink RX8 63 "FeatureSolveModel" "features" "I", Cond.fieldLink RX8 131 "FeatureSolveModel" "lastFeatures" "I", Cond.fieldLink RX8 134 "FeatureSolveModel" "foundCount" "I", Cond.fieldLink RX8 50 "FeatureSolveModel" "found" "[I", Cond.fieldLink RX8 53 "FeatureSolveModel" "foundFeatures" "[I", Cond.fieldLink RX8 84 "FeatureSolveModel" "choiceCount" "I", Cond.fieldLink RX8 56 "FeatureSolveModel" "whys" "[I", Cond.fieldLink RX8 44 "FeatureSolveModel" "choices" "[I", Cond.methodLink RX8 122 yX8_firstWithout, Cond.instanceMethod yX8_firstWithout, Cond.selects RX8 yX8_firstWithout yX8_firstWithout, Cond.initialized RX8, Cond.code yX8_firstWithout cX8_firstWithout 3 (some .int), Cond.fieldLink RX8 101 "FeatureSolveModel" "setCount" "I", Cond.fieldLink RX8 47 "FeatureSolveModel" "sets" "[I", Cond.methodLink RX8 113 yX8_know, Cond.instanceMethod yX8_know, Cond.selects RX8 yX8_know yX8_know, Cond.code yX8_know cX8_know 2 none, Cond.fieldLink RX8 70 "FeatureSolveModel" "known" "Z"]
def wsX8_solve_r2 : List Cond := [Cond.methodLink RX8 104 yX8_keepsTree, Cond.instanceMethod yX8_keepsTree, Cond.selects RX8 yX8_keepsTree yX8_keepsTree, Cond.code yX8_keepsTree cX8_keepsTree 6 (some .boolean), Cond.fieldLink RX8 7 "FeatureSolveModel" "parents" "[I", Cond.fieldLink RX8 13 "FeatureSolveModel" "kinds" "[I", Cond.fieldLink RX8 16 "FeatureSolveModel" "grouped" "[Z", Cond.fieldLink RX8 20 "FeatureSolveModel" "least" "[I", Cond.fieldLink RX8 23 "FeatureSolveModel" "most" "[I", Cond.methodLink RX8 94 yX8_isIn, Cond.instanceMethod yX8_isIn, Cond.selects RX8 yX8_isIn yX8_isIn, Cond.code yX8_isIn cX8_isIn 3 (some .boolean), Cond.methodLink RX8 107 yX8_keepsFormulas, Cond.instanceMethod yX8_keepsFormulas, Cond.selects RX8 yX8_keepsFormulas yX8_keepsFormulas, Cond.code yX8_keepsFormulas cX8_keepsFormulas 6 (some .boolean), Cond.fieldLink RX8 81 "FeatureSolveModel" "formulas" "I", Cond.fieldLink RX8 32 "FeatureSolveModel" "as" "[I", Cond.fieldLink RX8 35 "FeatureSolveModel" "bs" "[I", Cond.fieldLink RX8 29 "FeatureSolveModel" "ops" "[I", Cond.methodLink RX8 98 yX8_holds, Cond.instanceMethod yX8_holds, Cond.selects RX8 yX8_holds yX8_holds]
def wsX8_solve_r3 : List Cond := [Cond.code yX8_holds cX8_holds 3 (some .boolean), Cond.methodLink RX8 110 yX8_keepsLimits, Cond.instanceMethod yX8_keepsLimits, Cond.selects RX8 yX8_keepsLimits yX8_keepsLimits, Cond.code yX8_keepsLimits cX8_keepsLimits 6 (some .boolean), Cond.fieldLink RX8 26 "FeatureSolveModel" "sums" "[I", Cond.fieldLink RX8 38 "FeatureSolveModel" "limited" "[Z", Cond.fieldLink RX8 41 "FeatureSolveModel" "limits" "[I", Cond.methodLink RX8 116 yX8_keepsChoices, Cond.instanceMethod yX8_keepsChoices, Cond.selects RX8 yX8_keepsChoices yX8_keepsChoices, Cond.code yX8_keepsChoices cX8_keepsChoices 5 (some .boolean)]
def wsX8_solve : List Cond := .code yX8_solve cX8_solve 4 (some .int) :: ((wsX8_solve_r1 ++ (wsX8_solve_r2 ++ wsX8_solve_r3)) ++ wsX80 ++ (vx_atM "java/lang/ArrayIndexOutOfBoundsException" ["java/lang/IndexOutOfBoundsException", "java/lang/RuntimeException", "java/lang/Exception"]).filter goodWord)
def wsX8_wasIn : List Cond := .code yX8_wasIn cX8_wasIn 3 (some .boolean) :: ([])
def wsX8_chosen : List Cond := .code yX8_chosen cX8_chosen 2 (some .boolean) :: ([.fieldLink RX8 59 "FeatureSolveModel" "thrown" "I", .fieldLink RX8 125 "FeatureSolveModel" "solved" "Z", .fieldLink RX8 128 "FeatureSolveModel" "last" "I", .fieldLink RX8 131 "FeatureSolveModel" "lastFeatures" "I", .methodLink RX8 137 yX8_wasIn, .static yX8_wasIn, .initialized RX8, .code yX8_wasIn cX8_wasIn 3 (some .boolean)] ++ wsX80)
def wsX8_why : List Cond := .code yX8_why cX8_why 2 (some .int) :: ([.fieldLink RX8 59 "FeatureSolveModel" "thrown" "I", .fieldLink RX8 119 "FeatureSolveModel" "whyCount" "I", .fieldLink RX8 56 "FeatureSolveModel" "whys" "[I"] ++ wsX80 ++ (vx_atM "java/lang/ArrayIndexOutOfBoundsException" ["java/lang/IndexOutOfBoundsException", "java/lang/RuntimeException", "java/lang/Exception"]).filter goodWord)
def wsX8_count_r1 : List Cond := [Cond.fieldLink RX8 59 "FeatureSolveModel" "thrown" "I", Cond.constantLong RX8 141 (-2), Cond.fieldLink RX8 63 "FeatureSolveModel" "features" "I", Cond.constantLong RX8 143 (-1), Cond.fieldLink RX8 101 "FeatureSolveModel" "setCount" "I", Cond.fieldLink RX8 47 "FeatureSolveModel" "sets" "[I", Cond.methodLink RX8 113 yX8_know, Cond.instanceMethod yX8_know, Cond.selects RX8 yX8_know yX8_know, Cond.initialized RX8, Cond.code yX8_know cX8_know 2 none, Cond.fieldLink RX8 70 "FeatureSolveModel" "known" "Z", Cond.methodLink RX8 104 yX8_keepsTree, Cond.instanceMethod yX8_keepsTree, Cond.selects RX8 yX8_keepsTree yX8_keepsTree, Cond.code yX8_keepsTree cX8_keepsTree 6 (some .boolean), Cond.fieldLink RX8 7 "FeatureSolveModel" "parents" "[I", Cond.fieldLink RX8 13 "FeatureSolveModel" "kinds" "[I", Cond.fieldLink RX8 16 "FeatureSolveModel" "grouped" "[Z", Cond.fieldLink RX8 20 "FeatureSolveModel" "least" "[I", Cond.fieldLink RX8 23 "FeatureSolveModel" "most" "[I", Cond.methodLink RX8 94 yX8_isIn, Cond.instanceMethod yX8_isIn, Cond.selects RX8 yX8_isIn yX8_isIn]
def wsX8_count_r2 : List Cond := [Cond.code yX8_isIn cX8_isIn 3 (some .boolean), Cond.methodLink RX8 107 yX8_keepsFormulas, Cond.instanceMethod yX8_keepsFormulas, Cond.selects RX8 yX8_keepsFormulas yX8_keepsFormulas, Cond.code yX8_keepsFormulas cX8_keepsFormulas 6 (some .boolean), Cond.fieldLink RX8 81 "FeatureSolveModel" "formulas" "I", Cond.fieldLink RX8 32 "FeatureSolveModel" "as" "[I", Cond.fieldLink RX8 35 "FeatureSolveModel" "bs" "[I", Cond.fieldLink RX8 29 "FeatureSolveModel" "ops" "[I", Cond.methodLink RX8 98 yX8_holds, Cond.instanceMethod yX8_holds, Cond.selects RX8 yX8_holds yX8_holds, Cond.code yX8_holds cX8_holds 3 (some .boolean), Cond.methodLink RX8 110 yX8_keepsLimits, Cond.instanceMethod yX8_keepsLimits, Cond.selects RX8 yX8_keepsLimits yX8_keepsLimits, Cond.code yX8_keepsLimits cX8_keepsLimits 6 (some .boolean), Cond.fieldLink RX8 26 "FeatureSolveModel" "sums" "[I", Cond.fieldLink RX8 38 "FeatureSolveModel" "limited" "[Z", Cond.fieldLink RX8 41 "FeatureSolveModel" "limits" "[I", Cond.methodLink RX8 116 yX8_keepsChoices, Cond.instanceMethod yX8_keepsChoices, Cond.selects RX8 yX8_keepsChoices yX8_keepsChoices, Cond.code yX8_keepsChoices cX8_keepsChoices 5 (some .boolean)]
def wsX8_count_r3 : List Cond := [Cond.fieldLink RX8 84 "FeatureSolveModel" "choiceCount" "I", Cond.fieldLink RX8 44 "FeatureSolveModel" "choices" "[I"]
def wsX8_count : List Cond := .code yX8_count cX8_count 6 (some .long) :: ((wsX8_count_r1 ++ (wsX8_count_r2 ++ wsX8_count_r3)) ++ wsX80 ++ (vx_atM "java/lang/ArrayIndexOutOfBoundsException" ["java/lang/IndexOutOfBoundsException", "java/lang/RuntimeException", "java/lang/Exception"]).filter goodWord)
def wsX8_forces_r1 : List Cond := [Cond.fieldLink RX8 59 "FeatureSolveModel" "thrown" "I", Cond.fieldLink RX8 101 "FeatureSolveModel" "setCount" "I", Cond.fieldLink RX8 47 "FeatureSolveModel" "sets" "[I", Cond.fieldLink RX8 63 "FeatureSolveModel" "features" "I", Cond.methodLink RX8 66 yX8_isFeature, Cond.instanceMethod yX8_isFeature, Cond.selects RX8 yX8_isFeature yX8_isFeature, Cond.initialized RX8, Cond.code yX8_isFeature cX8_isFeature 2 (some .boolean), Cond.methodLink RX8 113 yX8_know, Cond.instanceMethod yX8_know, Cond.selects RX8 yX8_know yX8_know, Cond.code yX8_know cX8_know 2 none, Cond.fieldLink RX8 70 "FeatureSolveModel" "known" "Z", Cond.methodLink RX8 104 yX8_keepsTree, Cond.instanceMethod yX8_keepsTree, Cond.selects RX8 yX8_keepsTree yX8_keepsTree, Cond.code yX8_keepsTree cX8_keepsTree 6 (some .boolean), Cond.fieldLink RX8 7 "FeatureSolveModel" "parents" "[I", Cond.fieldLink RX8 13 "FeatureSolveModel" "kinds" "[I", Cond.fieldLink RX8 16 "FeatureSolveModel" "grouped" "[Z", Cond.fieldLink RX8 20 "FeatureSolveModel" "least" "[I", Cond.fieldLink RX8 23 "FeatureSolveModel" "most" "[I", Cond.methodLink RX8 94 yX8_isIn]
def wsX8_forces_r2 : List Cond := [Cond.instanceMethod yX8_isIn, Cond.selects RX8 yX8_isIn yX8_isIn, Cond.code yX8_isIn cX8_isIn 3 (some .boolean), Cond.methodLink RX8 107 yX8_keepsFormulas, Cond.instanceMethod yX8_keepsFormulas, Cond.selects RX8 yX8_keepsFormulas yX8_keepsFormulas, Cond.code yX8_keepsFormulas cX8_keepsFormulas 6 (some .boolean), Cond.fieldLink RX8 81 "FeatureSolveModel" "formulas" "I", Cond.fieldLink RX8 32 "FeatureSolveModel" "as" "[I", Cond.fieldLink RX8 35 "FeatureSolveModel" "bs" "[I", Cond.fieldLink RX8 29 "FeatureSolveModel" "ops" "[I", Cond.methodLink RX8 98 yX8_holds, Cond.instanceMethod yX8_holds, Cond.selects RX8 yX8_holds yX8_holds, Cond.code yX8_holds cX8_holds 3 (some .boolean), Cond.methodLink RX8 110 yX8_keepsLimits, Cond.instanceMethod yX8_keepsLimits, Cond.selects RX8 yX8_keepsLimits yX8_keepsLimits, Cond.code yX8_keepsLimits cX8_keepsLimits 6 (some .boolean), Cond.fieldLink RX8 26 "FeatureSolveModel" "sums" "[I", Cond.fieldLink RX8 38 "FeatureSolveModel" "limited" "[Z", Cond.fieldLink RX8 41 "FeatureSolveModel" "limits" "[I", Cond.methodLink RX8 116 yX8_keepsChoices, Cond.instanceMethod yX8_keepsChoices]
def wsX8_forces_r3 : List Cond := [Cond.selects RX8 yX8_keepsChoices yX8_keepsChoices, Cond.code yX8_keepsChoices cX8_keepsChoices 5 (some .boolean), Cond.fieldLink RX8 84 "FeatureSolveModel" "choiceCount" "I", Cond.fieldLink RX8 44 "FeatureSolveModel" "choices" "[I"]
def wsX8_forces : List Cond := .code yX8_forces cX8_forces 9 (some .int) :: ((wsX8_forces_r1 ++ (wsX8_forces_r2 ++ wsX8_forces_r3)) ++ wsX80 ++ (vx_atM "java/lang/ArrayIndexOutOfBoundsException" ["java/lang/IndexOutOfBoundsException", "java/lang/RuntimeException", "java/lang/Exception"]).filter goodWord)
def wsX8_differ : List Cond := .code yX8_differ cX8_differ 7 (some .int) :: ([.fieldLink RX8 59 "FeatureSolveModel" "thrown" "I", .fieldLink RX8 134 "FeatureSolveModel" "foundCount" "I", .fieldLink RX8 50 "FeatureSolveModel" "found" "[I", .fieldLink RX8 53 "FeatureSolveModel" "foundFeatures" "[I", .methodLink RX8 137 yX8_wasIn, .static yX8_wasIn, .initialized RX8, .code yX8_wasIn cX8_wasIn 3 (some .boolean)] ++ wsX80 ++ (vx_atM "java/lang/ArrayIndexOutOfBoundsException" ["java/lang/IndexOutOfBoundsException", "java/lang/RuntimeException", "java/lang/Exception"]).filter goodWord)
def wsX8_level : List Cond := .code yX8_level cX8_level 4 (some .int) :: ([.fieldLink RX8 59 "FeatureSolveModel" "thrown" "I", .fieldLink RX8 63 "FeatureSolveModel" "features" "I", .fieldLink RX8 7 "FeatureSolveModel" "parents" "[I"] ++ wsX80 ++ (vx_atM "java/lang/ArrayIndexOutOfBoundsException" ["java/lang/IndexOutOfBoundsException", "java/lang/RuntimeException", "java/lang/Exception"]).filter goodWord)
def wsJx00060_init_da8c8 : List Cond := .code yJx00060_init_da8c8 cJx00060_init_da8c8 1 none :: ([])
def wsJx00060_init_a7421 : List Cond := .code yJx00060_init_a7421 cJx00060_init_a7421 2 none :: ([])
def wsL_level : List Cond := .codeWith yL_level cL_level 4 (some .int) [(0, 9, 12, 13)] :: ([.classLink RL 13 "java/lang/ArrayIndexOutOfBoundsException", .methodLink RL 7 yX7_level, .instanceMethod yX7_level, .selects RX7 yX7_level yX7_level, .initialized RX7, .code yX7_level cX7_level 2 (some .int), .fieldLink RX7 20 "FeatureSolve" "tree" "LFeatureSolve$Tree;", .fieldLink RX7 58 "FeatureSolve$Tree" "size" "I", .classLink RX7 162 RJx00060, .instantiable RJx00060 6, .initialized RJx00060, .methodLink RX7 165 yX5_above, .instanceMethod yX5_above, .selects RX5 yX5_above yX5_above, .initialized RX5, .code yX5_above cX5_above 2 (some .int), .fieldLink RX5 15 "FeatureSolve$Tree" "depths" "[I", .static yX7_at, .code yX7_at cX7_at 2 (some .int)] ++ wsX70 ++ wsX50 ++ wsJx000600 ++ (vx_atM "java/lang/ArrayIndexOutOfBoundsException" ["java/lang/IndexOutOfBoundsException", "java/lang/RuntimeException", "java/lang/Exception"]).filter goodWord)
def wsL_law0_r1 : List Cond := [Cond.classLink RL 8 RX7, Cond.instantiable RX7 7, Cond.initialized RX7, Cond.classLink RL 16 RX8, Cond.instantiable RX8 27, Cond.initialized RX8, Cond.arrayClass .long, Cond.constantLong RL 56 (4294967295), Cond.methodLink RL 15 yX7_init, Cond.instanceMethod yX7_init, Cond.code yX7_init cX7_init 1 none, Cond.methodLink RX7 1 objectInit, Cond.instanceMethod objectInit, Cond.code objectInit ⟨#[0xb1]⟩ 1 none, Cond.classLink RX7 7 RX6, Cond.instantiable RX6 6, Cond.initialized RX6, Cond.fieldLink RX7 10 "FeatureSolve" "variants" "LFeatureSolve$Variants;", Cond.fieldLink RX7 16 "FeatureSolve$Variants" "tree" "LFeatureSolve$Tree;", Cond.fieldLink RX7 20 "FeatureSolve" "tree" "LFeatureSolve$Tree;", Cond.fieldLink RX7 21 "FeatureSolve$Variants" "formulas" "LFeatureSolve$Formulas;", Cond.fieldLink RX7 25 "FeatureSolve" "formulas" "LFeatureSolve$Formulas;", Cond.fieldLink RX7 26 "FeatureSolve$Variants" "sums" "LFeatureSolve$Sums;", Cond.fieldLink RX7 30 "FeatureSolve" "sums" "LFeatureSolve$Sums;"]
def wsL_law0_r2 : List Cond := [Cond.classLink RX7 31 RX0, Cond.instantiable RX0 4, Cond.initialized RX0, Cond.fieldLink RX7 34 "FeatureSolve" "choices" "LFeatureSolve$Choices;", Cond.classLink RX7 38 RX2, Cond.instantiable RX2 3, Cond.initialized RX2, Cond.fieldLink RX7 41 "FeatureSolve" "found" "LFeatureSolve$Found;", Cond.classLink RX7 45 RX3, Cond.instantiable RX3 2, Cond.initialized RX3, Cond.fieldLink RX7 48 "FeatureSolve" "reason" "LFeatureSolve$Reason;", Cond.instanceMethod yX6_init, Cond.code yX6_init cX6_init 1 none, Cond.methodLink RX6 3 objectInit, Cond.classLink RX6 9 RX5, Cond.instantiable RX5 8, Cond.initialized RX5, Cond.fieldLink RX6 12 "FeatureSolve$Variants" "tree" "LFeatureSolve$Tree;", Cond.classLink RX6 18 RX1, Cond.instantiable RX1 6, Cond.initialized RX1, Cond.fieldLink RX6 21 "FeatureSolve$Variants" "formulas" "LFeatureSolve$Formulas;", Cond.classLink RX6 25 RX4]
def wsL_law0_r3 : List Cond := [Cond.instantiable RX4 2, Cond.initialized RX4, Cond.fieldLink RX6 28 "FeatureSolve$Variants" "sums" "LFeatureSolve$Sums;", Cond.arrayClass .int, Cond.fieldLink RX6 32 "FeatureSolve$Variants" "row" "[I", Cond.instanceMethod yX5_init, Cond.code yX5_init cX5_init 1 none, Cond.methodLink RX5 3 objectInit, Cond.fieldLink RX5 9 "FeatureSolve$Tree" "kinds" "[I", Cond.fieldLink RX5 15 "FeatureSolve$Tree" "depths" "[I", Cond.fieldLink RX5 18 "FeatureSolve$Tree" "parentBits" "[I", Cond.fieldLink RX5 21 "FeatureSolve$Tree" "groupedBits" "[I", Cond.fieldLink RX5 24 "FeatureSolve$Tree" "least" "[I", Cond.fieldLink RX5 27 "FeatureSolve$Tree" "most" "[I", Cond.instanceMethod yX1_init, Cond.code yX1_init cX1_init 1 none, Cond.methodLink RX1 3 objectInit, Cond.fieldLink RX1 9 "FeatureSolve$Formulas" "ops" "[I", Cond.fieldLink RX1 15 "FeatureSolve$Formulas" "leftBits" "[I", Cond.fieldLink RX1 18 "FeatureSolve$Formulas" "leftWants" "[I", Cond.fieldLink RX1 21 "FeatureSolve$Formulas" "rightBits" "[I", Cond.fieldLink RX1 24 "FeatureSolve$Formulas" "rightWants" "[I", Cond.instanceMethod yX4_init, Cond.code yX4_init cX4_init 1 none]
def wsL_law0_r4 : List Cond := [Cond.methodLink RX4 3 objectInit, Cond.fieldLink RX4 11 "FeatureSolve$Sums" "values" "[I", Cond.fieldLink RX4 15 "FeatureSolve$Sums" "limits" "[I", Cond.instanceMethod yX0_init, Cond.code yX0_init cX0_init 1 none, Cond.methodLink RX0 3 objectInit, Cond.fieldLink RX0 9 "FeatureSolve$Choices" "told" "[I", Cond.instanceMethod yX2_init, Cond.code yX2_init cX2_init 1 none, Cond.methodLink RX2 3 objectInit, Cond.fieldLink RX2 9 "FeatureSolve$Found" "kept" "[I", Cond.instanceMethod yX3_init, Cond.code yX3_init cX3_init 1 none, Cond.methodLink RX3 3 objectInit, Cond.fieldLink RX3 9 "FeatureSolve$Reason" "left" "[I", Cond.methodLink RL 18 yX8_init, Cond.instanceMethod yX8_init, Cond.code yX8_init cX8_init 1 none, Cond.methodLink RX8 1 objectInit, Cond.fieldLink RX8 7 "FeatureSolveModel" "parents" "[I", Cond.fieldLink RX8 13 "FeatureSolveModel" "kinds" "[I", Cond.arrayClass .boolean, Cond.fieldLink RX8 16 "FeatureSolveModel" "grouped" "[Z", Cond.fieldLink RX8 20 "FeatureSolveModel" "least" "[I"]
def wsL_law0_r5 : List Cond := [Cond.fieldLink RX8 23 "FeatureSolveModel" "most" "[I", Cond.fieldLink RX8 26 "FeatureSolveModel" "sums" "[I", Cond.fieldLink RX8 29 "FeatureSolveModel" "ops" "[I", Cond.fieldLink RX8 32 "FeatureSolveModel" "as" "[I", Cond.fieldLink RX8 35 "FeatureSolveModel" "bs" "[I", Cond.fieldLink RX8 38 "FeatureSolveModel" "limited" "[Z", Cond.fieldLink RX8 41 "FeatureSolveModel" "limits" "[I", Cond.fieldLink RX8 44 "FeatureSolveModel" "choices" "[I", Cond.fieldLink RX8 47 "FeatureSolveModel" "sets" "[I", Cond.fieldLink RX8 50 "FeatureSolveModel" "found" "[I", Cond.fieldLink RX8 53 "FeatureSolveModel" "foundFeatures" "[I", Cond.fieldLink RX8 56 "FeatureSolveModel" "whys" "[I", Cond.methodLink RL 19 yX7_feature, Cond.instanceMethod yX7_feature, Cond.selects RX7 yX7_feature yX7_feature, Cond.code yX7_feature cX7_feature 3 (some .int), Cond.fieldLink RX7 58 "FeatureSolve$Tree" "size" "I", Cond.methodLink RX7 52 yX5_takesParent, Cond.instanceMethod yX5_takesParent, Cond.selects RX5 yX5_takesParent yX5_takesParent, Cond.code yX5_takesParent cX5_takesParent 2 (some .boolean), Cond.fieldLink RX5 30 "FeatureSolve$Tree" "size" "I", Cond.methodLink RX5 34 yX5_has, Cond.instanceMethod yX5_has]
def wsL_law0_r6 : List Cond := [Cond.selects RX5 yX5_has yX5_has, Cond.code yX5_has cX5_has 2 (some .boolean), Cond.methodLink RX7 62 yX6_outdate, Cond.instanceMethod yX6_outdate, Cond.selects RX6 yX6_outdate yX6_outdate, Cond.code yX6_outdate cX6_outdate 1 none, Cond.fieldLink RX6 36 "FeatureSolve$Variants" "upToDate" "Z", Cond.methodLink RX7 65 yX5_add, Cond.instanceMethod yX5_add, Cond.selects RX5 yX5_add yX5_add, Cond.code yX5_add cX5_add 3 (some .int), Cond.static yX7_put, Cond.code yX7_put cX7_put 3 none, Cond.static yX7_at, Cond.code yX7_at cX7_at 2 (some .int), Cond.static yX7_bit, Cond.code yX7_bit cX7_bit 1 (some .int), Cond.methodLink RL 23 yX8_feature, Cond.instanceMethod yX8_feature, Cond.selects RX8 yX8_feature yX8_feature, Cond.code yX8_feature cX8_feature 3 (some .int), Cond.fieldLink RX8 59 "FeatureSolveModel" "thrown" "I", Cond.fieldLink RX8 63 "FeatureSolveModel" "features" "I", Cond.fieldLink RX8 70 "FeatureSolveModel" "known" "Z"]
def wsL_law0_r7 : List Cond := [Cond.methodLink RX8 66 yX8_isFeature, Cond.instanceMethod yX8_isFeature, Cond.selects RX8 yX8_isFeature yX8_isFeature, Cond.code yX8_isFeature cX8_isFeature 2 (some .boolean), Cond.methodLink RL 24 yX7_group, Cond.instanceMethod yX7_group, Cond.selects RX7 yX7_group yX7_group, Cond.code yX7_group cX7_group 4 (some .int), Cond.methodLink RX7 69 yX5_has, Cond.methodLink RX7 72 yX5_bound, Cond.instanceMethod yX5_bound, Cond.selects RX5 yX5_bound yX5_bound, Cond.code yX5_bound cX5_bound 4 (some .int), Cond.fieldLink RX5 50 "FeatureSolve$Tree" "bounded" "I", Cond.methodLink RX5 53 yJ6_bitCount_0f7a4, Cond.static yJ6_bitCount_0f7a4, Cond.initialized RJ6, Cond.code yJ6_bitCount_0f7a4 cJ6_bitCount_0f7a4 1 (some .int), Cond.constant RJ6 265 (1431655765), Cond.constant RJ6 266 (858993459), Cond.constant RJ6 267 (252645135), Cond.methodLink RL 28 yX8_group, Cond.instanceMethod yX8_group, Cond.selects RX8 yX8_group yX8_group]
def wsL_law0_r8 : List Cond := [Cond.code yX8_group cX8_group 4 (some .int), Cond.methodLink RX8 74 yX8_groupedBelow, Cond.instanceMethod yX8_groupedBelow, Cond.selects RX8 yX8_groupedBelow yX8_groupedBelow, Cond.code yX8_groupedBelow cX8_groupedBelow 4 (some .int), Cond.methodLink RL 29 yX7_formula, Cond.instanceMethod yX7_formula, Cond.selects RX7 yX7_formula yX7_formula, Cond.code yX7_formula cX7_formula 4 (some .int), Cond.fieldLink RX7 79 "FeatureSolve$Formulas" "size" "I", Cond.methodLink RX7 76 yX5_hasSigned, Cond.instanceMethod yX5_hasSigned, Cond.selects RX5 yX5_hasSigned yX5_hasSigned, Cond.code yX5_hasSigned cX5_hasSigned 2 (some .boolean), Cond.methodLink RX7 82 yX1_isAlwaysTrue, Cond.static yX1_isAlwaysTrue, Cond.code yX1_isAlwaysTrue cX1_isAlwaysTrue 5 (some .boolean), Cond.methodLink RX1 35 yX1_bitOf, Cond.static yX1_bitOf, Cond.code yX1_bitOf cX1_bitOf 1 (some .int), Cond.methodLink RX1 50 yX1_holdsIn, Cond.static yX1_holdsIn, Cond.code yX1_holdsIn cX1_holdsIn 4 (some .boolean), Cond.methodLink RX1 46 yX1_holds]
def wsL_law0_r9 : List Cond := [Cond.static yX1_holds, Cond.code yX1_holds cX1_holds 3 (some .boolean), Cond.methodLink RX7 86 yX1_add, Cond.instanceMethod yX1_add, Cond.selects RX1 yX1_add yX1_add, Cond.code yX1_add cX1_add 4 (some .int), Cond.fieldLink RX1 27 "FeatureSolve$Formulas" "size" "I", Cond.methodLink RL 32 yX8_formula, Cond.instanceMethod yX8_formula, Cond.selects RX8 yX8_formula yX8_formula, Cond.code yX8_formula cX8_formula 5 (some .int), Cond.fieldLink RX8 81 "FeatureSolveModel" "formulas" "I", Cond.methodLink RX8 78 yX8_isLiteral, Cond.instanceMethod yX8_isLiteral, Cond.selects RX8 yX8_isLiteral yX8_isLiteral, Cond.code yX8_isLiteral cX8_isLiteral 2 (some .boolean), Cond.methodLink RL 33 yX7_attribute, Cond.instanceMethod yX7_attribute, Cond.selects RX7 yX7_attribute yX7_attribute, Cond.code yX7_attribute cX7_attribute 6 (some .int), Cond.methodLink RX7 88 yX4_limit, Cond.instanceMethod yX4_limit, Cond.selects RX4 yX4_limit yX4_limit, Cond.code yX4_limit cX4_limit 3 none]
def wsL_law0_r10 : List Cond := [Cond.methodLink RX7 94 yX4_set, Cond.instanceMethod yX4_set, Cond.selects RX4 yX4_set yX4_set, Cond.code yX4_set cX4_set 4 none, Cond.methodLink RL 36 yX8_attribute, Cond.instanceMethod yX8_attribute, Cond.selects RX8 yX8_attribute yX8_attribute, Cond.code yX8_attribute cX8_attribute 5 (some .int), Cond.methodLink RL 37 yX7_choose, Cond.instanceMethod yX7_choose, Cond.selects RX7 yX7_choose yX7_choose, Cond.code yX7_choose cX7_choose 3 (some .int), Cond.fieldLink RX7 106 "FeatureSolve$Choices" "size" "I", Cond.methodLink RX7 98 yX0_drop, Cond.instanceMethod yX0_drop, Cond.selects RX0 yX0_drop yX0_drop, Cond.code yX0_drop cX0_drop 5 none, Cond.fieldLink RX0 23 "FeatureSolve$Choices" "size" "I", Cond.fieldLink RX0 31 "FeatureSolve$Choices" "must" "I", Cond.fieldLink RX0 38 "FeatureSolve$Choices" "mustNot" "I", Cond.methodLink RX7 102 yX0_tell, Cond.instanceMethod yX0_tell, Cond.selects RX0 yX0_tell yX0_tell, Cond.code yX0_tell cX0_tell 3 none]
def wsL_law0_r11 : List Cond := [Cond.methodLink RX0 19 yX0_drop, Cond.methodLink RL 41 yX8_choose, Cond.instanceMethod yX8_choose, Cond.selects RX8 yX8_choose yX8_choose, Cond.code yX8_choose cX8_choose 5 (some .int), Cond.fieldLink RX8 84 "FeatureSolveModel" "choiceCount" "I", Cond.methodLink RX8 87 yX8_choiceOf, Cond.instanceMethod yX8_choiceOf, Cond.selects RX8 yX8_choiceOf yX8_choiceOf, Cond.code yX8_choiceOf cX8_choiceOf 4 (some .int), Cond.methodLink RX8 90 yX8_forget, Cond.instanceMethod yX8_forget, Cond.selects RX8 yX8_forget yX8_forget, Cond.code yX8_forget cX8_forget 3 none, Cond.methodLink RL 42 yX7_solve, Cond.instanceMethod yX7_solve, Cond.selects RX7 yX7_solve yX7_solve, Cond.code yX7_solve cX7_solve 2 (some .int), Cond.fieldLink RX7 107 "FeatureSolve$Choices" "must" "I", Cond.fieldLink RX7 110 "FeatureSolve$Choices" "mustNot" "I", Cond.methodLink RX7 113 yX6_first, Cond.instanceMethod yX6_first, Cond.selects RX6 yX6_first yX6_first, Cond.code yX6_first cX6_first 4 (some .int)]
def wsL_law0_r12 : List Cond := [Cond.fieldLink RX6 43 "FeatureSolve$Variants" "size" "I", Cond.methodLink RX6 40 yX6_update, Cond.instanceMethod yX6_update, Cond.selects RX6 yX6_update yX6_update, Cond.code yX6_update cX6_update 2 none, Cond.fieldLink RX6 59 "FeatureSolve$Tree" "size" "I", Cond.methodLink RX6 60 yX6_branch, Cond.instanceMethod yX6_branch, Cond.selects RX6 yX6_branch yX6_branch, Cond.code yX6_branch cX6_branch 6 none, Cond.methodLink RX6 67 yX5_mayBeIn, Cond.instanceMethod yX5_mayBeIn, Cond.selects RX5 yX5_mayBeIn yX5_mayBeIn, Cond.code yX5_mayBeIn cX5_mayBeIn 3 (some .boolean), Cond.methodLink RX6 71 yX5_mayBeOut, Cond.instanceMethod yX5_mayBeOut, Cond.selects RX5 yX5_mayBeOut yX5_mayBeOut, Cond.code yX5_mayBeOut cX5_mayBeOut 3 (some .boolean), Cond.methodLink RX6 64 yX6_dropUnkept, Cond.instanceMethod yX6_dropUnkept, Cond.selects RX6 yX6_dropUnkept yX6_dropUnkept, Cond.code yX6_dropUnkept cX6_dropUnkept 4 none, Cond.methodLink RX6 78 yX5_keepsGroups, Cond.instanceMethod yX5_keepsGroups]
def wsL_law0_r13 : List Cond := [Cond.selects RX5 yX5_keepsGroups yX5_keepsGroups, Cond.code yX5_keepsGroups cX5_keepsGroups 5 (some .boolean), Cond.methodLink RX6 82 yX1_keeps, Cond.instanceMethod yX1_keeps, Cond.selects RX1 yX1_keeps yX1_keeps, Cond.code yX1_keeps cX1_keeps 5 (some .boolean), Cond.methodLink RX6 85 yX4_keeps, Cond.instanceMethod yX4_keeps, Cond.selects RX4 yX4_keeps yX4_keeps, Cond.code yX4_keeps cX4_keeps 6 (some .boolean), Cond.methodLink RX6 51 yX6_fits, Cond.static yX6_fits, Cond.code yX6_fits cX6_fits 3 (some .boolean), Cond.methodLink RX7 116 yX3_clear, Cond.instanceMethod yX3_clear, Cond.selects RX3 yX3_clear yX3_clear, Cond.code yX3_clear cX3_clear 1 none, Cond.fieldLink RX3 15 "FeatureSolve$Reason" "size" "I", Cond.methodLink RX7 119 yX2_keepNone, Cond.instanceMethod yX2_keepNone, Cond.selects RX2 yX2_keepNone yX2_keepNone, Cond.code yX2_keepNone cX2_keepNone 1 none, Cond.fieldLink RX2 15 "FeatureSolve$Found" "last" "I", Cond.methodLink RX7 122 yX7_explain]
def wsL_law0_r14 : List Cond := [Cond.instanceMethod yX7_explain, Cond.selects RX7 yX7_explain yX7_explain, Cond.code yX7_explain cX7_explain 7 none, Cond.methodLink RX7 168 yX0_get, Cond.instanceMethod yX0_get, Cond.selects RX0 yX0_get yX0_get, Cond.code yX0_get cX0_get 2 (some .int), Cond.methodLink RX7 131 yX7_bit, Cond.methodLink RX7 169 yX3_add, Cond.instanceMethod yX3_add, Cond.selects RX3 yX3_add yX3_add, Cond.code yX3_add cX3_add 2 none, Cond.methodLink RX7 125 yX2_keep, Cond.instanceMethod yX2_keep, Cond.selects RX2 yX2_keep yX2_keep, Cond.code yX2_keep cX2_keep 2 none, Cond.fieldLink RX2 19 "FeatureSolve$Found" "size" "I", Cond.methodLink RL 46 yX8_solve, Cond.instanceMethod yX8_solve, Cond.selects RX8 yX8_solve yX8_solve, Cond.code yX8_solve cX8_solve 4 (some .int), Cond.fieldLink RX8 119 "FeatureSolveModel" "whyCount" "I", Cond.fieldLink RX8 125 "FeatureSolveModel" "solved" "Z", Cond.fieldLink RX8 128 "FeatureSolveModel" "last" "I"]
def wsL_law0_r15 : List Cond := [Cond.fieldLink RX8 131 "FeatureSolveModel" "lastFeatures" "I", Cond.fieldLink RX8 134 "FeatureSolveModel" "foundCount" "I", Cond.methodLink RX8 122 yX8_firstWithout, Cond.instanceMethod yX8_firstWithout, Cond.selects RX8 yX8_firstWithout yX8_firstWithout, Cond.code yX8_firstWithout cX8_firstWithout 3 (some .int), Cond.fieldLink RX8 101 "FeatureSolveModel" "setCount" "I", Cond.methodLink RX8 113 yX8_know, Cond.instanceMethod yX8_know, Cond.selects RX8 yX8_know yX8_know, Cond.code yX8_know cX8_know 2 none, Cond.methodLink RX8 104 yX8_keepsTree, Cond.instanceMethod yX8_keepsTree, Cond.selects RX8 yX8_keepsTree yX8_keepsTree, Cond.code yX8_keepsTree cX8_keepsTree 6 (some .boolean), Cond.methodLink RX8 94 yX8_isIn, Cond.instanceMethod yX8_isIn, Cond.selects RX8 yX8_isIn yX8_isIn, Cond.code yX8_isIn cX8_isIn 3 (some .boolean), Cond.methodLink RX8 107 yX8_keepsFormulas, Cond.instanceMethod yX8_keepsFormulas, Cond.selects RX8 yX8_keepsFormulas yX8_keepsFormulas, Cond.code yX8_keepsFormulas cX8_keepsFormulas 6 (some .boolean), Cond.methodLink RX8 98 yX8_holds]
def wsL_law0_r16 : List Cond := [Cond.instanceMethod yX8_holds, Cond.selects RX8 yX8_holds yX8_holds, Cond.code yX8_holds cX8_holds 3 (some .boolean), Cond.methodLink RX8 110 yX8_keepsLimits, Cond.instanceMethod yX8_keepsLimits, Cond.selects RX8 yX8_keepsLimits yX8_keepsLimits, Cond.code yX8_keepsLimits cX8_keepsLimits 6 (some .boolean), Cond.methodLink RX8 116 yX8_keepsChoices, Cond.instanceMethod yX8_keepsChoices, Cond.selects RX8 yX8_keepsChoices yX8_keepsChoices, Cond.code yX8_keepsChoices cX8_keepsChoices 5 (some .boolean), Cond.methodLink RL 47 yX7_chosen, Cond.instanceMethod yX7_chosen, Cond.selects RX7 yX7_chosen yX7_chosen, Cond.code yX7_chosen cX7_chosen 2 (some .boolean), Cond.fieldLink RX7 128 "FeatureSolve$Found" "last" "I", Cond.methodLink RL 51 yX8_chosen, Cond.instanceMethod yX8_chosen, Cond.selects RX8 yX8_chosen yX8_chosen, Cond.code yX8_chosen cX8_chosen 2 (some .boolean), Cond.methodLink RX8 137 yX8_wasIn, Cond.static yX8_wasIn, Cond.code yX8_wasIn cX8_wasIn 3 (some .boolean), Cond.methodLink RL 52 yX7_why]
def wsL_law0_r17 : List Cond := [Cond.instanceMethod yX7_why, Cond.selects RX7 yX7_why yX7_why, Cond.code yX7_why cX7_why 2 (some .int), Cond.methodLink RX7 135 yX3_get, Cond.instanceMethod yX3_get, Cond.selects RX3 yX3_get yX3_get, Cond.code yX3_get cX3_get 2 (some .int), Cond.methodLink RL 55 yX8_why, Cond.instanceMethod yX8_why, Cond.selects RX8 yX8_why yX8_why, Cond.code yX8_why cX8_why 2 (some .int), Cond.methodLink RL 58 yX7_count, Cond.instanceMethod yX7_count, Cond.selects RX7 yX7_count yX7_count, Cond.code yX7_count cX7_count 3 (some .long), Cond.constantLong RX7 138 (-2), Cond.constantLong RX7 140 (-1), Cond.methodLink RX7 142 yX6_number, Cond.instanceMethod yX6_number, Cond.selects RX6 yX6_number yX6_number, Cond.code yX6_number cX6_number 5 (some .int), Cond.methodLink RL 62 yX8_count, Cond.instanceMethod yX8_count, Cond.selects RX8 yX8_count yX8_count]
def wsL_law0_r18 : List Cond := [Cond.code yX8_count cX8_count 6 (some .long), Cond.constantLong RX8 141 (-2), Cond.constantLong RX8 143 (-1), Cond.methodLink RL 63 yX7_forces, Cond.instanceMethod yX7_forces, Cond.selects RX7 yX7_forces yX7_forces, Cond.code yX7_forces cX7_forces 6 (some .int), Cond.methodLink RX7 145 yX6_inAll, Cond.instanceMethod yX6_inAll, Cond.selects RX6 yX6_inAll yX6_inAll, Cond.code yX6_inAll cX6_inAll 5 (some .int), Cond.methodLink RX7 148 yX6_inSome, Cond.instanceMethod yX6_inSome, Cond.selects RX6 yX6_inSome yX6_inSome, Cond.code yX6_inSome cX6_inSome 5 (some .int), Cond.methodLink RX7 151 yX7_forced, Cond.instanceMethod yX7_forced, Cond.selects RX7 yX7_forced yX7_forced, Cond.code yX7_forced cX7_forced 9 (some .int), Cond.methodLink RL 66 yX8_forces, Cond.instanceMethod yX8_forces, Cond.selects RX8 yX8_forces yX8_forces, Cond.code yX8_forces cX8_forces 9 (some .int), Cond.methodLink RL 67 yX7_differ]
def wsL_law0_r19 : List Cond := [Cond.instanceMethod yX7_differ, Cond.selects RX7 yX7_differ yX7_differ, Cond.code yX7_differ cX7_differ 3 (some .int), Cond.methodLink RX7 155 yX2_has, Cond.instanceMethod yX2_has, Cond.selects RX2 yX2_has yX2_has, Cond.code yX2_has cX2_has 2 (some .boolean), Cond.methodLink RX7 156 yX2_get, Cond.instanceMethod yX2_get, Cond.selects RX2 yX2_get yX2_get, Cond.code yX2_get cX2_get 2 (some .int), Cond.methodLink RX7 157 yJ6_bitCount_0f7a4, Cond.methodLink RL 70 yX8_differ, Cond.instanceMethod yX8_differ, Cond.selects RX8 yX8_differ yX8_differ, Cond.code yX8_differ cX8_differ 7 (some .int), Cond.methodLink RL 71 yL_level, Cond.static yL_level, Cond.initialized RL, Cond.codeWith yL_level cL_level 4 (some .int) [(0, 9, 12, 13)], Cond.classLink RL 13 "java/lang/ArrayIndexOutOfBoundsException", Cond.methodLink RL 7 yX7_level, Cond.instanceMethod yX7_level, Cond.selects RX7 yX7_level yX7_level]
def wsL_law0_r20 : List Cond := [Cond.code yX7_level cX7_level 2 (some .int), Cond.classLink RX7 162 RJx00060, Cond.instantiable RJx00060 6, Cond.initialized RJx00060, Cond.methodLink RX7 165 yX5_above, Cond.instanceMethod yX5_above, Cond.selects RX5 yX5_above yX5_above, Cond.code yX5_above cX5_above 2 (some .int), Cond.methodLink RL 76 yX8_level, Cond.instanceMethod yX8_level, Cond.selects RX8 yX8_level yX8_level, Cond.code yX8_level cX8_level 4 (some .int), Cond.methodLink RL 77 yX8_thrown, Cond.instanceMethod yX8_thrown, Cond.selects RX8 yX8_thrown yX8_thrown, Cond.code yX8_thrown cX8_thrown 1 (some .int)]
def wsL_law0 : List Cond := (wsL_law0_r1 ++ (wsL_law0_r2 ++ (wsL_law0_r3 ++ (wsL_law0_r4 ++ (wsL_law0_r5 ++ (wsL_law0_r6 ++ (wsL_law0_r7 ++ (wsL_law0_r8 ++ (wsL_law0_r9 ++ (wsL_law0_r10 ++ (wsL_law0_r11 ++ (wsL_law0_r12 ++ (wsL_law0_r13 ++ (wsL_law0_r14 ++ (wsL_law0_r15 ++ (wsL_law0_r16 ++ (wsL_law0_r17 ++ (wsL_law0_r18 ++ (wsL_law0_r19 ++ wsL_law0_r20))))))))))))))))))) ++ wsX70 ++ wsX80 ++ wsX60 ++ wsX00 ++ wsX20 ++ wsX30 ++ wsX50 ++ wsX10 ++ wsX40 ++ wsJx000600 ++ ([] : List Cond)
def wsL_law : List Cond := wsL_law0 ++ (vx_atM "java/lang/ArrayIndexOutOfBoundsException" ["java/lang/IndexOutOfBoundsException", "java/lang/RuntimeException", "java/lang/Exception"]).filter goodWord
abbrev vwCl : List vw_C := [(RJ0, TJ0, 2), (RJx00060, TJx00060, 6), (RX0, TX0, 4), (RX1, TX1, 6), (RX2, TX2, 3), (RX3, TX3, 2), (RX4, TX4, 2), (RX5, TX5, 8), (RX6, TX6, 6), (RX7, TX7, 7), (RX8, TX8, 27)]
end
section
set_option maxRecDepth 20000 in
theorem in_wsL_law0_r1 : ∀ w ∈ wsL_law0_r1, w ∈ lw_tbl := fun w h => (goodIn_p wsL_law0_r1 [40, 43] (by decide +kernel) (by decide +kernel) w h).1
set_option maxRecDepth 20000 in
theorem in_wsL_law0_r2 : ∀ w ∈ wsL_law0_r2, w ∈ lw_tbl := fun w h => (goodIn_p wsL_law0_r2 [48] (by decide +kernel) (by decide +kernel) w h).1
set_option maxRecDepth 20000 in
theorem in_wsL_law0_r3 : ∀ w ∈ wsL_law0_r3, w ∈ lw_tbl := fun w h => (goodIn_p wsL_law0_r3 [54, 88, 114] (by decide +kernel) (by decide +kernel) w h).1
set_option maxRecDepth 20000 in
theorem in_wsL_law0_r4 : ∀ w ∈ wsL_law0_r4, w ∈ lw_tbl := fun w h => (goodIn_p wsL_law0_r4 [149, 171, 188, 550] (by decide +kernel) (by decide +kernel) w h).1
set_option maxRecDepth 20000 in
theorem in_wsL_law0_r5 : ∀ w ∈ wsL_law0_r5, w ∈ lw_tbl := fun w h => (goodIn_p wsL_law0_r5 [222, 226] (by decide +kernel) (by decide +kernel) w h).1
set_option maxRecDepth 20000 in
theorem in_wsL_law0_r6 : ∀ w ∈ wsL_law0_r6, w ∈ lw_tbl := fun w h => (goodIn_p wsL_law0_r6 [230, 234, 238, 241, 244, 247, 642] (by decide +kernel) (by decide +kernel) w h).1
set_option maxRecDepth 20000 in
theorem in_wsL_law0_r7 : ∀ w ∈ wsL_law0_r7, w ∈ lw_tbl := fun w h => (goodIn_p wsL_law0_r7 [646, 251, 256, 259] (by decide +kernel) (by decide +kernel) w h).1
set_option maxRecDepth 20000 in
theorem in_wsL_law0_r8 : ∀ w ∈ wsL_law0_r8, w ∈ lw_tbl := fun w h => (goodIn_p wsL_law0_r8 [650, 654, 266, 270, 273, 276, 280] (by decide +kernel) (by decide +kernel) w h).1
set_option maxRecDepth 20000 in
theorem in_wsL_law0_r9 : ∀ w ∈ wsL_law0_r9, w ∈ lw_tbl := fun w h => (goodIn_p wsL_law0_r9 [283, 287, 658, 662, 292, 296] (by decide +kernel) (by decide +kernel) w h).1
set_option maxRecDepth 20000 in
theorem in_wsL_law0_r10 : ∀ w ∈ wsL_law0_r10, w ∈ lw_tbl := fun w h => (goodIn_p wsL_law0_r10 [301, 666, 305, 309, 316] (by decide +kernel) (by decide +kernel) w h).1
set_option maxRecDepth 20000 in
theorem in_wsL_law0_r11 : ∀ w ∈ wsL_law0_r11, w ∈ lw_tbl := fun w h => (goodIn_p wsL_law0_r11 [670, 674, 678, 321, 325] (by decide +kernel) (by decide +kernel) w h).1
set_option maxRecDepth 20000 in
theorem in_wsL_law0_r12 : ∀ w ∈ wsL_law0_r12, w ∈ lw_tbl := fun w h => (goodIn_p wsL_law0_r12 [329, 334, 339, 343, 348] (by decide +kernel) (by decide +kernel) w h).1
set_option maxRecDepth 20000 in
theorem in_wsL_law0_r13 : ∀ w ∈ wsL_law0_r13, w ∈ lw_tbl := fun w h => (goodIn_p wsL_law0_r13 [352, 356, 361, 366, 370, 374] (by decide +kernel) (by decide +kernel) w h).1
set_option maxRecDepth 20000 in
theorem in_wsL_law0_r14 : ∀ w ∈ wsL_law0_r14, w ∈ lw_tbl := fun w h => (goodIn_p wsL_law0_r14 [378, 382, 387, 392, 682] (by decide +kernel) (by decide +kernel) w h).1
set_option maxRecDepth 20000 in
theorem in_wsL_law0_r15 : ∀ w ∈ wsL_law0_r15, w ∈ lw_tbl := fun w h => (goodIn_p wsL_law0_r15 [686, 690, 694, 698, 702] (by decide +kernel) (by decide +kernel) w h).1
set_option maxRecDepth 20000 in
theorem in_wsL_law0_r16 : ∀ w ∈ wsL_law0_r16, w ∈ lw_tbl := fun w h => (goodIn_p wsL_law0_r16 [706, 710, 714, 397, 718, 721] (by decide +kernel) (by decide +kernel) w h).1
set_option maxRecDepth 20000 in
theorem in_wsL_law0_r17 : ∀ w ∈ wsL_law0_r17, w ∈ lw_tbl := fun w h => (goodIn_p wsL_law0_r17 [401, 405, 725, 410, 416] (by decide +kernel) (by decide +kernel) w h).1
set_option maxRecDepth 20000 in
theorem in_wsL_law0_r18 : ∀ w ∈ wsL_law0_r18, w ∈ lw_tbl := fun w h => (goodIn_p wsL_law0_r18 [729, 420, 424, 428, 432, 735] (by decide +kernel) (by decide +kernel) w h).1
set_option maxRecDepth 20000 in
theorem in_wsL_law0_r19 : ∀ w ∈ wsL_law0_r19, w ∈ lw_tbl := fun w h => (goodIn_p wsL_law0_r19 [436, 440, 444, 739] (by decide +kernel) (by decide +kernel) w h).1
set_option maxRecDepth 20000 in
theorem in_wsL_law0_r20 : ∀ w ∈ wsL_law0_r20, w ∈ lw_tbl := fun w h => (goodIn_p wsL_law0_r20 [527, 545, 743, 638] (by decide +kernel) (by decide +kernel) w h).1
set_option maxRecDepth 20000 in
theorem in_wsX70 : ∀ w ∈ wsX70, w ∈ lw_tbl := by decide +kernel
set_option maxRecDepth 20000 in
theorem in_wsX80 : ∀ w ∈ wsX80, w ∈ lw_tbl := by decide +kernel
set_option maxRecDepth 20000 in
theorem in_wsX60 : ∀ w ∈ wsX60, w ∈ lw_tbl := by decide +kernel
set_option maxRecDepth 20000 in
theorem in_wsX00 : ∀ w ∈ wsX00, w ∈ lw_tbl := by decide +kernel
set_option maxRecDepth 20000 in
theorem in_wsX20 : ∀ w ∈ wsX20, w ∈ lw_tbl := by decide +kernel
set_option maxRecDepth 20000 in
theorem in_wsX30 : ∀ w ∈ wsX30, w ∈ lw_tbl := by decide +kernel
set_option maxRecDepth 20000 in
theorem in_wsX50 : ∀ w ∈ wsX50, w ∈ lw_tbl := by decide +kernel
set_option maxRecDepth 20000 in
theorem in_wsX10 : ∀ w ∈ wsX10, w ∈ lw_tbl := by decide +kernel
set_option maxRecDepth 20000 in
theorem in_wsX40 : ∀ w ∈ wsX40, w ∈ lw_tbl := by decide +kernel
set_option maxRecDepth 20000 in
theorem in_wsJx000600 : ∀ w ∈ wsJx000600, w ∈ lw_tbl := by decide +kernel
theorem wsL_law_in0 : ∀ w ∈ wsL_law0, w ∈ lw_tbl := (List.forall_mem_append.mpr ⟨(List.forall_mem_append.mpr ⟨(List.forall_mem_append.mpr ⟨(List.forall_mem_append.mpr ⟨(List.forall_mem_append.mpr ⟨(List.forall_mem_append.mpr ⟨(List.forall_mem_append.mpr ⟨(List.forall_mem_append.mpr ⟨(List.forall_mem_append.mpr ⟨(List.forall_mem_append.mpr ⟨(List.forall_mem_append.mpr ⟨(List.forall_mem_append.mpr ⟨in_wsL_law0_r1, List.forall_mem_append.mpr ⟨in_wsL_law0_r2, List.forall_mem_append.mpr ⟨in_wsL_law0_r3, List.forall_mem_append.mpr ⟨in_wsL_law0_r4, List.forall_mem_append.mpr ⟨in_wsL_law0_r5, List.forall_mem_append.mpr ⟨in_wsL_law0_r6, List.forall_mem_append.mpr ⟨in_wsL_law0_r7, List.forall_mem_append.mpr ⟨in_wsL_law0_r8, List.forall_mem_append.mpr ⟨in_wsL_law0_r9, List.forall_mem_append.mpr ⟨in_wsL_law0_r10, List.forall_mem_append.mpr ⟨in_wsL_law0_r11, List.forall_mem_append.mpr ⟨in_wsL_law0_r12, List.forall_mem_append.mpr ⟨in_wsL_law0_r13, List.forall_mem_append.mpr ⟨in_wsL_law0_r14, List.forall_mem_append.mpr ⟨in_wsL_law0_r15, List.forall_mem_append.mpr ⟨in_wsL_law0_r16, List.forall_mem_append.mpr ⟨in_wsL_law0_r17, List.forall_mem_append.mpr ⟨in_wsL_law0_r18, List.forall_mem_append.mpr ⟨in_wsL_law0_r19, in_wsL_law0_r20⟩⟩⟩⟩⟩⟩⟩⟩⟩⟩⟩⟩⟩⟩⟩⟩⟩⟩⟩), in_wsX70⟩), in_wsX80⟩), in_wsX60⟩), in_wsX00⟩), in_wsX20⟩), in_wsX30⟩), in_wsX50⟩), in_wsX10⟩), in_wsX40⟩), in_wsJx000600⟩), fun _ h => absurd h List.not_mem_nil⟩)
theorem wsL_law_x0 : ∀ w ∈ (vx_atM "java/lang/ArrayIndexOutOfBoundsException" ["java/lang/IndexOutOfBoundsException", "java/lang/RuntimeException", "java/lang/Exception"]).filter goodWord, w ∈ lw_tbl := by decide +kernel
theorem wsL_law_in : ∀ w ∈ wsL_law, w ∈ lw_tbl := fun w h => (List.mem_append.mp h).elim (fun h => wsL_law_in0 w h) (fun h => wsL_law_x0 w h)
theorem inlX0 : ∀ w ∈ wsX00, w ∈ wsL_law := fun _ h => List.mem_append_left _ (List.mem_append_left _ (List.mem_append_left _ (List.mem_append_left _ (List.mem_append_left _ (List.mem_append_left _ (List.mem_append_left _ (List.mem_append_left _ (List.mem_append_right _ h))))))))
theorem inX0 : ∀ w ∈ wsX00, w ∈ lw_tbl := fun w h => wsL_law_in w (inlX0 w h)
theorem inlX1 : ∀ w ∈ wsX10, w ∈ wsL_law := fun _ h => List.mem_append_left _ (List.mem_append_left _ (List.mem_append_left _ (List.mem_append_left _ (List.mem_append_right _ h))))
theorem inX1 : ∀ w ∈ wsX10, w ∈ lw_tbl := fun w h => wsL_law_in w (inlX1 w h)
theorem inlX2 : ∀ w ∈ wsX20, w ∈ wsL_law := fun _ h => List.mem_append_left _ (List.mem_append_left _ (List.mem_append_left _ (List.mem_append_left _ (List.mem_append_left _ (List.mem_append_left _ (List.mem_append_left _ (List.mem_append_right _ h)))))))
theorem inX2 : ∀ w ∈ wsX20, w ∈ lw_tbl := fun w h => wsL_law_in w (inlX2 w h)
theorem inlX3 : ∀ w ∈ wsX30, w ∈ wsL_law := fun _ h => List.mem_append_left _ (List.mem_append_left _ (List.mem_append_left _ (List.mem_append_left _ (List.mem_append_left _ (List.mem_append_left _ (List.mem_append_right _ h))))))
theorem inX3 : ∀ w ∈ wsX30, w ∈ lw_tbl := fun w h => wsL_law_in w (inlX3 w h)
theorem inlX4 : ∀ w ∈ wsX40, w ∈ wsL_law := fun _ h => List.mem_append_left _ (List.mem_append_left _ (List.mem_append_left _ (List.mem_append_right _ h)))
theorem inX4 : ∀ w ∈ wsX40, w ∈ lw_tbl := fun w h => wsL_law_in w (inlX4 w h)
theorem inlX5 : ∀ w ∈ wsX50, w ∈ wsL_law := fun _ h => List.mem_append_left _ (List.mem_append_left _ (List.mem_append_left _ (List.mem_append_left _ (List.mem_append_left _ (List.mem_append_right _ h)))))
theorem inX5 : ∀ w ∈ wsX50, w ∈ lw_tbl := fun w h => wsL_law_in w (inlX5 w h)
theorem inlX6 : ∀ w ∈ wsX60, w ∈ wsL_law := fun _ h => List.mem_append_left _ (List.mem_append_left _ (List.mem_append_left _ (List.mem_append_left _ (List.mem_append_left _ (List.mem_append_left _ (List.mem_append_left _ (List.mem_append_left _ (List.mem_append_left _ (List.mem_append_right _ h)))))))))
theorem inX6 : ∀ w ∈ wsX60, w ∈ lw_tbl := fun w h => wsL_law_in w (inlX6 w h)
theorem inlX7 : ∀ w ∈ wsX70, w ∈ wsL_law := fun _ h => List.mem_append_left _ (List.mem_append_left _ (List.mem_append_left _ (List.mem_append_left _ (List.mem_append_left _ (List.mem_append_left _ (List.mem_append_left _ (List.mem_append_left _ (List.mem_append_left _ (List.mem_append_left _ (List.mem_append_left _ (List.mem_append_right _ h)))))))))))
theorem inX7 : ∀ w ∈ wsX70, w ∈ lw_tbl := fun w h => wsL_law_in w (inlX7 w h)
theorem inlX8 : ∀ w ∈ wsX80, w ∈ wsL_law := fun _ h => List.mem_append_left _ (List.mem_append_left _ (List.mem_append_left _ (List.mem_append_left _ (List.mem_append_left _ (List.mem_append_left _ (List.mem_append_left _ (List.mem_append_left _ (List.mem_append_left _ (List.mem_append_left _ (List.mem_append_right _ h))))))))))
theorem inX8 : ∀ w ∈ wsX80, w ∈ lw_tbl := fun w h => wsL_law_in w (inlX8 w h)
theorem inlJx00060 : ∀ w ∈ wsJx000600, w ∈ wsL_law := fun _ h => List.mem_append_left _ (List.mem_append_left _ (List.mem_append_right _ h))
theorem inJx00060 : ∀ w ∈ wsJx000600, w ∈ lw_tbl := fun w h => wsL_law_in w (inlJx00060 w h)
theorem inJ6 : ∀ w ∈ wsJ60, w ∈ lw_tbl := by decide +kernel
theorem inJ0 : ∀ w ∈ wsJ00, w ∈ lw_tbl := by decide +kernel
end
section
theorem dX0_init_0 : decode cX0_init 0 = .ok (.aload_n 0, 1) := by decide +kernel
theorem dX0_init_1 : decode cX0_init 1 = .ok (.invokespecial 3, 3) := by decide +kernel
theorem dX0_init_4 : decode cX0_init 4 = .ok (.aload_n 0, 1) := by decide +kernel
theorem dX0_init_5 : decode cX0_init 5 = .ok (.bipush 14, 2) := by decide +kernel
theorem dX0_init_7 : decode cX0_init 7 = .ok (.newarray .int, 2) := by decide +kernel
theorem dX0_init_9 : decode cX0_init 9 = .ok (.putfield 9, 3) := by decide +kernel
theorem dX0_init_12 : decode cX0_init 12 = .ok (.return_, 1) := by decide +kernel
set_option maxRecDepth 20000 in
theorem ggX0_get_X7_at : GoodIn wsX0_get wsX7_at := goodIn_ca (goodIn_r _ [4] (by decide +kernel) (by decide +kernel)) (goodIn_sub (fun _ h => List.mem_cons_of_mem _ (List.mem_append_right _ h)) (by decide +kernel))
set_option maxRecDepth 20000 in
theorem gX0_get_X7_at_n15 : GoodIn wsX0_get (wsX7_at) := ggX0_get_X7_at
theorem dX0_get_0 : decode cX0_get 0 = .ok (.aload_n 0, 1) := by decide +kernel
theorem dX0_get_1 : decode cX0_get 1 = .ok (.getfield 9, 3) := by decide +kernel
theorem dX0_get_4 : decode cX0_get 4 = .ok (.iload_n 1, 1) := by decide +kernel
theorem dX0_get_5 : decode cX0_get 5 = .ok (.invokestatic 15, 3) := by decide +kernel
theorem dX0_get_8 : decode cX0_get 8 = .ok (.ireturn, 1) := by decide +kernel
set_option maxRecDepth 20000 in
theorem ggX0_tell_X0_drop : GoodIn wsX0_tell wsX0_drop := goodIn_ca (goodIn_r _ [9, 2, 1, 3, 4, 10, 11, 12, 13, 14, 15, 16, 17, 18, 19, 20] (by decide +kernel) (by decide +kernel)) (goodIn_sub (fun _ h => List.mem_cons_of_mem _ (List.mem_append_right _ h)) (by decide +kernel))
set_option maxRecDepth 20000 in
theorem gX0_tell_X0_drop : GoodIn wsX0_tell (wsV RX0 19 RX0 yX0_drop wsX0_drop) := goodIn_app (goodIn_of _ (by decide +kernel)) ggX0_tell_X0_drop
set_option maxRecDepth 20000 in
theorem ggX0_tell_X7_put : GoodIn wsX0_tell wsX7_put := goodIn_ca (goodIn_r _ [14] (by decide +kernel) (by decide +kernel)) (goodIn_sub (fun _ h => List.mem_cons_of_mem _ (List.mem_append_right _ h)) (by decide +kernel))
set_option maxRecDepth 20000 in
theorem gX0_tell_X7_put_n27 : GoodIn wsX0_tell (wsX7_put) := ggX0_tell_X7_put
set_option maxRecDepth 20000 in
theorem ggX0_tell_X7_bit : GoodIn wsX0_tell wsX7_bit := goodIn_r _ [16] (by decide +kernel) (by decide +kernel)
set_option maxRecDepth 20000 in
theorem gX0_tell_X7_bit_n34 : GoodIn wsX0_tell (wsX7_bit) := ggX0_tell_X7_bit
theorem dX0_tell_0 : decode cX0_tell 0 = .ok (.aload_n 0, 1) := by decide +kernel
theorem dX0_tell_1 : decode cX0_tell 1 = .ok (.iload_n 1, 1) := by decide +kernel
theorem dX0_tell_2 : decode cX0_tell 2 = .ok (.invokevirtual 19, 3) := by decide +kernel
theorem dX0_tell_5 : decode cX0_tell 5 = .ok (.aload_n 0, 1) := by decide +kernel
theorem dX0_tell_6 : decode cX0_tell 6 = .ok (.getfield 9, 3) := by decide +kernel
theorem dX0_tell_9 : decode cX0_tell 9 = .ok (.aload_n 0, 1) := by decide +kernel
theorem dX0_tell_10 : decode cX0_tell 10 = .ok (.getfield 23, 3) := by decide +kernel
theorem dX0_tell_13 : decode cX0_tell 13 = .ok (.iload_n 2, 1) := by decide +kernel
theorem dX0_tell_14 : decode cX0_tell 14 = .ok (.ifCond .eq 7, 3) := by decide +kernel
theorem dX0_tell_17 : decode cX0_tell 17 = .ok (.iload_n 1, 1) := by decide +kernel
theorem dX0_tell_18 : decode cX0_tell 18 = .ok (.goto 5, 3) := by decide +kernel
theorem dX0_tell_21 : decode cX0_tell 21 = .ok (.iload_n 1, 1) := by decide +kernel
theorem dX0_tell_22 : decode cX0_tell 22 = .ok (.ineg, 1) := by decide +kernel
theorem dX0_tell_23 : decode cX0_tell 23 = .ok (.invokestatic 27, 3) := by decide +kernel
theorem dX0_tell_26 : decode cX0_tell 26 = .ok (.aload_n 0, 1) := by decide +kernel
theorem dX0_tell_27 : decode cX0_tell 27 = .ok (.dup, 1) := by decide +kernel
theorem dX0_tell_28 : decode cX0_tell 28 = .ok (.getfield 23, 3) := by decide +kernel
theorem dX0_tell_31 : decode cX0_tell 31 = .ok (.iconst 1, 1) := by decide +kernel
theorem dX0_tell_32 : decode cX0_tell 32 = .ok (.iadd, 1) := by decide +kernel
theorem dX0_tell_33 : decode cX0_tell 33 = .ok (.putfield 23, 3) := by decide +kernel
theorem dX0_tell_36 : decode cX0_tell 36 = .ok (.aload_n 0, 1) := by decide +kernel
theorem dX0_tell_37 : decode cX0_tell 37 = .ok (.dup, 1) := by decide +kernel
theorem dX0_tell_38 : decode cX0_tell 38 = .ok (.getfield 31, 3) := by decide +kernel
theorem dX0_tell_41 : decode cX0_tell 41 = .ok (.iload_n 2, 1) := by decide +kernel
theorem dX0_tell_42 : decode cX0_tell 42 = .ok (.ifCond .eq 10, 3) := by decide +kernel
theorem dX0_tell_45 : decode cX0_tell 45 = .ok (.iload_n 1, 1) := by decide +kernel
theorem dX0_tell_46 : decode cX0_tell 46 = .ok (.invokestatic 34, 3) := by decide +kernel
theorem dX0_tell_49 : decode cX0_tell 49 = .ok (.goto 4, 3) := by decide +kernel
theorem dX0_tell_52 : decode cX0_tell 52 = .ok (.iconst 0, 1) := by decide +kernel
theorem dX0_tell_53 : decode cX0_tell 53 = .ok (.ior, 1) := by decide +kernel
theorem dX0_tell_54 : decode cX0_tell 54 = .ok (.putfield 31, 3) := by decide +kernel
theorem dX0_tell_57 : decode cX0_tell 57 = .ok (.aload_n 0, 1) := by decide +kernel
theorem dX0_tell_58 : decode cX0_tell 58 = .ok (.dup, 1) := by decide +kernel
theorem dX0_tell_59 : decode cX0_tell 59 = .ok (.getfield 38, 3) := by decide +kernel
theorem dX0_tell_62 : decode cX0_tell 62 = .ok (.iload_n 2, 1) := by decide +kernel
theorem dX0_tell_63 : decode cX0_tell 63 = .ok (.ifCond .eq 7, 3) := by decide +kernel
theorem dX0_tell_66 : decode cX0_tell 66 = .ok (.iconst 0, 1) := by decide +kernel
theorem dX0_tell_67 : decode cX0_tell 67 = .ok (.goto 7, 3) := by decide +kernel
theorem dX0_tell_70 : decode cX0_tell 70 = .ok (.iload_n 1, 1) := by decide +kernel
theorem dX0_tell_71 : decode cX0_tell 71 = .ok (.invokestatic 34, 3) := by decide +kernel
theorem dX0_tell_74 : decode cX0_tell 74 = .ok (.ior, 1) := by decide +kernel
theorem dX0_tell_75 : decode cX0_tell 75 = .ok (.putfield 38, 3) := by decide +kernel
theorem dX0_tell_78 : decode cX0_tell 78 = .ok (.return_, 1) := by decide +kernel
set_option maxRecDepth 20000 in
theorem ggX0_drop_X7_at : GoodIn wsX0_drop wsX7_at := goodIn_ca (goodIn_r _ [7] (by decide +kernel) (by decide +kernel)) (goodIn_sub (fun _ h => List.mem_cons_of_mem _ (List.mem_append_right _ h)) (by decide +kernel))
set_option maxRecDepth 20000 in
theorem gX0_drop_X7_at_n15 : GoodIn wsX0_drop (wsX7_at) := ggX0_drop_X7_at
set_option maxRecDepth 20000 in
theorem ggX0_drop_X7_put : GoodIn wsX0_drop wsX7_put := goodIn_ca (goodIn_r _ [9] (by decide +kernel) (by decide +kernel)) (goodIn_sub (fun _ h => List.mem_cons_of_mem _ (List.mem_append_right _ h)) (by decide +kernel))
set_option maxRecDepth 20000 in
theorem gX0_drop_X7_put_n27 : GoodIn wsX0_drop (wsX7_put) := ggX0_drop_X7_put
set_option maxRecDepth 20000 in
theorem ggX0_drop_X7_bit : GoodIn wsX0_drop wsX7_bit := goodIn_r _ [11] (by decide +kernel) (by decide +kernel)
set_option maxRecDepth 20000 in
theorem gX0_drop_X7_bit_n34 : GoodIn wsX0_drop (wsX7_bit) := ggX0_drop_X7_bit
theorem dX0_drop_0 : decode cX0_drop 0 = .ok (.iconst 0, 1) := by decide +kernel
theorem dX0_drop_1 : decode cX0_drop 1 = .ok (.istore_n 2, 1) := by decide +kernel
theorem dX0_drop_2 : decode cX0_drop 2 = .ok (.iconst 0, 1) := by decide +kernel
theorem dX0_drop_3 : decode cX0_drop 3 = .ok (.istore_n 3, 1) := by decide +kernel
theorem dX0_drop_4 : decode cX0_drop 4 = .ok (.iload_n 3, 1) := by decide +kernel
theorem dX0_drop_5 : decode cX0_drop 5 = .ok (.aload_n 0, 1) := by decide +kernel
theorem dX0_drop_6 : decode cX0_drop 6 = .ok (.getfield 23, 3) := by decide +kernel
theorem dX0_drop_9 : decode cX0_drop 9 = .ok (.if_icmp .ge 45, 3) := by decide +kernel
theorem dX0_drop_12 : decode cX0_drop 12 = .ok (.aload_n 0, 1) := by decide +kernel
theorem dX0_drop_13 : decode cX0_drop 13 = .ok (.getfield 9, 3) := by decide +kernel
theorem dX0_drop_16 : decode cX0_drop 16 = .ok (.iload_n 3, 1) := by decide +kernel
theorem dX0_drop_17 : decode cX0_drop 17 = .ok (.invokestatic 15, 3) := by decide +kernel
theorem dX0_drop_20 : decode cX0_drop 20 = .ok (.istore 4, 2) := by decide +kernel
theorem dX0_drop_22 : decode cX0_drop 22 = .ok (.iload 4, 2) := by decide +kernel
theorem dX0_drop_24 : decode cX0_drop 24 = .ok (.iload_n 1, 1) := by decide +kernel
theorem dX0_drop_25 : decode cX0_drop 25 = .ok (.if_icmp .eq 23, 3) := by decide +kernel
theorem dX0_drop_28 : decode cX0_drop 28 = .ok (.iload 4, 2) := by decide +kernel
theorem dX0_drop_30 : decode cX0_drop 30 = .ok (.iload_n 1, 1) := by decide +kernel
theorem dX0_drop_31 : decode cX0_drop 31 = .ok (.ineg, 1) := by decide +kernel
theorem dX0_drop_32 : decode cX0_drop 32 = .ok (.if_icmp .eq 16, 3) := by decide +kernel
theorem dX0_drop_35 : decode cX0_drop 35 = .ok (.aload_n 0, 1) := by decide +kernel
theorem dX0_drop_36 : decode cX0_drop 36 = .ok (.getfield 9, 3) := by decide +kernel
theorem dX0_drop_39 : decode cX0_drop 39 = .ok (.iload_n 2, 1) := by decide +kernel
theorem dX0_drop_40 : decode cX0_drop 40 = .ok (.iload 4, 2) := by decide +kernel
theorem dX0_drop_42 : decode cX0_drop 42 = .ok (.invokestatic 27, 3) := by decide +kernel
theorem dX0_drop_45 : decode cX0_drop 45 = .ok (.iinc 2 1, 3) := by decide +kernel
theorem dX0_drop_48 : decode cX0_drop 48 = .ok (.iinc 3 1, 3) := by decide +kernel
theorem dX0_drop_51 : decode cX0_drop 51 = .ok (.goto (-47), 3) := by decide +kernel
theorem dX0_drop_54 : decode cX0_drop 54 = .ok (.aload_n 0, 1) := by decide +kernel
theorem dX0_drop_55 : decode cX0_drop 55 = .ok (.iload_n 2, 1) := by decide +kernel
theorem dX0_drop_56 : decode cX0_drop 56 = .ok (.putfield 23, 3) := by decide +kernel
theorem dX0_drop_59 : decode cX0_drop 59 = .ok (.aload_n 0, 1) := by decide +kernel
theorem dX0_drop_60 : decode cX0_drop 60 = .ok (.dup, 1) := by decide +kernel
theorem dX0_drop_61 : decode cX0_drop 61 = .ok (.getfield 31, 3) := by decide +kernel
theorem dX0_drop_64 : decode cX0_drop 64 = .ok (.iload_n 1, 1) := by decide +kernel
theorem dX0_drop_65 : decode cX0_drop 65 = .ok (.invokestatic 34, 3) := by decide +kernel
theorem dX0_drop_68 : decode cX0_drop 68 = .ok (.iconst (-1), 1) := by decide +kernel
theorem dX0_drop_69 : decode cX0_drop 69 = .ok (.ixor, 1) := by decide +kernel
theorem dX0_drop_70 : decode cX0_drop 70 = .ok (.iand, 1) := by decide +kernel
theorem dX0_drop_71 : decode cX0_drop 71 = .ok (.putfield 31, 3) := by decide +kernel
theorem dX0_drop_74 : decode cX0_drop 74 = .ok (.aload_n 0, 1) := by decide +kernel
theorem dX0_drop_75 : decode cX0_drop 75 = .ok (.dup, 1) := by decide +kernel
theorem dX0_drop_76 : decode cX0_drop 76 = .ok (.getfield 38, 3) := by decide +kernel
theorem dX0_drop_79 : decode cX0_drop 79 = .ok (.iload_n 1, 1) := by decide +kernel
theorem dX0_drop_80 : decode cX0_drop 80 = .ok (.invokestatic 34, 3) := by decide +kernel
theorem dX0_drop_83 : decode cX0_drop 83 = .ok (.iconst (-1), 1) := by decide +kernel
theorem dX0_drop_84 : decode cX0_drop 84 = .ok (.ixor, 1) := by decide +kernel
theorem dX0_drop_85 : decode cX0_drop 85 = .ok (.iand, 1) := by decide +kernel
theorem dX0_drop_86 : decode cX0_drop 86 = .ok (.putfield 38, 3) := by decide +kernel
theorem dX0_drop_89 : decode cX0_drop 89 = .ok (.return_, 1) := by decide +kernel
theorem dX1_init_0 : decode cX1_init 0 = .ok (.aload_n 0, 1) := by decide +kernel
theorem dX1_init_1 : decode cX1_init 1 = .ok (.invokespecial 3, 3) := by decide +kernel
theorem dX1_init_4 : decode cX1_init 4 = .ok (.aload_n 0, 1) := by decide +kernel
theorem dX1_init_5 : decode cX1_init 5 = .ok (.bipush 40, 2) := by decide +kernel
theorem dX1_init_7 : decode cX1_init 7 = .ok (.newarray .int, 2) := by decide +kernel
theorem dX1_init_9 : decode cX1_init 9 = .ok (.putfield 9, 3) := by decide +kernel
theorem dX1_init_12 : decode cX1_init 12 = .ok (.aload_n 0, 1) := by decide +kernel
theorem dX1_init_13 : decode cX1_init 13 = .ok (.bipush 40, 2) := by decide +kernel
theorem dX1_init_15 : decode cX1_init 15 = .ok (.newarray .int, 2) := by decide +kernel
theorem dX1_init_17 : decode cX1_init 17 = .ok (.putfield 15, 3) := by decide +kernel
theorem dX1_init_20 : decode cX1_init 20 = .ok (.aload_n 0, 1) := by decide +kernel
theorem dX1_init_21 : decode cX1_init 21 = .ok (.bipush 40, 2) := by decide +kernel
theorem dX1_init_23 : decode cX1_init 23 = .ok (.newarray .int, 2) := by decide +kernel
theorem dX1_init_25 : decode cX1_init 25 = .ok (.putfield 18, 3) := by decide +kernel
theorem dX1_init_28 : decode cX1_init 28 = .ok (.aload_n 0, 1) := by decide +kernel
theorem dX1_init_29 : decode cX1_init 29 = .ok (.bipush 40, 2) := by decide +kernel
theorem dX1_init_31 : decode cX1_init 31 = .ok (.newarray .int, 2) := by decide +kernel
theorem dX1_init_33 : decode cX1_init 33 = .ok (.putfield 21, 3) := by decide +kernel
theorem dX1_init_36 : decode cX1_init 36 = .ok (.aload_n 0, 1) := by decide +kernel
theorem dX1_init_37 : decode cX1_init 37 = .ok (.bipush 40, 2) := by decide +kernel
theorem dX1_init_39 : decode cX1_init 39 = .ok (.newarray .int, 2) := by decide +kernel
theorem dX1_init_41 : decode cX1_init 41 = .ok (.putfield 24, 3) := by decide +kernel
theorem dX1_init_44 : decode cX1_init 44 = .ok (.return_, 1) := by decide +kernel
set_option maxRecDepth 20000 in
theorem ggX1_add_X7_put : GoodIn wsX1_add wsX7_put := goodIn_ca (goodIn_r _ [9] (by decide +kernel) (by decide +kernel)) (goodIn_sub (fun _ h => List.mem_cons_of_mem _ (List.mem_append_right _ h)) (by decide +kernel))
set_option maxRecDepth 20000 in
theorem gX1_add_X7_put_n31 : GoodIn wsX1_add (wsX7_put) := ggX1_add_X7_put
set_option maxRecDepth 20000 in
theorem ggX1_add_X1_bitOf : GoodIn wsX1_add wsX1_bitOf := goodIn_r _ [13, 14, 8, 15] (by decide +kernel) (by decide +kernel)
set_option maxRecDepth 20000 in
theorem gX1_add_X1_bitOf : GoodIn wsX1_add (va_wsS RX1 35 yX1_bitOf wsX1_bitOf) := goodIn_app (goodIn_of _ (by decide +kernel)) ggX1_add_X1_bitOf
set_option maxRecDepth 20000 in
theorem ggX1_add_X7_bit : GoodIn wsX1_add wsX7_bit := goodIn_r _ [15] (by decide +kernel) (by decide +kernel)
set_option maxRecDepth 20000 in
theorem gX1_add_X7_bit_n39 : GoodIn wsX1_add (wsX7_bit) := ggX1_add_X7_bit
theorem dX1_add_0 : decode cX1_add 0 = .ok (.aload_n 0, 1) := by decide +kernel
theorem dX1_add_1 : decode cX1_add 1 = .ok (.getfield 9, 3) := by decide +kernel
theorem dX1_add_4 : decode cX1_add 4 = .ok (.aload_n 0, 1) := by decide +kernel
theorem dX1_add_5 : decode cX1_add 5 = .ok (.getfield 27, 3) := by decide +kernel
theorem dX1_add_8 : decode cX1_add 8 = .ok (.iload_n 1, 1) := by decide +kernel
theorem dX1_add_9 : decode cX1_add 9 = .ok (.invokestatic 31, 3) := by decide +kernel
theorem dX1_add_12 : decode cX1_add 12 = .ok (.aload_n 0, 1) := by decide +kernel
theorem dX1_add_13 : decode cX1_add 13 = .ok (.getfield 15, 3) := by decide +kernel
theorem dX1_add_16 : decode cX1_add 16 = .ok (.aload_n 0, 1) := by decide +kernel
theorem dX1_add_17 : decode cX1_add 17 = .ok (.getfield 27, 3) := by decide +kernel
theorem dX1_add_20 : decode cX1_add 20 = .ok (.iload_n 2, 1) := by decide +kernel
theorem dX1_add_21 : decode cX1_add 21 = .ok (.invokestatic 35, 3) := by decide +kernel
theorem dX1_add_24 : decode cX1_add 24 = .ok (.invokestatic 31, 3) := by decide +kernel
theorem dX1_add_27 : decode cX1_add 27 = .ok (.aload_n 0, 1) := by decide +kernel
theorem dX1_add_28 : decode cX1_add 28 = .ok (.getfield 18, 3) := by decide +kernel
theorem dX1_add_31 : decode cX1_add 31 = .ok (.aload_n 0, 1) := by decide +kernel
theorem dX1_add_32 : decode cX1_add 32 = .ok (.getfield 27, 3) := by decide +kernel
theorem dX1_add_35 : decode cX1_add 35 = .ok (.iload_n 2, 1) := by decide +kernel
theorem dX1_add_36 : decode cX1_add 36 = .ok (.invokestatic 39, 3) := by decide +kernel
theorem dX1_add_39 : decode cX1_add 39 = .ok (.invokestatic 31, 3) := by decide +kernel
theorem dX1_add_42 : decode cX1_add 42 = .ok (.aload_n 0, 1) := by decide +kernel
theorem dX1_add_43 : decode cX1_add 43 = .ok (.getfield 21, 3) := by decide +kernel
theorem dX1_add_46 : decode cX1_add 46 = .ok (.aload_n 0, 1) := by decide +kernel
theorem dX1_add_47 : decode cX1_add 47 = .ok (.getfield 27, 3) := by decide +kernel
theorem dX1_add_50 : decode cX1_add 50 = .ok (.iload_n 3, 1) := by decide +kernel
theorem dX1_add_51 : decode cX1_add 51 = .ok (.invokestatic 35, 3) := by decide +kernel
theorem dX1_add_54 : decode cX1_add 54 = .ok (.invokestatic 31, 3) := by decide +kernel
theorem dX1_add_57 : decode cX1_add 57 = .ok (.aload_n 0, 1) := by decide +kernel
theorem dX1_add_58 : decode cX1_add 58 = .ok (.getfield 24, 3) := by decide +kernel
theorem dX1_add_61 : decode cX1_add 61 = .ok (.aload_n 0, 1) := by decide +kernel
theorem dX1_add_62 : decode cX1_add 62 = .ok (.getfield 27, 3) := by decide +kernel
theorem dX1_add_65 : decode cX1_add 65 = .ok (.iload_n 3, 1) := by decide +kernel
theorem dX1_add_66 : decode cX1_add 66 = .ok (.invokestatic 39, 3) := by decide +kernel
theorem dX1_add_69 : decode cX1_add 69 = .ok (.invokestatic 31, 3) := by decide +kernel
theorem dX1_add_72 : decode cX1_add 72 = .ok (.aload_n 0, 1) := by decide +kernel
theorem dX1_add_73 : decode cX1_add 73 = .ok (.dup, 1) := by decide +kernel
theorem dX1_add_74 : decode cX1_add 74 = .ok (.getfield 27, 3) := by decide +kernel
theorem dX1_add_77 : decode cX1_add 77 = .ok (.iconst 1, 1) := by decide +kernel
theorem dX1_add_78 : decode cX1_add 78 = .ok (.iadd, 1) := by decide +kernel
theorem dX1_add_79 : decode cX1_add 79 = .ok (.putfield 27, 3) := by decide +kernel
theorem dX1_add_82 : decode cX1_add 82 = .ok (.aload_n 0, 1) := by decide +kernel
theorem dX1_add_83 : decode cX1_add 83 = .ok (.getfield 27, 3) := by decide +kernel
theorem dX1_add_86 : decode cX1_add 86 = .ok (.ireturn, 1) := by decide +kernel
set_option maxRecDepth 20000 in
theorem ggX1_keeps_X7_at : GoodIn wsX1_keeps wsX7_at := goodIn_ca (goodIn_r _ [9] (by decide +kernel) (by decide +kernel)) (goodIn_sub (fun _ h => List.mem_cons_of_mem _ (List.mem_append_right _ h)) (by decide +kernel))
set_option maxRecDepth 20000 in
theorem gX1_keeps_X7_at_n42 : GoodIn wsX1_keeps (wsX7_at) := ggX1_keeps_X7_at
set_option maxRecDepth 20000 in
theorem ggX1_keeps_X1_holds : GoodIn wsX1_keeps wsX1_holds := goodIn_r _ [13] (by decide +kernel) (by decide +kernel)
set_option maxRecDepth 20000 in
theorem gX1_keeps_X1_holds : GoodIn wsX1_keeps (va_wsS RX1 46 yX1_holds wsX1_holds) := goodIn_app (goodIn_of _ (by decide +kernel)) ggX1_keeps_X1_holds
theorem dX1_keeps_0 : decode cX1_keeps 0 = .ok (.iconst 0, 1) := by decide +kernel
theorem dX1_keeps_1 : decode cX1_keeps 1 = .ok (.istore_n 2, 1) := by decide +kernel
theorem dX1_keeps_2 : decode cX1_keeps 2 = .ok (.iload_n 2, 1) := by decide +kernel
theorem dX1_keeps_3 : decode cX1_keeps 3 = .ok (.aload_n 0, 1) := by decide +kernel
theorem dX1_keeps_4 : decode cX1_keeps 4 = .ok (.getfield 27, 3) := by decide +kernel
theorem dX1_keeps_7 : decode cX1_keeps 7 = .ok (.if_icmp .ge 83, 3) := by decide +kernel
theorem dX1_keeps_10 : decode cX1_keeps 10 = .ok (.iload_n 1, 1) := by decide +kernel
theorem dX1_keeps_11 : decode cX1_keeps 11 = .ok (.aload_n 0, 1) := by decide +kernel
theorem dX1_keeps_12 : decode cX1_keeps 12 = .ok (.getfield 15, 3) := by decide +kernel
theorem dX1_keeps_15 : decode cX1_keeps 15 = .ok (.iload_n 2, 1) := by decide +kernel
theorem dX1_keeps_16 : decode cX1_keeps 16 = .ok (.invokestatic 42, 3) := by decide +kernel
theorem dX1_keeps_19 : decode cX1_keeps 19 = .ok (.iand, 1) := by decide +kernel
theorem dX1_keeps_20 : decode cX1_keeps 20 = .ok (.aload_n 0, 1) := by decide +kernel
theorem dX1_keeps_21 : decode cX1_keeps 21 = .ok (.getfield 18, 3) := by decide +kernel
theorem dX1_keeps_24 : decode cX1_keeps 24 = .ok (.iload_n 2, 1) := by decide +kernel
theorem dX1_keeps_25 : decode cX1_keeps 25 = .ok (.invokestatic 42, 3) := by decide +kernel
theorem dX1_keeps_28 : decode cX1_keeps 28 = .ok (.if_icmp .ne 7, 3) := by decide +kernel
theorem dX1_keeps_31 : decode cX1_keeps 31 = .ok (.iconst 1, 1) := by decide +kernel
theorem dX1_keeps_32 : decode cX1_keeps 32 = .ok (.goto 4, 3) := by decide +kernel
theorem dX1_keeps_35 : decode cX1_keeps 35 = .ok (.iconst 0, 1) := by decide +kernel
theorem dX1_keeps_36 : decode cX1_keeps 36 = .ok (.istore_n 3, 1) := by decide +kernel
theorem dX1_keeps_37 : decode cX1_keeps 37 = .ok (.iload_n 1, 1) := by decide +kernel
theorem dX1_keeps_38 : decode cX1_keeps 38 = .ok (.aload_n 0, 1) := by decide +kernel
theorem dX1_keeps_39 : decode cX1_keeps 39 = .ok (.getfield 21, 3) := by decide +kernel
theorem dX1_keeps_42 : decode cX1_keeps 42 = .ok (.iload_n 2, 1) := by decide +kernel
theorem dX1_keeps_43 : decode cX1_keeps 43 = .ok (.invokestatic 42, 3) := by decide +kernel
theorem dX1_keeps_46 : decode cX1_keeps 46 = .ok (.iand, 1) := by decide +kernel
theorem dX1_keeps_47 : decode cX1_keeps 47 = .ok (.aload_n 0, 1) := by decide +kernel
theorem dX1_keeps_48 : decode cX1_keeps 48 = .ok (.getfield 24, 3) := by decide +kernel
theorem dX1_keeps_51 : decode cX1_keeps 51 = .ok (.iload_n 2, 1) := by decide +kernel
theorem dX1_keeps_52 : decode cX1_keeps 52 = .ok (.invokestatic 42, 3) := by decide +kernel
theorem dX1_keeps_55 : decode cX1_keeps 55 = .ok (.if_icmp .ne 7, 3) := by decide +kernel
theorem dX1_keeps_58 : decode cX1_keeps 58 = .ok (.iconst 1, 1) := by decide +kernel
theorem dX1_keeps_59 : decode cX1_keeps 59 = .ok (.goto 4, 3) := by decide +kernel
theorem dX1_keeps_62 : decode cX1_keeps 62 = .ok (.iconst 0, 1) := by decide +kernel
theorem dX1_keeps_63 : decode cX1_keeps 63 = .ok (.istore 4, 2) := by decide +kernel
theorem dX1_keeps_65 : decode cX1_keeps 65 = .ok (.aload_n 0, 1) := by decide +kernel
theorem dX1_keeps_66 : decode cX1_keeps 66 = .ok (.getfield 9, 3) := by decide +kernel
theorem dX1_keeps_69 : decode cX1_keeps 69 = .ok (.iload_n 2, 1) := by decide +kernel
theorem dX1_keeps_70 : decode cX1_keeps 70 = .ok (.invokestatic 42, 3) := by decide +kernel
theorem dX1_keeps_73 : decode cX1_keeps 73 = .ok (.iload_n 3, 1) := by decide +kernel
theorem dX1_keeps_74 : decode cX1_keeps 74 = .ok (.iload 4, 2) := by decide +kernel
theorem dX1_keeps_76 : decode cX1_keeps 76 = .ok (.invokestatic 46, 3) := by decide +kernel
theorem dX1_keeps_79 : decode cX1_keeps 79 = .ok (.ifCond .ne 5, 3) := by decide +kernel
theorem dX1_keeps_82 : decode cX1_keeps 82 = .ok (.iconst 0, 1) := by decide +kernel
theorem dX1_keeps_83 : decode cX1_keeps 83 = .ok (.ireturn, 1) := by decide +kernel
theorem dX1_keeps_84 : decode cX1_keeps 84 = .ok (.iinc 2 1, 3) := by decide +kernel
theorem dX1_keeps_87 : decode cX1_keeps 87 = .ok (.goto (-85), 3) := by decide +kernel
theorem dX1_keeps_90 : decode cX1_keeps 90 = .ok (.iconst 1, 1) := by decide +kernel
theorem dX1_keeps_91 : decode cX1_keeps 91 = .ok (.ireturn, 1) := by decide +kernel
set_option maxRecDepth 20000 in
theorem ggX1_isAlwaysTrue_X1_bitOf : GoodIn wsX1_isAlwaysTrue wsX1_bitOf := goodIn_r _ [4, 5, 6, 7] (by decide +kernel) (by decide +kernel)
set_option maxRecDepth 20000 in
theorem gX1_isAlwaysTrue_X1_bitOf : GoodIn wsX1_isAlwaysTrue (va_wsS RX1 35 yX1_bitOf wsX1_bitOf) := goodIn_app (goodIn_of _ (by decide +kernel)) ggX1_isAlwaysTrue_X1_bitOf
set_option maxRecDepth 20000 in
theorem ggX1_isAlwaysTrue_X1_holdsIn : GoodIn wsX1_isAlwaysTrue wsX1_holdsIn := goodIn_r _ [10, 1, 2, 3, 4, 5, 6, 7, 11, 12, 13] (by decide +kernel) (by decide +kernel)
set_option maxRecDepth 20000 in
theorem gX1_isAlwaysTrue_X1_holdsIn : GoodIn wsX1_isAlwaysTrue (va_wsS RX1 50 yX1_holdsIn wsX1_holdsIn) := goodIn_app (goodIn_of _ (by decide +kernel)) ggX1_isAlwaysTrue_X1_holdsIn
theorem dX1_isAlwaysTrue_0 : decode cX1_isAlwaysTrue 0 = .ok (.iload_n 1, 1) := by decide +kernel
theorem dX1_isAlwaysTrue_1 : decode cX1_isAlwaysTrue 1 = .ok (.invokestatic 35, 3) := by decide +kernel
theorem dX1_isAlwaysTrue_4 : decode cX1_isAlwaysTrue 4 = .ok (.istore_n 3, 1) := by decide +kernel
theorem dX1_isAlwaysTrue_5 : decode cX1_isAlwaysTrue 5 = .ok (.iload_n 2, 1) := by decide +kernel
theorem dX1_isAlwaysTrue_6 : decode cX1_isAlwaysTrue 6 = .ok (.invokestatic 35, 3) := by decide +kernel
theorem dX1_isAlwaysTrue_9 : decode cX1_isAlwaysTrue 9 = .ok (.istore 4, 2) := by decide +kernel
theorem dX1_isAlwaysTrue_11 : decode cX1_isAlwaysTrue 11 = .ok (.iconst 0, 1) := by decide +kernel
theorem dX1_isAlwaysTrue_12 : decode cX1_isAlwaysTrue 12 = .ok (.iload_n 0, 1) := by decide +kernel
theorem dX1_isAlwaysTrue_13 : decode cX1_isAlwaysTrue 13 = .ok (.iload_n 1, 1) := by decide +kernel
theorem dX1_isAlwaysTrue_14 : decode cX1_isAlwaysTrue 14 = .ok (.iload_n 2, 1) := by decide +kernel
theorem dX1_isAlwaysTrue_15 : decode cX1_isAlwaysTrue 15 = .ok (.invokestatic 50, 3) := by decide +kernel
theorem dX1_isAlwaysTrue_18 : decode cX1_isAlwaysTrue 18 = .ok (.ifCond .eq 41, 3) := by decide +kernel
theorem dX1_isAlwaysTrue_21 : decode cX1_isAlwaysTrue 21 = .ok (.iload_n 3, 1) := by decide +kernel
theorem dX1_isAlwaysTrue_22 : decode cX1_isAlwaysTrue 22 = .ok (.iload_n 0, 1) := by decide +kernel
theorem dX1_isAlwaysTrue_23 : decode cX1_isAlwaysTrue 23 = .ok (.iload_n 1, 1) := by decide +kernel
theorem dX1_isAlwaysTrue_24 : decode cX1_isAlwaysTrue 24 = .ok (.iload_n 2, 1) := by decide +kernel
theorem dX1_isAlwaysTrue_25 : decode cX1_isAlwaysTrue 25 = .ok (.invokestatic 50, 3) := by decide +kernel
theorem dX1_isAlwaysTrue_28 : decode cX1_isAlwaysTrue 28 = .ok (.ifCond .eq 31, 3) := by decide +kernel
theorem dX1_isAlwaysTrue_31 : decode cX1_isAlwaysTrue 31 = .ok (.iload 4, 2) := by decide +kernel
theorem dX1_isAlwaysTrue_33 : decode cX1_isAlwaysTrue 33 = .ok (.iload_n 0, 1) := by decide +kernel
theorem dX1_isAlwaysTrue_34 : decode cX1_isAlwaysTrue 34 = .ok (.iload_n 1, 1) := by decide +kernel
theorem dX1_isAlwaysTrue_35 : decode cX1_isAlwaysTrue 35 = .ok (.iload_n 2, 1) := by decide +kernel
theorem dX1_isAlwaysTrue_36 : decode cX1_isAlwaysTrue 36 = .ok (.invokestatic 50, 3) := by decide +kernel
theorem dX1_isAlwaysTrue_39 : decode cX1_isAlwaysTrue 39 = .ok (.ifCond .eq 20, 3) := by decide +kernel
theorem dX1_isAlwaysTrue_42 : decode cX1_isAlwaysTrue 42 = .ok (.iload_n 3, 1) := by decide +kernel
theorem dX1_isAlwaysTrue_43 : decode cX1_isAlwaysTrue 43 = .ok (.iload 4, 2) := by decide +kernel
theorem dX1_isAlwaysTrue_45 : decode cX1_isAlwaysTrue 45 = .ok (.ior, 1) := by decide +kernel
theorem dX1_isAlwaysTrue_46 : decode cX1_isAlwaysTrue 46 = .ok (.iload_n 0, 1) := by decide +kernel
theorem dX1_isAlwaysTrue_47 : decode cX1_isAlwaysTrue 47 = .ok (.iload_n 1, 1) := by decide +kernel
theorem dX1_isAlwaysTrue_48 : decode cX1_isAlwaysTrue 48 = .ok (.iload_n 2, 1) := by decide +kernel
theorem dX1_isAlwaysTrue_49 : decode cX1_isAlwaysTrue 49 = .ok (.invokestatic 50, 3) := by decide +kernel
theorem dX1_isAlwaysTrue_52 : decode cX1_isAlwaysTrue 52 = .ok (.ifCond .eq 7, 3) := by decide +kernel
theorem dX1_isAlwaysTrue_55 : decode cX1_isAlwaysTrue 55 = .ok (.iconst 1, 1) := by decide +kernel
theorem dX1_isAlwaysTrue_56 : decode cX1_isAlwaysTrue 56 = .ok (.goto 4, 3) := by decide +kernel
theorem dX1_isAlwaysTrue_59 : decode cX1_isAlwaysTrue 59 = .ok (.iconst 0, 1) := by decide +kernel
theorem dX1_isAlwaysTrue_60 : decode cX1_isAlwaysTrue 60 = .ok (.ireturn, 1) := by decide +kernel
set_option maxRecDepth 20000 in
theorem ggX1_holdsIn_X1_bitOf : GoodIn wsX1_holdsIn wsX1_bitOf := goodIn_r _ [4, 5, 6, 7] (by decide +kernel) (by decide +kernel)
set_option maxRecDepth 20000 in
theorem gX1_holdsIn_X1_bitOf : GoodIn wsX1_holdsIn (va_wsS RX1 35 yX1_bitOf wsX1_bitOf) := goodIn_app (goodIn_of _ (by decide +kernel)) ggX1_holdsIn_X1_bitOf
set_option maxRecDepth 20000 in
theorem ggX1_holdsIn_X7_bit : GoodIn wsX1_holdsIn wsX7_bit := goodIn_r _ [7] (by decide +kernel) (by decide +kernel)
set_option maxRecDepth 20000 in
theorem gX1_holdsIn_X7_bit_n39 : GoodIn wsX1_holdsIn (wsX7_bit) := ggX1_holdsIn_X7_bit
set_option maxRecDepth 20000 in
theorem ggX1_holdsIn_X1_holds : GoodIn wsX1_holdsIn wsX1_holds := goodIn_r _ [10] (by decide +kernel) (by decide +kernel)
set_option maxRecDepth 20000 in
theorem gX1_holdsIn_X1_holds : GoodIn wsX1_holdsIn (va_wsS RX1 46 yX1_holds wsX1_holds) := goodIn_app (goodIn_of _ (by decide +kernel)) ggX1_holdsIn_X1_holds
theorem dX1_holdsIn_0 : decode cX1_holdsIn 0 = .ok (.iload_n 1, 1) := by decide +kernel
theorem dX1_holdsIn_1 : decode cX1_holdsIn 1 = .ok (.iload_n 0, 1) := by decide +kernel
theorem dX1_holdsIn_2 : decode cX1_holdsIn 2 = .ok (.iload_n 2, 1) := by decide +kernel
theorem dX1_holdsIn_3 : decode cX1_holdsIn 3 = .ok (.invokestatic 35, 3) := by decide +kernel
theorem dX1_holdsIn_6 : decode cX1_holdsIn 6 = .ok (.iand, 1) := by decide +kernel
theorem dX1_holdsIn_7 : decode cX1_holdsIn 7 = .ok (.iload_n 2, 1) := by decide +kernel
theorem dX1_holdsIn_8 : decode cX1_holdsIn 8 = .ok (.invokestatic 39, 3) := by decide +kernel
theorem dX1_holdsIn_11 : decode cX1_holdsIn 11 = .ok (.if_icmp .ne 7, 3) := by decide +kernel
theorem dX1_holdsIn_14 : decode cX1_holdsIn 14 = .ok (.iconst 1, 1) := by decide +kernel
theorem dX1_holdsIn_15 : decode cX1_holdsIn 15 = .ok (.goto 4, 3) := by decide +kernel
theorem dX1_holdsIn_18 : decode cX1_holdsIn 18 = .ok (.iconst 0, 1) := by decide +kernel
theorem dX1_holdsIn_19 : decode cX1_holdsIn 19 = .ok (.iload_n 0, 1) := by decide +kernel
theorem dX1_holdsIn_20 : decode cX1_holdsIn 20 = .ok (.iload_n 3, 1) := by decide +kernel
theorem dX1_holdsIn_21 : decode cX1_holdsIn 21 = .ok (.invokestatic 35, 3) := by decide +kernel
theorem dX1_holdsIn_24 : decode cX1_holdsIn 24 = .ok (.iand, 1) := by decide +kernel
theorem dX1_holdsIn_25 : decode cX1_holdsIn 25 = .ok (.iload_n 3, 1) := by decide +kernel
theorem dX1_holdsIn_26 : decode cX1_holdsIn 26 = .ok (.invokestatic 39, 3) := by decide +kernel
theorem dX1_holdsIn_29 : decode cX1_holdsIn 29 = .ok (.if_icmp .ne 7, 3) := by decide +kernel
theorem dX1_holdsIn_32 : decode cX1_holdsIn 32 = .ok (.iconst 1, 1) := by decide +kernel
theorem dX1_holdsIn_33 : decode cX1_holdsIn 33 = .ok (.goto 4, 3) := by decide +kernel
theorem dX1_holdsIn_36 : decode cX1_holdsIn 36 = .ok (.iconst 0, 1) := by decide +kernel
theorem dX1_holdsIn_37 : decode cX1_holdsIn 37 = .ok (.invokestatic 46, 3) := by decide +kernel
theorem dX1_holdsIn_40 : decode cX1_holdsIn 40 = .ok (.ireturn, 1) := by decide +kernel
theorem dX1_holds_0 : decode cX1_holds 0 = .ok (.iload_n 0, 1) := by decide +kernel
theorem dX1_holds_1 : decode cX1_holds 1 = .ok (.tableswitch 69 0 2 #[27, 41, 55], 27) := by decide +kernel
theorem dX1_holds_28 : decode cX1_holds 28 = .ok (.iload_n 1, 1) := by decide +kernel
theorem dX1_holds_29 : decode cX1_holds 29 = .ok (.ifCond .eq 7, 3) := by decide +kernel
theorem dX1_holds_32 : decode cX1_holds 32 = .ok (.iload_n 2, 1) := by decide +kernel
theorem dX1_holds_33 : decode cX1_holds 33 = .ok (.ifCond .eq 7, 3) := by decide +kernel
theorem dX1_holds_36 : decode cX1_holds 36 = .ok (.iconst 1, 1) := by decide +kernel
theorem dX1_holds_37 : decode cX1_holds 37 = .ok (.goto 4, 3) := by decide +kernel
theorem dX1_holds_40 : decode cX1_holds 40 = .ok (.iconst 0, 1) := by decide +kernel
theorem dX1_holds_41 : decode cX1_holds 41 = .ok (.ireturn, 1) := by decide +kernel
theorem dX1_holds_42 : decode cX1_holds 42 = .ok (.iload_n 1, 1) := by decide +kernel
theorem dX1_holds_43 : decode cX1_holds 43 = .ok (.ifCond .eq 7, 3) := by decide +kernel
theorem dX1_holds_46 : decode cX1_holds 46 = .ok (.iload_n 2, 1) := by decide +kernel
theorem dX1_holds_47 : decode cX1_holds 47 = .ok (.ifCond .ne 7, 3) := by decide +kernel
theorem dX1_holds_50 : decode cX1_holds 50 = .ok (.iconst 1, 1) := by decide +kernel
theorem dX1_holds_51 : decode cX1_holds 51 = .ok (.goto 4, 3) := by decide +kernel
theorem dX1_holds_54 : decode cX1_holds 54 = .ok (.iconst 0, 1) := by decide +kernel
theorem dX1_holds_55 : decode cX1_holds 55 = .ok (.ireturn, 1) := by decide +kernel
theorem dX1_holds_56 : decode cX1_holds 56 = .ok (.iload_n 1, 1) := by decide +kernel
theorem dX1_holds_57 : decode cX1_holds 57 = .ok (.ifCond .ne 7, 3) := by decide +kernel
theorem dX1_holds_60 : decode cX1_holds 60 = .ok (.iload_n 2, 1) := by decide +kernel
theorem dX1_holds_61 : decode cX1_holds 61 = .ok (.ifCond .eq 7, 3) := by decide +kernel
theorem dX1_holds_64 : decode cX1_holds 64 = .ok (.iconst 1, 1) := by decide +kernel
theorem dX1_holds_65 : decode cX1_holds 65 = .ok (.goto 4, 3) := by decide +kernel
theorem dX1_holds_68 : decode cX1_holds 68 = .ok (.iconst 0, 1) := by decide +kernel
theorem dX1_holds_69 : decode cX1_holds 69 = .ok (.ireturn, 1) := by decide +kernel
theorem dX1_holds_70 : decode cX1_holds 70 = .ok (.iload_n 1, 1) := by decide +kernel
theorem dX1_holds_71 : decode cX1_holds 71 = .ok (.iload_n 2, 1) := by decide +kernel
theorem dX1_holds_72 : decode cX1_holds 72 = .ok (.if_icmp .ne 7, 3) := by decide +kernel
theorem dX1_holds_75 : decode cX1_holds 75 = .ok (.iconst 1, 1) := by decide +kernel
theorem dX1_holds_76 : decode cX1_holds 76 = .ok (.goto 4, 3) := by decide +kernel
theorem dX1_holds_79 : decode cX1_holds 79 = .ok (.iconst 0, 1) := by decide +kernel
theorem dX1_holds_80 : decode cX1_holds 80 = .ok (.ireturn, 1) := by decide +kernel
set_option maxRecDepth 20000 in
theorem ggX1_bitOf_X7_bit : GoodIn wsX1_bitOf wsX7_bit := goodIn_r _ [3] (by decide +kernel) (by decide +kernel)
set_option maxRecDepth 20000 in
theorem gX1_bitOf_X7_bit_n39 : GoodIn wsX1_bitOf (wsX7_bit) := ggX1_bitOf_X7_bit
theorem dX1_bitOf_0 : decode cX1_bitOf 0 = .ok (.iload_n 0, 1) := by decide +kernel
theorem dX1_bitOf_1 : decode cX1_bitOf 1 = .ok (.invokestatic 39, 3) := by decide +kernel
theorem dX1_bitOf_4 : decode cX1_bitOf 4 = .ok (.iload_n 0, 1) := by decide +kernel
theorem dX1_bitOf_5 : decode cX1_bitOf 5 = .ok (.ineg, 1) := by decide +kernel
theorem dX1_bitOf_6 : decode cX1_bitOf 6 = .ok (.invokestatic 39, 3) := by decide +kernel
theorem dX1_bitOf_9 : decode cX1_bitOf 9 = .ok (.ior, 1) := by decide +kernel
theorem dX1_bitOf_10 : decode cX1_bitOf 10 = .ok (.ireturn, 1) := by decide +kernel
theorem dX2_init_0 : decode cX2_init 0 = .ok (.aload_n 0, 1) := by decide +kernel
theorem dX2_init_1 : decode cX2_init 1 = .ok (.invokespecial 3, 3) := by decide +kernel
theorem dX2_init_4 : decode cX2_init 4 = .ok (.aload_n 0, 1) := by decide +kernel
theorem dX2_init_5 : decode cX2_init 5 = .ok (.sipush 200, 3) := by decide +kernel
theorem dX2_init_8 : decode cX2_init 8 = .ok (.newarray .int, 2) := by decide +kernel
theorem dX2_init_10 : decode cX2_init 10 = .ok (.putfield 9, 3) := by decide +kernel
theorem dX2_init_13 : decode cX2_init 13 = .ok (.return_, 1) := by decide +kernel
set_option maxRecDepth 20000 in
theorem ggX2_keep_X7_put : GoodIn wsX2_keep wsX7_put := goodIn_ca (goodIn_r _ [6] (by decide +kernel) (by decide +kernel)) (goodIn_sub (fun _ h => List.mem_cons_of_mem _ (List.mem_append_right _ h)) (by decide +kernel))
set_option maxRecDepth 20000 in
theorem gX2_keep_X7_put_n22 : GoodIn wsX2_keep (wsX7_put) := ggX2_keep_X7_put
theorem dX2_keep_0 : decode cX2_keep 0 = .ok (.aload_n 0, 1) := by decide +kernel
theorem dX2_keep_1 : decode cX2_keep 1 = .ok (.iload_n 1, 1) := by decide +kernel
theorem dX2_keep_2 : decode cX2_keep 2 = .ok (.putfield 15, 3) := by decide +kernel
theorem dX2_keep_5 : decode cX2_keep 5 = .ok (.aload_n 0, 1) := by decide +kernel
theorem dX2_keep_6 : decode cX2_keep 6 = .ok (.getfield 19, 3) := by decide +kernel
theorem dX2_keep_9 : decode cX2_keep 9 = .ok (.sipush 200, 3) := by decide +kernel
theorem dX2_keep_12 : decode cX2_keep 12 = .ok (.if_icmp .ge 25, 3) := by decide +kernel
theorem dX2_keep_15 : decode cX2_keep 15 = .ok (.aload_n 0, 1) := by decide +kernel
theorem dX2_keep_16 : decode cX2_keep 16 = .ok (.getfield 9, 3) := by decide +kernel
theorem dX2_keep_19 : decode cX2_keep 19 = .ok (.aload_n 0, 1) := by decide +kernel
theorem dX2_keep_20 : decode cX2_keep 20 = .ok (.getfield 19, 3) := by decide +kernel
theorem dX2_keep_23 : decode cX2_keep 23 = .ok (.iload_n 1, 1) := by decide +kernel
theorem dX2_keep_24 : decode cX2_keep 24 = .ok (.invokestatic 22, 3) := by decide +kernel
theorem dX2_keep_27 : decode cX2_keep 27 = .ok (.aload_n 0, 1) := by decide +kernel
theorem dX2_keep_28 : decode cX2_keep 28 = .ok (.dup, 1) := by decide +kernel
theorem dX2_keep_29 : decode cX2_keep 29 = .ok (.getfield 19, 3) := by decide +kernel
theorem dX2_keep_32 : decode cX2_keep 32 = .ok (.iconst 1, 1) := by decide +kernel
theorem dX2_keep_33 : decode cX2_keep 33 = .ok (.iadd, 1) := by decide +kernel
theorem dX2_keep_34 : decode cX2_keep 34 = .ok (.putfield 19, 3) := by decide +kernel
theorem dX2_keep_37 : decode cX2_keep 37 = .ok (.return_, 1) := by decide +kernel
theorem dX2_keepNone_0 : decode cX2_keepNone 0 = .ok (.aload_n 0, 1) := by decide +kernel
theorem dX2_keepNone_1 : decode cX2_keepNone 1 = .ok (.iconst 0, 1) := by decide +kernel
theorem dX2_keepNone_2 : decode cX2_keepNone 2 = .ok (.putfield 15, 3) := by decide +kernel
theorem dX2_keepNone_5 : decode cX2_keepNone 5 = .ok (.return_, 1) := by decide +kernel
theorem dX2_has_0 : decode cX2_has 0 = .ok (.iload_n 1, 1) := by decide +kernel
theorem dX2_has_1 : decode cX2_has 1 = .ok (.iconst 1, 1) := by decide +kernel
theorem dX2_has_2 : decode cX2_has 2 = .ok (.if_icmp .lt 15, 3) := by decide +kernel
theorem dX2_has_5 : decode cX2_has 5 = .ok (.iload_n 1, 1) := by decide +kernel
theorem dX2_has_6 : decode cX2_has 6 = .ok (.aload_n 0, 1) := by decide +kernel
theorem dX2_has_7 : decode cX2_has 7 = .ok (.getfield 19, 3) := by decide +kernel
theorem dX2_has_10 : decode cX2_has 10 = .ok (.if_icmp .gt 7, 3) := by decide +kernel
theorem dX2_has_13 : decode cX2_has 13 = .ok (.iconst 1, 1) := by decide +kernel
theorem dX2_has_14 : decode cX2_has 14 = .ok (.goto 4, 3) := by decide +kernel
theorem dX2_has_17 : decode cX2_has 17 = .ok (.iconst 0, 1) := by decide +kernel
theorem dX2_has_18 : decode cX2_has 18 = .ok (.ireturn, 1) := by decide +kernel
set_option maxRecDepth 20000 in
theorem ggX2_get_X7_at : GoodIn wsX2_get wsX7_at := goodIn_ca (goodIn_r _ [4] (by decide +kernel) (by decide +kernel)) (goodIn_sub (fun _ h => List.mem_cons_of_mem _ (List.mem_append_right _ h)) (by decide +kernel))
set_option maxRecDepth 20000 in
theorem gX2_get_X7_at_n26 : GoodIn wsX2_get (wsX7_at) := ggX2_get_X7_at
theorem dX2_get_0 : decode cX2_get 0 = .ok (.aload_n 0, 1) := by decide +kernel
theorem dX2_get_1 : decode cX2_get 1 = .ok (.getfield 9, 3) := by decide +kernel
theorem dX2_get_4 : decode cX2_get 4 = .ok (.iload_n 1, 1) := by decide +kernel
theorem dX2_get_5 : decode cX2_get 5 = .ok (.iconst 1, 1) := by decide +kernel
theorem dX2_get_6 : decode cX2_get 6 = .ok (.isub, 1) := by decide +kernel
theorem dX2_get_7 : decode cX2_get 7 = .ok (.invokestatic 26, 3) := by decide +kernel
theorem dX2_get_10 : decode cX2_get 10 = .ok (.ireturn, 1) := by decide +kernel
theorem dX3_init_0 : decode cX3_init 0 = .ok (.aload_n 0, 1) := by decide +kernel
theorem dX3_init_1 : decode cX3_init 1 = .ok (.invokespecial 3, 3) := by decide +kernel
theorem dX3_init_4 : decode cX3_init 4 = .ok (.aload_n 0, 1) := by decide +kernel
theorem dX3_init_5 : decode cX3_init 5 = .ok (.bipush 14, 2) := by decide +kernel
theorem dX3_init_7 : decode cX3_init 7 = .ok (.newarray .int, 2) := by decide +kernel
theorem dX3_init_9 : decode cX3_init 9 = .ok (.putfield 9, 3) := by decide +kernel
theorem dX3_init_12 : decode cX3_init 12 = .ok (.return_, 1) := by decide +kernel
theorem dX3_clear_0 : decode cX3_clear 0 = .ok (.aload_n 0, 1) := by decide +kernel
theorem dX3_clear_1 : decode cX3_clear 1 = .ok (.iconst 0, 1) := by decide +kernel
theorem dX3_clear_2 : decode cX3_clear 2 = .ok (.putfield 15, 3) := by decide +kernel
theorem dX3_clear_5 : decode cX3_clear 5 = .ok (.return_, 1) := by decide +kernel
set_option maxRecDepth 20000 in
theorem ggX3_add_X7_put : GoodIn wsX3_add wsX7_put := goodIn_ca (goodIn_r _ [5] (by decide +kernel) (by decide +kernel)) (goodIn_sub (fun _ h => List.mem_cons_of_mem _ (List.mem_append_right _ h)) (by decide +kernel))
set_option maxRecDepth 20000 in
theorem gX3_add_X7_put_n19 : GoodIn wsX3_add (wsX7_put) := ggX3_add_X7_put
theorem dX3_add_0 : decode cX3_add 0 = .ok (.aload_n 0, 1) := by decide +kernel
theorem dX3_add_1 : decode cX3_add 1 = .ok (.getfield 9, 3) := by decide +kernel
theorem dX3_add_4 : decode cX3_add 4 = .ok (.aload_n 0, 1) := by decide +kernel
theorem dX3_add_5 : decode cX3_add 5 = .ok (.getfield 15, 3) := by decide +kernel
theorem dX3_add_8 : decode cX3_add 8 = .ok (.iload_n 1, 1) := by decide +kernel
theorem dX3_add_9 : decode cX3_add 9 = .ok (.invokestatic 19, 3) := by decide +kernel
theorem dX3_add_12 : decode cX3_add 12 = .ok (.aload_n 0, 1) := by decide +kernel
theorem dX3_add_13 : decode cX3_add 13 = .ok (.dup, 1) := by decide +kernel
theorem dX3_add_14 : decode cX3_add 14 = .ok (.getfield 15, 3) := by decide +kernel
theorem dX3_add_17 : decode cX3_add 17 = .ok (.iconst 1, 1) := by decide +kernel
theorem dX3_add_18 : decode cX3_add 18 = .ok (.iadd, 1) := by decide +kernel
theorem dX3_add_19 : decode cX3_add 19 = .ok (.putfield 15, 3) := by decide +kernel
theorem dX3_add_22 : decode cX3_add 22 = .ok (.return_, 1) := by decide +kernel
set_option maxRecDepth 20000 in
theorem ggX3_get_X7_at : GoodIn wsX3_get wsX7_at := goodIn_ca (goodIn_r _ [5] (by decide +kernel) (by decide +kernel)) (goodIn_sub (fun _ h => List.mem_cons_of_mem _ (List.mem_append_right _ h)) (by decide +kernel))
set_option maxRecDepth 20000 in
theorem gX3_get_X7_at_n23 : GoodIn wsX3_get (wsX7_at) := ggX3_get_X7_at
theorem dX3_get_0 : decode cX3_get 0 = .ok (.iload_n 1, 1) := by decide +kernel
theorem dX3_get_1 : decode cX3_get 1 = .ok (.ifCond .lt 22, 3) := by decide +kernel
theorem dX3_get_4 : decode cX3_get 4 = .ok (.iload_n 1, 1) := by decide +kernel
theorem dX3_get_5 : decode cX3_get 5 = .ok (.aload_n 0, 1) := by decide +kernel
theorem dX3_get_6 : decode cX3_get 6 = .ok (.getfield 15, 3) := by decide +kernel
theorem dX3_get_9 : decode cX3_get 9 = .ok (.if_icmp .ge 14, 3) := by decide +kernel
theorem dX3_get_12 : decode cX3_get 12 = .ok (.aload_n 0, 1) := by decide +kernel
theorem dX3_get_13 : decode cX3_get 13 = .ok (.getfield 9, 3) := by decide +kernel
theorem dX3_get_16 : decode cX3_get 16 = .ok (.iload_n 1, 1) := by decide +kernel
theorem dX3_get_17 : decode cX3_get 17 = .ok (.invokestatic 23, 3) := by decide +kernel
theorem dX3_get_20 : decode cX3_get 20 = .ok (.goto 4, 3) := by decide +kernel
theorem dX3_get_23 : decode cX3_get 23 = .ok (.iconst 0, 1) := by decide +kernel
theorem dX3_get_24 : decode cX3_get 24 = .ok (.ireturn, 1) := by decide +kernel
theorem dX4_init_0 : decode cX4_init 0 = .ok (.aload_n 0, 1) := by decide +kernel
theorem dX4_init_1 : decode cX4_init 1 = .ok (.invokespecial 3, 3) := by decide +kernel
theorem dX4_init_4 : decode cX4_init 4 = .ok (.aload_n 0, 1) := by decide +kernel
theorem dX4_init_5 : decode cX4_init 5 = .ok (.bipush 60, 2) := by decide +kernel
theorem dX4_init_7 : decode cX4_init 7 = .ok (.newarray .int, 2) := by decide +kernel
theorem dX4_init_9 : decode cX4_init 9 = .ok (.putfield 11, 3) := by decide +kernel
theorem dX4_init_12 : decode cX4_init 12 = .ok (.aload_n 0, 1) := by decide +kernel
theorem dX4_init_13 : decode cX4_init 13 = .ok (.iconst 4, 1) := by decide +kernel
theorem dX4_init_14 : decode cX4_init 14 = .ok (.newarray .int, 2) := by decide +kernel
theorem dX4_init_16 : decode cX4_init 16 = .ok (.dup, 1) := by decide +kernel
theorem dX4_init_17 : decode cX4_init 17 = .ok (.iconst 0, 1) := by decide +kernel
theorem dX4_init_18 : decode cX4_init 18 = .ok (.sipush 14000, 3) := by decide +kernel
theorem dX4_init_21 : decode cX4_init 21 = .ok (.iastore, 1) := by decide +kernel
theorem dX4_init_22 : decode cX4_init 22 = .ok (.dup, 1) := by decide +kernel
theorem dX4_init_23 : decode cX4_init 23 = .ok (.iconst 1, 1) := by decide +kernel
theorem dX4_init_24 : decode cX4_init 24 = .ok (.sipush 14000, 3) := by decide +kernel
theorem dX4_init_27 : decode cX4_init 27 = .ok (.iastore, 1) := by decide +kernel
theorem dX4_init_28 : decode cX4_init 28 = .ok (.dup, 1) := by decide +kernel
theorem dX4_init_29 : decode cX4_init 29 = .ok (.iconst 2, 1) := by decide +kernel
theorem dX4_init_30 : decode cX4_init 30 = .ok (.sipush 14000, 3) := by decide +kernel
theorem dX4_init_33 : decode cX4_init 33 = .ok (.iastore, 1) := by decide +kernel
theorem dX4_init_34 : decode cX4_init 34 = .ok (.dup, 1) := by decide +kernel
theorem dX4_init_35 : decode cX4_init 35 = .ok (.iconst 3, 1) := by decide +kernel
theorem dX4_init_36 : decode cX4_init 36 = .ok (.sipush 14000, 3) := by decide +kernel
theorem dX4_init_39 : decode cX4_init 39 = .ok (.iastore, 1) := by decide +kernel
theorem dX4_init_40 : decode cX4_init 40 = .ok (.putfield 15, 3) := by decide +kernel
theorem dX4_init_43 : decode cX4_init 43 = .ok (.return_, 1) := by decide +kernel
set_option maxRecDepth 20000 in
theorem ggX4_set_X7_put : GoodIn wsX4_set wsX7_put := goodIn_ca (goodIn_r _ [4] (by decide +kernel) (by decide +kernel)) (goodIn_sub (fun _ h => List.mem_cons_of_mem _ (List.mem_append_right _ h)) (by decide +kernel))
set_option maxRecDepth 20000 in
theorem gX4_set_X7_put_n18 : GoodIn wsX4_set (wsX7_put) := ggX4_set_X7_put
theorem dX4_set_0 : decode cX4_set 0 = .ok (.aload_n 0, 1) := by decide +kernel
theorem dX4_set_1 : decode cX4_set 1 = .ok (.getfield 11, 3) := by decide +kernel
theorem dX4_set_4 : decode cX4_set 4 = .ok (.iload_n 2, 1) := by decide +kernel
theorem dX4_set_5 : decode cX4_set 5 = .ok (.bipush 15, 2) := by decide +kernel
theorem dX4_set_7 : decode cX4_set 7 = .ok (.imul, 1) := by decide +kernel
theorem dX4_set_8 : decode cX4_set 8 = .ok (.iload_n 1, 1) := by decide +kernel
theorem dX4_set_9 : decode cX4_set 9 = .ok (.iadd, 1) := by decide +kernel
theorem dX4_set_10 : decode cX4_set 10 = .ok (.iload_n 3, 1) := by decide +kernel
theorem dX4_set_11 : decode cX4_set 11 = .ok (.invokestatic 18, 3) := by decide +kernel
theorem dX4_set_14 : decode cX4_set 14 = .ok (.return_, 1) := by decide +kernel
set_option maxRecDepth 20000 in
theorem ggX4_limit_X7_put : GoodIn wsX4_limit wsX7_put := goodIn_ca (goodIn_r _ [4] (by decide +kernel) (by decide +kernel)) (goodIn_sub (fun _ h => List.mem_cons_of_mem _ (List.mem_append_right _ h)) (by decide +kernel))
set_option maxRecDepth 20000 in
theorem gX4_limit_X7_put_n18 : GoodIn wsX4_limit (wsX7_put) := ggX4_limit_X7_put
theorem dX4_limit_0 : decode cX4_limit 0 = .ok (.aload_n 0, 1) := by decide +kernel
theorem dX4_limit_1 : decode cX4_limit 1 = .ok (.getfield 15, 3) := by decide +kernel
theorem dX4_limit_4 : decode cX4_limit 4 = .ok (.iload_n 1, 1) := by decide +kernel
theorem dX4_limit_5 : decode cX4_limit 5 = .ok (.iload_n 2, 1) := by decide +kernel
theorem dX4_limit_6 : decode cX4_limit 6 = .ok (.invokestatic 18, 3) := by decide +kernel
theorem dX4_limit_9 : decode cX4_limit 9 = .ok (.return_, 1) := by decide +kernel
set_option maxRecDepth 20000 in
theorem ggX4_keeps_X7_at : GoodIn wsX4_keeps wsX7_at := goodIn_ca (goodIn_r _ [5] (by decide +kernel) (by decide +kernel)) (goodIn_sub (fun _ h => List.mem_cons_of_mem _ (List.mem_append_right _ h)) (by decide +kernel))
set_option maxRecDepth 20000 in
theorem gX4_keeps_X7_at_n22 : GoodIn wsX4_keeps (wsX7_at) := ggX4_keeps_X7_at
set_option maxRecDepth 20000 in
theorem ggX4_keeps_X7_bit : GoodIn wsX4_keeps wsX7_bit := goodIn_r _ [7] (by decide +kernel) (by decide +kernel)
set_option maxRecDepth 20000 in
theorem gX4_keeps_X7_bit_n26 : GoodIn wsX4_keeps (wsX7_bit) := ggX4_keeps_X7_bit
theorem dX4_keeps_0 : decode cX4_keeps 0 = .ok (.iconst 0, 1) := by decide +kernel
theorem dX4_keeps_1 : decode cX4_keeps 1 = .ok (.istore_n 2, 1) := by decide +kernel
theorem dX4_keeps_2 : decode cX4_keeps 2 = .ok (.iload_n 2, 1) := by decide +kernel
theorem dX4_keeps_3 : decode cX4_keeps 3 = .ok (.iconst 4, 1) := by decide +kernel
theorem dX4_keeps_4 : decode cX4_keeps 4 = .ok (.if_icmp .ge 85, 3) := by decide +kernel
theorem dX4_keeps_7 : decode cX4_keeps 7 = .ok (.aload_n 0, 1) := by decide +kernel
theorem dX4_keeps_8 : decode cX4_keeps 8 = .ok (.getfield 15, 3) := by decide +kernel
theorem dX4_keeps_11 : decode cX4_keeps 11 = .ok (.iload_n 2, 1) := by decide +kernel
theorem dX4_keeps_12 : decode cX4_keeps 12 = .ok (.invokestatic 22, 3) := by decide +kernel
theorem dX4_keeps_15 : decode cX4_keeps 15 = .ok (.istore_n 3, 1) := by decide +kernel
theorem dX4_keeps_16 : decode cX4_keeps 16 = .ok (.iconst 0, 1) := by decide +kernel
theorem dX4_keeps_17 : decode cX4_keeps 17 = .ok (.istore 4, 2) := by decide +kernel
theorem dX4_keeps_19 : decode cX4_keeps 19 = .ok (.iconst 1, 1) := by decide +kernel
theorem dX4_keeps_20 : decode cX4_keeps 20 = .ok (.istore 5, 2) := by decide +kernel
theorem dX4_keeps_22 : decode cX4_keeps 22 = .ok (.iload 5, 2) := by decide +kernel
theorem dX4_keeps_24 : decode cX4_keeps 24 = .ok (.bipush 14, 2) := by decide +kernel
theorem dX4_keeps_26 : decode cX4_keeps 26 = .ok (.if_icmp .gt 49, 3) := by decide +kernel
theorem dX4_keeps_29 : decode cX4_keeps 29 = .ok (.iload_n 3, 1) := by decide +kernel
theorem dX4_keeps_30 : decode cX4_keeps 30 = .ok (.sipush 14000, 3) := by decide +kernel
theorem dX4_keeps_33 : decode cX4_keeps 33 = .ok (.if_icmp .eq 42, 3) := by decide +kernel
theorem dX4_keeps_36 : decode cX4_keeps 36 = .ok (.iload 4, 2) := by decide +kernel
theorem dX4_keeps_38 : decode cX4_keeps 38 = .ok (.iload_n 1, 1) := by decide +kernel
theorem dX4_keeps_39 : decode cX4_keeps 39 = .ok (.iload 5, 2) := by decide +kernel
theorem dX4_keeps_41 : decode cX4_keeps 41 = .ok (.invokestatic 26, 3) := by decide +kernel
theorem dX4_keeps_44 : decode cX4_keeps 44 = .ok (.iand, 1) := by decide +kernel
theorem dX4_keeps_45 : decode cX4_keeps 45 = .ok (.ifCond .eq 20, 3) := by decide +kernel
theorem dX4_keeps_48 : decode cX4_keeps 48 = .ok (.aload_n 0, 1) := by decide +kernel
theorem dX4_keeps_49 : decode cX4_keeps 49 = .ok (.getfield 11, 3) := by decide +kernel
theorem dX4_keeps_52 : decode cX4_keeps 52 = .ok (.iload_n 2, 1) := by decide +kernel
theorem dX4_keeps_53 : decode cX4_keeps 53 = .ok (.bipush 15, 2) := by decide +kernel
theorem dX4_keeps_55 : decode cX4_keeps 55 = .ok (.imul, 1) := by decide +kernel
theorem dX4_keeps_56 : decode cX4_keeps 56 = .ok (.iload 5, 2) := by decide +kernel
theorem dX4_keeps_58 : decode cX4_keeps 58 = .ok (.iadd, 1) := by decide +kernel
theorem dX4_keeps_59 : decode cX4_keeps 59 = .ok (.invokestatic 22, 3) := by decide +kernel
theorem dX4_keeps_62 : decode cX4_keeps 62 = .ok (.goto 4, 3) := by decide +kernel
theorem dX4_keeps_65 : decode cX4_keeps 65 = .ok (.iconst 0, 1) := by decide +kernel
theorem dX4_keeps_66 : decode cX4_keeps 66 = .ok (.iadd, 1) := by decide +kernel
theorem dX4_keeps_67 : decode cX4_keeps 67 = .ok (.istore 4, 2) := by decide +kernel
theorem dX4_keeps_69 : decode cX4_keeps 69 = .ok (.iinc 5 1, 3) := by decide +kernel
theorem dX4_keeps_72 : decode cX4_keeps 72 = .ok (.goto (-50), 3) := by decide +kernel
theorem dX4_keeps_75 : decode cX4_keeps 75 = .ok (.iload 4, 2) := by decide +kernel
theorem dX4_keeps_77 : decode cX4_keeps 77 = .ok (.iload_n 3, 1) := by decide +kernel
theorem dX4_keeps_78 : decode cX4_keeps 78 = .ok (.if_icmp .le 5, 3) := by decide +kernel
theorem dX4_keeps_81 : decode cX4_keeps 81 = .ok (.iconst 0, 1) := by decide +kernel
theorem dX4_keeps_82 : decode cX4_keeps 82 = .ok (.ireturn, 1) := by decide +kernel
theorem dX4_keeps_83 : decode cX4_keeps 83 = .ok (.iinc 2 1, 3) := by decide +kernel
theorem dX4_keeps_86 : decode cX4_keeps 86 = .ok (.goto (-84), 3) := by decide +kernel
theorem dX4_keeps_89 : decode cX4_keeps 89 = .ok (.iconst 1, 1) := by decide +kernel
theorem dX4_keeps_90 : decode cX4_keeps 90 = .ok (.ireturn, 1) := by decide +kernel
theorem dX5_init_0 : decode cX5_init 0 = .ok (.aload_n 0, 1) := by decide +kernel
theorem dX5_init_1 : decode cX5_init 1 = .ok (.invokespecial 3, 3) := by decide +kernel
theorem dX5_init_4 : decode cX5_init 4 = .ok (.aload_n 0, 1) := by decide +kernel
theorem dX5_init_5 : decode cX5_init 5 = .ok (.bipush 15, 2) := by decide +kernel
theorem dX5_init_7 : decode cX5_init 7 = .ok (.newarray .int, 2) := by decide +kernel
theorem dX5_init_9 : decode cX5_init 9 = .ok (.putfield 9, 3) := by decide +kernel
theorem dX5_init_12 : decode cX5_init 12 = .ok (.aload_n 0, 1) := by decide +kernel
theorem dX5_init_13 : decode cX5_init 13 = .ok (.bipush 15, 2) := by decide +kernel
theorem dX5_init_15 : decode cX5_init 15 = .ok (.newarray .int, 2) := by decide +kernel
theorem dX5_init_17 : decode cX5_init 17 = .ok (.putfield 15, 3) := by decide +kernel
theorem dX5_init_20 : decode cX5_init 20 = .ok (.aload_n 0, 1) := by decide +kernel
theorem dX5_init_21 : decode cX5_init 21 = .ok (.bipush 15, 2) := by decide +kernel
theorem dX5_init_23 : decode cX5_init 23 = .ok (.newarray .int, 2) := by decide +kernel
theorem dX5_init_25 : decode cX5_init 25 = .ok (.putfield 18, 3) := by decide +kernel
theorem dX5_init_28 : decode cX5_init 28 = .ok (.aload_n 0, 1) := by decide +kernel
theorem dX5_init_29 : decode cX5_init 29 = .ok (.bipush 15, 2) := by decide +kernel
theorem dX5_init_31 : decode cX5_init 31 = .ok (.newarray .int, 2) := by decide +kernel
theorem dX5_init_33 : decode cX5_init 33 = .ok (.putfield 21, 3) := by decide +kernel
theorem dX5_init_36 : decode cX5_init 36 = .ok (.aload_n 0, 1) := by decide +kernel
theorem dX5_init_37 : decode cX5_init 37 = .ok (.bipush 15, 2) := by decide +kernel
theorem dX5_init_39 : decode cX5_init 39 = .ok (.newarray .int, 2) := by decide +kernel
theorem dX5_init_41 : decode cX5_init 41 = .ok (.putfield 24, 3) := by decide +kernel
theorem dX5_init_44 : decode cX5_init 44 = .ok (.aload_n 0, 1) := by decide +kernel
theorem dX5_init_45 : decode cX5_init 45 = .ok (.bipush 15, 2) := by decide +kernel
theorem dX5_init_47 : decode cX5_init 47 = .ok (.newarray .int, 2) := by decide +kernel
theorem dX5_init_49 : decode cX5_init 49 = .ok (.putfield 27, 3) := by decide +kernel
theorem dX5_init_52 : decode cX5_init 52 = .ok (.return_, 1) := by decide +kernel
theorem dX5_has_0 : decode cX5_has 0 = .ok (.iload_n 1, 1) := by decide +kernel
theorem dX5_has_1 : decode cX5_has 1 = .ok (.iconst 1, 1) := by decide +kernel
theorem dX5_has_2 : decode cX5_has 2 = .ok (.if_icmp .lt 15, 3) := by decide +kernel
theorem dX5_has_5 : decode cX5_has 5 = .ok (.iload_n 1, 1) := by decide +kernel
theorem dX5_has_6 : decode cX5_has 6 = .ok (.aload_n 0, 1) := by decide +kernel
theorem dX5_has_7 : decode cX5_has 7 = .ok (.getfield 30, 3) := by decide +kernel
theorem dX5_has_10 : decode cX5_has 10 = .ok (.if_icmp .gt 7, 3) := by decide +kernel
theorem dX5_has_13 : decode cX5_has 13 = .ok (.iconst 1, 1) := by decide +kernel
theorem dX5_has_14 : decode cX5_has 14 = .ok (.goto 4, 3) := by decide +kernel
theorem dX5_has_17 : decode cX5_has 17 = .ok (.iconst 0, 1) := by decide +kernel
theorem dX5_has_18 : decode cX5_has 18 = .ok (.ireturn, 1) := by decide +kernel
set_option maxRecDepth 20000 in
theorem ggX5_hasSigned_X5_has : GoodIn wsX5_hasSigned wsX5_has := goodIn_r _ [5, 6, 7, 8, 9, 10, 11, 12, 13, 14] (by decide +kernel) (by decide +kernel)
set_option maxRecDepth 20000 in
theorem gX5_hasSigned_X5_has : GoodIn wsX5_hasSigned (wsV RX5 34 RX5 yX5_has wsX5_has) := goodIn_app (goodIn_of _ (by decide +kernel)) ggX5_hasSigned_X5_has
theorem dX5_hasSigned_0 : decode cX5_hasSigned 0 = .ok (.aload_n 0, 1) := by decide +kernel
theorem dX5_hasSigned_1 : decode cX5_hasSigned 1 = .ok (.iload_n 1, 1) := by decide +kernel
theorem dX5_hasSigned_2 : decode cX5_hasSigned 2 = .ok (.ifCond .ge 8, 3) := by decide +kernel
theorem dX5_hasSigned_5 : decode cX5_hasSigned 5 = .ok (.iload_n 1, 1) := by decide +kernel
theorem dX5_hasSigned_6 : decode cX5_hasSigned 6 = .ok (.ineg, 1) := by decide +kernel
theorem dX5_hasSigned_7 : decode cX5_hasSigned 7 = .ok (.goto 4, 3) := by decide +kernel
theorem dX5_hasSigned_10 : decode cX5_hasSigned 10 = .ok (.iload_n 1, 1) := by decide +kernel
theorem dX5_hasSigned_11 : decode cX5_hasSigned 11 = .ok (.invokevirtual 34, 3) := by decide +kernel
theorem dX5_hasSigned_14 : decode cX5_hasSigned 14 = .ok (.ireturn, 1) := by decide +kernel
set_option maxRecDepth 20000 in
theorem ggX5_takesParent_X5_has : GoodIn wsX5_takesParent wsX5_has := goodIn_r _ [6, 1, 7, 8, 9, 10, 11, 12, 13, 14] (by decide +kernel) (by decide +kernel)
set_option maxRecDepth 20000 in
theorem gX5_takesParent_X5_has : GoodIn wsX5_takesParent (wsV RX5 34 RX5 yX5_has wsX5_has) := goodIn_app (goodIn_of _ (by decide +kernel)) ggX5_takesParent_X5_has
theorem dX5_takesParent_0 : decode cX5_takesParent 0 = .ok (.aload_n 0, 1) := by decide +kernel
theorem dX5_takesParent_1 : decode cX5_takesParent 1 = .ok (.getfield 30, 3) := by decide +kernel
theorem dX5_takesParent_4 : decode cX5_takesParent 4 = .ok (.ifCond .ne 15, 3) := by decide +kernel
theorem dX5_takesParent_7 : decode cX5_takesParent 7 = .ok (.iload_n 1, 1) := by decide +kernel
theorem dX5_takesParent_8 : decode cX5_takesParent 8 = .ok (.ifCond .ne 7, 3) := by decide +kernel
theorem dX5_takesParent_11 : decode cX5_takesParent 11 = .ok (.iconst 1, 1) := by decide +kernel
theorem dX5_takesParent_12 : decode cX5_takesParent 12 = .ok (.goto 12, 3) := by decide +kernel
theorem dX5_takesParent_15 : decode cX5_takesParent 15 = .ok (.iconst 0, 1) := by decide +kernel
theorem dX5_takesParent_16 : decode cX5_takesParent 16 = .ok (.goto 8, 3) := by decide +kernel
theorem dX5_takesParent_19 : decode cX5_takesParent 19 = .ok (.aload_n 0, 1) := by decide +kernel
theorem dX5_takesParent_20 : decode cX5_takesParent 20 = .ok (.iload_n 1, 1) := by decide +kernel
theorem dX5_takesParent_21 : decode cX5_takesParent 21 = .ok (.invokevirtual 34, 3) := by decide +kernel
theorem dX5_takesParent_24 : decode cX5_takesParent 24 = .ok (.ireturn, 1) := by decide +kernel
set_option maxRecDepth 20000 in
theorem ggX5_add_X7_put : GoodIn wsX5_add wsX7_put := goodIn_ca (goodIn_r _ [8] (by decide +kernel) (by decide +kernel)) (goodIn_sub (fun _ h => List.mem_cons_of_mem _ (List.mem_append_right _ h)) (by decide +kernel))
set_option maxRecDepth 20000 in
theorem gX5_add_X7_put_n38 : GoodIn wsX5_add (wsX7_put) := ggX5_add_X7_put
set_option maxRecDepth 20000 in
theorem ggX5_add_X7_at : GoodIn wsX5_add wsX7_at := goodIn_ca (goodIn_r _ [10] (by decide +kernel) (by decide +kernel)) (goodIn_sub (fun _ h => List.mem_cons_of_mem _ (List.mem_append_right _ h)) (by decide +kernel))
set_option maxRecDepth 20000 in
theorem gX5_add_X7_at_n42 : GoodIn wsX5_add (wsX7_at) := ggX5_add_X7_at
set_option maxRecDepth 20000 in
theorem ggX5_add_X7_bit : GoodIn wsX5_add wsX7_bit := goodIn_r _ [12] (by decide +kernel) (by decide +kernel)
set_option maxRecDepth 20000 in
theorem gX5_add_X7_bit_n46 : GoodIn wsX5_add (wsX7_bit) := ggX5_add_X7_bit
theorem dX5_add_0 : decode cX5_add 0 = .ok (.aload_n 0, 1) := by decide +kernel
theorem dX5_add_1 : decode cX5_add 1 = .ok (.dup, 1) := by decide +kernel
theorem dX5_add_2 : decode cX5_add 2 = .ok (.getfield 30, 3) := by decide +kernel
theorem dX5_add_5 : decode cX5_add 5 = .ok (.iconst 1, 1) := by decide +kernel
theorem dX5_add_6 : decode cX5_add 6 = .ok (.iadd, 1) := by decide +kernel
theorem dX5_add_7 : decode cX5_add 7 = .ok (.putfield 30, 3) := by decide +kernel
theorem dX5_add_10 : decode cX5_add 10 = .ok (.aload_n 0, 1) := by decide +kernel
theorem dX5_add_11 : decode cX5_add 11 = .ok (.getfield 9, 3) := by decide +kernel
theorem dX5_add_14 : decode cX5_add 14 = .ok (.aload_n 0, 1) := by decide +kernel
theorem dX5_add_15 : decode cX5_add 15 = .ok (.getfield 30, 3) := by decide +kernel
theorem dX5_add_18 : decode cX5_add 18 = .ok (.iload_n 2, 1) := by decide +kernel
theorem dX5_add_19 : decode cX5_add 19 = .ok (.invokestatic 38, 3) := by decide +kernel
theorem dX5_add_22 : decode cX5_add 22 = .ok (.aload_n 0, 1) := by decide +kernel
theorem dX5_add_23 : decode cX5_add 23 = .ok (.getfield 15, 3) := by decide +kernel
theorem dX5_add_26 : decode cX5_add 26 = .ok (.aload_n 0, 1) := by decide +kernel
theorem dX5_add_27 : decode cX5_add 27 = .ok (.getfield 30, 3) := by decide +kernel
theorem dX5_add_30 : decode cX5_add 30 = .ok (.aload_n 0, 1) := by decide +kernel
theorem dX5_add_31 : decode cX5_add 31 = .ok (.getfield 30, 3) := by decide +kernel
theorem dX5_add_34 : decode cX5_add 34 = .ok (.iconst 1, 1) := by decide +kernel
theorem dX5_add_35 : decode cX5_add 35 = .ok (.if_icmp .ne 7, 3) := by decide +kernel
theorem dX5_add_38 : decode cX5_add 38 = .ok (.iconst 0, 1) := by decide +kernel
theorem dX5_add_39 : decode cX5_add 39 = .ok (.goto 13, 3) := by decide +kernel
theorem dX5_add_42 : decode cX5_add 42 = .ok (.aload_n 0, 1) := by decide +kernel
theorem dX5_add_43 : decode cX5_add 43 = .ok (.getfield 15, 3) := by decide +kernel
theorem dX5_add_46 : decode cX5_add 46 = .ok (.iload_n 1, 1) := by decide +kernel
theorem dX5_add_47 : decode cX5_add 47 = .ok (.invokestatic 42, 3) := by decide +kernel
theorem dX5_add_50 : decode cX5_add 50 = .ok (.iconst 1, 1) := by decide +kernel
theorem dX5_add_51 : decode cX5_add 51 = .ok (.iadd, 1) := by decide +kernel
theorem dX5_add_52 : decode cX5_add 52 = .ok (.invokestatic 38, 3) := by decide +kernel
theorem dX5_add_55 : decode cX5_add 55 = .ok (.aload_n 0, 1) := by decide +kernel
theorem dX5_add_56 : decode cX5_add 56 = .ok (.getfield 18, 3) := by decide +kernel
theorem dX5_add_59 : decode cX5_add 59 = .ok (.aload_n 0, 1) := by decide +kernel
theorem dX5_add_60 : decode cX5_add 60 = .ok (.getfield 30, 3) := by decide +kernel
theorem dX5_add_63 : decode cX5_add 63 = .ok (.iload_n 1, 1) := by decide +kernel
theorem dX5_add_64 : decode cX5_add 64 = .ok (.invokestatic 46, 3) := by decide +kernel
theorem dX5_add_67 : decode cX5_add 67 = .ok (.invokestatic 38, 3) := by decide +kernel
theorem dX5_add_70 : decode cX5_add 70 = .ok (.iload_n 2, 1) := by decide +kernel
theorem dX5_add_71 : decode cX5_add 71 = .ok (.iconst 2, 1) := by decide +kernel
theorem dX5_add_72 : decode cX5_add 72 = .ok (.if_icmp .ne 27, 3) := by decide +kernel
theorem dX5_add_75 : decode cX5_add 75 = .ok (.aload_n 0, 1) := by decide +kernel
theorem dX5_add_76 : decode cX5_add 76 = .ok (.getfield 21, 3) := by decide +kernel
theorem dX5_add_79 : decode cX5_add 79 = .ok (.iload_n 1, 1) := by decide +kernel
theorem dX5_add_80 : decode cX5_add 80 = .ok (.aload_n 0, 1) := by decide +kernel
theorem dX5_add_81 : decode cX5_add 81 = .ok (.getfield 21, 3) := by decide +kernel
theorem dX5_add_84 : decode cX5_add 84 = .ok (.iload_n 1, 1) := by decide +kernel
theorem dX5_add_85 : decode cX5_add 85 = .ok (.invokestatic 42, 3) := by decide +kernel
theorem dX5_add_88 : decode cX5_add 88 = .ok (.aload_n 0, 1) := by decide +kernel
theorem dX5_add_89 : decode cX5_add 89 = .ok (.getfield 30, 3) := by decide +kernel
theorem dX5_add_92 : decode cX5_add 92 = .ok (.invokestatic 46, 3) := by decide +kernel
theorem dX5_add_95 : decode cX5_add 95 = .ok (.ior, 1) := by decide +kernel
theorem dX5_add_96 : decode cX5_add 96 = .ok (.invokestatic 38, 3) := by decide +kernel
theorem dX5_add_99 : decode cX5_add 99 = .ok (.aload_n 0, 1) := by decide +kernel
theorem dX5_add_100 : decode cX5_add 100 = .ok (.getfield 30, 3) := by decide +kernel
theorem dX5_add_103 : decode cX5_add 103 = .ok (.ireturn, 1) := by decide +kernel
set_option maxRecDepth 20000 in
theorem ggX5_bound_X7_put : GoodIn wsX5_bound wsX7_put := goodIn_ca (goodIn_r _ [7] (by decide +kernel) (by decide +kernel)) (goodIn_sub (fun _ h => List.mem_cons_of_mem _ (List.mem_append_right _ h)) (by decide +kernel))
set_option maxRecDepth 20000 in
theorem gX5_bound_X7_put_n38 : GoodIn wsX5_bound (wsX7_put) := ggX5_bound_X7_put
set_option maxRecDepth 20000 in
theorem ggX5_bound_X7_bit : GoodIn wsX5_bound wsX7_bit := goodIn_r _ [9] (by decide +kernel) (by decide +kernel)
set_option maxRecDepth 20000 in
theorem gX5_bound_X7_bit_n46 : GoodIn wsX5_bound (wsX7_bit) := ggX5_bound_X7_bit
set_option maxRecDepth 20000 in
theorem ggX5_bound_X7_at : GoodIn wsX5_bound wsX7_at := goodIn_ca (goodIn_r _ [11] (by decide +kernel) (by decide +kernel)) (goodIn_sub (fun _ h => List.mem_cons_of_mem _ (List.mem_append_right _ h)) (by decide +kernel))
set_option maxRecDepth 20000 in
theorem gX5_bound_X7_at_n42 : GoodIn wsX5_bound (wsX7_at) := ggX5_bound_X7_at
set_option maxRecDepth 20000 in
theorem ggX5_bound_J6_bitCount_0f7a4 : GoodIn wsX5_bound wsJ6_bitCount_0f7a4 := goodIn_r _ [15, 16, 17, 18] (by decide +kernel) (by decide +kernel)
set_option maxRecDepth 20000 in
theorem gX5_bound_J6_bitCount_0f7a4 : GoodIn wsX5_bound (va_wsS RX5 53 yJ6_bitCount_0f7a4 wsJ6_bitCount_0f7a4) := goodIn_app (goodIn_of _ (by decide +kernel)) ggX5_bound_J6_bitCount_0f7a4
theorem dX5_bound_0 : decode cX5_bound 0 = .ok (.aload_n 0, 1) := by decide +kernel
theorem dX5_bound_1 : decode cX5_bound 1 = .ok (.getfield 24, 3) := by decide +kernel
theorem dX5_bound_4 : decode cX5_bound 4 = .ok (.iload_n 1, 1) := by decide +kernel
theorem dX5_bound_5 : decode cX5_bound 5 = .ok (.iload_n 2, 1) := by decide +kernel
theorem dX5_bound_6 : decode cX5_bound 6 = .ok (.invokestatic 38, 3) := by decide +kernel
theorem dX5_bound_9 : decode cX5_bound 9 = .ok (.aload_n 0, 1) := by decide +kernel
theorem dX5_bound_10 : decode cX5_bound 10 = .ok (.getfield 27, 3) := by decide +kernel
theorem dX5_bound_13 : decode cX5_bound 13 = .ok (.iload_n 1, 1) := by decide +kernel
theorem dX5_bound_14 : decode cX5_bound 14 = .ok (.iload_n 3, 1) := by decide +kernel
theorem dX5_bound_15 : decode cX5_bound 15 = .ok (.invokestatic 38, 3) := by decide +kernel
theorem dX5_bound_18 : decode cX5_bound 18 = .ok (.aload_n 0, 1) := by decide +kernel
theorem dX5_bound_19 : decode cX5_bound 19 = .ok (.dup, 1) := by decide +kernel
theorem dX5_bound_20 : decode cX5_bound 20 = .ok (.getfield 50, 3) := by decide +kernel
theorem dX5_bound_23 : decode cX5_bound 23 = .ok (.iload_n 1, 1) := by decide +kernel
theorem dX5_bound_24 : decode cX5_bound 24 = .ok (.invokestatic 46, 3) := by decide +kernel
theorem dX5_bound_27 : decode cX5_bound 27 = .ok (.ior, 1) := by decide +kernel
theorem dX5_bound_28 : decode cX5_bound 28 = .ok (.putfield 50, 3) := by decide +kernel
theorem dX5_bound_31 : decode cX5_bound 31 = .ok (.aload_n 0, 1) := by decide +kernel
theorem dX5_bound_32 : decode cX5_bound 32 = .ok (.getfield 21, 3) := by decide +kernel
theorem dX5_bound_35 : decode cX5_bound 35 = .ok (.iload_n 1, 1) := by decide +kernel
theorem dX5_bound_36 : decode cX5_bound 36 = .ok (.invokestatic 42, 3) := by decide +kernel
theorem dX5_bound_39 : decode cX5_bound 39 = .ok (.invokestatic 53, 3) := by decide +kernel
theorem dX5_bound_42 : decode cX5_bound 42 = .ok (.ireturn, 1) := by decide +kernel
set_option maxRecDepth 20000 in
theorem ggX5_above_X7_at : GoodIn wsX5_above wsX7_at := goodIn_ca (goodIn_r _ [4] (by decide +kernel) (by decide +kernel)) (goodIn_sub (fun _ h => List.mem_cons_of_mem _ (List.mem_append_right _ h)) (by decide +kernel))
set_option maxRecDepth 20000 in
theorem gX5_above_X7_at_n42 : GoodIn wsX5_above (wsX7_at) := ggX5_above_X7_at
theorem dX5_above_0 : decode cX5_above 0 = .ok (.aload_n 0, 1) := by decide +kernel
theorem dX5_above_1 : decode cX5_above 1 = .ok (.getfield 15, 3) := by decide +kernel
theorem dX5_above_4 : decode cX5_above 4 = .ok (.iload_n 1, 1) := by decide +kernel
theorem dX5_above_5 : decode cX5_above 5 = .ok (.invokestatic 42, 3) := by decide +kernel
theorem dX5_above_8 : decode cX5_above 8 = .ok (.ireturn, 1) := by decide +kernel
set_option maxRecDepth 20000 in
theorem ggX5_mayBeIn_X7_at : GoodIn wsX5_mayBeIn wsX7_at := goodIn_ca (goodIn_r _ [4] (by decide +kernel) (by decide +kernel)) (goodIn_sub (fun _ h => List.mem_cons_of_mem _ (List.mem_append_right _ h)) (by decide +kernel))
set_option maxRecDepth 20000 in
theorem gX5_mayBeIn_X7_at_n42 : GoodIn wsX5_mayBeIn (wsX7_at) := ggX5_mayBeIn_X7_at
theorem dX5_mayBeIn_0 : decode cX5_mayBeIn 0 = .ok (.iload_n 2, 1) := by decide +kernel
theorem dX5_mayBeIn_1 : decode cX5_mayBeIn 1 = .ok (.iconst 1, 1) := by decide +kernel
theorem dX5_mayBeIn_2 : decode cX5_mayBeIn 2 = .ok (.if_icmp .eq 16, 3) := by decide +kernel
theorem dX5_mayBeIn_5 : decode cX5_mayBeIn 5 = .ok (.iload_n 1, 1) := by decide +kernel
theorem dX5_mayBeIn_6 : decode cX5_mayBeIn 6 = .ok (.aload_n 0, 1) := by decide +kernel
theorem dX5_mayBeIn_7 : decode cX5_mayBeIn 7 = .ok (.getfield 18, 3) := by decide +kernel
theorem dX5_mayBeIn_10 : decode cX5_mayBeIn 10 = .ok (.iload_n 2, 1) := by decide +kernel
theorem dX5_mayBeIn_11 : decode cX5_mayBeIn 11 = .ok (.invokestatic 42, 3) := by decide +kernel
theorem dX5_mayBeIn_14 : decode cX5_mayBeIn 14 = .ok (.iand, 1) := by decide +kernel
theorem dX5_mayBeIn_15 : decode cX5_mayBeIn 15 = .ok (.ifCond .eq 7, 3) := by decide +kernel
theorem dX5_mayBeIn_18 : decode cX5_mayBeIn 18 = .ok (.iconst 1, 1) := by decide +kernel
theorem dX5_mayBeIn_19 : decode cX5_mayBeIn 19 = .ok (.goto 4, 3) := by decide +kernel
theorem dX5_mayBeIn_22 : decode cX5_mayBeIn 22 = .ok (.iconst 0, 1) := by decide +kernel
theorem dX5_mayBeIn_23 : decode cX5_mayBeIn 23 = .ok (.ireturn, 1) := by decide +kernel
set_option maxRecDepth 20000 in
theorem ggX5_mayBeOut_X7_at : GoodIn wsX5_mayBeOut wsX7_at := goodIn_ca (goodIn_r _ [5] (by decide +kernel) (by decide +kernel)) (goodIn_sub (fun _ h => List.mem_cons_of_mem _ (List.mem_append_right _ h)) (by decide +kernel))
set_option maxRecDepth 20000 in
theorem gX5_mayBeOut_X7_at_n42 : GoodIn wsX5_mayBeOut (wsX7_at) := ggX5_mayBeOut_X7_at
theorem dX5_mayBeOut_0 : decode cX5_mayBeOut 0 = .ok (.iload_n 2, 1) := by decide +kernel
theorem dX5_mayBeOut_1 : decode cX5_mayBeOut 1 = .ok (.iconst 1, 1) := by decide +kernel
theorem dX5_mayBeOut_2 : decode cX5_mayBeOut 2 = .ok (.if_icmp .ne 5, 3) := by decide +kernel
theorem dX5_mayBeOut_5 : decode cX5_mayBeOut 5 = .ok (.iconst 0, 1) := by decide +kernel
theorem dX5_mayBeOut_6 : decode cX5_mayBeOut 6 = .ok (.ireturn, 1) := by decide +kernel
theorem dX5_mayBeOut_7 : decode cX5_mayBeOut 7 = .ok (.aload_n 0, 1) := by decide +kernel
theorem dX5_mayBeOut_8 : decode cX5_mayBeOut 8 = .ok (.getfield 9, 3) := by decide +kernel
theorem dX5_mayBeOut_11 : decode cX5_mayBeOut 11 = .ok (.iload_n 2, 1) := by decide +kernel
theorem dX5_mayBeOut_12 : decode cX5_mayBeOut 12 = .ok (.invokestatic 42, 3) := by decide +kernel
theorem dX5_mayBeOut_15 : decode cX5_mayBeOut 15 = .ok (.ifCond .ne 16, 3) := by decide +kernel
theorem dX5_mayBeOut_18 : decode cX5_mayBeOut 18 = .ok (.iload_n 1, 1) := by decide +kernel
theorem dX5_mayBeOut_19 : decode cX5_mayBeOut 19 = .ok (.aload_n 0, 1) := by decide +kernel
theorem dX5_mayBeOut_20 : decode cX5_mayBeOut 20 = .ok (.getfield 18, 3) := by decide +kernel
theorem dX5_mayBeOut_23 : decode cX5_mayBeOut 23 = .ok (.iload_n 2, 1) := by decide +kernel
theorem dX5_mayBeOut_24 : decode cX5_mayBeOut 24 = .ok (.invokestatic 42, 3) := by decide +kernel
theorem dX5_mayBeOut_27 : decode cX5_mayBeOut 27 = .ok (.iand, 1) := by decide +kernel
theorem dX5_mayBeOut_28 : decode cX5_mayBeOut 28 = .ok (.ifCond .ne 7, 3) := by decide +kernel
theorem dX5_mayBeOut_31 : decode cX5_mayBeOut 31 = .ok (.iconst 1, 1) := by decide +kernel
theorem dX5_mayBeOut_32 : decode cX5_mayBeOut 32 = .ok (.goto 4, 3) := by decide +kernel
theorem dX5_mayBeOut_35 : decode cX5_mayBeOut 35 = .ok (.iconst 0, 1) := by decide +kernel
theorem dX5_mayBeOut_36 : decode cX5_mayBeOut 36 = .ok (.ireturn, 1) := by decide +kernel
set_option maxRecDepth 20000 in
theorem ggX5_keepsGroups_X7_at : GoodIn wsX5_keepsGroups wsX7_at := goodIn_ca (goodIn_r _ [8] (by decide +kernel) (by decide +kernel)) (goodIn_sub (fun _ h => List.mem_cons_of_mem _ (List.mem_append_right _ h)) (by decide +kernel))
set_option maxRecDepth 20000 in
theorem gX5_keepsGroups_X7_at_n42 : GoodIn wsX5_keepsGroups (wsX7_at) := ggX5_keepsGroups_X7_at
set_option maxRecDepth 20000 in
theorem ggX5_keepsGroups_J6_bitCount_0f7a4 : GoodIn wsX5_keepsGroups wsJ6_bitCount_0f7a4 := goodIn_r _ [12, 13, 14, 15] (by decide +kernel) (by decide +kernel)
set_option maxRecDepth 20000 in
theorem gX5_keepsGroups_J6_bitCount_0f7a4 : GoodIn wsX5_keepsGroups (va_wsS RX5 53 yJ6_bitCount_0f7a4 wsJ6_bitCount_0f7a4) := goodIn_app (goodIn_of _ (by decide +kernel)) ggX5_keepsGroups_J6_bitCount_0f7a4
set_option maxRecDepth 20000 in
theorem ggX5_keepsGroups_X7_bit : GoodIn wsX5_keepsGroups wsX7_bit := goodIn_r _ [17] (by decide +kernel) (by decide +kernel)
set_option maxRecDepth 20000 in
theorem gX5_keepsGroups_X7_bit_n46 : GoodIn wsX5_keepsGroups (wsX7_bit) := ggX5_keepsGroups_X7_bit
theorem dX5_keepsGroups_0 : decode cX5_keepsGroups 0 = .ok (.iconst 1, 1) := by decide +kernel
theorem dX5_keepsGroups_1 : decode cX5_keepsGroups 1 = .ok (.istore_n 2, 1) := by decide +kernel
theorem dX5_keepsGroups_2 : decode cX5_keepsGroups 2 = .ok (.iload_n 2, 1) := by decide +kernel
theorem dX5_keepsGroups_3 : decode cX5_keepsGroups 3 = .ok (.aload_n 0, 1) := by decide +kernel
theorem dX5_keepsGroups_4 : decode cX5_keepsGroups 4 = .ok (.getfield 30, 3) := by decide +kernel
theorem dX5_keepsGroups_7 : decode cX5_keepsGroups 7 = .ok (.if_icmp .gt 75, 3) := by decide +kernel
theorem dX5_keepsGroups_10 : decode cX5_keepsGroups 10 = .ok (.iload_n 1, 1) := by decide +kernel
theorem dX5_keepsGroups_11 : decode cX5_keepsGroups 11 = .ok (.aload_n 0, 1) := by decide +kernel
theorem dX5_keepsGroups_12 : decode cX5_keepsGroups 12 = .ok (.getfield 21, 3) := by decide +kernel
theorem dX5_keepsGroups_15 : decode cX5_keepsGroups 15 = .ok (.iload_n 2, 1) := by decide +kernel
theorem dX5_keepsGroups_16 : decode cX5_keepsGroups 16 = .ok (.invokestatic 42, 3) := by decide +kernel
theorem dX5_keepsGroups_19 : decode cX5_keepsGroups 19 = .ok (.iand, 1) := by decide +kernel
theorem dX5_keepsGroups_20 : decode cX5_keepsGroups 20 = .ok (.invokestatic 53, 3) := by decide +kernel
theorem dX5_keepsGroups_23 : decode cX5_keepsGroups 23 = .ok (.istore_n 3, 1) := by decide +kernel
theorem dX5_keepsGroups_24 : decode cX5_keepsGroups 24 = .ok (.iload_n 1, 1) := by decide +kernel
theorem dX5_keepsGroups_25 : decode cX5_keepsGroups 25 = .ok (.aload_n 0, 1) := by decide +kernel
theorem dX5_keepsGroups_26 : decode cX5_keepsGroups 26 = .ok (.getfield 50, 3) := by decide +kernel
theorem dX5_keepsGroups_29 : decode cX5_keepsGroups 29 = .ok (.iand, 1) := by decide +kernel
theorem dX5_keepsGroups_30 : decode cX5_keepsGroups 30 = .ok (.iload_n 2, 1) := by decide +kernel
theorem dX5_keepsGroups_31 : decode cX5_keepsGroups 31 = .ok (.invokestatic 46, 3) := by decide +kernel
theorem dX5_keepsGroups_34 : decode cX5_keepsGroups 34 = .ok (.iand, 1) := by decide +kernel
theorem dX5_keepsGroups_35 : decode cX5_keepsGroups 35 = .ok (.ifCond .eq 7, 3) := by decide +kernel
theorem dX5_keepsGroups_38 : decode cX5_keepsGroups 38 = .ok (.iconst 1, 1) := by decide +kernel
theorem dX5_keepsGroups_39 : decode cX5_keepsGroups 39 = .ok (.goto 4, 3) := by decide +kernel
theorem dX5_keepsGroups_42 : decode cX5_keepsGroups 42 = .ok (.iconst 0, 1) := by decide +kernel
theorem dX5_keepsGroups_43 : decode cX5_keepsGroups 43 = .ok (.istore 4, 2) := by decide +kernel
theorem dX5_keepsGroups_45 : decode cX5_keepsGroups 45 = .ok (.iload 4, 2) := by decide +kernel
theorem dX5_keepsGroups_47 : decode cX5_keepsGroups 47 = .ok (.ifCond .eq 29, 3) := by decide +kernel
theorem dX5_keepsGroups_50 : decode cX5_keepsGroups 50 = .ok (.iload_n 3, 1) := by decide +kernel
theorem dX5_keepsGroups_51 : decode cX5_keepsGroups 51 = .ok (.aload_n 0, 1) := by decide +kernel
theorem dX5_keepsGroups_52 : decode cX5_keepsGroups 52 = .ok (.getfield 24, 3) := by decide +kernel
theorem dX5_keepsGroups_55 : decode cX5_keepsGroups 55 = .ok (.iload_n 2, 1) := by decide +kernel
theorem dX5_keepsGroups_56 : decode cX5_keepsGroups 56 = .ok (.invokestatic 42, 3) := by decide +kernel
theorem dX5_keepsGroups_59 : decode cX5_keepsGroups 59 = .ok (.if_icmp .lt 15, 3) := by decide +kernel
theorem dX5_keepsGroups_62 : decode cX5_keepsGroups 62 = .ok (.iload_n 3, 1) := by decide +kernel
theorem dX5_keepsGroups_63 : decode cX5_keepsGroups 63 = .ok (.aload_n 0, 1) := by decide +kernel
theorem dX5_keepsGroups_64 : decode cX5_keepsGroups 64 = .ok (.getfield 27, 3) := by decide +kernel
theorem dX5_keepsGroups_67 : decode cX5_keepsGroups 67 = .ok (.iload_n 2, 1) := by decide +kernel
theorem dX5_keepsGroups_68 : decode cX5_keepsGroups 68 = .ok (.invokestatic 42, 3) := by decide +kernel
theorem dX5_keepsGroups_71 : decode cX5_keepsGroups 71 = .ok (.if_icmp .le 5, 3) := by decide +kernel
theorem dX5_keepsGroups_74 : decode cX5_keepsGroups 74 = .ok (.iconst 0, 1) := by decide +kernel
theorem dX5_keepsGroups_75 : decode cX5_keepsGroups 75 = .ok (.ireturn, 1) := by decide +kernel
theorem dX5_keepsGroups_76 : decode cX5_keepsGroups 76 = .ok (.iinc 2 1, 3) := by decide +kernel
theorem dX5_keepsGroups_79 : decode cX5_keepsGroups 79 = .ok (.goto (-77), 3) := by decide +kernel
theorem dX5_keepsGroups_82 : decode cX5_keepsGroups 82 = .ok (.iconst 1, 1) := by decide +kernel
theorem dX5_keepsGroups_83 : decode cX5_keepsGroups 83 = .ok (.ireturn, 1) := by decide +kernel
set_option maxRecDepth 20000 in
theorem ggX6_init_X5_init : GoodIn wsX6_init wsX5_init := goodIn_r _ [19, 20, 2, 3, 16, 21, 22, 23, 24, 25, 26, 40, 41, 42, 43, 44, 45, 46, 47] (by decide +kernel) (by decide +kernel)
set_option maxRecDepth 20000 in
theorem gX6_init_X5_init_n11 : GoodIn wsX6_init (wsX5_init) := ggX6_init_X5_init
set_option maxRecDepth 20000 in
theorem ggX6_init_X1_init : GoodIn wsX6_init wsX1_init := goodIn_r _ [28, 29, 2, 3, 16, 30, 31, 32, 33, 34, 54, 55, 56, 57, 58, 59] (by decide +kernel) (by decide +kernel)
set_option maxRecDepth 20000 in
theorem gX6_init_X1_init_n20 : GoodIn wsX6_init (wsX1_init) := ggX6_init_X1_init
set_option maxRecDepth 20000 in
theorem ggX6_init_X4_init : GoodIn wsX6_init wsX4_init := goodIn_ca (goodIn_r _ [36, 37, 2, 3, 16, 38, 39, 60, 61] (by decide +kernel) (by decide +kernel)) (goodIn_sub (fun _ h => List.mem_cons_of_mem _ (List.mem_append_right _ h)) (by decide +kernel))
set_option maxRecDepth 20000 in
theorem gX6_init_X4_init_n27 : GoodIn wsX6_init (wsX4_init) := ggX6_init_X4_init
theorem dX6_init_0 : decode cX6_init 0 = .ok (.aload_n 0, 1) := by decide +kernel
theorem dX6_init_1 : decode cX6_init 1 = .ok (.invokespecial 3, 3) := by decide +kernel
theorem dX6_init_4 : decode cX6_init 4 = .ok (.aload_n 0, 1) := by decide +kernel
theorem dX6_init_5 : decode cX6_init 5 = .ok (.new 9, 3) := by decide +kernel
theorem dX6_init_8 : decode cX6_init 8 = .ok (.dup, 1) := by decide +kernel
theorem dX6_init_9 : decode cX6_init 9 = .ok (.invokespecial 11, 3) := by decide +kernel
theorem dX6_init_12 : decode cX6_init 12 = .ok (.putfield 12, 3) := by decide +kernel
theorem dX6_init_15 : decode cX6_init 15 = .ok (.aload_n 0, 1) := by decide +kernel
theorem dX6_init_16 : decode cX6_init 16 = .ok (.new 18, 3) := by decide +kernel
theorem dX6_init_19 : decode cX6_init 19 = .ok (.dup, 1) := by decide +kernel
theorem dX6_init_20 : decode cX6_init 20 = .ok (.invokespecial 20, 3) := by decide +kernel
theorem dX6_init_23 : decode cX6_init 23 = .ok (.putfield 21, 3) := by decide +kernel
theorem dX6_init_26 : decode cX6_init 26 = .ok (.aload_n 0, 1) := by decide +kernel
theorem dX6_init_27 : decode cX6_init 27 = .ok (.new 25, 3) := by decide +kernel
theorem dX6_init_30 : decode cX6_init 30 = .ok (.dup, 1) := by decide +kernel
theorem dX6_init_31 : decode cX6_init 31 = .ok (.invokespecial 27, 3) := by decide +kernel
theorem dX6_init_34 : decode cX6_init 34 = .ok (.putfield 28, 3) := by decide +kernel
theorem dX6_init_37 : decode cX6_init 37 = .ok (.aload_n 0, 1) := by decide +kernel
theorem dX6_init_38 : decode cX6_init 38 = .ok (.sipush 8192, 3) := by decide +kernel
theorem dX6_init_41 : decode cX6_init 41 = .ok (.newarray .int, 2) := by decide +kernel
theorem dX6_init_43 : decode cX6_init 43 = .ok (.putfield 32, 3) := by decide +kernel
theorem dX6_init_46 : decode cX6_init 46 = .ok (.return_, 1) := by decide +kernel
theorem dX6_outdate_0 : decode cX6_outdate 0 = .ok (.aload_n 0, 1) := by decide +kernel
theorem dX6_outdate_1 : decode cX6_outdate 1 = .ok (.iconst 0, 1) := by decide +kernel
theorem dX6_outdate_2 : decode cX6_outdate 2 = .ok (.putfield 36, 3) := by decide +kernel
theorem dX6_outdate_5 : decode cX6_outdate 5 = .ok (.return_, 1) := by decide +kernel
set_option maxRecDepth 20000 in
theorem ggX6_first_X6_update : GoodIn wsX6_first wsX6_update := goodIn_ca (goodIn_r _ [7, 8, 2, 1, 9, 10, 11, 12, 13, 14, 15, 16, 6, 17, 18, 19, 20, 21, 22, 23, 24, 25, 26, 27, 28, 29, 30, 31, 32, 33, 34, 35, 36, 37, 38, 39, 40, 41, 42, 43, 44, 45, 46, 47, 48, 49, 50, 51, 52, 53, 54, 55, 56, 57, 58, 59, 60, 61, 62, 63, 64, 65, 66, 67, 68, 69, 70, 71, 72, 73, 74, 75, 79, 80, 81, 82, 83, 84, 85, 86, 87, 88, 89, 90, 91, 92, 93, 94, 95, 96, 97, 98, 99, 100] (by decide +kernel) (by decide +kernel)) (goodIn_sub (fun _ h => List.mem_cons_of_mem _ (List.mem_append_right _ h)) (by decide +kernel))
set_option maxRecDepth 20000 in
theorem gX6_first_X6_update : GoodIn wsX6_first (wsV RX6 40 RX6 yX6_update wsX6_update) := goodIn_app (goodIn_of _ (by decide +kernel)) ggX6_first_X6_update
set_option maxRecDepth 20000 in
theorem ggX6_first_X7_at : GoodIn wsX6_first wsX7_at := goodIn_ca (goodIn_r _ [19] (by decide +kernel) (by decide +kernel)) (goodIn_sub (fun _ h => List.mem_cons_of_mem _ (List.mem_append_right _ h)) (by decide +kernel))
set_option maxRecDepth 20000 in
theorem gX6_first_X7_at_n47 : GoodIn wsX6_first (wsX7_at) := ggX6_first_X7_at
set_option maxRecDepth 20000 in
theorem ggX6_first_X6_fits : GoodIn wsX6_first wsX6_fits := goodIn_r _ [78] (by decide +kernel) (by decide +kernel)
set_option maxRecDepth 20000 in
theorem gX6_first_X6_fits : GoodIn wsX6_first (va_wsS RX6 51 yX6_fits wsX6_fits) := goodIn_app (goodIn_of _ (by decide +kernel)) ggX6_first_X6_fits
theorem dX6_first_0 : decode cX6_first 0 = .ok (.aload_n 0, 1) := by decide +kernel
theorem dX6_first_1 : decode cX6_first 1 = .ok (.invokevirtual 40, 3) := by decide +kernel
theorem dX6_first_4 : decode cX6_first 4 = .ok (.iconst 0, 1) := by decide +kernel
theorem dX6_first_5 : decode cX6_first 5 = .ok (.istore_n 3, 1) := by decide +kernel
theorem dX6_first_6 : decode cX6_first 6 = .ok (.iload_n 3, 1) := by decide +kernel
theorem dX6_first_7 : decode cX6_first 7 = .ok (.aload_n 0, 1) := by decide +kernel
theorem dX6_first_8 : decode cX6_first 8 = .ok (.getfield 43, 3) := by decide +kernel
theorem dX6_first_11 : decode cX6_first 11 = .ok (.if_icmp .ge 34, 3) := by decide +kernel
theorem dX6_first_14 : decode cX6_first 14 = .ok (.aload_n 0, 1) := by decide +kernel
theorem dX6_first_15 : decode cX6_first 15 = .ok (.getfield 32, 3) := by decide +kernel
theorem dX6_first_18 : decode cX6_first 18 = .ok (.iload_n 3, 1) := by decide +kernel
theorem dX6_first_19 : decode cX6_first 19 = .ok (.invokestatic 47, 3) := by decide +kernel
theorem dX6_first_22 : decode cX6_first 22 = .ok (.iload_n 1, 1) := by decide +kernel
theorem dX6_first_23 : decode cX6_first 23 = .ok (.iload_n 2, 1) := by decide +kernel
theorem dX6_first_24 : decode cX6_first 24 = .ok (.invokestatic 51, 3) := by decide +kernel
theorem dX6_first_27 : decode cX6_first 27 = .ok (.ifCond .eq 12, 3) := by decide +kernel
theorem dX6_first_30 : decode cX6_first 30 = .ok (.aload_n 0, 1) := by decide +kernel
theorem dX6_first_31 : decode cX6_first 31 = .ok (.getfield 32, 3) := by decide +kernel
theorem dX6_first_34 : decode cX6_first 34 = .ok (.iload_n 3, 1) := by decide +kernel
theorem dX6_first_35 : decode cX6_first 35 = .ok (.invokestatic 47, 3) := by decide +kernel
theorem dX6_first_38 : decode cX6_first 38 = .ok (.ireturn, 1) := by decide +kernel
theorem dX6_first_39 : decode cX6_first 39 = .ok (.iinc 3 1, 3) := by decide +kernel
theorem dX6_first_42 : decode cX6_first 42 = .ok (.goto (-36), 3) := by decide +kernel
theorem dX6_first_45 : decode cX6_first 45 = .ok (.iconst (-1), 1) := by decide +kernel
theorem dX6_first_46 : decode cX6_first 46 = .ok (.ireturn, 1) := by decide +kernel
set_option maxRecDepth 20000 in
theorem ggX6_number_X6_update : GoodIn wsX6_number wsX6_update := goodIn_ca (goodIn_r _ [7, 8, 2, 1, 9, 10, 11, 12, 13, 14, 15, 16, 6, 17, 18, 19, 20, 21, 22, 23, 24, 25, 26, 27, 28, 29, 30, 31, 32, 33, 34, 35, 36, 37, 38, 39, 40, 41, 42, 43, 44, 45, 46, 47, 48, 49, 50, 51, 52, 53, 54, 55, 56, 57, 58, 59, 60, 61, 62, 63, 64, 65, 66, 67, 68, 69, 70, 71, 72, 73, 74, 75, 79, 80, 81, 82, 83, 84, 85, 86, 87, 88, 89, 90, 91, 92, 93, 94, 95, 96, 97, 98, 99, 100] (by decide +kernel) (by decide +kernel)) (goodIn_sub (fun _ h => List.mem_cons_of_mem _ (List.mem_append_right _ h)) (by decide +kernel))
set_option maxRecDepth 20000 in
theorem gX6_number_X6_update : GoodIn wsX6_number (wsV RX6 40 RX6 yX6_update wsX6_update) := goodIn_app (goodIn_of _ (by decide +kernel)) ggX6_number_X6_update
set_option maxRecDepth 20000 in
theorem ggX6_number_X7_at : GoodIn wsX6_number wsX7_at := goodIn_ca (goodIn_r _ [19] (by decide +kernel) (by decide +kernel)) (goodIn_sub (fun _ h => List.mem_cons_of_mem _ (List.mem_append_right _ h)) (by decide +kernel))
set_option maxRecDepth 20000 in
theorem gX6_number_X7_at_n47 : GoodIn wsX6_number (wsX7_at) := ggX6_number_X7_at
set_option maxRecDepth 20000 in
theorem ggX6_number_X6_fits : GoodIn wsX6_number wsX6_fits := goodIn_r _ [78] (by decide +kernel) (by decide +kernel)
set_option maxRecDepth 20000 in
theorem gX6_number_X6_fits : GoodIn wsX6_number (va_wsS RX6 51 yX6_fits wsX6_fits) := goodIn_app (goodIn_of _ (by decide +kernel)) ggX6_number_X6_fits
theorem dX6_number_0 : decode cX6_number 0 = .ok (.aload_n 0, 1) := by decide +kernel
theorem dX6_number_1 : decode cX6_number 1 = .ok (.invokevirtual 40, 3) := by decide +kernel
theorem dX6_number_4 : decode cX6_number 4 = .ok (.iconst 0, 1) := by decide +kernel
theorem dX6_number_5 : decode cX6_number 5 = .ok (.istore_n 3, 1) := by decide +kernel
theorem dX6_number_6 : decode cX6_number 6 = .ok (.iconst 0, 1) := by decide +kernel
theorem dX6_number_7 : decode cX6_number 7 = .ok (.istore 4, 2) := by decide +kernel
theorem dX6_number_9 : decode cX6_number 9 = .ok (.iload 4, 2) := by decide +kernel
theorem dX6_number_11 : decode cX6_number 11 = .ok (.aload_n 0, 1) := by decide +kernel
theorem dX6_number_12 : decode cX6_number 12 = .ok (.getfield 43, 3) := by decide +kernel
theorem dX6_number_15 : decode cX6_number 15 = .ok (.if_icmp .ge 29, 3) := by decide +kernel
theorem dX6_number_18 : decode cX6_number 18 = .ok (.aload_n 0, 1) := by decide +kernel
theorem dX6_number_19 : decode cX6_number 19 = .ok (.getfield 32, 3) := by decide +kernel
theorem dX6_number_22 : decode cX6_number 22 = .ok (.iload 4, 2) := by decide +kernel
theorem dX6_number_24 : decode cX6_number 24 = .ok (.invokestatic 47, 3) := by decide +kernel
theorem dX6_number_27 : decode cX6_number 27 = .ok (.iload_n 1, 1) := by decide +kernel
theorem dX6_number_28 : decode cX6_number 28 = .ok (.iload_n 2, 1) := by decide +kernel
theorem dX6_number_29 : decode cX6_number 29 = .ok (.invokestatic 51, 3) := by decide +kernel
theorem dX6_number_32 : decode cX6_number 32 = .ok (.ifCond .eq 6, 3) := by decide +kernel
theorem dX6_number_35 : decode cX6_number 35 = .ok (.iinc 3 1, 3) := by decide +kernel
theorem dX6_number_38 : decode cX6_number 38 = .ok (.iinc 4 1, 3) := by decide +kernel
theorem dX6_number_41 : decode cX6_number 41 = .ok (.goto (-32), 3) := by decide +kernel
theorem dX6_number_44 : decode cX6_number 44 = .ok (.iload_n 3, 1) := by decide +kernel
theorem dX6_number_45 : decode cX6_number 45 = .ok (.ireturn, 1) := by decide +kernel
set_option maxRecDepth 20000 in
theorem ggX6_inAll_X6_update : GoodIn wsX6_inAll wsX6_update := goodIn_ca (goodIn_r _ [7, 8, 2, 1, 9, 10, 11, 12, 13, 14, 15, 16, 6, 17, 18, 19, 20, 21, 22, 23, 24, 25, 26, 27, 28, 29, 30, 31, 32, 33, 34, 35, 36, 37, 38, 39, 40, 41, 42, 43, 44, 45, 46, 47, 48, 49, 50, 51, 52, 53, 54, 55, 56, 57, 58, 59, 60, 61, 62, 63, 64, 65, 66, 67, 68, 69, 70, 71, 72, 73, 74, 75, 79, 80, 81, 82, 83, 84, 85, 86, 87, 88, 89, 90, 91, 92, 93, 94, 95, 96, 97, 98, 99, 100] (by decide +kernel) (by decide +kernel)) (goodIn_sub (fun _ h => List.mem_cons_of_mem _ (List.mem_append_right _ h)) (by decide +kernel))
set_option maxRecDepth 20000 in
theorem gX6_inAll_X6_update : GoodIn wsX6_inAll (wsV RX6 40 RX6 yX6_update wsX6_update) := goodIn_app (goodIn_of _ (by decide +kernel)) ggX6_inAll_X6_update
set_option maxRecDepth 20000 in
theorem ggX6_inAll_X7_at : GoodIn wsX6_inAll wsX7_at := goodIn_ca (goodIn_r _ [19] (by decide +kernel) (by decide +kernel)) (goodIn_sub (fun _ h => List.mem_cons_of_mem _ (List.mem_append_right _ h)) (by decide +kernel))
set_option maxRecDepth 20000 in
theorem gX6_inAll_X7_at_n47 : GoodIn wsX6_inAll (wsX7_at) := ggX6_inAll_X7_at
set_option maxRecDepth 20000 in
theorem ggX6_inAll_X6_fits : GoodIn wsX6_inAll wsX6_fits := goodIn_r _ [78] (by decide +kernel) (by decide +kernel)
set_option maxRecDepth 20000 in
theorem gX6_inAll_X6_fits : GoodIn wsX6_inAll (va_wsS RX6 51 yX6_fits wsX6_fits) := goodIn_app (goodIn_of _ (by decide +kernel)) ggX6_inAll_X6_fits
theorem dX6_inAll_0 : decode cX6_inAll 0 = .ok (.aload_n 0, 1) := by decide +kernel
theorem dX6_inAll_1 : decode cX6_inAll 1 = .ok (.invokevirtual 40, 3) := by decide +kernel
theorem dX6_inAll_4 : decode cX6_inAll 4 = .ok (.iconst (-1), 1) := by decide +kernel
theorem dX6_inAll_5 : decode cX6_inAll 5 = .ok (.istore_n 3, 1) := by decide +kernel
theorem dX6_inAll_6 : decode cX6_inAll 6 = .ok (.iconst 0, 1) := by decide +kernel
theorem dX6_inAll_7 : decode cX6_inAll 7 = .ok (.istore 4, 2) := by decide +kernel
theorem dX6_inAll_9 : decode cX6_inAll 9 = .ok (.iload 4, 2) := by decide +kernel
theorem dX6_inAll_11 : decode cX6_inAll 11 = .ok (.aload_n 0, 1) := by decide +kernel
theorem dX6_inAll_12 : decode cX6_inAll 12 = .ok (.getfield 43, 3) := by decide +kernel
theorem dX6_inAll_15 : decode cX6_inAll 15 = .ok (.if_icmp .ge 38, 3) := by decide +kernel
theorem dX6_inAll_18 : decode cX6_inAll 18 = .ok (.aload_n 0, 1) := by decide +kernel
theorem dX6_inAll_19 : decode cX6_inAll 19 = .ok (.getfield 32, 3) := by decide +kernel
theorem dX6_inAll_22 : decode cX6_inAll 22 = .ok (.iload 4, 2) := by decide +kernel
theorem dX6_inAll_24 : decode cX6_inAll 24 = .ok (.invokestatic 47, 3) := by decide +kernel
theorem dX6_inAll_27 : decode cX6_inAll 27 = .ok (.iload_n 1, 1) := by decide +kernel
theorem dX6_inAll_28 : decode cX6_inAll 28 = .ok (.iload_n 2, 1) := by decide +kernel
theorem dX6_inAll_29 : decode cX6_inAll 29 = .ok (.invokestatic 51, 3) := by decide +kernel
theorem dX6_inAll_32 : decode cX6_inAll 32 = .ok (.ifCond .eq 15, 3) := by decide +kernel
theorem dX6_inAll_35 : decode cX6_inAll 35 = .ok (.iload_n 3, 1) := by decide +kernel
theorem dX6_inAll_36 : decode cX6_inAll 36 = .ok (.aload_n 0, 1) := by decide +kernel
theorem dX6_inAll_37 : decode cX6_inAll 37 = .ok (.getfield 32, 3) := by decide +kernel
theorem dX6_inAll_40 : decode cX6_inAll 40 = .ok (.iload 4, 2) := by decide +kernel
theorem dX6_inAll_42 : decode cX6_inAll 42 = .ok (.invokestatic 47, 3) := by decide +kernel
theorem dX6_inAll_45 : decode cX6_inAll 45 = .ok (.iand, 1) := by decide +kernel
theorem dX6_inAll_46 : decode cX6_inAll 46 = .ok (.istore_n 3, 1) := by decide +kernel
theorem dX6_inAll_47 : decode cX6_inAll 47 = .ok (.iinc 4 1, 3) := by decide +kernel
theorem dX6_inAll_50 : decode cX6_inAll 50 = .ok (.goto (-41), 3) := by decide +kernel
theorem dX6_inAll_53 : decode cX6_inAll 53 = .ok (.iload_n 3, 1) := by decide +kernel
theorem dX6_inAll_54 : decode cX6_inAll 54 = .ok (.ireturn, 1) := by decide +kernel
set_option maxRecDepth 20000 in
theorem ggX6_inSome_X6_update : GoodIn wsX6_inSome wsX6_update := goodIn_ca (goodIn_r _ [7, 8, 2, 1, 9, 10, 11, 12, 13, 14, 15, 16, 6, 17, 18, 19, 20, 21, 22, 23, 24, 25, 26, 27, 28, 29, 30, 31, 32, 33, 34, 35, 36, 37, 38, 39, 40, 41, 42, 43, 44, 45, 46, 47, 48, 49, 50, 51, 52, 53, 54, 55, 56, 57, 58, 59, 60, 61, 62, 63, 64, 65, 66, 67, 68, 69, 70, 71, 72, 73, 74, 75, 79, 80, 81, 82, 83, 84, 85, 86, 87, 88, 89, 90, 91, 92, 93, 94, 95, 96, 97, 98, 99, 100] (by decide +kernel) (by decide +kernel)) (goodIn_sub (fun _ h => List.mem_cons_of_mem _ (List.mem_append_right _ h)) (by decide +kernel))
set_option maxRecDepth 20000 in
theorem gX6_inSome_X6_update : GoodIn wsX6_inSome (wsV RX6 40 RX6 yX6_update wsX6_update) := goodIn_app (goodIn_of _ (by decide +kernel)) ggX6_inSome_X6_update
set_option maxRecDepth 20000 in
theorem ggX6_inSome_X7_at : GoodIn wsX6_inSome wsX7_at := goodIn_ca (goodIn_r _ [19] (by decide +kernel) (by decide +kernel)) (goodIn_sub (fun _ h => List.mem_cons_of_mem _ (List.mem_append_right _ h)) (by decide +kernel))
set_option maxRecDepth 20000 in
theorem gX6_inSome_X7_at_n47 : GoodIn wsX6_inSome (wsX7_at) := ggX6_inSome_X7_at
set_option maxRecDepth 20000 in
theorem ggX6_inSome_X6_fits : GoodIn wsX6_inSome wsX6_fits := goodIn_r _ [78] (by decide +kernel) (by decide +kernel)
set_option maxRecDepth 20000 in
theorem gX6_inSome_X6_fits : GoodIn wsX6_inSome (va_wsS RX6 51 yX6_fits wsX6_fits) := goodIn_app (goodIn_of _ (by decide +kernel)) ggX6_inSome_X6_fits
theorem dX6_inSome_0 : decode cX6_inSome 0 = .ok (.aload_n 0, 1) := by decide +kernel
theorem dX6_inSome_1 : decode cX6_inSome 1 = .ok (.invokevirtual 40, 3) := by decide +kernel
theorem dX6_inSome_4 : decode cX6_inSome 4 = .ok (.iconst 0, 1) := by decide +kernel
theorem dX6_inSome_5 : decode cX6_inSome 5 = .ok (.istore_n 3, 1) := by decide +kernel
theorem dX6_inSome_6 : decode cX6_inSome 6 = .ok (.iconst 0, 1) := by decide +kernel
theorem dX6_inSome_7 : decode cX6_inSome 7 = .ok (.istore 4, 2) := by decide +kernel
theorem dX6_inSome_9 : decode cX6_inSome 9 = .ok (.iload 4, 2) := by decide +kernel
theorem dX6_inSome_11 : decode cX6_inSome 11 = .ok (.aload_n 0, 1) := by decide +kernel
theorem dX6_inSome_12 : decode cX6_inSome 12 = .ok (.getfield 43, 3) := by decide +kernel
theorem dX6_inSome_15 : decode cX6_inSome 15 = .ok (.if_icmp .ge 38, 3) := by decide +kernel
theorem dX6_inSome_18 : decode cX6_inSome 18 = .ok (.aload_n 0, 1) := by decide +kernel
theorem dX6_inSome_19 : decode cX6_inSome 19 = .ok (.getfield 32, 3) := by decide +kernel
theorem dX6_inSome_22 : decode cX6_inSome 22 = .ok (.iload 4, 2) := by decide +kernel
theorem dX6_inSome_24 : decode cX6_inSome 24 = .ok (.invokestatic 47, 3) := by decide +kernel
theorem dX6_inSome_27 : decode cX6_inSome 27 = .ok (.iload_n 1, 1) := by decide +kernel
theorem dX6_inSome_28 : decode cX6_inSome 28 = .ok (.iload_n 2, 1) := by decide +kernel
theorem dX6_inSome_29 : decode cX6_inSome 29 = .ok (.invokestatic 51, 3) := by decide +kernel
theorem dX6_inSome_32 : decode cX6_inSome 32 = .ok (.ifCond .eq 15, 3) := by decide +kernel
theorem dX6_inSome_35 : decode cX6_inSome 35 = .ok (.iload_n 3, 1) := by decide +kernel
theorem dX6_inSome_36 : decode cX6_inSome 36 = .ok (.aload_n 0, 1) := by decide +kernel
theorem dX6_inSome_37 : decode cX6_inSome 37 = .ok (.getfield 32, 3) := by decide +kernel
theorem dX6_inSome_40 : decode cX6_inSome 40 = .ok (.iload 4, 2) := by decide +kernel
theorem dX6_inSome_42 : decode cX6_inSome 42 = .ok (.invokestatic 47, 3) := by decide +kernel
theorem dX6_inSome_45 : decode cX6_inSome 45 = .ok (.ior, 1) := by decide +kernel
theorem dX6_inSome_46 : decode cX6_inSome 46 = .ok (.istore_n 3, 1) := by decide +kernel
theorem dX6_inSome_47 : decode cX6_inSome 47 = .ok (.iinc 4 1, 3) := by decide +kernel
theorem dX6_inSome_50 : decode cX6_inSome 50 = .ok (.goto (-41), 3) := by decide +kernel
theorem dX6_inSome_53 : decode cX6_inSome 53 = .ok (.iload_n 3, 1) := by decide +kernel
theorem dX6_inSome_54 : decode cX6_inSome 54 = .ok (.ireturn, 1) := by decide +kernel
theorem dX6_fits_0 : decode cX6_fits 0 = .ok (.iload_n 0, 1) := by decide +kernel
theorem dX6_fits_1 : decode cX6_fits 1 = .ok (.iload_n 1, 1) := by decide +kernel
theorem dX6_fits_2 : decode cX6_fits 2 = .ok (.iand, 1) := by decide +kernel
theorem dX6_fits_3 : decode cX6_fits 3 = .ok (.iload_n 1, 1) := by decide +kernel
theorem dX6_fits_4 : decode cX6_fits 4 = .ok (.if_icmp .ne 13, 3) := by decide +kernel
theorem dX6_fits_7 : decode cX6_fits 7 = .ok (.iload_n 0, 1) := by decide +kernel
theorem dX6_fits_8 : decode cX6_fits 8 = .ok (.iload_n 2, 1) := by decide +kernel
theorem dX6_fits_9 : decode cX6_fits 9 = .ok (.iand, 1) := by decide +kernel
theorem dX6_fits_10 : decode cX6_fits 10 = .ok (.ifCond .ne 7, 3) := by decide +kernel
theorem dX6_fits_13 : decode cX6_fits 13 = .ok (.iconst 1, 1) := by decide +kernel
theorem dX6_fits_14 : decode cX6_fits 14 = .ok (.goto 4, 3) := by decide +kernel
theorem dX6_fits_17 : decode cX6_fits 17 = .ok (.iconst 0, 1) := by decide +kernel
theorem dX6_fits_18 : decode cX6_fits 18 = .ok (.ireturn, 1) := by decide +kernel
set_option maxRecDepth 20000 in
theorem ggX6_update_X7_put : GoodIn wsX6_update wsX7_put := goodIn_ca (goodIn_r _ [8] (by decide +kernel) (by decide +kernel)) (goodIn_sub (fun _ h => List.mem_cons_of_mem _ (List.mem_append_right _ h)) (by decide +kernel))
set_option maxRecDepth 20000 in
theorem gX6_update_X7_put_n55 : GoodIn wsX6_update (wsX7_put) := ggX6_update_X7_put
set_option maxRecDepth 20000 in
theorem ggX6_update_X6_branch : GoodIn wsX6_update wsX6_branch := goodIn_ca (goodIn_r _ [13, 3, 2, 4, 14, 7, 15, 16, 17, 18, 19, 20, 21, 22, 23, 24, 25, 26, 6, 8, 27, 28, 72, 73, 74, 75, 76, 77, 78, 79, 80, 81, 82, 83, 84, 85] (by decide +kernel) (by decide +kernel)) (goodIn_sub (fun _ h => List.mem_cons_of_mem _ (List.mem_append_right _ h)) (by decide +kernel))
set_option maxRecDepth 20000 in
theorem gX6_update_X6_branch : GoodIn wsX6_update (wsV RX6 60 RX6 yX6_branch wsX6_branch) := goodIn_app (goodIn_of _ (by decide +kernel)) ggX6_update_X6_branch
set_option maxRecDepth 20000 in
theorem ggX6_update_X6_dropUnkept : GoodIn wsX6_update wsX6_dropUnkept := goodIn_ca (goodIn_r _ [32, 3, 2, 4, 33, 34, 14, 7, 15, 35, 36, 37, 19, 38, 39, 40, 41, 42, 43, 44, 45, 46, 47, 48, 49, 50, 27, 28, 51, 52, 53, 54, 55, 56, 57, 58, 59, 60, 61, 62, 63, 64, 65, 66, 67, 68, 69, 70, 71, 6, 8, 72, 73, 74, 75, 76, 77, 78, 79, 80, 81, 82, 83, 84, 85, 86, 87, 88, 89, 90, 91, 92, 93] (by decide +kernel) (by decide +kernel)) (goodIn_sub (fun _ h => List.mem_cons_of_mem _ (List.mem_append_right _ h)) (by decide +kernel))
set_option maxRecDepth 20000 in
theorem gX6_update_X6_dropUnkept : GoodIn wsX6_update (wsV RX6 64 RX6 yX6_dropUnkept wsX6_dropUnkept) := goodIn_app (goodIn_of _ (by decide +kernel)) ggX6_update_X6_dropUnkept
theorem dX6_update_0 : decode cX6_update 0 = .ok (.aload_n 0, 1) := by decide +kernel
theorem dX6_update_1 : decode cX6_update 1 = .ok (.getfield 36, 3) := by decide +kernel
theorem dX6_update_4 : decode cX6_update 4 = .ok (.ifCond .eq 4, 3) := by decide +kernel
theorem dX6_update_7 : decode cX6_update 7 = .ok (.return_, 1) := by decide +kernel
theorem dX6_update_8 : decode cX6_update 8 = .ok (.aload_n 0, 1) := by decide +kernel
theorem dX6_update_9 : decode cX6_update 9 = .ok (.getfield 32, 3) := by decide +kernel
theorem dX6_update_12 : decode cX6_update 12 = .ok (.iconst 0, 1) := by decide +kernel
theorem dX6_update_13 : decode cX6_update 13 = .ok (.iconst 0, 1) := by decide +kernel
theorem dX6_update_14 : decode cX6_update 14 = .ok (.invokestatic 55, 3) := by decide +kernel
theorem dX6_update_17 : decode cX6_update 17 = .ok (.aload_n 0, 1) := by decide +kernel
theorem dX6_update_18 : decode cX6_update 18 = .ok (.iconst 1, 1) := by decide +kernel
theorem dX6_update_19 : decode cX6_update 19 = .ok (.putfield 43, 3) := by decide +kernel
theorem dX6_update_22 : decode cX6_update 22 = .ok (.iconst 1, 1) := by decide +kernel
theorem dX6_update_23 : decode cX6_update 23 = .ok (.istore_n 1, 1) := by decide +kernel
theorem dX6_update_24 : decode cX6_update 24 = .ok (.iload_n 1, 1) := by decide +kernel
theorem dX6_update_25 : decode cX6_update 25 = .ok (.aload_n 0, 1) := by decide +kernel
theorem dX6_update_26 : decode cX6_update 26 = .ok (.getfield 12, 3) := by decide +kernel
theorem dX6_update_29 : decode cX6_update 29 = .ok (.getfield 59, 3) := by decide +kernel
theorem dX6_update_32 : decode cX6_update 32 = .ok (.if_icmp .gt 14, 3) := by decide +kernel
theorem dX6_update_35 : decode cX6_update 35 = .ok (.aload_n 0, 1) := by decide +kernel
theorem dX6_update_36 : decode cX6_update 36 = .ok (.iload_n 1, 1) := by decide +kernel
theorem dX6_update_37 : decode cX6_update 37 = .ok (.invokevirtual 60, 3) := by decide +kernel
theorem dX6_update_40 : decode cX6_update 40 = .ok (.iinc 1 1, 3) := by decide +kernel
theorem dX6_update_43 : decode cX6_update 43 = .ok (.goto (-19), 3) := by decide +kernel
theorem dX6_update_46 : decode cX6_update 46 = .ok (.aload_n 0, 1) := by decide +kernel
theorem dX6_update_47 : decode cX6_update 47 = .ok (.invokevirtual 64, 3) := by decide +kernel
theorem dX6_update_50 : decode cX6_update 50 = .ok (.aload_n 0, 1) := by decide +kernel
theorem dX6_update_51 : decode cX6_update 51 = .ok (.iconst 1, 1) := by decide +kernel
theorem dX6_update_52 : decode cX6_update 52 = .ok (.putfield 36, 3) := by decide +kernel
theorem dX6_update_55 : decode cX6_update 55 = .ok (.return_, 1) := by decide +kernel
set_option maxRecDepth 20000 in
theorem ggX6_branch_X7_at : GoodIn wsX6_branch wsX7_at := goodIn_ca (goodIn_r _ [6] (by decide +kernel) (by decide +kernel)) (goodIn_sub (fun _ h => List.mem_cons_of_mem _ (List.mem_append_right _ h)) (by decide +kernel))
set_option maxRecDepth 20000 in
theorem gX6_branch_X7_at_n47 : GoodIn wsX6_branch (wsX7_at) := ggX6_branch_X7_at
set_option maxRecDepth 20000 in
theorem ggX6_branch_X5_mayBeIn : GoodIn wsX6_branch wsX5_mayBeIn := goodIn_ca (goodIn_r _ [11, 12, 4, 5, 6, 28, 29, 30, 31, 32, 33, 34, 35] (by decide +kernel) (by decide +kernel)) (goodIn_sub (fun _ h => List.mem_cons_of_mem _ (List.mem_append_right _ h)) (by decide +kernel))
set_option maxRecDepth 20000 in
theorem gX6_branch_X5_mayBeIn : GoodIn wsX6_branch (wsV RX6 67 RX5 yX5_mayBeIn wsX5_mayBeIn) := goodIn_app (goodIn_of _ (by decide +kernel)) ggX6_branch_X5_mayBeIn
set_option maxRecDepth 20000 in
theorem ggX6_branch_X5_mayBeOut : GoodIn wsX6_branch wsX5_mayBeOut := goodIn_ca (goodIn_r _ [16, 17, 12, 4, 5, 6, 28, 29, 30, 31, 32, 33, 34, 35] (by decide +kernel) (by decide +kernel)) (goodIn_sub (fun _ h => List.mem_cons_of_mem _ (List.mem_append_right _ h)) (by decide +kernel))
set_option maxRecDepth 20000 in
theorem gX6_branch_X5_mayBeOut : GoodIn wsX6_branch (wsV RX6 71 RX5 yX5_mayBeOut wsX5_mayBeOut) := goodIn_app (goodIn_of _ (by decide +kernel)) ggX6_branch_X5_mayBeOut
set_option maxRecDepth 20000 in
theorem ggX6_branch_X7_put : GoodIn wsX6_branch wsX7_put := goodIn_ca (goodIn_r _ [19] (by decide +kernel) (by decide +kernel)) (goodIn_sub (fun _ h => List.mem_cons_of_mem _ (List.mem_append_right _ h)) (by decide +kernel))
set_option maxRecDepth 20000 in
theorem gX6_branch_X7_put_n55 : GoodIn wsX6_branch (wsX7_put) := ggX6_branch_X7_put
set_option maxRecDepth 20000 in
theorem ggX6_branch_X7_bit : GoodIn wsX6_branch wsX7_bit := goodIn_r _ [21] (by decide +kernel) (by decide +kernel)
set_option maxRecDepth 20000 in
theorem gX6_branch_X7_bit_n74 : GoodIn wsX6_branch (wsX7_bit) := ggX6_branch_X7_bit
theorem dX6_branch_0 : decode cX6_branch 0 = .ok (.aload_n 0, 1) := by decide +kernel
theorem dX6_branch_1 : decode cX6_branch 1 = .ok (.getfield 43, 3) := by decide +kernel
theorem dX6_branch_4 : decode cX6_branch 4 = .ok (.istore_n 2, 1) := by decide +kernel
theorem dX6_branch_5 : decode cX6_branch 5 = .ok (.iconst 0, 1) := by decide +kernel
theorem dX6_branch_6 : decode cX6_branch 6 = .ok (.istore_n 3, 1) := by decide +kernel
theorem dX6_branch_7 : decode cX6_branch 7 = .ok (.iload_n 3, 1) := by decide +kernel
theorem dX6_branch_8 : decode cX6_branch 8 = .ok (.aload_n 0, 1) := by decide +kernel
theorem dX6_branch_9 : decode cX6_branch 9 = .ok (.getfield 43, 3) := by decide +kernel
theorem dX6_branch_12 : decode cX6_branch 12 = .ok (.if_icmp .ge 53, 3) := by decide +kernel
theorem dX6_branch_15 : decode cX6_branch 15 = .ok (.aload_n 0, 1) := by decide +kernel
theorem dX6_branch_16 : decode cX6_branch 16 = .ok (.getfield 32, 3) := by decide +kernel
theorem dX6_branch_19 : decode cX6_branch 19 = .ok (.iload_n 3, 1) := by decide +kernel
theorem dX6_branch_20 : decode cX6_branch 20 = .ok (.invokestatic 47, 3) := by decide +kernel
theorem dX6_branch_23 : decode cX6_branch 23 = .ok (.istore 4, 2) := by decide +kernel
theorem dX6_branch_25 : decode cX6_branch 25 = .ok (.iload_n 2, 1) := by decide +kernel
theorem dX6_branch_26 : decode cX6_branch 26 = .ok (.aload_n 0, 1) := by decide +kernel
theorem dX6_branch_27 : decode cX6_branch 27 = .ok (.getfield 12, 3) := by decide +kernel
theorem dX6_branch_30 : decode cX6_branch 30 = .ok (.iload 4, 2) := by decide +kernel
theorem dX6_branch_32 : decode cX6_branch 32 = .ok (.iload_n 1, 1) := by decide +kernel
theorem dX6_branch_33 : decode cX6_branch 33 = .ok (.invokevirtual 67, 3) := by decide +kernel
theorem dX6_branch_36 : decode cX6_branch 36 = .ok (.ifCond .eq 20, 3) := by decide +kernel
theorem dX6_branch_39 : decode cX6_branch 39 = .ok (.aload_n 0, 1) := by decide +kernel
theorem dX6_branch_40 : decode cX6_branch 40 = .ok (.getfield 12, 3) := by decide +kernel
theorem dX6_branch_43 : decode cX6_branch 43 = .ok (.iload 4, 2) := by decide +kernel
theorem dX6_branch_45 : decode cX6_branch 45 = .ok (.iload_n 1, 1) := by decide +kernel
theorem dX6_branch_46 : decode cX6_branch 46 = .ok (.invokevirtual 71, 3) := by decide +kernel
theorem dX6_branch_49 : decode cX6_branch 49 = .ok (.ifCond .eq 7, 3) := by decide +kernel
theorem dX6_branch_52 : decode cX6_branch 52 = .ok (.iconst 1, 1) := by decide +kernel
theorem dX6_branch_53 : decode cX6_branch 53 = .ok (.goto 4, 3) := by decide +kernel
theorem dX6_branch_56 : decode cX6_branch 56 = .ok (.iconst 0, 1) := by decide +kernel
theorem dX6_branch_57 : decode cX6_branch 57 = .ok (.iadd, 1) := by decide +kernel
theorem dX6_branch_58 : decode cX6_branch 58 = .ok (.istore_n 2, 1) := by decide +kernel
theorem dX6_branch_59 : decode cX6_branch 59 = .ok (.iinc 3 1, 3) := by decide +kernel
theorem dX6_branch_62 : decode cX6_branch 62 = .ok (.goto (-55), 3) := by decide +kernel
theorem dX6_branch_65 : decode cX6_branch 65 = .ok (.iload_n 2, 1) := by decide +kernel
theorem dX6_branch_66 : decode cX6_branch 66 = .ok (.istore_n 3, 1) := by decide +kernel
theorem dX6_branch_67 : decode cX6_branch 67 = .ok (.aload_n 0, 1) := by decide +kernel
theorem dX6_branch_68 : decode cX6_branch 68 = .ok (.getfield 43, 3) := by decide +kernel
theorem dX6_branch_71 : decode cX6_branch 71 = .ok (.iconst 1, 1) := by decide +kernel
theorem dX6_branch_72 : decode cX6_branch 72 = .ok (.isub, 1) := by decide +kernel
theorem dX6_branch_73 : decode cX6_branch 73 = .ok (.istore 4, 2) := by decide +kernel
theorem dX6_branch_75 : decode cX6_branch 75 = .ok (.iload 4, 2) := by decide +kernel
theorem dX6_branch_77 : decode cX6_branch 77 = .ok (.ifCond .lt 77, 3) := by decide +kernel
theorem dX6_branch_80 : decode cX6_branch 80 = .ok (.aload_n 0, 1) := by decide +kernel
theorem dX6_branch_81 : decode cX6_branch 81 = .ok (.getfield 32, 3) := by decide +kernel
theorem dX6_branch_84 : decode cX6_branch 84 = .ok (.iload 4, 2) := by decide +kernel
theorem dX6_branch_86 : decode cX6_branch 86 = .ok (.invokestatic 47, 3) := by decide +kernel
theorem dX6_branch_89 : decode cX6_branch 89 = .ok (.istore 5, 2) := by decide +kernel
theorem dX6_branch_91 : decode cX6_branch 91 = .ok (.aload_n 0, 1) := by decide +kernel
theorem dX6_branch_92 : decode cX6_branch 92 = .ok (.getfield 12, 3) := by decide +kernel
theorem dX6_branch_95 : decode cX6_branch 95 = .ok (.iload 5, 2) := by decide +kernel
theorem dX6_branch_97 : decode cX6_branch 97 = .ok (.iload_n 1, 1) := by decide +kernel
theorem dX6_branch_98 : decode cX6_branch 98 = .ok (.invokevirtual 71, 3) := by decide +kernel
theorem dX6_branch_101 : decode cX6_branch 101 = .ok (.ifCond .eq 16, 3) := by decide +kernel
theorem dX6_branch_104 : decode cX6_branch 104 = .ok (.iinc 3 (-1), 3) := by decide +kernel
theorem dX6_branch_107 : decode cX6_branch 107 = .ok (.aload_n 0, 1) := by decide +kernel
theorem dX6_branch_108 : decode cX6_branch 108 = .ok (.getfield 32, 3) := by decide +kernel
theorem dX6_branch_111 : decode cX6_branch 111 = .ok (.iload_n 3, 1) := by decide +kernel
theorem dX6_branch_112 : decode cX6_branch 112 = .ok (.iload 5, 2) := by decide +kernel
theorem dX6_branch_114 : decode cX6_branch 114 = .ok (.invokestatic 55, 3) := by decide +kernel
theorem dX6_branch_117 : decode cX6_branch 117 = .ok (.aload_n 0, 1) := by decide +kernel
theorem dX6_branch_118 : decode cX6_branch 118 = .ok (.getfield 12, 3) := by decide +kernel
theorem dX6_branch_121 : decode cX6_branch 121 = .ok (.iload 5, 2) := by decide +kernel
theorem dX6_branch_123 : decode cX6_branch 123 = .ok (.iload_n 1, 1) := by decide +kernel
theorem dX6_branch_124 : decode cX6_branch 124 = .ok (.invokevirtual 67, 3) := by decide +kernel
theorem dX6_branch_127 : decode cX6_branch 127 = .ok (.ifCond .eq 21, 3) := by decide +kernel
theorem dX6_branch_130 : decode cX6_branch 130 = .ok (.iinc 3 (-1), 3) := by decide +kernel
theorem dX6_branch_133 : decode cX6_branch 133 = .ok (.aload_n 0, 1) := by decide +kernel
theorem dX6_branch_134 : decode cX6_branch 134 = .ok (.getfield 32, 3) := by decide +kernel
theorem dX6_branch_137 : decode cX6_branch 137 = .ok (.iload_n 3, 1) := by decide +kernel
theorem dX6_branch_138 : decode cX6_branch 138 = .ok (.iload 5, 2) := by decide +kernel
theorem dX6_branch_140 : decode cX6_branch 140 = .ok (.iload_n 1, 1) := by decide +kernel
theorem dX6_branch_141 : decode cX6_branch 141 = .ok (.invokestatic 74, 3) := by decide +kernel
theorem dX6_branch_144 : decode cX6_branch 144 = .ok (.ior, 1) := by decide +kernel
theorem dX6_branch_145 : decode cX6_branch 145 = .ok (.invokestatic 55, 3) := by decide +kernel
theorem dX6_branch_148 : decode cX6_branch 148 = .ok (.iinc 4 (-1), 3) := by decide +kernel
theorem dX6_branch_151 : decode cX6_branch 151 = .ok (.goto (-76), 3) := by decide +kernel
theorem dX6_branch_154 : decode cX6_branch 154 = .ok (.aload_n 0, 1) := by decide +kernel
theorem dX6_branch_155 : decode cX6_branch 155 = .ok (.iload_n 2, 1) := by decide +kernel
theorem dX6_branch_156 : decode cX6_branch 156 = .ok (.putfield 43, 3) := by decide +kernel
theorem dX6_branch_159 : decode cX6_branch 159 = .ok (.return_, 1) := by decide +kernel
set_option maxRecDepth 20000 in
theorem ggX6_dropUnkept_X7_at : GoodIn wsX6_dropUnkept wsX7_at := goodIn_ca (goodIn_r _ [8] (by decide +kernel) (by decide +kernel)) (goodIn_sub (fun _ h => List.mem_cons_of_mem _ (List.mem_append_right _ h)) (by decide +kernel))
set_option maxRecDepth 20000 in
theorem gX6_dropUnkept_X7_at_n47 : GoodIn wsX6_dropUnkept (wsX7_at) := ggX6_dropUnkept_X7_at
set_option maxRecDepth 20000 in
theorem ggX6_dropUnkept_X5_keepsGroups : GoodIn wsX6_dropUnkept wsX5_keepsGroups := goodIn_ca (goodIn_r _ [13, 14, 15, 16, 17, 18, 6, 7, 8, 19, 20, 21, 22, 23, 24, 25, 26, 27, 57, 58, 59, 60, 61, 62, 63, 64] (by decide +kernel) (by decide +kernel)) (goodIn_sub (fun _ h => List.mem_cons_of_mem _ (List.mem_append_right _ h)) (by decide +kernel))
set_option maxRecDepth 20000 in
theorem gX6_dropUnkept_X5_keepsGroups : GoodIn wsX6_dropUnkept (wsV RX6 78 RX5 yX5_keepsGroups wsX5_keepsGroups) := goodIn_app (goodIn_of _ (by decide +kernel)) ggX6_dropUnkept_X5_keepsGroups
set_option maxRecDepth 20000 in
theorem ggX6_dropUnkept_X1_keeps : GoodIn wsX6_dropUnkept wsX1_keeps := goodIn_ca (goodIn_r _ [32, 33, 34, 35, 36, 37, 38, 6, 7, 8, 39, 40, 31, 41, 65, 66, 67, 68, 69, 70] (by decide +kernel) (by decide +kernel)) (goodIn_sub (fun _ h => List.mem_cons_of_mem _ (List.mem_append_right _ h)) (by decide +kernel))
set_option maxRecDepth 20000 in
theorem gX6_dropUnkept_X1_keeps : GoodIn wsX6_dropUnkept (wsV RX6 82 RX1 yX1_keeps wsX1_keeps) := goodIn_app (goodIn_of _ (by decide +kernel)) ggX6_dropUnkept_X1_keeps
set_option maxRecDepth 20000 in
theorem ggX6_dropUnkept_X4_keeps : GoodIn wsX6_dropUnkept wsX4_keeps := goodIn_ca (goodIn_r _ [46, 47, 48, 6, 7, 8, 26, 27, 71, 72] (by decide +kernel) (by decide +kernel)) (goodIn_sub (fun _ h => List.mem_cons_of_mem _ (List.mem_append_right _ h)) (by decide +kernel))
set_option maxRecDepth 20000 in
theorem gX6_dropUnkept_X4_keeps : GoodIn wsX6_dropUnkept (wsV RX6 85 RX4 yX4_keeps wsX4_keeps) := goodIn_app (goodIn_of _ (by decide +kernel)) ggX6_dropUnkept_X4_keeps
set_option maxRecDepth 20000 in
theorem ggX6_dropUnkept_X7_put : GoodIn wsX6_dropUnkept wsX7_put := goodIn_ca (goodIn_r _ [50] (by decide +kernel) (by decide +kernel)) (goodIn_sub (fun _ h => List.mem_cons_of_mem _ (List.mem_append_right _ h)) (by decide +kernel))
set_option maxRecDepth 20000 in
theorem gX6_dropUnkept_X7_put_n55 : GoodIn wsX6_dropUnkept (wsX7_put) := ggX6_dropUnkept_X7_put
theorem dX6_dropUnkept_0 : decode cX6_dropUnkept 0 = .ok (.iconst 0, 1) := by decide +kernel
theorem dX6_dropUnkept_1 : decode cX6_dropUnkept 1 = .ok (.istore_n 1, 1) := by decide +kernel
theorem dX6_dropUnkept_2 : decode cX6_dropUnkept 2 = .ok (.iconst 0, 1) := by decide +kernel
theorem dX6_dropUnkept_3 : decode cX6_dropUnkept 3 = .ok (.istore_n 2, 1) := by decide +kernel
theorem dX6_dropUnkept_4 : decode cX6_dropUnkept 4 = .ok (.iload_n 2, 1) := by decide +kernel
theorem dX6_dropUnkept_5 : decode cX6_dropUnkept 5 = .ok (.aload_n 0, 1) := by decide +kernel
theorem dX6_dropUnkept_6 : decode cX6_dropUnkept 6 = .ok (.getfield 43, 3) := by decide +kernel
theorem dX6_dropUnkept_9 : decode cX6_dropUnkept 9 = .ok (.if_icmp .ge 63, 3) := by decide +kernel
theorem dX6_dropUnkept_12 : decode cX6_dropUnkept 12 = .ok (.aload_n 0, 1) := by decide +kernel
theorem dX6_dropUnkept_13 : decode cX6_dropUnkept 13 = .ok (.getfield 32, 3) := by decide +kernel
theorem dX6_dropUnkept_16 : decode cX6_dropUnkept 16 = .ok (.iload_n 2, 1) := by decide +kernel
theorem dX6_dropUnkept_17 : decode cX6_dropUnkept 17 = .ok (.invokestatic 47, 3) := by decide +kernel
theorem dX6_dropUnkept_20 : decode cX6_dropUnkept 20 = .ok (.istore_n 3, 1) := by decide +kernel
theorem dX6_dropUnkept_21 : decode cX6_dropUnkept 21 = .ok (.aload_n 0, 1) := by decide +kernel
theorem dX6_dropUnkept_22 : decode cX6_dropUnkept 22 = .ok (.getfield 12, 3) := by decide +kernel
theorem dX6_dropUnkept_25 : decode cX6_dropUnkept 25 = .ok (.iload_n 3, 1) := by decide +kernel
theorem dX6_dropUnkept_26 : decode cX6_dropUnkept 26 = .ok (.invokevirtual 78, 3) := by decide +kernel
theorem dX6_dropUnkept_29 : decode cX6_dropUnkept 29 = .ok (.ifCond .eq 37, 3) := by decide +kernel
theorem dX6_dropUnkept_32 : decode cX6_dropUnkept 32 = .ok (.aload_n 0, 1) := by decide +kernel
theorem dX6_dropUnkept_33 : decode cX6_dropUnkept 33 = .ok (.getfield 21, 3) := by decide +kernel
theorem dX6_dropUnkept_36 : decode cX6_dropUnkept 36 = .ok (.iload_n 3, 1) := by decide +kernel
theorem dX6_dropUnkept_37 : decode cX6_dropUnkept 37 = .ok (.invokevirtual 82, 3) := by decide +kernel
theorem dX6_dropUnkept_40 : decode cX6_dropUnkept 40 = .ok (.ifCond .eq 26, 3) := by decide +kernel
theorem dX6_dropUnkept_43 : decode cX6_dropUnkept 43 = .ok (.aload_n 0, 1) := by decide +kernel
theorem dX6_dropUnkept_44 : decode cX6_dropUnkept 44 = .ok (.getfield 28, 3) := by decide +kernel
theorem dX6_dropUnkept_47 : decode cX6_dropUnkept 47 = .ok (.iload_n 3, 1) := by decide +kernel
theorem dX6_dropUnkept_48 : decode cX6_dropUnkept 48 = .ok (.invokevirtual 85, 3) := by decide +kernel
theorem dX6_dropUnkept_51 : decode cX6_dropUnkept 51 = .ok (.ifCond .eq 15, 3) := by decide +kernel
theorem dX6_dropUnkept_54 : decode cX6_dropUnkept 54 = .ok (.aload_n 0, 1) := by decide +kernel
theorem dX6_dropUnkept_55 : decode cX6_dropUnkept 55 = .ok (.getfield 32, 3) := by decide +kernel
theorem dX6_dropUnkept_58 : decode cX6_dropUnkept 58 = .ok (.iload_n 1, 1) := by decide +kernel
theorem dX6_dropUnkept_59 : decode cX6_dropUnkept 59 = .ok (.iload_n 3, 1) := by decide +kernel
theorem dX6_dropUnkept_60 : decode cX6_dropUnkept 60 = .ok (.invokestatic 55, 3) := by decide +kernel
theorem dX6_dropUnkept_63 : decode cX6_dropUnkept 63 = .ok (.iinc 1 1, 3) := by decide +kernel
theorem dX6_dropUnkept_66 : decode cX6_dropUnkept 66 = .ok (.iinc 2 1, 3) := by decide +kernel
theorem dX6_dropUnkept_69 : decode cX6_dropUnkept 69 = .ok (.goto (-65), 3) := by decide +kernel
theorem dX6_dropUnkept_72 : decode cX6_dropUnkept 72 = .ok (.aload_n 0, 1) := by decide +kernel
theorem dX6_dropUnkept_73 : decode cX6_dropUnkept 73 = .ok (.iload_n 1, 1) := by decide +kernel
theorem dX6_dropUnkept_74 : decode cX6_dropUnkept 74 = .ok (.putfield 43, 3) := by decide +kernel
theorem dX6_dropUnkept_77 : decode cX6_dropUnkept 77 = .ok (.return_, 1) := by decide +kernel
set_option maxRecDepth 20000 in
theorem ggX7_init_X6_init : GoodIn wsX7_init wsX6_init := goodIn_ca (goodIn_r _ [27, 28, 2, 3, 29, 30, 31, 32, 33, 34, 35, 36, 37, 38, 39, 40, 41, 42, 43, 44, 45, 46, 47, 48, 49, 50, 51, 52, 53, 54, 55, 56, 57, 58, 59, 60, 61, 62, 63, 64, 99, 100, 101, 102, 103, 104, 105, 106, 77, 78, 79, 80, 81, 82, 107, 108, 109, 110, 111, 112, 113, 114] (by decide +kernel) (by decide +kernel)) (goodIn_sub (fun _ h => List.mem_cons_of_mem _ (List.mem_append_right _ h)) (by decide +kernel))
set_option maxRecDepth 20000 in
theorem gX7_init_X6_init_n9 : GoodIn wsX7_init (wsX6_init) := ggX7_init_X6_init
set_option maxRecDepth 20000 in
theorem ggX7_init_X0_init : GoodIn wsX7_init wsX0_init := goodIn_r _ [66, 67, 2, 3, 41, 68, 90, 91, 92, 93] (by decide +kernel) (by decide +kernel)
set_option maxRecDepth 20000 in
theorem gX7_init_X0_init_n33 : GoodIn wsX7_init (wsX0_init) := ggX7_init_X0_init
set_option maxRecDepth 20000 in
theorem ggX7_init_X2_init : GoodIn wsX7_init wsX2_init := goodIn_r _ [70, 71, 2, 3, 41, 72, 94, 95, 96] (by decide +kernel) (by decide +kernel)
set_option maxRecDepth 20000 in
theorem gX7_init_X2_init_n40 : GoodIn wsX7_init (wsX2_init) := ggX7_init_X2_init
set_option maxRecDepth 20000 in
theorem ggX7_init_X3_init : GoodIn wsX7_init wsX3_init := goodIn_r _ [74, 75, 2, 3, 41, 76, 97, 98] (by decide +kernel) (by decide +kernel)
set_option maxRecDepth 20000 in
theorem gX7_init_X3_init_n47 : GoodIn wsX7_init (wsX3_init) := ggX7_init_X3_init
theorem dX7_init_0 : decode cX7_init 0 = .ok (.aload_n 0, 1) := by decide +kernel
theorem dX7_init_1 : decode cX7_init 1 = .ok (.invokespecial 1, 3) := by decide +kernel
theorem dX7_init_4 : decode cX7_init 4 = .ok (.aload_n 0, 1) := by decide +kernel
theorem dX7_init_5 : decode cX7_init 5 = .ok (.new 7, 3) := by decide +kernel
theorem dX7_init_8 : decode cX7_init 8 = .ok (.dup, 1) := by decide +kernel
theorem dX7_init_9 : decode cX7_init 9 = .ok (.invokespecial 9, 3) := by decide +kernel
theorem dX7_init_12 : decode cX7_init 12 = .ok (.putfield 10, 3) := by decide +kernel
theorem dX7_init_15 : decode cX7_init 15 = .ok (.aload_n 0, 1) := by decide +kernel
theorem dX7_init_16 : decode cX7_init 16 = .ok (.aload_n 0, 1) := by decide +kernel
theorem dX7_init_17 : decode cX7_init 17 = .ok (.getfield 10, 3) := by decide +kernel
theorem dX7_init_20 : decode cX7_init 20 = .ok (.getfield 16, 3) := by decide +kernel
theorem dX7_init_23 : decode cX7_init 23 = .ok (.putfield 20, 3) := by decide +kernel
theorem dX7_init_26 : decode cX7_init 26 = .ok (.aload_n 0, 1) := by decide +kernel
theorem dX7_init_27 : decode cX7_init 27 = .ok (.aload_n 0, 1) := by decide +kernel
theorem dX7_init_28 : decode cX7_init 28 = .ok (.getfield 10, 3) := by decide +kernel
theorem dX7_init_31 : decode cX7_init 31 = .ok (.getfield 21, 3) := by decide +kernel
theorem dX7_init_34 : decode cX7_init 34 = .ok (.putfield 25, 3) := by decide +kernel
theorem dX7_init_37 : decode cX7_init 37 = .ok (.aload_n 0, 1) := by decide +kernel
theorem dX7_init_38 : decode cX7_init 38 = .ok (.aload_n 0, 1) := by decide +kernel
theorem dX7_init_39 : decode cX7_init 39 = .ok (.getfield 10, 3) := by decide +kernel
theorem dX7_init_42 : decode cX7_init 42 = .ok (.getfield 26, 3) := by decide +kernel
theorem dX7_init_45 : decode cX7_init 45 = .ok (.putfield 30, 3) := by decide +kernel
theorem dX7_init_48 : decode cX7_init 48 = .ok (.aload_n 0, 1) := by decide +kernel
theorem dX7_init_49 : decode cX7_init 49 = .ok (.new 31, 3) := by decide +kernel
theorem dX7_init_52 : decode cX7_init 52 = .ok (.dup, 1) := by decide +kernel
theorem dX7_init_53 : decode cX7_init 53 = .ok (.invokespecial 33, 3) := by decide +kernel
theorem dX7_init_56 : decode cX7_init 56 = .ok (.putfield 34, 3) := by decide +kernel
theorem dX7_init_59 : decode cX7_init 59 = .ok (.aload_n 0, 1) := by decide +kernel
theorem dX7_init_60 : decode cX7_init 60 = .ok (.new 38, 3) := by decide +kernel
theorem dX7_init_63 : decode cX7_init 63 = .ok (.dup, 1) := by decide +kernel
theorem dX7_init_64 : decode cX7_init 64 = .ok (.invokespecial 40, 3) := by decide +kernel
theorem dX7_init_67 : decode cX7_init 67 = .ok (.putfield 41, 3) := by decide +kernel
theorem dX7_init_70 : decode cX7_init 70 = .ok (.aload_n 0, 1) := by decide +kernel
theorem dX7_init_71 : decode cX7_init 71 = .ok (.new 45, 3) := by decide +kernel
theorem dX7_init_74 : decode cX7_init 74 = .ok (.dup, 1) := by decide +kernel
theorem dX7_init_75 : decode cX7_init 75 = .ok (.invokespecial 47, 3) := by decide +kernel
theorem dX7_init_78 : decode cX7_init 78 = .ok (.putfield 48, 3) := by decide +kernel
theorem dX7_init_81 : decode cX7_init 81 = .ok (.return_, 1) := by decide +kernel
set_option maxRecDepth 20000 in
theorem ggX7_feature_X5_takesParent : GoodIn wsX7_feature wsX5_takesParent := goodIn_r _ [8, 9, 10, 11, 12, 7, 13, 42, 43, 44, 45, 46, 47, 48, 49] (by decide +kernel) (by decide +kernel)
set_option maxRecDepth 20000 in
theorem gX7_feature_X5_takesParent : GoodIn wsX7_feature (wsV RX7 52 RX5 yX5_takesParent wsX5_takesParent) := goodIn_app (goodIn_of _ (by decide +kernel)) ggX7_feature_X5_takesParent
set_option maxRecDepth 20000 in
theorem ggX7_feature_X6_outdate : GoodIn wsX7_feature wsX6_outdate := goodIn_r _ [18, 19, 50, 51, 52, 53, 54, 55] (by decide +kernel) (by decide +kernel)
set_option maxRecDepth 20000 in
theorem gX7_feature_X6_outdate : GoodIn wsX7_feature (wsV RX7 62 RX6 yX6_outdate wsX6_outdate) := goodIn_app (goodIn_of _ (by decide +kernel)) ggX7_feature_X6_outdate
set_option maxRecDepth 20000 in
theorem ggX7_feature_X5_add : GoodIn wsX7_feature wsX5_add := goodIn_ca (goodIn_r _ [23, 9, 24, 25, 26, 27, 28, 29, 30, 31, 32, 33, 34, 42, 43, 44, 45, 46, 47, 48, 49] (by decide +kernel) (by decide +kernel)) (goodIn_sub (fun _ h => List.mem_cons_of_mem _ (List.mem_append_right _ h)) (by decide +kernel))
set_option maxRecDepth 20000 in
theorem gX7_feature_X5_add : GoodIn wsX7_feature (wsV RX7 65 RX5 yX5_add wsX5_add) := goodIn_app (goodIn_of _ (by decide +kernel)) ggX7_feature_X5_add
theorem dX7_feature_0 : decode cX7_feature 0 = .ok (.aload_n 0, 1) := by decide +kernel
theorem dX7_feature_1 : decode cX7_feature 1 = .ok (.getfield 20, 3) := by decide +kernel
theorem dX7_feature_4 : decode cX7_feature 4 = .ok (.iload_n 1, 1) := by decide +kernel
theorem dX7_feature_5 : decode cX7_feature 5 = .ok (.invokevirtual 52, 3) := by decide +kernel
theorem dX7_feature_8 : decode cX7_feature 8 = .ok (.ifCond .ne 5, 3) := by decide +kernel
theorem dX7_feature_11 : decode cX7_feature 11 = .ok (.iconst (-1), 1) := by decide +kernel
theorem dX7_feature_12 : decode cX7_feature 12 = .ok (.ireturn, 1) := by decide +kernel
theorem dX7_feature_13 : decode cX7_feature 13 = .ok (.iload_n 2, 1) := by decide +kernel
theorem dX7_feature_14 : decode cX7_feature 14 = .ok (.ifCond .lt 8, 3) := by decide +kernel
theorem dX7_feature_17 : decode cX7_feature 17 = .ok (.iload_n 2, 1) := by decide +kernel
theorem dX7_feature_18 : decode cX7_feature 18 = .ok (.iconst 2, 1) := by decide +kernel
theorem dX7_feature_19 : decode cX7_feature 19 = .ok (.if_icmp .le 6, 3) := by decide +kernel
theorem dX7_feature_22 : decode cX7_feature 22 = .ok (.bipush (-2), 2) := by decide +kernel
theorem dX7_feature_24 : decode cX7_feature 24 = .ok (.ireturn, 1) := by decide +kernel
theorem dX7_feature_25 : decode cX7_feature 25 = .ok (.aload_n 0, 1) := by decide +kernel
theorem dX7_feature_26 : decode cX7_feature 26 = .ok (.getfield 20, 3) := by decide +kernel
theorem dX7_feature_29 : decode cX7_feature 29 = .ok (.getfield 58, 3) := by decide +kernel
theorem dX7_feature_32 : decode cX7_feature 32 = .ok (.bipush 14, 2) := by decide +kernel
theorem dX7_feature_34 : decode cX7_feature 34 = .ok (.if_icmp .lt 6, 3) := by decide +kernel
theorem dX7_feature_37 : decode cX7_feature 37 = .ok (.bipush (-4), 2) := by decide +kernel
theorem dX7_feature_39 : decode cX7_feature 39 = .ok (.ireturn, 1) := by decide +kernel
theorem dX7_feature_40 : decode cX7_feature 40 = .ok (.aload_n 0, 1) := by decide +kernel
theorem dX7_feature_41 : decode cX7_feature 41 = .ok (.getfield 10, 3) := by decide +kernel
theorem dX7_feature_44 : decode cX7_feature 44 = .ok (.invokevirtual 62, 3) := by decide +kernel
theorem dX7_feature_47 : decode cX7_feature 47 = .ok (.aload_n 0, 1) := by decide +kernel
theorem dX7_feature_48 : decode cX7_feature 48 = .ok (.getfield 20, 3) := by decide +kernel
theorem dX7_feature_51 : decode cX7_feature 51 = .ok (.iload_n 1, 1) := by decide +kernel
theorem dX7_feature_52 : decode cX7_feature 52 = .ok (.iload_n 2, 1) := by decide +kernel
theorem dX7_feature_53 : decode cX7_feature 53 = .ok (.invokevirtual 65, 3) := by decide +kernel
theorem dX7_feature_56 : decode cX7_feature 56 = .ok (.ireturn, 1) := by decide +kernel
set_option maxRecDepth 20000 in
theorem ggX7_group_X5_has : GoodIn wsX7_group wsX5_has := goodIn_r _ [7, 8, 44, 45, 46, 47, 48, 49, 50, 51] (by decide +kernel) (by decide +kernel)
set_option maxRecDepth 20000 in
theorem gX7_group_X5_has : GoodIn wsX7_group (wsV RX7 69 RX5 yX5_has wsX5_has) := goodIn_app (goodIn_of _ (by decide +kernel)) ggX7_group_X5_has
set_option maxRecDepth 20000 in
theorem ggX7_group_X6_outdate : GoodIn wsX7_group wsX6_outdate := goodIn_r _ [13, 14, 52, 53, 54, 55, 56, 57] (by decide +kernel) (by decide +kernel)
set_option maxRecDepth 20000 in
theorem gX7_group_X6_outdate : GoodIn wsX7_group (wsV RX7 62 RX6 yX6_outdate wsX6_outdate) := goodIn_app (goodIn_of _ (by decide +kernel)) ggX7_group_X6_outdate
set_option maxRecDepth 20000 in
theorem ggX7_group_X5_bound : GoodIn wsX7_group wsX5_bound := goodIn_ca (goodIn_r _ [18, 19, 20, 21, 22, 23, 24, 25, 26, 27, 28, 29, 30, 31, 32, 33, 34, 35, 36, 44, 45, 46, 47, 48, 49, 50, 51] (by decide +kernel) (by decide +kernel)) (goodIn_sub (fun _ h => List.mem_cons_of_mem _ (List.mem_append_right _ h)) (by decide +kernel))
set_option maxRecDepth 20000 in
theorem gX7_group_X5_bound : GoodIn wsX7_group (wsV RX7 72 RX5 yX5_bound wsX5_bound) := goodIn_app (goodIn_of _ (by decide +kernel)) ggX7_group_X5_bound
theorem dX7_group_0 : decode cX7_group 0 = .ok (.aload_n 0, 1) := by decide +kernel
theorem dX7_group_1 : decode cX7_group 1 = .ok (.getfield 20, 3) := by decide +kernel
theorem dX7_group_4 : decode cX7_group 4 = .ok (.iload_n 1, 1) := by decide +kernel
theorem dX7_group_5 : decode cX7_group 5 = .ok (.invokevirtual 69, 3) := by decide +kernel
theorem dX7_group_8 : decode cX7_group 8 = .ok (.ifCond .ne 5, 3) := by decide +kernel
theorem dX7_group_11 : decode cX7_group 11 = .ok (.iconst (-1), 1) := by decide +kernel
theorem dX7_group_12 : decode cX7_group 12 = .ok (.ireturn, 1) := by decide +kernel
theorem dX7_group_13 : decode cX7_group 13 = .ok (.iload_n 2, 1) := by decide +kernel
theorem dX7_group_14 : decode cX7_group 14 = .ok (.ifCond .lt 14, 3) := by decide +kernel
theorem dX7_group_17 : decode cX7_group 17 = .ok (.iload_n 2, 1) := by decide +kernel
theorem dX7_group_18 : decode cX7_group 18 = .ok (.iload_n 3, 1) := by decide +kernel
theorem dX7_group_19 : decode cX7_group 19 = .ok (.if_icmp .gt 9, 3) := by decide +kernel
theorem dX7_group_22 : decode cX7_group 22 = .ok (.iload_n 3, 1) := by decide +kernel
theorem dX7_group_23 : decode cX7_group 23 = .ok (.bipush 14, 2) := by decide +kernel
theorem dX7_group_25 : decode cX7_group 25 = .ok (.if_icmp .le 6, 3) := by decide +kernel
theorem dX7_group_28 : decode cX7_group 28 = .ok (.bipush (-2), 2) := by decide +kernel
theorem dX7_group_30 : decode cX7_group 30 = .ok (.ireturn, 1) := by decide +kernel
theorem dX7_group_31 : decode cX7_group 31 = .ok (.aload_n 0, 1) := by decide +kernel
theorem dX7_group_32 : decode cX7_group 32 = .ok (.getfield 10, 3) := by decide +kernel
theorem dX7_group_35 : decode cX7_group 35 = .ok (.invokevirtual 62, 3) := by decide +kernel
theorem dX7_group_38 : decode cX7_group 38 = .ok (.aload_n 0, 1) := by decide +kernel
theorem dX7_group_39 : decode cX7_group 39 = .ok (.getfield 20, 3) := by decide +kernel
theorem dX7_group_42 : decode cX7_group 42 = .ok (.iload_n 1, 1) := by decide +kernel
theorem dX7_group_43 : decode cX7_group 43 = .ok (.iload_n 2, 1) := by decide +kernel
theorem dX7_group_44 : decode cX7_group 44 = .ok (.iload_n 3, 1) := by decide +kernel
theorem dX7_group_45 : decode cX7_group 45 = .ok (.invokevirtual 72, 3) := by decide +kernel
theorem dX7_group_48 : decode cX7_group 48 = .ok (.ireturn, 1) := by decide +kernel
set_option maxRecDepth 20000 in
theorem ggX7_formula_X5_hasSigned : GoodIn wsX7_formula wsX5_hasSigned := goodIn_r _ [9, 10, 11, 12, 8, 13, 14, 62, 63, 64, 65, 66, 67, 68, 69] (by decide +kernel) (by decide +kernel)
set_option maxRecDepth 20000 in
theorem gX7_formula_X5_hasSigned : GoodIn wsX7_formula (wsV RX7 76 RX5 yX5_hasSigned wsX5_hasSigned) := goodIn_app (goodIn_of _ (by decide +kernel)) ggX7_formula_X5_hasSigned
set_option maxRecDepth 20000 in
theorem ggX7_formula_X1_isAlwaysTrue : GoodIn wsX7_formula wsX1_isAlwaysTrue := goodIn_r _ [18, 19, 20, 17, 21, 22, 23, 24, 25, 26, 27, 28, 29, 30] (by decide +kernel) (by decide +kernel)
set_option maxRecDepth 20000 in
theorem gX7_formula_X1_isAlwaysTrue : GoodIn wsX7_formula (va_wsS RX7 82 yX1_isAlwaysTrue wsX1_isAlwaysTrue) := goodIn_app (goodIn_of _ (by decide +kernel)) ggX7_formula_X1_isAlwaysTrue
set_option maxRecDepth 20000 in
theorem ggX7_formula_X6_outdate : GoodIn wsX7_formula wsX6_outdate := goodIn_r _ [35, 36, 70, 71, 72, 73, 74, 75] (by decide +kernel) (by decide +kernel)
set_option maxRecDepth 20000 in
theorem gX7_formula_X6_outdate : GoodIn wsX7_formula (wsV RX7 62 RX6 yX6_outdate wsX6_outdate) := goodIn_app (goodIn_of _ (by decide +kernel)) ggX7_formula_X6_outdate
set_option maxRecDepth 20000 in
theorem ggX7_formula_X1_add : GoodIn wsX7_formula wsX1_add := goodIn_ca (goodIn_r _ [40, 41, 42, 43, 44, 45, 46, 47, 23, 48, 19, 20, 17, 21, 22, 24, 56, 57, 58, 59, 60, 61] (by decide +kernel) (by decide +kernel)) (goodIn_sub (fun _ h => List.mem_cons_of_mem _ (List.mem_append_right _ h)) (by decide +kernel))
set_option maxRecDepth 20000 in
theorem gX7_formula_X1_add : GoodIn wsX7_formula (wsV RX7 86 RX1 yX1_add wsX1_add) := goodIn_app (goodIn_of _ (by decide +kernel)) ggX7_formula_X1_add
theorem dX7_formula_0 : decode cX7_formula 0 = .ok (.aload_n 0, 1) := by decide +kernel
theorem dX7_formula_1 : decode cX7_formula 1 = .ok (.getfield 20, 3) := by decide +kernel
theorem dX7_formula_4 : decode cX7_formula 4 = .ok (.iload_n 2, 1) := by decide +kernel
theorem dX7_formula_5 : decode cX7_formula 5 = .ok (.invokevirtual 76, 3) := by decide +kernel
theorem dX7_formula_8 : decode cX7_formula 8 = .ok (.ifCond .eq 14, 3) := by decide +kernel
theorem dX7_formula_11 : decode cX7_formula 11 = .ok (.aload_n 0, 1) := by decide +kernel
theorem dX7_formula_12 : decode cX7_formula 12 = .ok (.getfield 20, 3) := by decide +kernel
theorem dX7_formula_15 : decode cX7_formula 15 = .ok (.iload_n 3, 1) := by decide +kernel
theorem dX7_formula_16 : decode cX7_formula 16 = .ok (.invokevirtual 76, 3) := by decide +kernel
theorem dX7_formula_19 : decode cX7_formula 19 = .ok (.ifCond .ne 5, 3) := by decide +kernel
theorem dX7_formula_22 : decode cX7_formula 22 = .ok (.iconst (-1), 1) := by decide +kernel
theorem dX7_formula_23 : decode cX7_formula 23 = .ok (.ireturn, 1) := by decide +kernel
theorem dX7_formula_24 : decode cX7_formula 24 = .ok (.iload_n 1, 1) := by decide +kernel
theorem dX7_formula_25 : decode cX7_formula 25 = .ok (.ifCond .lt 8, 3) := by decide +kernel
theorem dX7_formula_28 : decode cX7_formula 28 = .ok (.iload_n 1, 1) := by decide +kernel
theorem dX7_formula_29 : decode cX7_formula 29 = .ok (.iconst 3, 1) := by decide +kernel
theorem dX7_formula_30 : decode cX7_formula 30 = .ok (.if_icmp .le 6, 3) := by decide +kernel
theorem dX7_formula_33 : decode cX7_formula 33 = .ok (.bipush (-2), 2) := by decide +kernel
theorem dX7_formula_35 : decode cX7_formula 35 = .ok (.ireturn, 1) := by decide +kernel
theorem dX7_formula_36 : decode cX7_formula 36 = .ok (.aload_n 0, 1) := by decide +kernel
theorem dX7_formula_37 : decode cX7_formula 37 = .ok (.getfield 25, 3) := by decide +kernel
theorem dX7_formula_40 : decode cX7_formula 40 = .ok (.getfield 79, 3) := by decide +kernel
theorem dX7_formula_43 : decode cX7_formula 43 = .ok (.bipush 40, 2) := by decide +kernel
theorem dX7_formula_45 : decode cX7_formula 45 = .ok (.if_icmp .lt 6, 3) := by decide +kernel
theorem dX7_formula_48 : decode cX7_formula 48 = .ok (.bipush (-4), 2) := by decide +kernel
theorem dX7_formula_50 : decode cX7_formula 50 = .ok (.ireturn, 1) := by decide +kernel
theorem dX7_formula_51 : decode cX7_formula 51 = .ok (.iload_n 1, 1) := by decide +kernel
theorem dX7_formula_52 : decode cX7_formula 52 = .ok (.iload_n 2, 1) := by decide +kernel
theorem dX7_formula_53 : decode cX7_formula 53 = .ok (.iload_n 3, 1) := by decide +kernel
theorem dX7_formula_54 : decode cX7_formula 54 = .ok (.invokestatic 82, 3) := by decide +kernel
theorem dX7_formula_57 : decode cX7_formula 57 = .ok (.ifCond .eq 5, 3) := by decide +kernel
theorem dX7_formula_60 : decode cX7_formula 60 = .ok (.iconst 0, 1) := by decide +kernel
theorem dX7_formula_61 : decode cX7_formula 61 = .ok (.ireturn, 1) := by decide +kernel
theorem dX7_formula_62 : decode cX7_formula 62 = .ok (.aload_n 0, 1) := by decide +kernel
theorem dX7_formula_63 : decode cX7_formula 63 = .ok (.getfield 10, 3) := by decide +kernel
theorem dX7_formula_66 : decode cX7_formula 66 = .ok (.invokevirtual 62, 3) := by decide +kernel
theorem dX7_formula_69 : decode cX7_formula 69 = .ok (.aload_n 0, 1) := by decide +kernel
theorem dX7_formula_70 : decode cX7_formula 70 = .ok (.getfield 25, 3) := by decide +kernel
theorem dX7_formula_73 : decode cX7_formula 73 = .ok (.iload_n 1, 1) := by decide +kernel
theorem dX7_formula_74 : decode cX7_formula 74 = .ok (.iload_n 2, 1) := by decide +kernel
theorem dX7_formula_75 : decode cX7_formula 75 = .ok (.iload_n 3, 1) := by decide +kernel
theorem dX7_formula_76 : decode cX7_formula 76 = .ok (.invokevirtual 86, 3) := by decide +kernel
theorem dX7_formula_79 : decode cX7_formula 79 = .ok (.ireturn, 1) := by decide +kernel
set_option maxRecDepth 20000 in
theorem ggX7_attribute_X5_has : GoodIn wsX7_attribute wsX5_has := goodIn_r _ [8, 9, 37, 38, 39, 40, 41, 42, 43, 44] (by decide +kernel) (by decide +kernel)
set_option maxRecDepth 20000 in
theorem gX7_attribute_X5_has : GoodIn wsX7_attribute (wsV RX7 69 RX5 yX5_has wsX5_has) := goodIn_app (goodIn_of _ (by decide +kernel)) ggX7_attribute_X5_has
set_option maxRecDepth 20000 in
theorem ggX7_attribute_X6_outdate : GoodIn wsX7_attribute wsX6_outdate := goodIn_r _ [14, 15, 45, 46, 47, 48, 49, 50] (by decide +kernel) (by decide +kernel)
set_option maxRecDepth 20000 in
theorem gX7_attribute_X6_outdate : GoodIn wsX7_attribute (wsV RX7 62 RX6 yX6_outdate wsX6_outdate) := goodIn_app (goodIn_of _ (by decide +kernel)) ggX7_attribute_X6_outdate
set_option maxRecDepth 20000 in
theorem ggX7_attribute_X4_limit : GoodIn wsX7_attribute wsX4_limit := goodIn_ca (goodIn_r _ [20, 21, 22, 23, 24, 51, 52] (by decide +kernel) (by decide +kernel)) (goodIn_sub (fun _ h => List.mem_cons_of_mem _ (List.mem_append_right _ h)) (by decide +kernel))
set_option maxRecDepth 20000 in
theorem gX7_attribute_X4_limit : GoodIn wsX7_attribute (wsV RX7 88 RX4 yX4_limit wsX4_limit) := goodIn_app (goodIn_of _ (by decide +kernel)) ggX7_attribute_X4_limit
set_option maxRecDepth 20000 in
theorem ggX7_attribute_X4_set : GoodIn wsX7_attribute wsX4_set := goodIn_ca (goodIn_r _ [28, 29, 22, 23, 24, 51, 52] (by decide +kernel) (by decide +kernel)) (goodIn_sub (fun _ h => List.mem_cons_of_mem _ (List.mem_append_right _ h)) (by decide +kernel))
set_option maxRecDepth 20000 in
theorem gX7_attribute_X4_set : GoodIn wsX7_attribute (wsV RX7 94 RX4 yX4_set wsX4_set) := goodIn_app (goodIn_of _ (by decide +kernel)) ggX7_attribute_X4_set
theorem dX7_attribute_0 : decode cX7_attribute 0 = .ok (.iload_n 1, 1) := by decide +kernel
theorem dX7_attribute_1 : decode cX7_attribute 1 = .ok (.ifCond .ne 7, 3) := by decide +kernel
theorem dX7_attribute_4 : decode cX7_attribute 4 = .ok (.iconst 1, 1) := by decide +kernel
theorem dX7_attribute_5 : decode cX7_attribute 5 = .ok (.goto 4, 3) := by decide +kernel
theorem dX7_attribute_8 : decode cX7_attribute 8 = .ok (.iconst 0, 1) := by decide +kernel
theorem dX7_attribute_9 : decode cX7_attribute 9 = .ok (.istore 4, 2) := by decide +kernel
theorem dX7_attribute_11 : decode cX7_attribute 11 = .ok (.iload 4, 2) := by decide +kernel
theorem dX7_attribute_13 : decode cX7_attribute 13 = .ok (.ifCond .ne 16, 3) := by decide +kernel
theorem dX7_attribute_16 : decode cX7_attribute 16 = .ok (.aload_n 0, 1) := by decide +kernel
theorem dX7_attribute_17 : decode cX7_attribute 17 = .ok (.getfield 20, 3) := by decide +kernel
theorem dX7_attribute_20 : decode cX7_attribute 20 = .ok (.iload_n 1, 1) := by decide +kernel
theorem dX7_attribute_21 : decode cX7_attribute 21 = .ok (.invokevirtual 69, 3) := by decide +kernel
theorem dX7_attribute_24 : decode cX7_attribute 24 = .ok (.ifCond .ne 5, 3) := by decide +kernel
theorem dX7_attribute_27 : decode cX7_attribute 27 = .ok (.iconst (-1), 1) := by decide +kernel
theorem dX7_attribute_28 : decode cX7_attribute 28 = .ok (.ireturn, 1) := by decide +kernel
theorem dX7_attribute_29 : decode cX7_attribute 29 = .ok (.iload 4, 2) := by decide +kernel
theorem dX7_attribute_31 : decode cX7_attribute 31 = .ok (.ifCond .eq 9, 3) := by decide +kernel
theorem dX7_attribute_34 : decode cX7_attribute 34 = .ok (.sipush 10000, 3) := by decide +kernel
theorem dX7_attribute_37 : decode cX7_attribute 37 = .ok (.goto 6, 3) := by decide +kernel
theorem dX7_attribute_40 : decode cX7_attribute 40 = .ok (.sipush 1000, 3) := by decide +kernel
theorem dX7_attribute_43 : decode cX7_attribute 43 = .ok (.istore 5, 2) := by decide +kernel
theorem dX7_attribute_45 : decode cX7_attribute 45 = .ok (.iload_n 2, 1) := by decide +kernel
theorem dX7_attribute_46 : decode cX7_attribute 46 = .ok (.ifCond .lt 21, 3) := by decide +kernel
theorem dX7_attribute_49 : decode cX7_attribute 49 = .ok (.iload_n 2, 1) := by decide +kernel
theorem dX7_attribute_50 : decode cX7_attribute 50 = .ok (.iconst 4, 1) := by decide +kernel
theorem dX7_attribute_51 : decode cX7_attribute 51 = .ok (.if_icmp .ge 16, 3) := by decide +kernel
theorem dX7_attribute_54 : decode cX7_attribute 54 = .ok (.iload_n 3, 1) := by decide +kernel
theorem dX7_attribute_55 : decode cX7_attribute 55 = .ok (.iload 5, 2) := by decide +kernel
theorem dX7_attribute_57 : decode cX7_attribute 57 = .ok (.ineg, 1) := by decide +kernel
theorem dX7_attribute_58 : decode cX7_attribute 58 = .ok (.if_icmp .lt 9, 3) := by decide +kernel
theorem dX7_attribute_61 : decode cX7_attribute 61 = .ok (.iload_n 3, 1) := by decide +kernel
theorem dX7_attribute_62 : decode cX7_attribute 62 = .ok (.iload 5, 2) := by decide +kernel
theorem dX7_attribute_64 : decode cX7_attribute 64 = .ok (.if_icmp .le 6, 3) := by decide +kernel
theorem dX7_attribute_67 : decode cX7_attribute 67 = .ok (.bipush (-2), 2) := by decide +kernel
theorem dX7_attribute_69 : decode cX7_attribute 69 = .ok (.ireturn, 1) := by decide +kernel
theorem dX7_attribute_70 : decode cX7_attribute 70 = .ok (.aload_n 0, 1) := by decide +kernel
theorem dX7_attribute_71 : decode cX7_attribute 71 = .ok (.getfield 10, 3) := by decide +kernel
theorem dX7_attribute_74 : decode cX7_attribute 74 = .ok (.invokevirtual 62, 3) := by decide +kernel
theorem dX7_attribute_77 : decode cX7_attribute 77 = .ok (.iload 4, 2) := by decide +kernel
theorem dX7_attribute_79 : decode cX7_attribute 79 = .ok (.ifCond .eq 15, 3) := by decide +kernel
theorem dX7_attribute_82 : decode cX7_attribute 82 = .ok (.aload_n 0, 1) := by decide +kernel
theorem dX7_attribute_83 : decode cX7_attribute 83 = .ok (.getfield 30, 3) := by decide +kernel
theorem dX7_attribute_86 : decode cX7_attribute 86 = .ok (.iload_n 2, 1) := by decide +kernel
theorem dX7_attribute_87 : decode cX7_attribute 87 = .ok (.iload_n 3, 1) := by decide +kernel
theorem dX7_attribute_88 : decode cX7_attribute 88 = .ok (.invokevirtual 88, 3) := by decide +kernel
theorem dX7_attribute_91 : decode cX7_attribute 91 = .ok (.goto 13, 3) := by decide +kernel
theorem dX7_attribute_94 : decode cX7_attribute 94 = .ok (.aload_n 0, 1) := by decide +kernel
theorem dX7_attribute_95 : decode cX7_attribute 95 = .ok (.getfield 30, 3) := by decide +kernel
theorem dX7_attribute_98 : decode cX7_attribute 98 = .ok (.iload_n 1, 1) := by decide +kernel
theorem dX7_attribute_99 : decode cX7_attribute 99 = .ok (.iload_n 2, 1) := by decide +kernel
theorem dX7_attribute_100 : decode cX7_attribute 100 = .ok (.iload_n 3, 1) := by decide +kernel
theorem dX7_attribute_101 : decode cX7_attribute 101 = .ok (.invokevirtual 94, 3) := by decide +kernel
theorem dX7_attribute_104 : decode cX7_attribute 104 = .ok (.iconst 1, 1) := by decide +kernel
theorem dX7_attribute_105 : decode cX7_attribute 105 = .ok (.ireturn, 1) := by decide +kernel
set_option maxRecDepth 20000 in
theorem ggX7_choose_X5_hasSigned : GoodIn wsX7_choose wsX5_hasSigned := goodIn_r _ [8, 9, 10, 11, 7, 12, 13, 46, 47, 48, 49, 50, 51, 52, 53] (by decide +kernel) (by decide +kernel)
set_option maxRecDepth 20000 in
theorem gX7_choose_X5_hasSigned : GoodIn wsX7_choose (wsV RX7 76 RX5 yX5_hasSigned wsX5_hasSigned) := goodIn_app (goodIn_of _ (by decide +kernel)) ggX7_choose_X5_hasSigned
set_option maxRecDepth 20000 in
theorem ggX7_choose_X0_drop : GoodIn wsX7_choose wsX0_drop := goodIn_ca (goodIn_r _ [18, 19, 20, 21, 22, 23, 24, 25, 26, 27, 28, 29, 42, 43, 44, 45] (by decide +kernel) (by decide +kernel)) (goodIn_sub (fun _ h => List.mem_cons_of_mem _ (List.mem_append_right _ h)) (by decide +kernel))
set_option maxRecDepth 20000 in
theorem gX7_choose_X0_drop : GoodIn wsX7_choose (wsV RX7 98 RX0 yX0_drop wsX0_drop) := goodIn_app (goodIn_of _ (by decide +kernel)) ggX7_choose_X0_drop
set_option maxRecDepth 20000 in
theorem ggX7_choose_X0_tell : GoodIn wsX7_choose wsX0_tell := goodIn_ca (goodIn_r _ [33, 20, 19, 21, 22, 34, 15, 16, 17, 18, 23, 24, 25, 26, 27, 28, 29, 42, 43, 44, 45] (by decide +kernel) (by decide +kernel)) (goodIn_sub (fun _ h => List.mem_cons_of_mem _ (List.mem_append_right _ h)) (by decide +kernel))
set_option maxRecDepth 20000 in
theorem gX7_choose_X0_tell : GoodIn wsX7_choose (wsV RX7 102 RX0 yX0_tell wsX0_tell) := goodIn_app (goodIn_of _ (by decide +kernel)) ggX7_choose_X0_tell
theorem dX7_choose_0 : decode cX7_choose 0 = .ok (.aload_n 0, 1) := by decide +kernel
theorem dX7_choose_1 : decode cX7_choose 1 = .ok (.getfield 20, 3) := by decide +kernel
theorem dX7_choose_4 : decode cX7_choose 4 = .ok (.iload_n 1, 1) := by decide +kernel
theorem dX7_choose_5 : decode cX7_choose 5 = .ok (.invokevirtual 76, 3) := by decide +kernel
theorem dX7_choose_8 : decode cX7_choose 8 = .ok (.ifCond .ne 5, 3) := by decide +kernel
theorem dX7_choose_11 : decode cX7_choose 11 = .ok (.iconst (-1), 1) := by decide +kernel
theorem dX7_choose_12 : decode cX7_choose 12 = .ok (.ireturn, 1) := by decide +kernel
theorem dX7_choose_13 : decode cX7_choose 13 = .ok (.iload_n 1, 1) := by decide +kernel
theorem dX7_choose_14 : decode cX7_choose 14 = .ok (.ifCond .ge 15, 3) := by decide +kernel
theorem dX7_choose_17 : decode cX7_choose 17 = .ok (.aload_n 0, 1) := by decide +kernel
theorem dX7_choose_18 : decode cX7_choose 18 = .ok (.getfield 34, 3) := by decide +kernel
theorem dX7_choose_21 : decode cX7_choose 21 = .ok (.iload_n 1, 1) := by decide +kernel
theorem dX7_choose_22 : decode cX7_choose 22 = .ok (.ineg, 1) := by decide +kernel
theorem dX7_choose_23 : decode cX7_choose 23 = .ok (.invokevirtual 98, 3) := by decide +kernel
theorem dX7_choose_26 : decode cX7_choose 26 = .ok (.goto 12, 3) := by decide +kernel
theorem dX7_choose_29 : decode cX7_choose 29 = .ok (.aload_n 0, 1) := by decide +kernel
theorem dX7_choose_30 : decode cX7_choose 30 = .ok (.getfield 34, 3) := by decide +kernel
theorem dX7_choose_33 : decode cX7_choose 33 = .ok (.iload_n 1, 1) := by decide +kernel
theorem dX7_choose_34 : decode cX7_choose 34 = .ok (.iload_n 2, 1) := by decide +kernel
theorem dX7_choose_35 : decode cX7_choose 35 = .ok (.invokevirtual 102, 3) := by decide +kernel
theorem dX7_choose_38 : decode cX7_choose 38 = .ok (.aload_n 0, 1) := by decide +kernel
theorem dX7_choose_39 : decode cX7_choose 39 = .ok (.getfield 34, 3) := by decide +kernel
theorem dX7_choose_42 : decode cX7_choose 42 = .ok (.getfield 106, 3) := by decide +kernel
theorem dX7_choose_45 : decode cX7_choose 45 = .ok (.ireturn, 1) := by decide +kernel
set_option maxRecDepth 20000 in
theorem ggX7_solve_X6_first : GoodIn wsX7_solve wsX6_first := goodIn_ca (goodIn_r _ [11, 12, 13, 14, 15, 16, 10, 17, 18, 19, 20, 21, 22, 23, 24, 25, 26, 27, 28, 29, 30, 31, 32, 33, 34, 35, 36, 37, 38, 39, 40, 41, 42, 43, 44, 45, 46, 47, 48, 49, 50, 51, 52, 53, 54, 55, 56, 57, 58, 59, 60, 61, 62, 63, 64, 65, 66, 67, 68, 69, 70, 71, 72, 73, 74, 75, 76, 77, 78, 79, 80, 81, 82, 83, 84, 85, 86, 87, 88, 135, 136, 137, 138, 139, 140, 141, 142, 143, 144, 145, 146, 147, 148, 149, 150, 151, 152, 153, 154, 155, 156] (by decide +kernel) (by decide +kernel)) (goodIn_sub (fun _ h => List.mem_cons_of_mem _ (List.mem_append_right _ h)) (by decide +kernel))
set_option maxRecDepth 20000 in
theorem gX7_solve_X6_first : GoodIn wsX7_solve (wsV RX7 113 RX6 yX6_first wsX6_first) := goodIn_app (goodIn_of _ (by decide +kernel)) ggX7_solve_X6_first
set_option maxRecDepth 20000 in
theorem ggX7_solve_X3_clear : GoodIn wsX7_solve wsX3_clear := goodIn_r _ [93, 94, 157, 158] (by decide +kernel) (by decide +kernel)
set_option maxRecDepth 20000 in
theorem gX7_solve_X3_clear : GoodIn wsX7_solve (wsV RX7 116 RX3 yX3_clear wsX3_clear) := goodIn_app (goodIn_of _ (by decide +kernel)) ggX7_solve_X3_clear
set_option maxRecDepth 20000 in
theorem ggX7_solve_X2_keepNone : GoodIn wsX7_solve wsX2_keepNone := goodIn_r _ [99, 100, 159, 160, 161] (by decide +kernel) (by decide +kernel)
set_option maxRecDepth 20000 in
theorem gX7_solve_X2_keepNone : GoodIn wsX7_solve (wsV RX7 119 RX2 yX2_keepNone wsX2_keepNone) := goodIn_app (goodIn_of _ (by decide +kernel)) ggX7_solve_X2_keepNone
set_option maxRecDepth 20000 in
theorem ggX7_solve_X7_explain : GoodIn wsX7_solve wsX7_explain := goodIn_ca (goodIn_r _ [104, 2, 3, 4, 105, 1, 5, 106, 107, 108, 109, 110, 111, 28, 22, 29, 112, 41, 42, 7, 8, 9, 10, 11, 12, 13, 14, 15, 16, 17, 18, 19, 20, 21, 23, 24, 25, 26, 27, 30, 31, 32, 33, 34, 35, 36, 37, 38, 39, 40, 43, 44, 45, 46, 47, 48, 49, 50, 51, 52, 53, 54, 55, 56, 57, 58, 59, 60, 61, 62, 63, 64, 65, 66, 67, 68, 69, 70, 71, 72, 73, 74, 75, 76, 77, 78, 79, 80, 81, 82, 83, 84, 85, 86, 87, 88, 113, 114, 115, 92, 116, 117, 94, 124, 125, 126, 127, 128, 129, 130, 131, 132, 133, 134, 135, 136, 137, 138, 139, 140, 141, 142, 143, 144, 145, 146, 147, 148, 149, 150, 151, 152, 153, 154, 155, 156, 157, 158] (by decide +kernel) (by decide +kernel)) (goodIn_sub (fun _ h => List.mem_cons_of_mem _ (List.mem_append_right _ h)) (by decide +kernel))
set_option maxRecDepth 20000 in
theorem gX7_solve_X7_explain : GoodIn wsX7_solve (wsV RX7 122 RX7 yX7_explain wsX7_explain) := goodIn_app (goodIn_of _ (by decide +kernel)) ggX7_solve_X7_explain
set_option maxRecDepth 20000 in
theorem ggX7_solve_X2_keep : GoodIn wsX7_solve wsX2_keep := goodIn_ca (goodIn_r _ [121, 100, 122, 123, 21, 22, 23, 159, 160, 161] (by decide +kernel) (by decide +kernel)) (goodIn_sub (fun _ h => List.mem_cons_of_mem _ (List.mem_append_right _ h)) (by decide +kernel))
set_option maxRecDepth 20000 in
theorem gX7_solve_X2_keep : GoodIn wsX7_solve (wsV RX7 125 RX2 yX2_keep wsX2_keep) := goodIn_app (goodIn_of _ (by decide +kernel)) ggX7_solve_X2_keep
theorem dX7_solve_0 : decode cX7_solve 0 = .ok (.aload_n 0, 1) := by decide +kernel
theorem dX7_solve_1 : decode cX7_solve 1 = .ok (.getfield 10, 3) := by decide +kernel
theorem dX7_solve_4 : decode cX7_solve 4 = .ok (.aload_n 0, 1) := by decide +kernel
theorem dX7_solve_5 : decode cX7_solve 5 = .ok (.getfield 34, 3) := by decide +kernel
theorem dX7_solve_8 : decode cX7_solve 8 = .ok (.getfield 107, 3) := by decide +kernel
theorem dX7_solve_11 : decode cX7_solve 11 = .ok (.aload_n 0, 1) := by decide +kernel
theorem dX7_solve_12 : decode cX7_solve 12 = .ok (.getfield 34, 3) := by decide +kernel
theorem dX7_solve_15 : decode cX7_solve 15 = .ok (.getfield 110, 3) := by decide +kernel
theorem dX7_solve_18 : decode cX7_solve 18 = .ok (.invokevirtual 113, 3) := by decide +kernel
theorem dX7_solve_21 : decode cX7_solve 21 = .ok (.istore_n 1, 1) := by decide +kernel
theorem dX7_solve_22 : decode cX7_solve 22 = .ok (.aload_n 0, 1) := by decide +kernel
theorem dX7_solve_23 : decode cX7_solve 23 = .ok (.getfield 48, 3) := by decide +kernel
theorem dX7_solve_26 : decode cX7_solve 26 = .ok (.invokevirtual 116, 3) := by decide +kernel
theorem dX7_solve_29 : decode cX7_solve 29 = .ok (.iload_n 1, 1) := by decide +kernel
theorem dX7_solve_30 : decode cX7_solve 30 = .ok (.iconst (-1), 1) := by decide +kernel
theorem dX7_solve_31 : decode cX7_solve 31 = .ok (.if_icmp .ne 16, 3) := by decide +kernel
theorem dX7_solve_34 : decode cX7_solve 34 = .ok (.aload_n 0, 1) := by decide +kernel
theorem dX7_solve_35 : decode cX7_solve 35 = .ok (.getfield 41, 3) := by decide +kernel
theorem dX7_solve_38 : decode cX7_solve 38 = .ok (.invokevirtual 119, 3) := by decide +kernel
theorem dX7_solve_41 : decode cX7_solve 41 = .ok (.aload_n 0, 1) := by decide +kernel
theorem dX7_solve_42 : decode cX7_solve 42 = .ok (.invokevirtual 122, 3) := by decide +kernel
theorem dX7_solve_45 : decode cX7_solve 45 = .ok (.iconst 0, 1) := by decide +kernel
theorem dX7_solve_46 : decode cX7_solve 46 = .ok (.ireturn, 1) := by decide +kernel
theorem dX7_solve_47 : decode cX7_solve 47 = .ok (.aload_n 0, 1) := by decide +kernel
theorem dX7_solve_48 : decode cX7_solve 48 = .ok (.getfield 41, 3) := by decide +kernel
theorem dX7_solve_51 : decode cX7_solve 51 = .ok (.iload_n 1, 1) := by decide +kernel
theorem dX7_solve_52 : decode cX7_solve 52 = .ok (.invokevirtual 125, 3) := by decide +kernel
theorem dX7_solve_55 : decode cX7_solve 55 = .ok (.iconst 1, 1) := by decide +kernel
theorem dX7_solve_56 : decode cX7_solve 56 = .ok (.ireturn, 1) := by decide +kernel
set_option maxRecDepth 20000 in
theorem ggX7_chosen_X7_bit : GoodIn wsX7_chosen wsX7_bit := goodIn_r _ [6] (by decide +kernel) (by decide +kernel)
set_option maxRecDepth 20000 in
theorem gX7_chosen_X7_bit : GoodIn wsX7_chosen (va_wsS RX7 131 yX7_bit wsX7_bit) := goodIn_app (goodIn_of _ (by decide +kernel)) ggX7_chosen_X7_bit
theorem dX7_chosen_0 : decode cX7_chosen 0 = .ok (.aload_n 0, 1) := by decide +kernel
theorem dX7_chosen_1 : decode cX7_chosen 1 = .ok (.getfield 41, 3) := by decide +kernel
theorem dX7_chosen_4 : decode cX7_chosen 4 = .ok (.getfield 128, 3) := by decide +kernel
theorem dX7_chosen_7 : decode cX7_chosen 7 = .ok (.iload_n 1, 1) := by decide +kernel
theorem dX7_chosen_8 : decode cX7_chosen 8 = .ok (.invokestatic 131, 3) := by decide +kernel
theorem dX7_chosen_11 : decode cX7_chosen 11 = .ok (.iand, 1) := by decide +kernel
theorem dX7_chosen_12 : decode cX7_chosen 12 = .ok (.ifCond .eq 7, 3) := by decide +kernel
theorem dX7_chosen_15 : decode cX7_chosen 15 = .ok (.iconst 1, 1) := by decide +kernel
theorem dX7_chosen_16 : decode cX7_chosen 16 = .ok (.goto 4, 3) := by decide +kernel
theorem dX7_chosen_19 : decode cX7_chosen 19 = .ok (.iconst 0, 1) := by decide +kernel
theorem dX7_chosen_20 : decode cX7_chosen 20 = .ok (.ireturn, 1) := by decide +kernel
set_option maxRecDepth 20000 in
theorem ggX7_why_X3_get : GoodIn wsX7_why wsX3_get := goodIn_ca (goodIn_r _ [6, 7, 8, 9, 10, 11, 19, 20] (by decide +kernel) (by decide +kernel)) (goodIn_sub (fun _ h => List.mem_cons_of_mem _ (List.mem_append_right _ h)) (by decide +kernel))
set_option maxRecDepth 20000 in
theorem gX7_why_X3_get : GoodIn wsX7_why (wsV RX7 135 RX3 yX3_get wsX3_get) := goodIn_app (goodIn_of _ (by decide +kernel)) ggX7_why_X3_get
theorem dX7_why_0 : decode cX7_why 0 = .ok (.aload_n 0, 1) := by decide +kernel
theorem dX7_why_1 : decode cX7_why 1 = .ok (.getfield 48, 3) := by decide +kernel
theorem dX7_why_4 : decode cX7_why 4 = .ok (.iload_n 1, 1) := by decide +kernel
theorem dX7_why_5 : decode cX7_why 5 = .ok (.invokevirtual 135, 3) := by decide +kernel
theorem dX7_why_8 : decode cX7_why 8 = .ok (.ireturn, 1) := by decide +kernel
set_option maxRecDepth 20000 in
theorem ggX7_count_X6_number : GoodIn wsX7_count wsX6_number := goodIn_ca (goodIn_r _ [13, 14, 15, 16, 17, 18, 12, 19, 20, 21, 22, 23, 24, 25, 26, 27, 28, 29, 30, 31, 32, 33, 34, 35, 36, 37, 38, 39, 40, 41, 42, 43, 44, 45, 46, 47, 48, 49, 50, 51, 52, 53, 54, 55, 56, 57, 58, 59, 60, 61, 62, 63, 64, 65, 66, 67, 68, 69, 70, 71, 72, 73, 74, 75, 76, 77, 78, 79, 80, 81, 82, 83, 84, 85, 86, 87, 88, 89, 90, 110, 111, 112, 113, 114, 115, 98, 99, 100, 101, 102, 103, 104, 105, 116, 117, 118, 119, 120, 121, 122, 123] (by decide +kernel) (by decide +kernel)) (goodIn_sub (fun _ h => List.mem_cons_of_mem _ (List.mem_append_right _ h)) (by decide +kernel))
set_option maxRecDepth 20000 in
theorem gX7_count_X6_number : GoodIn wsX7_count (wsV RX7 142 RX6 yX6_number wsX6_number) := goodIn_app (goodIn_of _ (by decide +kernel)) ggX7_count_X6_number
theorem dX7_count_0 : decode cX7_count 0 = .ok (.lload_n 1, 1) := by decide +kernel
theorem dX7_count_1 : decode cX7_count 1 = .ok (.lconst 0, 1) := by decide +kernel
theorem dX7_count_2 : decode cX7_count 2 = .ok (.lcmp, 1) := by decide +kernel
theorem dX7_count_3 : decode cX7_count 3 = .ok (.ifCond .ge 7, 3) := by decide +kernel
theorem dX7_count_6 : decode cX7_count 6 = .ok (.ldc2_w 138, 3) := by decide +kernel
theorem dX7_count_9 : decode cX7_count 9 = .ok (.lreturn, 1) := by decide +kernel
theorem dX7_count_10 : decode cX7_count 10 = .ok (.lconst 1, 1) := by decide +kernel
theorem dX7_count_11 : decode cX7_count 11 = .ok (.aload_n 0, 1) := by decide +kernel
theorem dX7_count_12 : decode cX7_count 12 = .ok (.getfield 20, 3) := by decide +kernel
theorem dX7_count_15 : decode cX7_count 15 = .ok (.getfield 58, 3) := by decide +kernel
theorem dX7_count_18 : decode cX7_count 18 = .ok (.lshl, 1) := by decide +kernel
theorem dX7_count_19 : decode cX7_count 19 = .ok (.lload_n 1, 1) := by decide +kernel
theorem dX7_count_20 : decode cX7_count 20 = .ok (.lcmp, 1) := by decide +kernel
theorem dX7_count_21 : decode cX7_count 21 = .ok (.ifCond .le 7, 3) := by decide +kernel
theorem dX7_count_24 : decode cX7_count 24 = .ok (.ldc2_w 140, 3) := by decide +kernel
theorem dX7_count_27 : decode cX7_count 27 = .ok (.lreturn, 1) := by decide +kernel
theorem dX7_count_28 : decode cX7_count 28 = .ok (.aload_n 0, 1) := by decide +kernel
theorem dX7_count_29 : decode cX7_count 29 = .ok (.getfield 10, 3) := by decide +kernel
theorem dX7_count_32 : decode cX7_count 32 = .ok (.aload_n 0, 1) := by decide +kernel
theorem dX7_count_33 : decode cX7_count 33 = .ok (.getfield 34, 3) := by decide +kernel
theorem dX7_count_36 : decode cX7_count 36 = .ok (.getfield 107, 3) := by decide +kernel
theorem dX7_count_39 : decode cX7_count 39 = .ok (.aload_n 0, 1) := by decide +kernel
theorem dX7_count_40 : decode cX7_count 40 = .ok (.getfield 34, 3) := by decide +kernel
theorem dX7_count_43 : decode cX7_count 43 = .ok (.getfield 110, 3) := by decide +kernel
theorem dX7_count_46 : decode cX7_count 46 = .ok (.invokevirtual 142, 3) := by decide +kernel
theorem dX7_count_49 : decode cX7_count 49 = .ok (.i2l, 1) := by decide +kernel
theorem dX7_count_50 : decode cX7_count 50 = .ok (.lreturn, 1) := by decide +kernel
set_option maxRecDepth 20000 in
theorem ggX7_forces_X5_has : GoodIn wsX7_forces wsX5_has := goodIn_r _ [10, 11, 117, 118, 119, 120, 121, 122, 123, 124] (by decide +kernel) (by decide +kernel)
set_option maxRecDepth 20000 in
theorem gX7_forces_X5_has : GoodIn wsX7_forces (wsV RX7 69 RX5 yX5_has wsX5_has) := goodIn_app (goodIn_of _ (by decide +kernel)) ggX7_forces_X5_has
set_option maxRecDepth 20000 in
theorem ggX7_forces_X7_bit : GoodIn wsX7_forces wsX7_bit := goodIn_r _ [15] (by decide +kernel) (by decide +kernel)
set_option maxRecDepth 20000 in
theorem gX7_forces_X7_bit : GoodIn wsX7_forces (va_wsS RX7 131 yX7_bit wsX7_bit) := goodIn_app (goodIn_of _ (by decide +kernel)) ggX7_forces_X7_bit
set_option maxRecDepth 20000 in
theorem ggX7_forces_X6_first : GoodIn wsX7_forces wsX6_first := goodIn_ca (goodIn_r _ [20, 21, 22, 23, 24, 25, 19, 26, 27, 28, 29, 30, 14, 31, 32, 33, 34, 35, 36, 37, 38, 39, 40, 9, 41, 42, 43, 44, 45, 46, 47, 13, 15, 48, 49, 50, 51, 52, 53, 54, 55, 56, 57, 11, 58, 59, 60, 61, 62, 63, 64, 65, 66, 67, 68, 69, 70, 71, 72, 73, 74, 75, 76, 77, 78, 79, 80, 81, 82, 83, 84, 85, 86, 87, 88, 89, 90, 91, 92, 125, 126, 127, 128, 129, 130, 117, 118, 119, 120, 121, 122, 123, 124, 131, 132, 133, 134, 135, 136, 137, 138] (by decide +kernel) (by decide +kernel)) (goodIn_sub (fun _ h => List.mem_cons_of_mem _ (List.mem_append_right _ h)) (by decide +kernel))
set_option maxRecDepth 20000 in
theorem gX7_forces_X6_first : GoodIn wsX7_forces (wsV RX7 113 RX6 yX6_first wsX6_first) := goodIn_app (goodIn_of _ (by decide +kernel)) ggX7_forces_X6_first
set_option maxRecDepth 20000 in
theorem ggX7_forces_X6_inAll : GoodIn wsX7_forces wsX6_inAll := goodIn_ca (goodIn_r _ [96, 21, 22, 23, 24, 25, 19, 26, 27, 28, 29, 30, 14, 31, 32, 33, 34, 35, 36, 37, 38, 39, 40, 9, 41, 42, 43, 44, 45, 46, 47, 13, 15, 48, 49, 50, 51, 52, 53, 54, 55, 56, 57, 11, 58, 59, 60, 61, 62, 63, 64, 65, 66, 67, 68, 69, 70, 71, 72, 73, 74, 75, 76, 77, 78, 79, 80, 81, 82, 83, 84, 85, 86, 87, 88, 89, 90, 91, 92, 125, 126, 127, 128, 129, 130, 117, 118, 119, 120, 121, 122, 123, 124, 131, 132, 133, 134, 135, 136, 137, 138] (by decide +kernel) (by decide +kernel)) (goodIn_sub (fun _ h => List.mem_cons_of_mem _ (List.mem_append_right _ h)) (by decide +kernel))
set_option maxRecDepth 20000 in
theorem gX7_forces_X6_inAll : GoodIn wsX7_forces (wsV RX7 145 RX6 yX6_inAll wsX6_inAll) := goodIn_app (goodIn_of _ (by decide +kernel)) ggX7_forces_X6_inAll
set_option maxRecDepth 20000 in
theorem ggX7_forces_X6_inSome : GoodIn wsX7_forces wsX6_inSome := goodIn_ca (goodIn_r _ [100, 21, 22, 23, 24, 25, 19, 26, 27, 28, 29, 30, 14, 31, 32, 33, 34, 35, 36, 37, 38, 39, 40, 9, 41, 42, 43, 44, 45, 46, 47, 13, 15, 48, 49, 50, 51, 52, 53, 54, 55, 56, 57, 11, 58, 59, 60, 61, 62, 63, 64, 65, 66, 67, 68, 69, 70, 71, 72, 73, 74, 75, 76, 77, 78, 79, 80, 81, 82, 83, 84, 85, 86, 87, 88, 89, 90, 91, 92, 125, 126, 127, 128, 129, 130, 117, 118, 119, 120, 121, 122, 123, 124, 131, 132, 133, 134, 135, 136, 137, 138] (by decide +kernel) (by decide +kernel)) (goodIn_sub (fun _ h => List.mem_cons_of_mem _ (List.mem_append_right _ h)) (by decide +kernel))
set_option maxRecDepth 20000 in
theorem gX7_forces_X6_inSome : GoodIn wsX7_forces (wsV RX7 148 RX6 yX6_inSome wsX6_inSome) := goodIn_app (goodIn_of _ (by decide +kernel)) ggX7_forces_X6_inSome
set_option maxRecDepth 20000 in
theorem ggX7_forces_X7_forced : GoodIn wsX7_forces wsX7_forced := goodIn_r _ [104, 1, 105, 12, 13, 14, 15, 106, 107, 108, 109, 110, 111, 112, 117, 118, 119, 120, 121, 122, 123, 124] (by decide +kernel) (by decide +kernel)
set_option maxRecDepth 20000 in
theorem gX7_forces_X7_forced : GoodIn wsX7_forces (wsV RX7 151 RX7 yX7_forced wsX7_forced) := goodIn_app (goodIn_of _ (by decide +kernel)) ggX7_forces_X7_forced
theorem dX7_forces_0 : decode cX7_forces 0 = .ok (.aload_n 0, 1) := by decide +kernel
theorem dX7_forces_1 : decode cX7_forces 1 = .ok (.getfield 20, 3) := by decide +kernel
theorem dX7_forces_4 : decode cX7_forces 4 = .ok (.iload_n 1, 1) := by decide +kernel
theorem dX7_forces_5 : decode cX7_forces 5 = .ok (.invokevirtual 69, 3) := by decide +kernel
theorem dX7_forces_8 : decode cX7_forces 8 = .ok (.ifCond .ne 5, 3) := by decide +kernel
theorem dX7_forces_11 : decode cX7_forces 11 = .ok (.iconst (-1), 1) := by decide +kernel
theorem dX7_forces_12 : decode cX7_forces 12 = .ok (.ireturn, 1) := by decide +kernel
theorem dX7_forces_13 : decode cX7_forces 13 = .ok (.aload_n 0, 1) := by decide +kernel
theorem dX7_forces_14 : decode cX7_forces 14 = .ok (.getfield 34, 3) := by decide +kernel
theorem dX7_forces_17 : decode cX7_forces 17 = .ok (.getfield 107, 3) := by decide +kernel
theorem dX7_forces_20 : decode cX7_forces 20 = .ok (.iload_n 1, 1) := by decide +kernel
theorem dX7_forces_21 : decode cX7_forces 21 = .ok (.invokestatic 131, 3) := by decide +kernel
theorem dX7_forces_24 : decode cX7_forces 24 = .ok (.ior, 1) := by decide +kernel
theorem dX7_forces_25 : decode cX7_forces 25 = .ok (.istore_n 3, 1) := by decide +kernel
theorem dX7_forces_26 : decode cX7_forces 26 = .ok (.aload_n 0, 1) := by decide +kernel
theorem dX7_forces_27 : decode cX7_forces 27 = .ok (.getfield 10, 3) := by decide +kernel
theorem dX7_forces_30 : decode cX7_forces 30 = .ok (.iload_n 3, 1) := by decide +kernel
theorem dX7_forces_31 : decode cX7_forces 31 = .ok (.aload_n 0, 1) := by decide +kernel
theorem dX7_forces_32 : decode cX7_forces 32 = .ok (.getfield 34, 3) := by decide +kernel
theorem dX7_forces_35 : decode cX7_forces 35 = .ok (.getfield 110, 3) := by decide +kernel
theorem dX7_forces_38 : decode cX7_forces 38 = .ok (.invokevirtual 113, 3) := by decide +kernel
theorem dX7_forces_41 : decode cX7_forces 41 = .ok (.iconst (-1), 1) := by decide +kernel
theorem dX7_forces_42 : decode cX7_forces 42 = .ok (.if_icmp .ne 5, 3) := by decide +kernel
theorem dX7_forces_45 : decode cX7_forces 45 = .ok (.iconst 0, 1) := by decide +kernel
theorem dX7_forces_46 : decode cX7_forces 46 = .ok (.ireturn, 1) := by decide +kernel
theorem dX7_forces_47 : decode cX7_forces 47 = .ok (.aload_n 0, 1) := by decide +kernel
theorem dX7_forces_48 : decode cX7_forces 48 = .ok (.getfield 10, 3) := by decide +kernel
theorem dX7_forces_51 : decode cX7_forces 51 = .ok (.iload_n 3, 1) := by decide +kernel
theorem dX7_forces_52 : decode cX7_forces 52 = .ok (.aload_n 0, 1) := by decide +kernel
theorem dX7_forces_53 : decode cX7_forces 53 = .ok (.getfield 34, 3) := by decide +kernel
theorem dX7_forces_56 : decode cX7_forces 56 = .ok (.getfield 110, 3) := by decide +kernel
theorem dX7_forces_59 : decode cX7_forces 59 = .ok (.invokevirtual 145, 3) := by decide +kernel
theorem dX7_forces_62 : decode cX7_forces 62 = .ok (.istore 4, 2) := by decide +kernel
theorem dX7_forces_64 : decode cX7_forces 64 = .ok (.aload_n 0, 1) := by decide +kernel
theorem dX7_forces_65 : decode cX7_forces 65 = .ok (.getfield 10, 3) := by decide +kernel
theorem dX7_forces_68 : decode cX7_forces 68 = .ok (.iload_n 3, 1) := by decide +kernel
theorem dX7_forces_69 : decode cX7_forces 69 = .ok (.aload_n 0, 1) := by decide +kernel
theorem dX7_forces_70 : decode cX7_forces 70 = .ok (.getfield 34, 3) := by decide +kernel
theorem dX7_forces_73 : decode cX7_forces 73 = .ok (.getfield 110, 3) := by decide +kernel
theorem dX7_forces_76 : decode cX7_forces 76 = .ok (.invokevirtual 148, 3) := by decide +kernel
theorem dX7_forces_79 : decode cX7_forces 79 = .ok (.istore 5, 2) := by decide +kernel
theorem dX7_forces_81 : decode cX7_forces 81 = .ok (.aload_n 0, 1) := by decide +kernel
theorem dX7_forces_82 : decode cX7_forces 82 = .ok (.iload 4, 2) := by decide +kernel
theorem dX7_forces_84 : decode cX7_forces 84 = .ok (.iload 5, 2) := by decide +kernel
theorem dX7_forces_86 : decode cX7_forces 86 = .ok (.iload_n 1, 1) := by decide +kernel
theorem dX7_forces_87 : decode cX7_forces 87 = .ok (.iload_n 2, 1) := by decide +kernel
theorem dX7_forces_88 : decode cX7_forces 88 = .ok (.invokevirtual 151, 3) := by decide +kernel
theorem dX7_forces_91 : decode cX7_forces 91 = .ok (.ireturn, 1) := by decide +kernel
set_option maxRecDepth 20000 in
theorem ggX7_differ_X2_has : GoodIn wsX7_differ wsX2_has := goodIn_r _ [6, 7, 30, 31, 32] (by decide +kernel) (by decide +kernel)
set_option maxRecDepth 20000 in
theorem gX7_differ_X2_has : GoodIn wsX7_differ (wsV RX7 155 RX2 yX2_has wsX2_has) := goodIn_app (goodIn_of _ (by decide +kernel)) ggX7_differ_X2_has
set_option maxRecDepth 20000 in
theorem ggX7_differ_X2_get : GoodIn wsX7_differ wsX2_get := goodIn_ca (goodIn_r _ [11, 12, 13, 14, 15, 30, 31, 32] (by decide +kernel) (by decide +kernel)) (goodIn_sub (fun _ h => List.mem_cons_of_mem _ (List.mem_append_right _ h)) (by decide +kernel))
set_option maxRecDepth 20000 in
theorem gX7_differ_X2_get : GoodIn wsX7_differ (wsV RX7 156 RX2 yX2_get wsX2_get) := goodIn_app (goodIn_of _ (by decide +kernel)) ggX7_differ_X2_get
set_option maxRecDepth 20000 in
theorem ggX7_differ_J6_bitCount_0f7a4 : GoodIn wsX7_differ wsJ6_bitCount_0f7a4 := goodIn_r _ [19, 20, 21, 22] (by decide +kernel) (by decide +kernel)
set_option maxRecDepth 20000 in
theorem gX7_differ_J6_bitCount_0f7a4 : GoodIn wsX7_differ (va_wsS RX7 157 yJ6_bitCount_0f7a4 wsJ6_bitCount_0f7a4) := goodIn_app (goodIn_of _ (by decide +kernel)) ggX7_differ_J6_bitCount_0f7a4
theorem dX7_differ_0 : decode cX7_differ 0 = .ok (.aload_n 0, 1) := by decide +kernel
theorem dX7_differ_1 : decode cX7_differ 1 = .ok (.getfield 41, 3) := by decide +kernel
theorem dX7_differ_4 : decode cX7_differ 4 = .ok (.iload_n 1, 1) := by decide +kernel
theorem dX7_differ_5 : decode cX7_differ 5 = .ok (.invokevirtual 155, 3) := by decide +kernel
theorem dX7_differ_8 : decode cX7_differ 8 = .ok (.ifCond .eq 14, 3) := by decide +kernel
theorem dX7_differ_11 : decode cX7_differ 11 = .ok (.aload_n 0, 1) := by decide +kernel
theorem dX7_differ_12 : decode cX7_differ 12 = .ok (.getfield 41, 3) := by decide +kernel
theorem dX7_differ_15 : decode cX7_differ 15 = .ok (.iload_n 2, 1) := by decide +kernel
theorem dX7_differ_16 : decode cX7_differ 16 = .ok (.invokevirtual 155, 3) := by decide +kernel
theorem dX7_differ_19 : decode cX7_differ 19 = .ok (.ifCond .ne 5, 3) := by decide +kernel
theorem dX7_differ_22 : decode cX7_differ 22 = .ok (.iconst (-1), 1) := by decide +kernel
theorem dX7_differ_23 : decode cX7_differ 23 = .ok (.ireturn, 1) := by decide +kernel
theorem dX7_differ_24 : decode cX7_differ 24 = .ok (.aload_n 0, 1) := by decide +kernel
theorem dX7_differ_25 : decode cX7_differ 25 = .ok (.getfield 41, 3) := by decide +kernel
theorem dX7_differ_28 : decode cX7_differ 28 = .ok (.iload_n 1, 1) := by decide +kernel
theorem dX7_differ_29 : decode cX7_differ 29 = .ok (.invokevirtual 156, 3) := by decide +kernel
theorem dX7_differ_32 : decode cX7_differ 32 = .ok (.aload_n 0, 1) := by decide +kernel
theorem dX7_differ_33 : decode cX7_differ 33 = .ok (.getfield 41, 3) := by decide +kernel
theorem dX7_differ_36 : decode cX7_differ 36 = .ok (.iload_n 2, 1) := by decide +kernel
theorem dX7_differ_37 : decode cX7_differ 37 = .ok (.invokevirtual 156, 3) := by decide +kernel
theorem dX7_differ_40 : decode cX7_differ 40 = .ok (.ixor, 1) := by decide +kernel
theorem dX7_differ_41 : decode cX7_differ 41 = .ok (.invokestatic 157, 3) := by decide +kernel
theorem dX7_differ_44 : decode cX7_differ 44 = .ok (.ireturn, 1) := by decide +kernel
set_option maxRecDepth 20000 in
theorem ggX7_level_X5_above : GoodIn wsX7_level wsX5_above := goodIn_ca (goodIn_r _ [10, 11, 12, 13, 14, 22, 23, 24, 25, 26, 27, 28, 29] (by decide +kernel) (by decide +kernel)) (goodIn_sub (fun _ h => List.mem_cons_of_mem _ (List.mem_append_right _ h)) (by decide +kernel))
set_option maxRecDepth 20000 in
theorem gX7_level_X5_above : GoodIn wsX7_level (wsV RX7 165 RX5 yX5_above wsX5_above) := goodIn_app (goodIn_of _ (by decide +kernel)) ggX7_level_X5_above
theorem dX7_level_0 : decode cX7_level 0 = .ok (.iload_n 1, 1) := by decide +kernel
theorem dX7_level_1 : decode cX7_level 1 = .ok (.ifCond .lt 14, 3) := by decide +kernel
theorem dX7_level_4 : decode cX7_level 4 = .ok (.iload_n 1, 1) := by decide +kernel
theorem dX7_level_5 : decode cX7_level 5 = .ok (.aload_n 0, 1) := by decide +kernel
theorem dX7_level_6 : decode cX7_level 6 = .ok (.getfield 20, 3) := by decide +kernel
theorem dX7_level_9 : decode cX7_level 9 = .ok (.getfield 58, 3) := by decide +kernel
theorem dX7_level_12 : decode cX7_level 12 = .ok (.if_icmp .lt 11, 3) := by decide +kernel
theorem dX7_level_15 : decode cX7_level 15 = .ok (.new 162, 3) := by decide +kernel
theorem dX7_level_18 : decode cX7_level 18 = .ok (.dup, 1) := by decide +kernel
theorem dX7_level_19 : decode cX7_level 19 = .ok (.invokespecial 164, 3) := by decide +kernel
theorem dX7_level_22 : decode cX7_level 22 = .ok (.athrow, 1) := by decide +kernel
theorem dX7_level_23 : decode cX7_level 23 = .ok (.aload_n 0, 1) := by decide +kernel
theorem dX7_level_24 : decode cX7_level 24 = .ok (.getfield 20, 3) := by decide +kernel
theorem dX7_level_27 : decode cX7_level 27 = .ok (.iload_n 1, 1) := by decide +kernel
theorem dX7_level_28 : decode cX7_level 28 = .ok (.iconst 1, 1) := by decide +kernel
theorem dX7_level_29 : decode cX7_level 29 = .ok (.iadd, 1) := by decide +kernel
theorem dX7_level_30 : decode cX7_level 30 = .ok (.invokevirtual 165, 3) := by decide +kernel
theorem dX7_level_33 : decode cX7_level 33 = .ok (.ireturn, 1) := by decide +kernel
set_option maxRecDepth 20000 in
theorem ggX7_forced_X7_bit : GoodIn wsX7_forced wsX7_bit := goodIn_r _ [6] (by decide +kernel) (by decide +kernel)
set_option maxRecDepth 20000 in
theorem gX7_forced_X7_bit : GoodIn wsX7_forced (va_wsS RX7 131 yX7_bit wsX7_bit) := goodIn_app (goodIn_of _ (by decide +kernel)) ggX7_forced_X7_bit
theorem dX7_forced_0 : decode cX7_forced 0 = .ok (.iconst 0, 1) := by decide +kernel
theorem dX7_forced_1 : decode cX7_forced 1 = .ok (.istore 5, 2) := by decide +kernel
theorem dX7_forced_3 : decode cX7_forced 3 = .ok (.iconst 1, 1) := by decide +kernel
theorem dX7_forced_4 : decode cX7_forced 4 = .ok (.istore 6, 2) := by decide +kernel
theorem dX7_forced_6 : decode cX7_forced 6 = .ok (.iload 6, 2) := by decide +kernel
theorem dX7_forced_8 : decode cX7_forced 8 = .ok (.aload_n 0, 1) := by decide +kernel
theorem dX7_forced_9 : decode cX7_forced 9 = .ok (.getfield 20, 3) := by decide +kernel
theorem dX7_forced_12 : decode cX7_forced 12 = .ok (.getfield 58, 3) := by decide +kernel
theorem dX7_forced_15 : decode cX7_forced 15 = .ok (.if_icmp .gt 83, 3) := by decide +kernel
theorem dX7_forced_18 : decode cX7_forced 18 = .ok (.iload_n 1, 1) := by decide +kernel
theorem dX7_forced_19 : decode cX7_forced 19 = .ok (.iload 6, 2) := by decide +kernel
theorem dX7_forced_21 : decode cX7_forced 21 = .ok (.invokestatic 131, 3) := by decide +kernel
theorem dX7_forced_24 : decode cX7_forced 24 = .ok (.iand, 1) := by decide +kernel
theorem dX7_forced_25 : decode cX7_forced 25 = .ok (.ifCond .eq 7, 3) := by decide +kernel
theorem dX7_forced_28 : decode cX7_forced 28 = .ok (.iconst 1, 1) := by decide +kernel
theorem dX7_forced_29 : decode cX7_forced 29 = .ok (.goto 4, 3) := by decide +kernel
theorem dX7_forced_32 : decode cX7_forced 32 = .ok (.iconst 0, 1) := by decide +kernel
theorem dX7_forced_33 : decode cX7_forced 33 = .ok (.istore 7, 2) := by decide +kernel
theorem dX7_forced_35 : decode cX7_forced 35 = .ok (.iload_n 2, 1) := by decide +kernel
theorem dX7_forced_36 : decode cX7_forced 36 = .ok (.iload 6, 2) := by decide +kernel
theorem dX7_forced_38 : decode cX7_forced 38 = .ok (.invokestatic 131, 3) := by decide +kernel
theorem dX7_forced_41 : decode cX7_forced 41 = .ok (.iand, 1) := by decide +kernel
theorem dX7_forced_42 : decode cX7_forced 42 = .ok (.ifCond .ne 7, 3) := by decide +kernel
theorem dX7_forced_45 : decode cX7_forced 45 = .ok (.iconst 1, 1) := by decide +kernel
theorem dX7_forced_46 : decode cX7_forced 46 = .ok (.goto 4, 3) := by decide +kernel
theorem dX7_forced_49 : decode cX7_forced 49 = .ok (.iconst 0, 1) := by decide +kernel
theorem dX7_forced_50 : decode cX7_forced 50 = .ok (.istore 8, 2) := by decide +kernel
theorem dX7_forced_52 : decode cX7_forced 52 = .ok (.iload 6, 2) := by decide +kernel
theorem dX7_forced_54 : decode cX7_forced 54 = .ok (.iload_n 3, 1) := by decide +kernel
theorem dX7_forced_55 : decode cX7_forced 55 = .ok (.if_icmp .eq 37, 3) := by decide +kernel
theorem dX7_forced_58 : decode cX7_forced 58 = .ok (.iload 7, 2) := by decide +kernel
theorem dX7_forced_60 : decode cX7_forced 60 = .ok (.ifCond .ne 8, 3) := by decide +kernel
theorem dX7_forced_63 : decode cX7_forced 63 = .ok (.iload 8, 2) := by decide +kernel
theorem dX7_forced_65 : decode cX7_forced 65 = .ok (.ifCond .eq 27, 3) := by decide +kernel
theorem dX7_forced_68 : decode cX7_forced 68 = .ok (.iload 5, 2) := by decide +kernel
theorem dX7_forced_70 : decode cX7_forced 70 = .ok (.iload 4, 2) := by decide +kernel
theorem dX7_forced_72 : decode cX7_forced 72 = .ok (.if_icmp .ne 17, 3) := by decide +kernel
theorem dX7_forced_75 : decode cX7_forced 75 = .ok (.iload 7, 2) := by decide +kernel
theorem dX7_forced_77 : decode cX7_forced 77 = .ok (.ifCond .eq 8, 3) := by decide +kernel
theorem dX7_forced_80 : decode cX7_forced 80 = .ok (.iload 6, 2) := by decide +kernel
theorem dX7_forced_82 : decode cX7_forced 82 = .ok (.goto 6, 3) := by decide +kernel
theorem dX7_forced_85 : decode cX7_forced 85 = .ok (.iload 6, 2) := by decide +kernel
theorem dX7_forced_87 : decode cX7_forced 87 = .ok (.ineg, 1) := by decide +kernel
theorem dX7_forced_88 : decode cX7_forced 88 = .ok (.ireturn, 1) := by decide +kernel
theorem dX7_forced_89 : decode cX7_forced 89 = .ok (.iinc 5 1, 3) := by decide +kernel
theorem dX7_forced_92 : decode cX7_forced 92 = .ok (.iinc 6 1, 3) := by decide +kernel
theorem dX7_forced_95 : decode cX7_forced 95 = .ok (.goto (-89), 3) := by decide +kernel
theorem dX7_forced_98 : decode cX7_forced 98 = .ok (.iconst 0, 1) := by decide +kernel
theorem dX7_forced_99 : decode cX7_forced 99 = .ok (.ireturn, 1) := by decide +kernel
set_option maxRecDepth 20000 in
theorem ggX7_explain_X0_get : GoodIn wsX7_explain wsX0_get := goodIn_ca (goodIn_r _ [11, 12, 13, 14, 15, 110, 111, 112, 113] (by decide +kernel) (by decide +kernel)) (goodIn_sub (fun _ h => List.mem_cons_of_mem _ (List.mem_append_right _ h)) (by decide +kernel))
set_option maxRecDepth 20000 in
theorem gX7_explain_X0_get : GoodIn wsX7_explain (wsV RX7 168 RX0 yX0_get wsX0_get) := goodIn_app (goodIn_of _ (by decide +kernel)) ggX7_explain_X0_get
set_option maxRecDepth 20000 in
theorem ggX7_explain_X7_bit : GoodIn wsX7_explain wsX7_bit := goodIn_r _ [18] (by decide +kernel) (by decide +kernel)
set_option maxRecDepth 20000 in
theorem gX7_explain_X7_bit : GoodIn wsX7_explain (va_wsS RX7 131 yX7_bit wsX7_bit) := goodIn_app (goodIn_of _ (by decide +kernel)) ggX7_explain_X7_bit
set_option maxRecDepth 20000 in
theorem ggX7_explain_X6_first : GoodIn wsX7_explain wsX6_first := goodIn_ca (goodIn_r _ [23, 24, 25, 26, 27, 28, 22, 29, 30, 31, 32, 33, 14, 34, 35, 36, 37, 38, 13, 15, 39, 40, 41, 42, 43, 44, 45, 46, 47, 48, 49, 17, 18, 50, 51, 52, 53, 54, 55, 56, 57, 58, 59, 60, 61, 62, 63, 64, 65, 66, 67, 68, 69, 70, 71, 72, 73, 74, 75, 76, 77, 78, 79, 80, 81, 82, 83, 84, 85, 86, 87, 88, 89, 90, 91, 92, 93, 94, 95, 114, 115, 116, 117, 118, 119, 120, 121, 122, 123, 124, 125, 126, 127, 128, 129, 130, 131, 132, 133, 134, 135] (by decide +kernel) (by decide +kernel)) (goodIn_sub (fun _ h => List.mem_cons_of_mem _ (List.mem_append_right _ h)) (by decide +kernel))
set_option maxRecDepth 20000 in
theorem gX7_explain_X6_first : GoodIn wsX7_explain (wsV RX7 113 RX6 yX6_first wsX6_first) := goodIn_app (goodIn_of _ (by decide +kernel)) ggX7_explain_X6_first
set_option maxRecDepth 20000 in
theorem ggX7_explain_X3_add : GoodIn wsX7_explain wsX3_add := goodIn_ca (goodIn_r _ [100, 101, 102, 33, 14, 34, 136, 137] (by decide +kernel) (by decide +kernel)) (goodIn_sub (fun _ h => List.mem_cons_of_mem _ (List.mem_append_right _ h)) (by decide +kernel))
set_option maxRecDepth 20000 in
theorem gX7_explain_X3_add : GoodIn wsX7_explain (wsV RX7 169 RX3 yX3_add wsX3_add) := goodIn_app (goodIn_of _ (by decide +kernel)) ggX7_explain_X3_add
theorem dX7_explain_0 : decode cX7_explain 0 = .ok (.aload_n 0, 1) := by decide +kernel
theorem dX7_explain_1 : decode cX7_explain 1 = .ok (.getfield 34, 3) := by decide +kernel
theorem dX7_explain_4 : decode cX7_explain 4 = .ok (.getfield 107, 3) := by decide +kernel
theorem dX7_explain_7 : decode cX7_explain 7 = .ok (.istore_n 1, 1) := by decide +kernel
theorem dX7_explain_8 : decode cX7_explain 8 = .ok (.aload_n 0, 1) := by decide +kernel
theorem dX7_explain_9 : decode cX7_explain 9 = .ok (.getfield 34, 3) := by decide +kernel
theorem dX7_explain_12 : decode cX7_explain 12 = .ok (.getfield 110, 3) := by decide +kernel
theorem dX7_explain_15 : decode cX7_explain 15 = .ok (.istore_n 2, 1) := by decide +kernel
theorem dX7_explain_16 : decode cX7_explain 16 = .ok (.iconst 0, 1) := by decide +kernel
theorem dX7_explain_17 : decode cX7_explain 17 = .ok (.istore_n 3, 1) := by decide +kernel
theorem dX7_explain_18 : decode cX7_explain 18 = .ok (.iload_n 3, 1) := by decide +kernel
theorem dX7_explain_19 : decode cX7_explain 19 = .ok (.aload_n 0, 1) := by decide +kernel
theorem dX7_explain_20 : decode cX7_explain 20 = .ok (.getfield 34, 3) := by decide +kernel
theorem dX7_explain_23 : decode cX7_explain 23 = .ok (.getfield 106, 3) := by decide +kernel
theorem dX7_explain_26 : decode cX7_explain 26 = .ok (.if_icmp .ge 75, 3) := by decide +kernel
theorem dX7_explain_29 : decode cX7_explain 29 = .ok (.aload_n 0, 1) := by decide +kernel
theorem dX7_explain_30 : decode cX7_explain 30 = .ok (.getfield 34, 3) := by decide +kernel
theorem dX7_explain_33 : decode cX7_explain 33 = .ok (.iload_n 3, 1) := by decide +kernel
theorem dX7_explain_34 : decode cX7_explain 34 = .ok (.invokevirtual 168, 3) := by decide +kernel
theorem dX7_explain_37 : decode cX7_explain 37 = .ok (.istore 4, 2) := by decide +kernel
theorem dX7_explain_39 : decode cX7_explain 39 = .ok (.iload_n 1, 1) := by decide +kernel
theorem dX7_explain_40 : decode cX7_explain 40 = .ok (.iload 4, 2) := by decide +kernel
theorem dX7_explain_42 : decode cX7_explain 42 = .ok (.invokestatic 131, 3) := by decide +kernel
theorem dX7_explain_45 : decode cX7_explain 45 = .ok (.iconst (-1), 1) := by decide +kernel
theorem dX7_explain_46 : decode cX7_explain 46 = .ok (.ixor, 1) := by decide +kernel
theorem dX7_explain_47 : decode cX7_explain 47 = .ok (.iand, 1) := by decide +kernel
theorem dX7_explain_48 : decode cX7_explain 48 = .ok (.istore 5, 2) := by decide +kernel
theorem dX7_explain_50 : decode cX7_explain 50 = .ok (.iload_n 2, 1) := by decide +kernel
theorem dX7_explain_51 : decode cX7_explain 51 = .ok (.iload 4, 2) := by decide +kernel
theorem dX7_explain_53 : decode cX7_explain 53 = .ok (.ineg, 1) := by decide +kernel
theorem dX7_explain_54 : decode cX7_explain 54 = .ok (.invokestatic 131, 3) := by decide +kernel
theorem dX7_explain_57 : decode cX7_explain 57 = .ok (.iconst (-1), 1) := by decide +kernel
theorem dX7_explain_58 : decode cX7_explain 58 = .ok (.ixor, 1) := by decide +kernel
theorem dX7_explain_59 : decode cX7_explain 59 = .ok (.iand, 1) := by decide +kernel
theorem dX7_explain_60 : decode cX7_explain 60 = .ok (.istore 6, 2) := by decide +kernel
theorem dX7_explain_62 : decode cX7_explain 62 = .ok (.aload_n 0, 1) := by decide +kernel
theorem dX7_explain_63 : decode cX7_explain 63 = .ok (.getfield 10, 3) := by decide +kernel
theorem dX7_explain_66 : decode cX7_explain 66 = .ok (.iload 5, 2) := by decide +kernel
theorem dX7_explain_68 : decode cX7_explain 68 = .ok (.iload 6, 2) := by decide +kernel
theorem dX7_explain_70 : decode cX7_explain 70 = .ok (.invokevirtual 113, 3) := by decide +kernel
theorem dX7_explain_73 : decode cX7_explain 73 = .ok (.iconst (-1), 1) := by decide +kernel
theorem dX7_explain_74 : decode cX7_explain 74 = .ok (.if_icmp .ne 12, 3) := by decide +kernel
theorem dX7_explain_77 : decode cX7_explain 77 = .ok (.iload 5, 2) := by decide +kernel
theorem dX7_explain_79 : decode cX7_explain 79 = .ok (.istore_n 1, 1) := by decide +kernel
theorem dX7_explain_80 : decode cX7_explain 80 = .ok (.iload 6, 2) := by decide +kernel
theorem dX7_explain_82 : decode cX7_explain 82 = .ok (.istore_n 2, 1) := by decide +kernel
theorem dX7_explain_83 : decode cX7_explain 83 = .ok (.goto 12, 3) := by decide +kernel
theorem dX7_explain_86 : decode cX7_explain 86 = .ok (.aload_n 0, 1) := by decide +kernel
theorem dX7_explain_87 : decode cX7_explain 87 = .ok (.getfield 48, 3) := by decide +kernel
theorem dX7_explain_90 : decode cX7_explain 90 = .ok (.iload 4, 2) := by decide +kernel
theorem dX7_explain_92 : decode cX7_explain 92 = .ok (.invokevirtual 169, 3) := by decide +kernel
theorem dX7_explain_95 : decode cX7_explain 95 = .ok (.iinc 3 1, 3) := by decide +kernel
theorem dX7_explain_98 : decode cX7_explain 98 = .ok (.goto (-80), 3) := by decide +kernel
theorem dX7_explain_101 : decode cX7_explain 101 = .ok (.return_, 1) := by decide +kernel
theorem dX7_bit_0 : decode cX7_bit 0 = .ok (.iload_n 0, 1) := by decide +kernel
theorem dX7_bit_1 : decode cX7_bit 1 = .ok (.iconst 1, 1) := by decide +kernel
theorem dX7_bit_2 : decode cX7_bit 2 = .ok (.if_icmp .lt 18, 3) := by decide +kernel
theorem dX7_bit_5 : decode cX7_bit 5 = .ok (.iload_n 0, 1) := by decide +kernel
theorem dX7_bit_6 : decode cX7_bit 6 = .ok (.bipush 14, 2) := by decide +kernel
theorem dX7_bit_8 : decode cX7_bit 8 = .ok (.if_icmp .gt 12, 3) := by decide +kernel
theorem dX7_bit_11 : decode cX7_bit 11 = .ok (.iconst 1, 1) := by decide +kernel
theorem dX7_bit_12 : decode cX7_bit 12 = .ok (.bipush 14, 2) := by decide +kernel
theorem dX7_bit_14 : decode cX7_bit 14 = .ok (.iload_n 0, 1) := by decide +kernel
theorem dX7_bit_15 : decode cX7_bit 15 = .ok (.isub, 1) := by decide +kernel
theorem dX7_bit_16 : decode cX7_bit 16 = .ok (.ishl, 1) := by decide +kernel
theorem dX7_bit_17 : decode cX7_bit 17 = .ok (.goto 4, 3) := by decide +kernel
theorem dX7_bit_20 : decode cX7_bit 20 = .ok (.iconst 0, 1) := by decide +kernel
theorem dX7_bit_21 : decode cX7_bit 21 = .ok (.ireturn, 1) := by decide +kernel
theorem dX7_at_0 : decode cX7_at 0 = .ok (.iload_n 1, 1) := by decide +kernel
theorem dX7_at_1 : decode cX7_at 1 = .ok (.ifCond .lt 15, 3) := by decide +kernel
theorem dX7_at_4 : decode cX7_at 4 = .ok (.iload_n 1, 1) := by decide +kernel
theorem dX7_at_5 : decode cX7_at 5 = .ok (.aload_n 0, 1) := by decide +kernel
theorem dX7_at_6 : decode cX7_at 6 = .ok (.arraylength, 1) := by decide +kernel
theorem dX7_at_7 : decode cX7_at 7 = .ok (.if_icmp .ge 9, 3) := by decide +kernel
theorem dX7_at_10 : decode cX7_at 10 = .ok (.aload_n 0, 1) := by decide +kernel
theorem dX7_at_11 : decode cX7_at 11 = .ok (.iload_n 1, 1) := by decide +kernel
theorem dX7_at_12 : decode cX7_at 12 = .ok (.iaload, 1) := by decide +kernel
theorem dX7_at_13 : decode cX7_at 13 = .ok (.goto 4, 3) := by decide +kernel
theorem dX7_at_16 : decode cX7_at 16 = .ok (.iconst 0, 1) := by decide +kernel
theorem dX7_at_17 : decode cX7_at 17 = .ok (.ireturn, 1) := by decide +kernel
theorem dX7_put_0 : decode cX7_put 0 = .ok (.iload_n 1, 1) := by decide +kernel
theorem dX7_put_1 : decode cX7_put 1 = .ok (.ifCond .lt 13, 3) := by decide +kernel
theorem dX7_put_4 : decode cX7_put 4 = .ok (.iload_n 1, 1) := by decide +kernel
theorem dX7_put_5 : decode cX7_put 5 = .ok (.aload_n 0, 1) := by decide +kernel
theorem dX7_put_6 : decode cX7_put 6 = .ok (.arraylength, 1) := by decide +kernel
theorem dX7_put_7 : decode cX7_put 7 = .ok (.if_icmp .ge 7, 3) := by decide +kernel
theorem dX7_put_10 : decode cX7_put 10 = .ok (.aload_n 0, 1) := by decide +kernel
theorem dX7_put_11 : decode cX7_put 11 = .ok (.iload_n 1, 1) := by decide +kernel
theorem dX7_put_12 : decode cX7_put 12 = .ok (.iload_n 2, 1) := by decide +kernel
theorem dX7_put_13 : decode cX7_put 13 = .ok (.iastore, 1) := by decide +kernel
theorem dX7_put_14 : decode cX7_put 14 = .ok (.return_, 1) := by decide +kernel
end
section
theorem dX8_init_0 : decode cX8_init 0 = .ok (.aload_n 0, 1) := by decide +kernel
theorem dX8_init_1 : decode cX8_init 1 = .ok (.invokespecial 1, 3) := by decide +kernel
theorem dX8_init_4 : decode cX8_init 4 = .ok (.aload_n 0, 1) := by decide +kernel
theorem dX8_init_5 : decode cX8_init 5 = .ok (.bipush 15, 2) := by decide +kernel
theorem dX8_init_7 : decode cX8_init 7 = .ok (.newarray .int, 2) := by decide +kernel
theorem dX8_init_9 : decode cX8_init 9 = .ok (.putfield 7, 3) := by decide +kernel
theorem dX8_init_12 : decode cX8_init 12 = .ok (.aload_n 0, 1) := by decide +kernel
theorem dX8_init_13 : decode cX8_init 13 = .ok (.bipush 15, 2) := by decide +kernel
theorem dX8_init_15 : decode cX8_init 15 = .ok (.newarray .int, 2) := by decide +kernel
theorem dX8_init_17 : decode cX8_init 17 = .ok (.putfield 13, 3) := by decide +kernel
theorem dX8_init_20 : decode cX8_init 20 = .ok (.aload_n 0, 1) := by decide +kernel
theorem dX8_init_21 : decode cX8_init 21 = .ok (.bipush 15, 2) := by decide +kernel
theorem dX8_init_23 : decode cX8_init 23 = .ok (.newarray .boolean, 2) := by decide +kernel
theorem dX8_init_25 : decode cX8_init 25 = .ok (.putfield 16, 3) := by decide +kernel
theorem dX8_init_28 : decode cX8_init 28 = .ok (.aload_n 0, 1) := by decide +kernel
theorem dX8_init_29 : decode cX8_init 29 = .ok (.bipush 15, 2) := by decide +kernel
theorem dX8_init_31 : decode cX8_init 31 = .ok (.newarray .int, 2) := by decide +kernel
theorem dX8_init_33 : decode cX8_init 33 = .ok (.putfield 20, 3) := by decide +kernel
theorem dX8_init_36 : decode cX8_init 36 = .ok (.aload_n 0, 1) := by decide +kernel
theorem dX8_init_37 : decode cX8_init 37 = .ok (.bipush 15, 2) := by decide +kernel
theorem dX8_init_39 : decode cX8_init 39 = .ok (.newarray .int, 2) := by decide +kernel
theorem dX8_init_41 : decode cX8_init 41 = .ok (.putfield 23, 3) := by decide +kernel
theorem dX8_init_44 : decode cX8_init 44 = .ok (.aload_n 0, 1) := by decide +kernel
theorem dX8_init_45 : decode cX8_init 45 = .ok (.bipush 60, 2) := by decide +kernel
theorem dX8_init_47 : decode cX8_init 47 = .ok (.newarray .int, 2) := by decide +kernel
theorem dX8_init_49 : decode cX8_init 49 = .ok (.putfield 26, 3) := by decide +kernel
theorem dX8_init_52 : decode cX8_init 52 = .ok (.aload_n 0, 1) := by decide +kernel
theorem dX8_init_53 : decode cX8_init 53 = .ok (.bipush 40, 2) := by decide +kernel
theorem dX8_init_55 : decode cX8_init 55 = .ok (.newarray .int, 2) := by decide +kernel
theorem dX8_init_57 : decode cX8_init 57 = .ok (.putfield 29, 3) := by decide +kernel
theorem dX8_init_60 : decode cX8_init 60 = .ok (.aload_n 0, 1) := by decide +kernel
theorem dX8_init_61 : decode cX8_init 61 = .ok (.bipush 40, 2) := by decide +kernel
theorem dX8_init_63 : decode cX8_init 63 = .ok (.newarray .int, 2) := by decide +kernel
theorem dX8_init_65 : decode cX8_init 65 = .ok (.putfield 32, 3) := by decide +kernel
theorem dX8_init_68 : decode cX8_init 68 = .ok (.aload_n 0, 1) := by decide +kernel
theorem dX8_init_69 : decode cX8_init 69 = .ok (.bipush 40, 2) := by decide +kernel
theorem dX8_init_71 : decode cX8_init 71 = .ok (.newarray .int, 2) := by decide +kernel
theorem dX8_init_73 : decode cX8_init 73 = .ok (.putfield 35, 3) := by decide +kernel
theorem dX8_init_76 : decode cX8_init 76 = .ok (.aload_n 0, 1) := by decide +kernel
theorem dX8_init_77 : decode cX8_init 77 = .ok (.iconst 4, 1) := by decide +kernel
theorem dX8_init_78 : decode cX8_init 78 = .ok (.newarray .boolean, 2) := by decide +kernel
theorem dX8_init_80 : decode cX8_init 80 = .ok (.putfield 38, 3) := by decide +kernel
theorem dX8_init_83 : decode cX8_init 83 = .ok (.aload_n 0, 1) := by decide +kernel
theorem dX8_init_84 : decode cX8_init 84 = .ok (.iconst 4, 1) := by decide +kernel
theorem dX8_init_85 : decode cX8_init 85 = .ok (.newarray .int, 2) := by decide +kernel
theorem dX8_init_87 : decode cX8_init 87 = .ok (.putfield 41, 3) := by decide +kernel
theorem dX8_init_90 : decode cX8_init 90 = .ok (.aload_n 0, 1) := by decide +kernel
theorem dX8_init_91 : decode cX8_init 91 = .ok (.bipush 14, 2) := by decide +kernel
theorem dX8_init_93 : decode cX8_init 93 = .ok (.newarray .int, 2) := by decide +kernel
theorem dX8_init_95 : decode cX8_init 95 = .ok (.putfield 44, 3) := by decide +kernel
theorem dX8_init_98 : decode cX8_init 98 = .ok (.aload_n 0, 1) := by decide +kernel
theorem dX8_init_99 : decode cX8_init 99 = .ok (.sipush 16384, 3) := by decide +kernel
theorem dX8_init_102 : decode cX8_init 102 = .ok (.newarray .int, 2) := by decide +kernel
theorem dX8_init_104 : decode cX8_init 104 = .ok (.putfield 47, 3) := by decide +kernel
theorem dX8_init_107 : decode cX8_init 107 = .ok (.aload_n 0, 1) := by decide +kernel
theorem dX8_init_108 : decode cX8_init 108 = .ok (.sipush 201, 3) := by decide +kernel
theorem dX8_init_111 : decode cX8_init 111 = .ok (.newarray .int, 2) := by decide +kernel
theorem dX8_init_113 : decode cX8_init 113 = .ok (.putfield 50, 3) := by decide +kernel
theorem dX8_init_116 : decode cX8_init 116 = .ok (.aload_n 0, 1) := by decide +kernel
theorem dX8_init_117 : decode cX8_init 117 = .ok (.sipush 201, 3) := by decide +kernel
theorem dX8_init_120 : decode cX8_init 120 = .ok (.newarray .int, 2) := by decide +kernel
theorem dX8_init_122 : decode cX8_init 122 = .ok (.putfield 53, 3) := by decide +kernel
theorem dX8_init_125 : decode cX8_init 125 = .ok (.aload_n 0, 1) := by decide +kernel
theorem dX8_init_126 : decode cX8_init 126 = .ok (.bipush 14, 2) := by decide +kernel
theorem dX8_init_128 : decode cX8_init 128 = .ok (.newarray .int, 2) := by decide +kernel
theorem dX8_init_130 : decode cX8_init 130 = .ok (.putfield 56, 3) := by decide +kernel
theorem dX8_init_133 : decode cX8_init 133 = .ok (.return_, 1) := by decide +kernel
theorem dX8_thrown_0 : decode cX8_thrown 0 = .ok (.aload_n 0, 1) := by decide +kernel
theorem dX8_thrown_1 : decode cX8_thrown 1 = .ok (.getfield 59, 3) := by decide +kernel
theorem dX8_thrown_4 : decode cX8_thrown 4 = .ok (.ireturn, 1) := by decide +kernel
theorem dX8_isFeature_0 : decode cX8_isFeature 0 = .ok (.iload_n 1, 1) := by decide +kernel
theorem dX8_isFeature_1 : decode cX8_isFeature 1 = .ok (.iconst 1, 1) := by decide +kernel
theorem dX8_isFeature_2 : decode cX8_isFeature 2 = .ok (.if_icmp .lt 15, 3) := by decide +kernel
theorem dX8_isFeature_5 : decode cX8_isFeature 5 = .ok (.iload_n 1, 1) := by decide +kernel
theorem dX8_isFeature_6 : decode cX8_isFeature 6 = .ok (.aload_n 0, 1) := by decide +kernel
theorem dX8_isFeature_7 : decode cX8_isFeature 7 = .ok (.getfield 63, 3) := by decide +kernel
theorem dX8_isFeature_10 : decode cX8_isFeature 10 = .ok (.if_icmp .gt 7, 3) := by decide +kernel
theorem dX8_isFeature_13 : decode cX8_isFeature 13 = .ok (.iconst 1, 1) := by decide +kernel
theorem dX8_isFeature_14 : decode cX8_isFeature 14 = .ok (.goto 4, 3) := by decide +kernel
theorem dX8_isFeature_17 : decode cX8_isFeature 17 = .ok (.iconst 0, 1) := by decide +kernel
theorem dX8_isFeature_18 : decode cX8_isFeature 18 = .ok (.ireturn, 1) := by decide +kernel
set_option maxRecDepth 20000 in
theorem ggX8_feature_X8_isFeature : GoodIn wsX8_feature wsX8_isFeature := goodIn_r _ [10, 2, 11, 12, 13, 14, 15, 16, 17, 18, 19, 20, 21, 22, 23, 24, 25, 26, 27, 28, 29, 30, 31, 32, 33, 34, 35, 36, 37] (by decide +kernel) (by decide +kernel)
set_option maxRecDepth 20000 in
theorem gX8_feature_X8_isFeature : GoodIn wsX8_feature (wsV RX8 66 RX8 yX8_isFeature wsX8_isFeature) := goodIn_app (goodIn_of _ (by decide +kernel)) ggX8_feature_X8_isFeature
theorem dX8_feature_0 : decode cX8_feature 0 = .ok (.aload_n 0, 1) := by decide +kernel
theorem dX8_feature_1 : decode cX8_feature 1 = .ok (.iconst 0, 1) := by decide +kernel
theorem dX8_feature_2 : decode cX8_feature 2 = .ok (.putfield 59, 3) := by decide +kernel
theorem dX8_feature_5 : decode cX8_feature 5 = .ok (.aload_n 0, 1) := by decide +kernel
theorem dX8_feature_6 : decode cX8_feature 6 = .ok (.getfield 63, 3) := by decide +kernel
theorem dX8_feature_9 : decode cX8_feature 9 = .ok (.ifCond .ne 10, 3) := by decide +kernel
theorem dX8_feature_12 : decode cX8_feature 12 = .ok (.iload_n 1, 1) := by decide +kernel
theorem dX8_feature_13 : decode cX8_feature 13 = .ok (.ifCond .eq 16, 3) := by decide +kernel
theorem dX8_feature_16 : decode cX8_feature 16 = .ok (.goto 11, 3) := by decide +kernel
theorem dX8_feature_19 : decode cX8_feature 19 = .ok (.aload_n 0, 1) := by decide +kernel
theorem dX8_feature_20 : decode cX8_feature 20 = .ok (.iload_n 1, 1) := by decide +kernel
theorem dX8_feature_21 : decode cX8_feature 21 = .ok (.invokevirtual 66, 3) := by decide +kernel
theorem dX8_feature_24 : decode cX8_feature 24 = .ok (.ifCond .ne 5, 3) := by decide +kernel
theorem dX8_feature_27 : decode cX8_feature 27 = .ok (.iconst (-1), 1) := by decide +kernel
theorem dX8_feature_28 : decode cX8_feature 28 = .ok (.ireturn, 1) := by decide +kernel
theorem dX8_feature_29 : decode cX8_feature 29 = .ok (.iload_n 2, 1) := by decide +kernel
theorem dX8_feature_30 : decode cX8_feature 30 = .ok (.ifCond .lt 8, 3) := by decide +kernel
theorem dX8_feature_33 : decode cX8_feature 33 = .ok (.iload_n 2, 1) := by decide +kernel
theorem dX8_feature_34 : decode cX8_feature 34 = .ok (.iconst 2, 1) := by decide +kernel
theorem dX8_feature_35 : decode cX8_feature 35 = .ok (.if_icmp .le 6, 3) := by decide +kernel
theorem dX8_feature_38 : decode cX8_feature 38 = .ok (.bipush (-2), 2) := by decide +kernel
theorem dX8_feature_40 : decode cX8_feature 40 = .ok (.ireturn, 1) := by decide +kernel
theorem dX8_feature_41 : decode cX8_feature 41 = .ok (.aload_n 0, 1) := by decide +kernel
theorem dX8_feature_42 : decode cX8_feature 42 = .ok (.getfield 63, 3) := by decide +kernel
theorem dX8_feature_45 : decode cX8_feature 45 = .ok (.bipush 14, 2) := by decide +kernel
theorem dX8_feature_47 : decode cX8_feature 47 = .ok (.if_icmp .ne 6, 3) := by decide +kernel
theorem dX8_feature_50 : decode cX8_feature 50 = .ok (.bipush (-4), 2) := by decide +kernel
theorem dX8_feature_52 : decode cX8_feature 52 = .ok (.ireturn, 1) := by decide +kernel
theorem dX8_feature_53 : decode cX8_feature 53 = .ok (.aload_n 0, 1) := by decide +kernel
theorem dX8_feature_54 : decode cX8_feature 54 = .ok (.dup, 1) := by decide +kernel
theorem dX8_feature_55 : decode cX8_feature 55 = .ok (.getfield 63, 3) := by decide +kernel
theorem dX8_feature_58 : decode cX8_feature 58 = .ok (.iconst 1, 1) := by decide +kernel
theorem dX8_feature_59 : decode cX8_feature 59 = .ok (.iadd, 1) := by decide +kernel
theorem dX8_feature_60 : decode cX8_feature 60 = .ok (.putfield 63, 3) := by decide +kernel
theorem dX8_feature_63 : decode cX8_feature 63 = .ok (.aload_n 0, 1) := by decide +kernel
theorem dX8_feature_64 : decode cX8_feature 64 = .ok (.getfield 7, 3) := by decide +kernel
theorem dX8_feature_67 : decode cX8_feature 67 = .ok (.aload_n 0, 1) := by decide +kernel
theorem dX8_feature_68 : decode cX8_feature 68 = .ok (.getfield 63, 3) := by decide +kernel
theorem dX8_feature_71 : decode cX8_feature 71 = .ok (.iload_n 1, 1) := by decide +kernel
theorem dX8_feature_72 : decode cX8_feature 72 = .ok (.iastore, 1) := by decide +kernel
theorem dX8_feature_73 : decode cX8_feature 73 = .ok (.aload_n 0, 1) := by decide +kernel
theorem dX8_feature_74 : decode cX8_feature 74 = .ok (.getfield 13, 3) := by decide +kernel
theorem dX8_feature_77 : decode cX8_feature 77 = .ok (.aload_n 0, 1) := by decide +kernel
theorem dX8_feature_78 : decode cX8_feature 78 = .ok (.getfield 63, 3) := by decide +kernel
theorem dX8_feature_81 : decode cX8_feature 81 = .ok (.iload_n 2, 1) := by decide +kernel
theorem dX8_feature_82 : decode cX8_feature 82 = .ok (.iastore, 1) := by decide +kernel
theorem dX8_feature_83 : decode cX8_feature 83 = .ok (.aload_n 0, 1) := by decide +kernel
theorem dX8_feature_84 : decode cX8_feature 84 = .ok (.iconst 0, 1) := by decide +kernel
theorem dX8_feature_85 : decode cX8_feature 85 = .ok (.putfield 70, 3) := by decide +kernel
theorem dX8_feature_88 : decode cX8_feature 88 = .ok (.aload_n 0, 1) := by decide +kernel
theorem dX8_feature_89 : decode cX8_feature 89 = .ok (.getfield 63, 3) := by decide +kernel
theorem dX8_feature_92 : decode cX8_feature 92 = .ok (.ireturn, 1) := by decide +kernel
theorem dX8_groupedBelow_0 : decode cX8_groupedBelow 0 = .ok (.iconst 0, 1) := by decide +kernel
theorem dX8_groupedBelow_1 : decode cX8_groupedBelow 1 = .ok (.istore_n 2, 1) := by decide +kernel
theorem dX8_groupedBelow_2 : decode cX8_groupedBelow 2 = .ok (.iconst 1, 1) := by decide +kernel
theorem dX8_groupedBelow_3 : decode cX8_groupedBelow 3 = .ok (.istore_n 3, 1) := by decide +kernel
theorem dX8_groupedBelow_4 : decode cX8_groupedBelow 4 = .ok (.iload_n 3, 1) := by decide +kernel
theorem dX8_groupedBelow_5 : decode cX8_groupedBelow 5 = .ok (.aload_n 0, 1) := by decide +kernel
theorem dX8_groupedBelow_6 : decode cX8_groupedBelow 6 = .ok (.getfield 63, 3) := by decide +kernel
theorem dX8_groupedBelow_9 : decode cX8_groupedBelow 9 = .ok (.if_icmp .gt 37, 3) := by decide +kernel
theorem dX8_groupedBelow_12 : decode cX8_groupedBelow 12 = .ok (.aload_n 0, 1) := by decide +kernel
theorem dX8_groupedBelow_13 : decode cX8_groupedBelow 13 = .ok (.getfield 7, 3) := by decide +kernel
theorem dX8_groupedBelow_16 : decode cX8_groupedBelow 16 = .ok (.iload_n 3, 1) := by decide +kernel
theorem dX8_groupedBelow_17 : decode cX8_groupedBelow 17 = .ok (.iaload, 1) := by decide +kernel
theorem dX8_groupedBelow_18 : decode cX8_groupedBelow 18 = .ok (.iload_n 1, 1) := by decide +kernel
theorem dX8_groupedBelow_19 : decode cX8_groupedBelow 19 = .ok (.if_icmp .ne 19, 3) := by decide +kernel
theorem dX8_groupedBelow_22 : decode cX8_groupedBelow 22 = .ok (.aload_n 0, 1) := by decide +kernel
theorem dX8_groupedBelow_23 : decode cX8_groupedBelow 23 = .ok (.getfield 13, 3) := by decide +kernel
theorem dX8_groupedBelow_26 : decode cX8_groupedBelow 26 = .ok (.iload_n 3, 1) := by decide +kernel
theorem dX8_groupedBelow_27 : decode cX8_groupedBelow 27 = .ok (.iaload, 1) := by decide +kernel
theorem dX8_groupedBelow_28 : decode cX8_groupedBelow 28 = .ok (.iconst 2, 1) := by decide +kernel
theorem dX8_groupedBelow_29 : decode cX8_groupedBelow 29 = .ok (.if_icmp .ne 9, 3) := by decide +kernel
theorem dX8_groupedBelow_32 : decode cX8_groupedBelow 32 = .ok (.iload_n 2, 1) := by decide +kernel
theorem dX8_groupedBelow_33 : decode cX8_groupedBelow 33 = .ok (.iconst 1, 1) := by decide +kernel
theorem dX8_groupedBelow_34 : decode cX8_groupedBelow 34 = .ok (.iadd, 1) := by decide +kernel
theorem dX8_groupedBelow_35 : decode cX8_groupedBelow 35 = .ok (.goto 4, 3) := by decide +kernel
theorem dX8_groupedBelow_38 : decode cX8_groupedBelow 38 = .ok (.iload_n 2, 1) := by decide +kernel
theorem dX8_groupedBelow_39 : decode cX8_groupedBelow 39 = .ok (.istore_n 2, 1) := by decide +kernel
theorem dX8_groupedBelow_40 : decode cX8_groupedBelow 40 = .ok (.iinc 3 1, 3) := by decide +kernel
theorem dX8_groupedBelow_43 : decode cX8_groupedBelow 43 = .ok (.goto (-39), 3) := by decide +kernel
theorem dX8_groupedBelow_46 : decode cX8_groupedBelow 46 = .ok (.iload_n 2, 1) := by decide +kernel
theorem dX8_groupedBelow_47 : decode cX8_groupedBelow 47 = .ok (.ireturn, 1) := by decide +kernel
set_option maxRecDepth 20000 in
theorem ggX8_group_X8_isFeature : GoodIn wsX8_group wsX8_isFeature := goodIn_r _ [10, 11, 18, 19, 20, 21, 22, 23, 24, 25, 26, 27, 28, 29, 30, 31, 32, 33, 34, 35, 36, 37, 38, 39, 40, 41, 42, 43, 44] (by decide +kernel) (by decide +kernel)
set_option maxRecDepth 20000 in
theorem gX8_group_X8_isFeature : GoodIn wsX8_group (wsV RX8 66 RX8 yX8_isFeature wsX8_isFeature) := goodIn_app (goodIn_of _ (by decide +kernel)) ggX8_group_X8_isFeature
set_option maxRecDepth 20000 in
theorem ggX8_group_X8_groupedBelow : GoodIn wsX8_group wsX8_groupedBelow := goodIn_ca (goodIn_r _ [15, 11, 16, 17, 18, 19, 20, 21, 22, 23, 24, 25, 26, 27, 28, 29, 30, 31, 32, 33, 34, 35, 36, 37, 38, 39, 40, 41, 42, 43, 44] (by decide +kernel) (by decide +kernel)) (goodIn_sub (fun _ h => List.mem_cons_of_mem _ (List.mem_append_right _ h)) (by decide +kernel))
set_option maxRecDepth 20000 in
theorem gX8_group_X8_groupedBelow : GoodIn wsX8_group (wsV RX8 74 RX8 yX8_groupedBelow wsX8_groupedBelow) := goodIn_app (goodIn_of _ (by decide +kernel)) ggX8_group_X8_groupedBelow
theorem dX8_group_0 : decode cX8_group 0 = .ok (.aload_n 0, 1) := by decide +kernel
theorem dX8_group_1 : decode cX8_group 1 = .ok (.iconst 0, 1) := by decide +kernel
theorem dX8_group_2 : decode cX8_group 2 = .ok (.putfield 59, 3) := by decide +kernel
theorem dX8_group_5 : decode cX8_group 5 = .ok (.aload_n 0, 1) := by decide +kernel
theorem dX8_group_6 : decode cX8_group 6 = .ok (.iload_n 1, 1) := by decide +kernel
theorem dX8_group_7 : decode cX8_group 7 = .ok (.invokevirtual 66, 3) := by decide +kernel
theorem dX8_group_10 : decode cX8_group 10 = .ok (.ifCond .ne 5, 3) := by decide +kernel
theorem dX8_group_13 : decode cX8_group 13 = .ok (.iconst (-1), 1) := by decide +kernel
theorem dX8_group_14 : decode cX8_group 14 = .ok (.ireturn, 1) := by decide +kernel
theorem dX8_group_15 : decode cX8_group 15 = .ok (.iload_n 2, 1) := by decide +kernel
theorem dX8_group_16 : decode cX8_group 16 = .ok (.ifCond .lt 14, 3) := by decide +kernel
theorem dX8_group_19 : decode cX8_group 19 = .ok (.iload_n 3, 1) := by decide +kernel
theorem dX8_group_20 : decode cX8_group 20 = .ok (.iload_n 2, 1) := by decide +kernel
theorem dX8_group_21 : decode cX8_group 21 = .ok (.if_icmp .lt 9, 3) := by decide +kernel
theorem dX8_group_24 : decode cX8_group 24 = .ok (.iload_n 3, 1) := by decide +kernel
theorem dX8_group_25 : decode cX8_group 25 = .ok (.bipush 14, 2) := by decide +kernel
theorem dX8_group_27 : decode cX8_group 27 = .ok (.if_icmp .le 6, 3) := by decide +kernel
theorem dX8_group_30 : decode cX8_group 30 = .ok (.bipush (-2), 2) := by decide +kernel
theorem dX8_group_32 : decode cX8_group 32 = .ok (.ireturn, 1) := by decide +kernel
theorem dX8_group_33 : decode cX8_group 33 = .ok (.aload_n 0, 1) := by decide +kernel
theorem dX8_group_34 : decode cX8_group 34 = .ok (.getfield 16, 3) := by decide +kernel
theorem dX8_group_37 : decode cX8_group 37 = .ok (.iload_n 1, 1) := by decide +kernel
theorem dX8_group_38 : decode cX8_group 38 = .ok (.iconst 1, 1) := by decide +kernel
theorem dX8_group_39 : decode cX8_group 39 = .ok (.bastore, 1) := by decide +kernel
theorem dX8_group_40 : decode cX8_group 40 = .ok (.aload_n 0, 1) := by decide +kernel
theorem dX8_group_41 : decode cX8_group 41 = .ok (.getfield 20, 3) := by decide +kernel
theorem dX8_group_44 : decode cX8_group 44 = .ok (.iload_n 1, 1) := by decide +kernel
theorem dX8_group_45 : decode cX8_group 45 = .ok (.iload_n 2, 1) := by decide +kernel
theorem dX8_group_46 : decode cX8_group 46 = .ok (.iastore, 1) := by decide +kernel
theorem dX8_group_47 : decode cX8_group 47 = .ok (.aload_n 0, 1) := by decide +kernel
theorem dX8_group_48 : decode cX8_group 48 = .ok (.getfield 23, 3) := by decide +kernel
theorem dX8_group_51 : decode cX8_group 51 = .ok (.iload_n 1, 1) := by decide +kernel
theorem dX8_group_52 : decode cX8_group 52 = .ok (.iload_n 3, 1) := by decide +kernel
theorem dX8_group_53 : decode cX8_group 53 = .ok (.iastore, 1) := by decide +kernel
theorem dX8_group_54 : decode cX8_group 54 = .ok (.aload_n 0, 1) := by decide +kernel
theorem dX8_group_55 : decode cX8_group 55 = .ok (.iconst 0, 1) := by decide +kernel
theorem dX8_group_56 : decode cX8_group 56 = .ok (.putfield 70, 3) := by decide +kernel
theorem dX8_group_59 : decode cX8_group 59 = .ok (.aload_n 0, 1) := by decide +kernel
theorem dX8_group_60 : decode cX8_group 60 = .ok (.iload_n 1, 1) := by decide +kernel
theorem dX8_group_61 : decode cX8_group 61 = .ok (.invokevirtual 74, 3) := by decide +kernel
theorem dX8_group_64 : decode cX8_group 64 = .ok (.ireturn, 1) := by decide +kernel
set_option maxRecDepth 20000 in
theorem ggX8_isLiteral_X8_isFeature : GoodIn wsX8_isLiteral wsX8_isFeature := goodIn_r _ [5, 6, 7, 8, 9, 10, 11, 12, 13, 14, 15, 16, 17, 18, 19, 20, 21, 22, 23, 24, 25, 26, 27, 28, 29, 30, 31, 32, 33] (by decide +kernel) (by decide +kernel)
set_option maxRecDepth 20000 in
theorem gX8_isLiteral_X8_isFeature : GoodIn wsX8_isLiteral (wsV RX8 66 RX8 yX8_isFeature wsX8_isFeature) := goodIn_app (goodIn_of _ (by decide +kernel)) ggX8_isLiteral_X8_isFeature
theorem dX8_isLiteral_0 : decode cX8_isLiteral 0 = .ok (.aload_n 0, 1) := by decide +kernel
theorem dX8_isLiteral_1 : decode cX8_isLiteral 1 = .ok (.iload_n 1, 1) := by decide +kernel
theorem dX8_isLiteral_2 : decode cX8_isLiteral 2 = .ok (.invokevirtual 66, 3) := by decide +kernel
theorem dX8_isLiteral_5 : decode cX8_isLiteral 5 = .ok (.ifCond .ne 22, 3) := by decide +kernel
theorem dX8_isLiteral_8 : decode cX8_isLiteral 8 = .ok (.iload_n 1, 1) := by decide +kernel
theorem dX8_isLiteral_9 : decode cX8_isLiteral 9 = .ok (.ifCond .ge 22, 3) := by decide +kernel
theorem dX8_isLiteral_12 : decode cX8_isLiteral 12 = .ok (.iload_n 1, 1) := by decide +kernel
theorem dX8_isLiteral_13 : decode cX8_isLiteral 13 = .ok (.bipush (-14), 2) := by decide +kernel
theorem dX8_isLiteral_15 : decode cX8_isLiteral 15 = .ok (.if_icmp .lt 16, 3) := by decide +kernel
theorem dX8_isLiteral_18 : decode cX8_isLiteral 18 = .ok (.aload_n 0, 1) := by decide +kernel
theorem dX8_isLiteral_19 : decode cX8_isLiteral 19 = .ok (.iload_n 1, 1) := by decide +kernel
theorem dX8_isLiteral_20 : decode cX8_isLiteral 20 = .ok (.ineg, 1) := by decide +kernel
theorem dX8_isLiteral_21 : decode cX8_isLiteral 21 = .ok (.invokevirtual 66, 3) := by decide +kernel
theorem dX8_isLiteral_24 : decode cX8_isLiteral 24 = .ok (.ifCond .eq 7, 3) := by decide +kernel
theorem dX8_isLiteral_27 : decode cX8_isLiteral 27 = .ok (.iconst 1, 1) := by decide +kernel
theorem dX8_isLiteral_28 : decode cX8_isLiteral 28 = .ok (.goto 4, 3) := by decide +kernel
theorem dX8_isLiteral_31 : decode cX8_isLiteral 31 = .ok (.iconst 0, 1) := by decide +kernel
theorem dX8_isLiteral_32 : decode cX8_isLiteral 32 = .ok (.ireturn, 1) := by decide +kernel
set_option maxRecDepth 20000 in
theorem ggX8_formula_X8_isLiteral : GoodIn wsX8_formula wsX8_isLiteral := goodIn_r _ [11, 12, 13, 14, 10, 15, 16, 17, 18, 19, 20, 21, 22, 23, 24, 25, 26, 27, 28, 29, 30, 31, 32, 33, 34, 35, 36, 37, 38, 39, 40, 41, 42, 43] (by decide +kernel) (by decide +kernel)
set_option maxRecDepth 20000 in
theorem gX8_formula_X8_isLiteral : GoodIn wsX8_formula (wsV RX8 78 RX8 yX8_isLiteral wsX8_isLiteral) := goodIn_app (goodIn_of _ (by decide +kernel)) ggX8_formula_X8_isLiteral
theorem dX8_formula_0 : decode cX8_formula 0 = .ok (.aload_n 0, 1) := by decide +kernel
theorem dX8_formula_1 : decode cX8_formula 1 = .ok (.iconst 0, 1) := by decide +kernel
theorem dX8_formula_2 : decode cX8_formula 2 = .ok (.putfield 59, 3) := by decide +kernel
theorem dX8_formula_5 : decode cX8_formula 5 = .ok (.aload_n 0, 1) := by decide +kernel
theorem dX8_formula_6 : decode cX8_formula 6 = .ok (.iload_n 2, 1) := by decide +kernel
theorem dX8_formula_7 : decode cX8_formula 7 = .ok (.invokevirtual 78, 3) := by decide +kernel
theorem dX8_formula_10 : decode cX8_formula 10 = .ok (.ifCond .eq 11, 3) := by decide +kernel
theorem dX8_formula_13 : decode cX8_formula 13 = .ok (.aload_n 0, 1) := by decide +kernel
theorem dX8_formula_14 : decode cX8_formula 14 = .ok (.iload_n 3, 1) := by decide +kernel
theorem dX8_formula_15 : decode cX8_formula 15 = .ok (.invokevirtual 78, 3) := by decide +kernel
theorem dX8_formula_18 : decode cX8_formula 18 = .ok (.ifCond .ne 5, 3) := by decide +kernel
theorem dX8_formula_21 : decode cX8_formula 21 = .ok (.iconst (-1), 1) := by decide +kernel
theorem dX8_formula_22 : decode cX8_formula 22 = .ok (.ireturn, 1) := by decide +kernel
theorem dX8_formula_23 : decode cX8_formula 23 = .ok (.iload_n 1, 1) := by decide +kernel
theorem dX8_formula_24 : decode cX8_formula 24 = .ok (.ifCond .lt 8, 3) := by decide +kernel
theorem dX8_formula_27 : decode cX8_formula 27 = .ok (.iload_n 1, 1) := by decide +kernel
theorem dX8_formula_28 : decode cX8_formula 28 = .ok (.iconst 3, 1) := by decide +kernel
theorem dX8_formula_29 : decode cX8_formula 29 = .ok (.if_icmp .le 6, 3) := by decide +kernel
theorem dX8_formula_32 : decode cX8_formula 32 = .ok (.bipush (-2), 2) := by decide +kernel
theorem dX8_formula_34 : decode cX8_formula 34 = .ok (.ireturn, 1) := by decide +kernel
theorem dX8_formula_35 : decode cX8_formula 35 = .ok (.iload_n 1, 1) := by decide +kernel
theorem dX8_formula_36 : decode cX8_formula 36 = .ok (.ifCond .eq 8, 3) := by decide +kernel
theorem dX8_formula_39 : decode cX8_formula 39 = .ok (.iload_n 1, 1) := by decide +kernel
theorem dX8_formula_40 : decode cX8_formula 40 = .ok (.iconst 3, 1) := by decide +kernel
theorem dX8_formula_41 : decode cX8_formula 41 = .ok (.if_icmp .ne 16, 3) := by decide +kernel
theorem dX8_formula_44 : decode cX8_formula 44 = .ok (.iload_n 2, 1) := by decide +kernel
theorem dX8_formula_45 : decode cX8_formula 45 = .ok (.iload_n 3, 1) := by decide +kernel
theorem dX8_formula_46 : decode cX8_formula 46 = .ok (.if_icmp .ne 7, 3) := by decide +kernel
theorem dX8_formula_49 : decode cX8_formula 49 = .ok (.iconst 1, 1) := by decide +kernel
theorem dX8_formula_50 : decode cX8_formula 50 = .ok (.goto 18, 3) := by decide +kernel
theorem dX8_formula_53 : decode cX8_formula 53 = .ok (.iconst 0, 1) := by decide +kernel
theorem dX8_formula_54 : decode cX8_formula 54 = .ok (.goto 14, 3) := by decide +kernel
theorem dX8_formula_57 : decode cX8_formula 57 = .ok (.iload_n 2, 1) := by decide +kernel
theorem dX8_formula_58 : decode cX8_formula 58 = .ok (.iload_n 3, 1) := by decide +kernel
theorem dX8_formula_59 : decode cX8_formula 59 = .ok (.ineg, 1) := by decide +kernel
theorem dX8_formula_60 : decode cX8_formula 60 = .ok (.if_icmp .ne 7, 3) := by decide +kernel
theorem dX8_formula_63 : decode cX8_formula 63 = .ok (.iconst 1, 1) := by decide +kernel
theorem dX8_formula_64 : decode cX8_formula 64 = .ok (.goto 4, 3) := by decide +kernel
theorem dX8_formula_67 : decode cX8_formula 67 = .ok (.iconst 0, 1) := by decide +kernel
theorem dX8_formula_68 : decode cX8_formula 68 = .ok (.istore 4, 2) := by decide +kernel
theorem dX8_formula_70 : decode cX8_formula 70 = .ok (.aload_n 0, 1) := by decide +kernel
theorem dX8_formula_71 : decode cX8_formula 71 = .ok (.getfield 81, 3) := by decide +kernel
theorem dX8_formula_74 : decode cX8_formula 74 = .ok (.bipush 40, 2) := by decide +kernel
theorem dX8_formula_76 : decode cX8_formula 76 = .ok (.if_icmp .ne 6, 3) := by decide +kernel
theorem dX8_formula_79 : decode cX8_formula 79 = .ok (.bipush (-4), 2) := by decide +kernel
theorem dX8_formula_81 : decode cX8_formula 81 = .ok (.ireturn, 1) := by decide +kernel
theorem dX8_formula_82 : decode cX8_formula 82 = .ok (.iload 4, 2) := by decide +kernel
theorem dX8_formula_84 : decode cX8_formula 84 = .ok (.ifCond .eq 5, 3) := by decide +kernel
theorem dX8_formula_87 : decode cX8_formula 87 = .ok (.iconst 0, 1) := by decide +kernel
theorem dX8_formula_88 : decode cX8_formula 88 = .ok (.ireturn, 1) := by decide +kernel
theorem dX8_formula_89 : decode cX8_formula 89 = .ok (.aload_n 0, 1) := by decide +kernel
theorem dX8_formula_90 : decode cX8_formula 90 = .ok (.getfield 29, 3) := by decide +kernel
theorem dX8_formula_93 : decode cX8_formula 93 = .ok (.aload_n 0, 1) := by decide +kernel
theorem dX8_formula_94 : decode cX8_formula 94 = .ok (.getfield 81, 3) := by decide +kernel
theorem dX8_formula_97 : decode cX8_formula 97 = .ok (.iload_n 1, 1) := by decide +kernel
theorem dX8_formula_98 : decode cX8_formula 98 = .ok (.iastore, 1) := by decide +kernel
theorem dX8_formula_99 : decode cX8_formula 99 = .ok (.aload_n 0, 1) := by decide +kernel
theorem dX8_formula_100 : decode cX8_formula 100 = .ok (.getfield 32, 3) := by decide +kernel
theorem dX8_formula_103 : decode cX8_formula 103 = .ok (.aload_n 0, 1) := by decide +kernel
theorem dX8_formula_104 : decode cX8_formula 104 = .ok (.getfield 81, 3) := by decide +kernel
theorem dX8_formula_107 : decode cX8_formula 107 = .ok (.iload_n 2, 1) := by decide +kernel
theorem dX8_formula_108 : decode cX8_formula 108 = .ok (.iastore, 1) := by decide +kernel
theorem dX8_formula_109 : decode cX8_formula 109 = .ok (.aload_n 0, 1) := by decide +kernel
theorem dX8_formula_110 : decode cX8_formula 110 = .ok (.getfield 35, 3) := by decide +kernel
theorem dX8_formula_113 : decode cX8_formula 113 = .ok (.aload_n 0, 1) := by decide +kernel
theorem dX8_formula_114 : decode cX8_formula 114 = .ok (.getfield 81, 3) := by decide +kernel
theorem dX8_formula_117 : decode cX8_formula 117 = .ok (.iload_n 3, 1) := by decide +kernel
theorem dX8_formula_118 : decode cX8_formula 118 = .ok (.iastore, 1) := by decide +kernel
theorem dX8_formula_119 : decode cX8_formula 119 = .ok (.aload_n 0, 1) := by decide +kernel
theorem dX8_formula_120 : decode cX8_formula 120 = .ok (.dup, 1) := by decide +kernel
theorem dX8_formula_121 : decode cX8_formula 121 = .ok (.getfield 81, 3) := by decide +kernel
theorem dX8_formula_124 : decode cX8_formula 124 = .ok (.iconst 1, 1) := by decide +kernel
theorem dX8_formula_125 : decode cX8_formula 125 = .ok (.iadd, 1) := by decide +kernel
theorem dX8_formula_126 : decode cX8_formula 126 = .ok (.putfield 81, 3) := by decide +kernel
theorem dX8_formula_129 : decode cX8_formula 129 = .ok (.aload_n 0, 1) := by decide +kernel
theorem dX8_formula_130 : decode cX8_formula 130 = .ok (.iconst 0, 1) := by decide +kernel
theorem dX8_formula_131 : decode cX8_formula 131 = .ok (.putfield 70, 3) := by decide +kernel
theorem dX8_formula_134 : decode cX8_formula 134 = .ok (.aload_n 0, 1) := by decide +kernel
theorem dX8_formula_135 : decode cX8_formula 135 = .ok (.getfield 81, 3) := by decide +kernel
theorem dX8_formula_138 : decode cX8_formula 138 = .ok (.ireturn, 1) := by decide +kernel
set_option maxRecDepth 20000 in
theorem ggX8_attribute_X8_isFeature : GoodIn wsX8_attribute wsX8_isFeature := goodIn_r _ [10, 11, 12, 13, 14, 15, 16, 17, 18, 19, 20, 21, 22, 23, 24, 25, 26, 27, 28, 29, 30, 31, 32, 33, 34, 35, 36, 37, 38] (by decide +kernel) (by decide +kernel)
set_option maxRecDepth 20000 in
theorem gX8_attribute_X8_isFeature : GoodIn wsX8_attribute (wsV RX8 66 RX8 yX8_isFeature wsX8_isFeature) := goodIn_app (goodIn_of _ (by decide +kernel)) ggX8_attribute_X8_isFeature
theorem dX8_attribute_0 : decode cX8_attribute 0 = .ok (.aload_n 0, 1) := by decide +kernel
theorem dX8_attribute_1 : decode cX8_attribute 1 = .ok (.iconst 0, 1) := by decide +kernel
theorem dX8_attribute_2 : decode cX8_attribute 2 = .ok (.putfield 59, 3) := by decide +kernel
theorem dX8_attribute_5 : decode cX8_attribute 5 = .ok (.iload_n 1, 1) := by decide +kernel
theorem dX8_attribute_6 : decode cX8_attribute 6 = .ok (.ifCond .eq 13, 3) := by decide +kernel
theorem dX8_attribute_9 : decode cX8_attribute 9 = .ok (.aload_n 0, 1) := by decide +kernel
theorem dX8_attribute_10 : decode cX8_attribute 10 = .ok (.iload_n 1, 1) := by decide +kernel
theorem dX8_attribute_11 : decode cX8_attribute 11 = .ok (.invokevirtual 66, 3) := by decide +kernel
theorem dX8_attribute_14 : decode cX8_attribute 14 = .ok (.ifCond .ne 5, 3) := by decide +kernel
theorem dX8_attribute_17 : decode cX8_attribute 17 = .ok (.iconst (-1), 1) := by decide +kernel
theorem dX8_attribute_18 : decode cX8_attribute 18 = .ok (.ireturn, 1) := by decide +kernel
theorem dX8_attribute_19 : decode cX8_attribute 19 = .ok (.iload_n 1, 1) := by decide +kernel
theorem dX8_attribute_20 : decode cX8_attribute 20 = .ok (.ifCond .ne 9, 3) := by decide +kernel
theorem dX8_attribute_23 : decode cX8_attribute 23 = .ok (.sipush 10000, 3) := by decide +kernel
theorem dX8_attribute_26 : decode cX8_attribute 26 = .ok (.goto 6, 3) := by decide +kernel
theorem dX8_attribute_29 : decode cX8_attribute 29 = .ok (.sipush 1000, 3) := by decide +kernel
theorem dX8_attribute_32 : decode cX8_attribute 32 = .ok (.istore 4, 2) := by decide +kernel
theorem dX8_attribute_34 : decode cX8_attribute 34 = .ok (.iload_n 2, 1) := by decide +kernel
theorem dX8_attribute_35 : decode cX8_attribute 35 = .ok (.ifCond .lt 21, 3) := by decide +kernel
theorem dX8_attribute_38 : decode cX8_attribute 38 = .ok (.iload_n 2, 1) := by decide +kernel
theorem dX8_attribute_39 : decode cX8_attribute 39 = .ok (.iconst 3, 1) := by decide +kernel
theorem dX8_attribute_40 : decode cX8_attribute 40 = .ok (.if_icmp .gt 16, 3) := by decide +kernel
theorem dX8_attribute_43 : decode cX8_attribute 43 = .ok (.iload_n 3, 1) := by decide +kernel
theorem dX8_attribute_44 : decode cX8_attribute 44 = .ok (.iload 4, 2) := by decide +kernel
theorem dX8_attribute_46 : decode cX8_attribute 46 = .ok (.ineg, 1) := by decide +kernel
theorem dX8_attribute_47 : decode cX8_attribute 47 = .ok (.if_icmp .lt 9, 3) := by decide +kernel
theorem dX8_attribute_50 : decode cX8_attribute 50 = .ok (.iload_n 3, 1) := by decide +kernel
theorem dX8_attribute_51 : decode cX8_attribute 51 = .ok (.iload 4, 2) := by decide +kernel
theorem dX8_attribute_53 : decode cX8_attribute 53 = .ok (.if_icmp .le 6, 3) := by decide +kernel
theorem dX8_attribute_56 : decode cX8_attribute 56 = .ok (.bipush (-2), 2) := by decide +kernel
theorem dX8_attribute_58 : decode cX8_attribute 58 = .ok (.ireturn, 1) := by decide +kernel
theorem dX8_attribute_59 : decode cX8_attribute 59 = .ok (.iload_n 1, 1) := by decide +kernel
theorem dX8_attribute_60 : decode cX8_attribute 60 = .ok (.ifCond .ne 20, 3) := by decide +kernel
theorem dX8_attribute_63 : decode cX8_attribute 63 = .ok (.aload_n 0, 1) := by decide +kernel
theorem dX8_attribute_64 : decode cX8_attribute 64 = .ok (.getfield 38, 3) := by decide +kernel
theorem dX8_attribute_67 : decode cX8_attribute 67 = .ok (.iload_n 2, 1) := by decide +kernel
theorem dX8_attribute_68 : decode cX8_attribute 68 = .ok (.iconst 1, 1) := by decide +kernel
theorem dX8_attribute_69 : decode cX8_attribute 69 = .ok (.bastore, 1) := by decide +kernel
theorem dX8_attribute_70 : decode cX8_attribute 70 = .ok (.aload_n 0, 1) := by decide +kernel
theorem dX8_attribute_71 : decode cX8_attribute 71 = .ok (.getfield 41, 3) := by decide +kernel
theorem dX8_attribute_74 : decode cX8_attribute 74 = .ok (.iload_n 2, 1) := by decide +kernel
theorem dX8_attribute_75 : decode cX8_attribute 75 = .ok (.iload_n 3, 1) := by decide +kernel
theorem dX8_attribute_76 : decode cX8_attribute 76 = .ok (.iastore, 1) := by decide +kernel
theorem dX8_attribute_77 : decode cX8_attribute 77 = .ok (.goto 14, 3) := by decide +kernel
theorem dX8_attribute_80 : decode cX8_attribute 80 = .ok (.aload_n 0, 1) := by decide +kernel
theorem dX8_attribute_81 : decode cX8_attribute 81 = .ok (.getfield 26, 3) := by decide +kernel
theorem dX8_attribute_84 : decode cX8_attribute 84 = .ok (.iconst 4, 1) := by decide +kernel
theorem dX8_attribute_85 : decode cX8_attribute 85 = .ok (.iload_n 1, 1) := by decide +kernel
theorem dX8_attribute_86 : decode cX8_attribute 86 = .ok (.imul, 1) := by decide +kernel
theorem dX8_attribute_87 : decode cX8_attribute 87 = .ok (.iload_n 2, 1) := by decide +kernel
theorem dX8_attribute_88 : decode cX8_attribute 88 = .ok (.iadd, 1) := by decide +kernel
theorem dX8_attribute_89 : decode cX8_attribute 89 = .ok (.iload_n 3, 1) := by decide +kernel
theorem dX8_attribute_90 : decode cX8_attribute 90 = .ok (.iastore, 1) := by decide +kernel
theorem dX8_attribute_91 : decode cX8_attribute 91 = .ok (.aload_n 0, 1) := by decide +kernel
theorem dX8_attribute_92 : decode cX8_attribute 92 = .ok (.iconst 0, 1) := by decide +kernel
theorem dX8_attribute_93 : decode cX8_attribute 93 = .ok (.putfield 70, 3) := by decide +kernel
theorem dX8_attribute_96 : decode cX8_attribute 96 = .ok (.iconst 1, 1) := by decide +kernel
theorem dX8_attribute_97 : decode cX8_attribute 97 = .ok (.ireturn, 1) := by decide +kernel
theorem dX8_choiceOf_0 : decode cX8_choiceOf 0 = .ok (.iconst (-1), 1) := by decide +kernel
theorem dX8_choiceOf_1 : decode cX8_choiceOf 1 = .ok (.istore_n 2, 1) := by decide +kernel
theorem dX8_choiceOf_2 : decode cX8_choiceOf 2 = .ok (.iconst 0, 1) := by decide +kernel
theorem dX8_choiceOf_3 : decode cX8_choiceOf 3 = .ok (.istore_n 3, 1) := by decide +kernel
theorem dX8_choiceOf_4 : decode cX8_choiceOf 4 = .ok (.iload_n 3, 1) := by decide +kernel
theorem dX8_choiceOf_5 : decode cX8_choiceOf 5 = .ok (.aload_n 0, 1) := by decide +kernel
theorem dX8_choiceOf_6 : decode cX8_choiceOf 6 = .ok (.getfield 84, 3) := by decide +kernel
theorem dX8_choiceOf_9 : decode cX8_choiceOf 9 = .ok (.if_icmp .ge 36, 3) := by decide +kernel
theorem dX8_choiceOf_12 : decode cX8_choiceOf 12 = .ok (.aload_n 0, 1) := by decide +kernel
theorem dX8_choiceOf_13 : decode cX8_choiceOf 13 = .ok (.getfield 44, 3) := by decide +kernel
theorem dX8_choiceOf_16 : decode cX8_choiceOf 16 = .ok (.iload_n 3, 1) := by decide +kernel
theorem dX8_choiceOf_17 : decode cX8_choiceOf 17 = .ok (.iaload, 1) := by decide +kernel
theorem dX8_choiceOf_18 : decode cX8_choiceOf 18 = .ok (.iload_n 1, 1) := by decide +kernel
theorem dX8_choiceOf_19 : decode cX8_choiceOf 19 = .ok (.if_icmp .eq 14, 3) := by decide +kernel
theorem dX8_choiceOf_22 : decode cX8_choiceOf 22 = .ok (.aload_n 0, 1) := by decide +kernel
theorem dX8_choiceOf_23 : decode cX8_choiceOf 23 = .ok (.getfield 44, 3) := by decide +kernel
theorem dX8_choiceOf_26 : decode cX8_choiceOf 26 = .ok (.iload_n 3, 1) := by decide +kernel
theorem dX8_choiceOf_27 : decode cX8_choiceOf 27 = .ok (.iaload, 1) := by decide +kernel
theorem dX8_choiceOf_28 : decode cX8_choiceOf 28 = .ok (.iload_n 1, 1) := by decide +kernel
theorem dX8_choiceOf_29 : decode cX8_choiceOf 29 = .ok (.ineg, 1) := by decide +kernel
theorem dX8_choiceOf_30 : decode cX8_choiceOf 30 = .ok (.if_icmp .ne 7, 3) := by decide +kernel
theorem dX8_choiceOf_33 : decode cX8_choiceOf 33 = .ok (.iload_n 3, 1) := by decide +kernel
theorem dX8_choiceOf_34 : decode cX8_choiceOf 34 = .ok (.goto 4, 3) := by decide +kernel
theorem dX8_choiceOf_37 : decode cX8_choiceOf 37 = .ok (.iload_n 2, 1) := by decide +kernel
theorem dX8_choiceOf_38 : decode cX8_choiceOf 38 = .ok (.istore_n 2, 1) := by decide +kernel
theorem dX8_choiceOf_39 : decode cX8_choiceOf 39 = .ok (.iinc 3 1, 3) := by decide +kernel
theorem dX8_choiceOf_42 : decode cX8_choiceOf 42 = .ok (.goto (-38), 3) := by decide +kernel
theorem dX8_choiceOf_45 : decode cX8_choiceOf 45 = .ok (.iload_n 2, 1) := by decide +kernel
theorem dX8_choiceOf_46 : decode cX8_choiceOf 46 = .ok (.ireturn, 1) := by decide +kernel
theorem dX8_forget_0 : decode cX8_forget 0 = .ok (.iload_n 1, 1) := by decide +kernel
theorem dX8_forget_1 : decode cX8_forget 1 = .ok (.istore_n 2, 1) := by decide +kernel
theorem dX8_forget_2 : decode cX8_forget 2 = .ok (.iload_n 2, 1) := by decide +kernel
theorem dX8_forget_3 : decode cX8_forget 3 = .ok (.iconst 1, 1) := by decide +kernel
theorem dX8_forget_4 : decode cX8_forget 4 = .ok (.iadd, 1) := by decide +kernel
theorem dX8_forget_5 : decode cX8_forget 5 = .ok (.aload_n 0, 1) := by decide +kernel
theorem dX8_forget_6 : decode cX8_forget 6 = .ok (.getfield 84, 3) := by decide +kernel
theorem dX8_forget_9 : decode cX8_forget 9 = .ok (.if_icmp .ge 23, 3) := by decide +kernel
theorem dX8_forget_12 : decode cX8_forget 12 = .ok (.aload_n 0, 1) := by decide +kernel
theorem dX8_forget_13 : decode cX8_forget 13 = .ok (.getfield 44, 3) := by decide +kernel
theorem dX8_forget_16 : decode cX8_forget 16 = .ok (.iload_n 2, 1) := by decide +kernel
theorem dX8_forget_17 : decode cX8_forget 17 = .ok (.aload_n 0, 1) := by decide +kernel
theorem dX8_forget_18 : decode cX8_forget 18 = .ok (.getfield 44, 3) := by decide +kernel
theorem dX8_forget_21 : decode cX8_forget 21 = .ok (.iload_n 2, 1) := by decide +kernel
theorem dX8_forget_22 : decode cX8_forget 22 = .ok (.iconst 1, 1) := by decide +kernel
theorem dX8_forget_23 : decode cX8_forget 23 = .ok (.iadd, 1) := by decide +kernel
theorem dX8_forget_24 : decode cX8_forget 24 = .ok (.iaload, 1) := by decide +kernel
theorem dX8_forget_25 : decode cX8_forget 25 = .ok (.iastore, 1) := by decide +kernel
theorem dX8_forget_26 : decode cX8_forget 26 = .ok (.iinc 2 1, 3) := by decide +kernel
theorem dX8_forget_29 : decode cX8_forget 29 = .ok (.goto (-27), 3) := by decide +kernel
theorem dX8_forget_32 : decode cX8_forget 32 = .ok (.aload_n 0, 1) := by decide +kernel
theorem dX8_forget_33 : decode cX8_forget 33 = .ok (.dup, 1) := by decide +kernel
theorem dX8_forget_34 : decode cX8_forget 34 = .ok (.getfield 84, 3) := by decide +kernel
theorem dX8_forget_37 : decode cX8_forget 37 = .ok (.iconst 1, 1) := by decide +kernel
theorem dX8_forget_38 : decode cX8_forget 38 = .ok (.isub, 1) := by decide +kernel
theorem dX8_forget_39 : decode cX8_forget 39 = .ok (.putfield 84, 3) := by decide +kernel
theorem dX8_forget_42 : decode cX8_forget 42 = .ok (.return_, 1) := by decide +kernel
set_option maxRecDepth 20000 in
theorem ggX8_choose_X8_isLiteral : GoodIn wsX8_choose wsX8_isLiteral := goodIn_r _ [8, 9, 10, 11, 7, 12, 13, 22, 23, 24, 25, 26, 27, 28, 29, 30, 31, 32, 33, 34, 35, 36, 37, 38, 39, 40, 41, 42, 43, 44, 45, 46, 47, 48] (by decide +kernel) (by decide +kernel)
set_option maxRecDepth 20000 in
theorem gX8_choose_X8_isLiteral : GoodIn wsX8_choose (wsV RX8 78 RX8 yX8_isLiteral wsX8_isLiteral) := goodIn_app (goodIn_of _ (by decide +kernel)) ggX8_choose_X8_isLiteral
set_option maxRecDepth 20000 in
theorem ggX8_choose_X8_choiceOf : GoodIn wsX8_choose wsX8_choiceOf := goodIn_ca (goodIn_r _ [17, 3, 2, 22, 23, 24, 25, 26, 27, 28, 29, 30, 31, 32, 33, 34, 35, 36, 37, 38, 39, 40, 41, 42, 43, 44, 45, 46, 47, 48] (by decide +kernel) (by decide +kernel)) (goodIn_sub (fun _ h => List.mem_cons_of_mem _ (List.mem_append_right _ h)) (by decide +kernel))
set_option maxRecDepth 20000 in
theorem gX8_choose_X8_choiceOf : GoodIn wsX8_choose (wsV RX8 87 RX8 yX8_choiceOf wsX8_choiceOf) := goodIn_app (goodIn_of _ (by decide +kernel)) ggX8_choose_X8_choiceOf
set_option maxRecDepth 20000 in
theorem ggX8_choose_X8_forget : GoodIn wsX8_choose wsX8_forget := goodIn_ca (goodIn_r _ [21, 3, 2, 22, 23, 24, 25, 26, 27, 28, 29, 30, 31, 32, 33, 34, 35, 36, 37, 38, 39, 40, 41, 42, 43, 44, 45, 46, 47, 48] (by decide +kernel) (by decide +kernel)) (goodIn_sub (fun _ h => List.mem_cons_of_mem _ (List.mem_append_right _ h)) (by decide +kernel))
set_option maxRecDepth 20000 in
theorem gX8_choose_X8_forget : GoodIn wsX8_choose (wsV RX8 90 RX8 yX8_forget wsX8_forget) := goodIn_app (goodIn_of _ (by decide +kernel)) ggX8_choose_X8_forget
theorem dX8_choose_0 : decode cX8_choose 0 = .ok (.aload_n 0, 1) := by decide +kernel
theorem dX8_choose_1 : decode cX8_choose 1 = .ok (.iconst 0, 1) := by decide +kernel
theorem dX8_choose_2 : decode cX8_choose 2 = .ok (.putfield 59, 3) := by decide +kernel
theorem dX8_choose_5 : decode cX8_choose 5 = .ok (.aload_n 0, 1) := by decide +kernel
theorem dX8_choose_6 : decode cX8_choose 6 = .ok (.iload_n 1, 1) := by decide +kernel
theorem dX8_choose_7 : decode cX8_choose 7 = .ok (.invokevirtual 78, 3) := by decide +kernel
theorem dX8_choose_10 : decode cX8_choose 10 = .ok (.ifCond .ne 5, 3) := by decide +kernel
theorem dX8_choose_13 : decode cX8_choose 13 = .ok (.iconst (-1), 1) := by decide +kernel
theorem dX8_choose_14 : decode cX8_choose 14 = .ok (.ireturn, 1) := by decide +kernel
theorem dX8_choose_15 : decode cX8_choose 15 = .ok (.iload_n 1, 1) := by decide +kernel
theorem dX8_choose_16 : decode cX8_choose 16 = .ok (.ifCond .ge 8, 3) := by decide +kernel
theorem dX8_choose_19 : decode cX8_choose 19 = .ok (.iload_n 1, 1) := by decide +kernel
theorem dX8_choose_20 : decode cX8_choose 20 = .ok (.ineg, 1) := by decide +kernel
theorem dX8_choose_21 : decode cX8_choose 21 = .ok (.goto 4, 3) := by decide +kernel
theorem dX8_choose_24 : decode cX8_choose 24 = .ok (.iload_n 1, 1) := by decide +kernel
theorem dX8_choose_25 : decode cX8_choose 25 = .ok (.istore_n 3, 1) := by decide +kernel
theorem dX8_choose_26 : decode cX8_choose 26 = .ok (.aload_n 0, 1) := by decide +kernel
theorem dX8_choose_27 : decode cX8_choose 27 = .ok (.iload_n 3, 1) := by decide +kernel
theorem dX8_choose_28 : decode cX8_choose 28 = .ok (.invokevirtual 87, 3) := by decide +kernel
theorem dX8_choose_31 : decode cX8_choose 31 = .ok (.istore 4, 2) := by decide +kernel
theorem dX8_choose_33 : decode cX8_choose 33 = .ok (.iload 4, 2) := by decide +kernel
theorem dX8_choose_35 : decode cX8_choose 35 = .ok (.ifCond .lt 9, 3) := by decide +kernel
theorem dX8_choose_38 : decode cX8_choose 38 = .ok (.aload_n 0, 1) := by decide +kernel
theorem dX8_choose_39 : decode cX8_choose 39 = .ok (.iload 4, 2) := by decide +kernel
theorem dX8_choose_41 : decode cX8_choose 41 = .ok (.invokevirtual 90, 3) := by decide +kernel
theorem dX8_choose_44 : decode cX8_choose 44 = .ok (.iload_n 1, 1) := by decide +kernel
theorem dX8_choose_45 : decode cX8_choose 45 = .ok (.ifCond .le 32, 3) := by decide +kernel
theorem dX8_choose_48 : decode cX8_choose 48 = .ok (.aload_n 0, 1) := by decide +kernel
theorem dX8_choose_49 : decode cX8_choose 49 = .ok (.getfield 44, 3) := by decide +kernel
theorem dX8_choose_52 : decode cX8_choose 52 = .ok (.aload_n 0, 1) := by decide +kernel
theorem dX8_choose_53 : decode cX8_choose 53 = .ok (.getfield 84, 3) := by decide +kernel
theorem dX8_choose_56 : decode cX8_choose 56 = .ok (.iload_n 2, 1) := by decide +kernel
theorem dX8_choose_57 : decode cX8_choose 57 = .ok (.ifCond .eq 7, 3) := by decide +kernel
theorem dX8_choose_60 : decode cX8_choose 60 = .ok (.iload_n 3, 1) := by decide +kernel
theorem dX8_choose_61 : decode cX8_choose 61 = .ok (.goto 5, 3) := by decide +kernel
theorem dX8_choose_64 : decode cX8_choose 64 = .ok (.iload_n 3, 1) := by decide +kernel
theorem dX8_choose_65 : decode cX8_choose 65 = .ok (.ineg, 1) := by decide +kernel
theorem dX8_choose_66 : decode cX8_choose 66 = .ok (.iastore, 1) := by decide +kernel
theorem dX8_choose_67 : decode cX8_choose 67 = .ok (.aload_n 0, 1) := by decide +kernel
theorem dX8_choose_68 : decode cX8_choose 68 = .ok (.dup, 1) := by decide +kernel
theorem dX8_choose_69 : decode cX8_choose 69 = .ok (.getfield 84, 3) := by decide +kernel
theorem dX8_choose_72 : decode cX8_choose 72 = .ok (.iconst 1, 1) := by decide +kernel
theorem dX8_choose_73 : decode cX8_choose 73 = .ok (.iadd, 1) := by decide +kernel
theorem dX8_choose_74 : decode cX8_choose 74 = .ok (.putfield 84, 3) := by decide +kernel
theorem dX8_choose_77 : decode cX8_choose 77 = .ok (.aload_n 0, 1) := by decide +kernel
theorem dX8_choose_78 : decode cX8_choose 78 = .ok (.getfield 84, 3) := by decide +kernel
theorem dX8_choose_81 : decode cX8_choose 81 = .ok (.ireturn, 1) := by decide +kernel
theorem dX8_isIn_0 : decode cX8_isIn 0 = .ok (.iload_n 1, 1) := by decide +kernel
theorem dX8_isIn_1 : decode cX8_isIn 1 = .ok (.aload_n 0, 1) := by decide +kernel
theorem dX8_isIn_2 : decode cX8_isIn 2 = .ok (.getfield 63, 3) := by decide +kernel
theorem dX8_isIn_5 : decode cX8_isIn 5 = .ok (.iload_n 2, 1) := by decide +kernel
theorem dX8_isIn_6 : decode cX8_isIn 6 = .ok (.isub, 1) := by decide +kernel
theorem dX8_isIn_7 : decode cX8_isIn 7 = .ok (.ishr, 1) := by decide +kernel
theorem dX8_isIn_8 : decode cX8_isIn 8 = .ok (.iconst 1, 1) := by decide +kernel
theorem dX8_isIn_9 : decode cX8_isIn 9 = .ok (.iand, 1) := by decide +kernel
theorem dX8_isIn_10 : decode cX8_isIn 10 = .ok (.iconst 1, 1) := by decide +kernel
theorem dX8_isIn_11 : decode cX8_isIn 11 = .ok (.if_icmp .ne 7, 3) := by decide +kernel
theorem dX8_isIn_14 : decode cX8_isIn 14 = .ok (.iconst 1, 1) := by decide +kernel
theorem dX8_isIn_15 : decode cX8_isIn 15 = .ok (.goto 4, 3) := by decide +kernel
theorem dX8_isIn_18 : decode cX8_isIn 18 = .ok (.iconst 0, 1) := by decide +kernel
theorem dX8_isIn_19 : decode cX8_isIn 19 = .ok (.ireturn, 1) := by decide +kernel
set_option maxRecDepth 20000 in
theorem ggX8_holds_X8_isIn : GoodIn wsX8_holds wsX8_isIn := goodIn_r _ [5, 6, 7, 8, 9, 10, 11, 12, 13, 14, 15, 16, 17, 18, 19, 20, 21, 22, 23, 24, 25, 26, 27, 28, 29, 30, 31, 32, 33] (by decide +kernel) (by decide +kernel)
set_option maxRecDepth 20000 in
theorem gX8_holds_X8_isIn : GoodIn wsX8_holds (wsV RX8 94 RX8 yX8_isIn wsX8_isIn) := goodIn_app (goodIn_of _ (by decide +kernel)) ggX8_holds_X8_isIn
theorem dX8_holds_0 : decode cX8_holds 0 = .ok (.iload_n 2, 1) := by decide +kernel
theorem dX8_holds_1 : decode cX8_holds 1 = .ok (.ifCond .le 12, 3) := by decide +kernel
theorem dX8_holds_4 : decode cX8_holds 4 = .ok (.aload_n 0, 1) := by decide +kernel
theorem dX8_holds_5 : decode cX8_holds 5 = .ok (.iload_n 1, 1) := by decide +kernel
theorem dX8_holds_6 : decode cX8_holds 6 = .ok (.iload_n 2, 1) := by decide +kernel
theorem dX8_holds_7 : decode cX8_holds 7 = .ok (.invokevirtual 94, 3) := by decide +kernel
theorem dX8_holds_10 : decode cX8_holds 10 = .ok (.goto 18, 3) := by decide +kernel
theorem dX8_holds_13 : decode cX8_holds 13 = .ok (.aload_n 0, 1) := by decide +kernel
theorem dX8_holds_14 : decode cX8_holds 14 = .ok (.iload_n 1, 1) := by decide +kernel
theorem dX8_holds_15 : decode cX8_holds 15 = .ok (.iload_n 2, 1) := by decide +kernel
theorem dX8_holds_16 : decode cX8_holds 16 = .ok (.ineg, 1) := by decide +kernel
theorem dX8_holds_17 : decode cX8_holds 17 = .ok (.invokevirtual 94, 3) := by decide +kernel
theorem dX8_holds_20 : decode cX8_holds 20 = .ok (.ifCond .ne 7, 3) := by decide +kernel
theorem dX8_holds_23 : decode cX8_holds 23 = .ok (.iconst 1, 1) := by decide +kernel
theorem dX8_holds_24 : decode cX8_holds 24 = .ok (.goto 4, 3) := by decide +kernel
theorem dX8_holds_27 : decode cX8_holds 27 = .ok (.iconst 0, 1) := by decide +kernel
theorem dX8_holds_28 : decode cX8_holds 28 = .ok (.ireturn, 1) := by decide +kernel
set_option maxRecDepth 20000 in
theorem ggX8_keepsTree_X8_isIn : GoodIn wsX8_keepsTree wsX8_isIn := goodIn_r _ [11, 1, 12, 13, 14, 15, 16, 17, 18, 19, 20, 21, 22, 23, 24, 25, 26, 27, 28, 29, 30, 31, 32, 33, 34, 35, 36, 37, 38] (by decide +kernel) (by decide +kernel)
set_option maxRecDepth 20000 in
theorem gX8_keepsTree_X8_isIn : GoodIn wsX8_keepsTree (wsV RX8 94 RX8 yX8_isIn wsX8_isIn) := goodIn_app (goodIn_of _ (by decide +kernel)) ggX8_keepsTree_X8_isIn
theorem dX8_keepsTree_0 : decode cX8_keepsTree 0 = .ok (.aload_n 0, 1) := by decide +kernel
theorem dX8_keepsTree_1 : decode cX8_keepsTree 1 = .ok (.getfield 63, 3) := by decide +kernel
theorem dX8_keepsTree_4 : decode cX8_keepsTree 4 = .ok (.ifCond .eq 12, 3) := by decide +kernel
theorem dX8_keepsTree_7 : decode cX8_keepsTree 7 = .ok (.aload_n 0, 1) := by decide +kernel
theorem dX8_keepsTree_8 : decode cX8_keepsTree 8 = .ok (.iload_n 1, 1) := by decide +kernel
theorem dX8_keepsTree_9 : decode cX8_keepsTree 9 = .ok (.iconst 1, 1) := by decide +kernel
theorem dX8_keepsTree_10 : decode cX8_keepsTree 10 = .ok (.invokevirtual 94, 3) := by decide +kernel
theorem dX8_keepsTree_13 : decode cX8_keepsTree 13 = .ok (.ifCond .eq 7, 3) := by decide +kernel
theorem dX8_keepsTree_16 : decode cX8_keepsTree 16 = .ok (.iconst 1, 1) := by decide +kernel
theorem dX8_keepsTree_17 : decode cX8_keepsTree 17 = .ok (.goto 4, 3) := by decide +kernel
theorem dX8_keepsTree_20 : decode cX8_keepsTree 20 = .ok (.iconst 0, 1) := by decide +kernel
theorem dX8_keepsTree_21 : decode cX8_keepsTree 21 = .ok (.istore_n 2, 1) := by decide +kernel
theorem dX8_keepsTree_22 : decode cX8_keepsTree 22 = .ok (.iconst 2, 1) := by decide +kernel
theorem dX8_keepsTree_23 : decode cX8_keepsTree 23 = .ok (.istore_n 3, 1) := by decide +kernel
theorem dX8_keepsTree_24 : decode cX8_keepsTree 24 = .ok (.iload_n 3, 1) := by decide +kernel
theorem dX8_keepsTree_25 : decode cX8_keepsTree 25 = .ok (.aload_n 0, 1) := by decide +kernel
theorem dX8_keepsTree_26 : decode cX8_keepsTree 26 = .ok (.getfield 63, 3) := by decide +kernel
theorem dX8_keepsTree_29 : decode cX8_keepsTree 29 = .ok (.if_icmp .gt 69, 3) := by decide +kernel
theorem dX8_keepsTree_32 : decode cX8_keepsTree 32 = .ok (.iload_n 2, 1) := by decide +kernel
theorem dX8_keepsTree_33 : decode cX8_keepsTree 33 = .ok (.ifCond .eq 65, 3) := by decide +kernel
theorem dX8_keepsTree_36 : decode cX8_keepsTree 36 = .ok (.aload_n 0, 1) := by decide +kernel
theorem dX8_keepsTree_37 : decode cX8_keepsTree 37 = .ok (.iload_n 1, 1) := by decide +kernel
theorem dX8_keepsTree_38 : decode cX8_keepsTree 38 = .ok (.aload_n 0, 1) := by decide +kernel
theorem dX8_keepsTree_39 : decode cX8_keepsTree 39 = .ok (.getfield 7, 3) := by decide +kernel
theorem dX8_keepsTree_42 : decode cX8_keepsTree 42 = .ok (.iload_n 3, 1) := by decide +kernel
theorem dX8_keepsTree_43 : decode cX8_keepsTree 43 = .ok (.iaload, 1) := by decide +kernel
theorem dX8_keepsTree_44 : decode cX8_keepsTree 44 = .ok (.invokevirtual 94, 3) := by decide +kernel
theorem dX8_keepsTree_47 : decode cX8_keepsTree 47 = .ok (.istore 4, 2) := by decide +kernel
theorem dX8_keepsTree_49 : decode cX8_keepsTree 49 = .ok (.iload 4, 2) := by decide +kernel
theorem dX8_keepsTree_51 : decode cX8_keepsTree 51 = .ok (.ifCond .ne 12, 3) := by decide +kernel
theorem dX8_keepsTree_54 : decode cX8_keepsTree 54 = .ok (.aload_n 0, 1) := by decide +kernel
theorem dX8_keepsTree_55 : decode cX8_keepsTree 55 = .ok (.iload_n 1, 1) := by decide +kernel
theorem dX8_keepsTree_56 : decode cX8_keepsTree 56 = .ok (.iload_n 3, 1) := by decide +kernel
theorem dX8_keepsTree_57 : decode cX8_keepsTree 57 = .ok (.invokevirtual 94, 3) := by decide +kernel
theorem dX8_keepsTree_60 : decode cX8_keepsTree 60 = .ok (.ifCond .ne 30, 3) := by decide +kernel
theorem dX8_keepsTree_63 : decode cX8_keepsTree 63 = .ok (.aload_n 0, 1) := by decide +kernel
theorem dX8_keepsTree_64 : decode cX8_keepsTree 64 = .ok (.getfield 13, 3) := by decide +kernel
theorem dX8_keepsTree_67 : decode cX8_keepsTree 67 = .ok (.iload_n 3, 1) := by decide +kernel
theorem dX8_keepsTree_68 : decode cX8_keepsTree 68 = .ok (.iaload, 1) := by decide +kernel
theorem dX8_keepsTree_69 : decode cX8_keepsTree 69 = .ok (.ifCond .ne 17, 3) := by decide +kernel
theorem dX8_keepsTree_72 : decode cX8_keepsTree 72 = .ok (.iload 4, 2) := by decide +kernel
theorem dX8_keepsTree_74 : decode cX8_keepsTree 74 = .ok (.ifCond .eq 12, 3) := by decide +kernel
theorem dX8_keepsTree_77 : decode cX8_keepsTree 77 = .ok (.aload_n 0, 1) := by decide +kernel
theorem dX8_keepsTree_78 : decode cX8_keepsTree 78 = .ok (.iload_n 1, 1) := by decide +kernel
theorem dX8_keepsTree_79 : decode cX8_keepsTree 79 = .ok (.iload_n 3, 1) := by decide +kernel
theorem dX8_keepsTree_80 : decode cX8_keepsTree 80 = .ok (.invokevirtual 94, 3) := by decide +kernel
theorem dX8_keepsTree_83 : decode cX8_keepsTree 83 = .ok (.ifCond .eq 7, 3) := by decide +kernel
theorem dX8_keepsTree_86 : decode cX8_keepsTree 86 = .ok (.iconst 1, 1) := by decide +kernel
theorem dX8_keepsTree_87 : decode cX8_keepsTree 87 = .ok (.goto 4, 3) := by decide +kernel
theorem dX8_keepsTree_90 : decode cX8_keepsTree 90 = .ok (.iconst 0, 1) := by decide +kernel
theorem dX8_keepsTree_91 : decode cX8_keepsTree 91 = .ok (.istore_n 2, 1) := by decide +kernel
theorem dX8_keepsTree_92 : decode cX8_keepsTree 92 = .ok (.iinc 3 1, 3) := by decide +kernel
theorem dX8_keepsTree_95 : decode cX8_keepsTree 95 = .ok (.goto (-71), 3) := by decide +kernel
theorem dX8_keepsTree_98 : decode cX8_keepsTree 98 = .ok (.iconst 1, 1) := by decide +kernel
theorem dX8_keepsTree_99 : decode cX8_keepsTree 99 = .ok (.istore_n 3, 1) := by decide +kernel
theorem dX8_keepsTree_100 : decode cX8_keepsTree 100 = .ok (.iload_n 3, 1) := by decide +kernel
theorem dX8_keepsTree_101 : decode cX8_keepsTree 101 = .ok (.aload_n 0, 1) := by decide +kernel
theorem dX8_keepsTree_102 : decode cX8_keepsTree 102 = .ok (.getfield 63, 3) := by decide +kernel
theorem dX8_keepsTree_105 : decode cX8_keepsTree 105 = .ok (.if_icmp .gt 123, 3) := by decide +kernel
theorem dX8_keepsTree_108 : decode cX8_keepsTree 108 = .ok (.iload_n 2, 1) := by decide +kernel
theorem dX8_keepsTree_109 : decode cX8_keepsTree 109 = .ok (.ifCond .eq 119, 3) := by decide +kernel
theorem dX8_keepsTree_112 : decode cX8_keepsTree 112 = .ok (.iconst 0, 1) := by decide +kernel
theorem dX8_keepsTree_113 : decode cX8_keepsTree 113 = .ok (.istore 4, 2) := by decide +kernel
theorem dX8_keepsTree_115 : decode cX8_keepsTree 115 = .ok (.iconst 1, 1) := by decide +kernel
theorem dX8_keepsTree_116 : decode cX8_keepsTree 116 = .ok (.istore 5, 2) := by decide +kernel
theorem dX8_keepsTree_118 : decode cX8_keepsTree 118 = .ok (.iload 5, 2) := by decide +kernel
theorem dX8_keepsTree_120 : decode cX8_keepsTree 120 = .ok (.aload_n 0, 1) := by decide +kernel
theorem dX8_keepsTree_121 : decode cX8_keepsTree 121 = .ok (.getfield 63, 3) := by decide +kernel
theorem dX8_keepsTree_124 : decode cX8_keepsTree 124 = .ok (.if_icmp .gt 52, 3) := by decide +kernel
theorem dX8_keepsTree_127 : decode cX8_keepsTree 127 = .ok (.aload_n 0, 1) := by decide +kernel
theorem dX8_keepsTree_128 : decode cX8_keepsTree 128 = .ok (.getfield 7, 3) := by decide +kernel
theorem dX8_keepsTree_131 : decode cX8_keepsTree 131 = .ok (.iload 5, 2) := by decide +kernel
theorem dX8_keepsTree_133 : decode cX8_keepsTree 133 = .ok (.iaload, 1) := by decide +kernel
theorem dX8_keepsTree_134 : decode cX8_keepsTree 134 = .ok (.iload_n 3, 1) := by decide +kernel
theorem dX8_keepsTree_135 : decode cX8_keepsTree 135 = .ok (.if_icmp .ne 31, 3) := by decide +kernel
theorem dX8_keepsTree_138 : decode cX8_keepsTree 138 = .ok (.aload_n 0, 1) := by decide +kernel
theorem dX8_keepsTree_139 : decode cX8_keepsTree 139 = .ok (.getfield 13, 3) := by decide +kernel
theorem dX8_keepsTree_142 : decode cX8_keepsTree 142 = .ok (.iload 5, 2) := by decide +kernel
theorem dX8_keepsTree_144 : decode cX8_keepsTree 144 = .ok (.iaload, 1) := by decide +kernel
theorem dX8_keepsTree_145 : decode cX8_keepsTree 145 = .ok (.iconst 2, 1) := by decide +kernel
theorem dX8_keepsTree_146 : decode cX8_keepsTree 146 = .ok (.if_icmp .ne 20, 3) := by decide +kernel
theorem dX8_keepsTree_149 : decode cX8_keepsTree 149 = .ok (.aload_n 0, 1) := by decide +kernel
theorem dX8_keepsTree_150 : decode cX8_keepsTree 150 = .ok (.iload_n 1, 1) := by decide +kernel
theorem dX8_keepsTree_151 : decode cX8_keepsTree 151 = .ok (.iload 5, 2) := by decide +kernel
theorem dX8_keepsTree_153 : decode cX8_keepsTree 153 = .ok (.invokevirtual 94, 3) := by decide +kernel
theorem dX8_keepsTree_156 : decode cX8_keepsTree 156 = .ok (.ifCond .eq 10, 3) := by decide +kernel
theorem dX8_keepsTree_159 : decode cX8_keepsTree 159 = .ok (.iload 4, 2) := by decide +kernel
theorem dX8_keepsTree_161 : decode cX8_keepsTree 161 = .ok (.iconst 1, 1) := by decide +kernel
theorem dX8_keepsTree_162 : decode cX8_keepsTree 162 = .ok (.iadd, 1) := by decide +kernel
theorem dX8_keepsTree_163 : decode cX8_keepsTree 163 = .ok (.goto 5, 3) := by decide +kernel
theorem dX8_keepsTree_166 : decode cX8_keepsTree 166 = .ok (.iload 4, 2) := by decide +kernel
theorem dX8_keepsTree_168 : decode cX8_keepsTree 168 = .ok (.istore 4, 2) := by decide +kernel
theorem dX8_keepsTree_170 : decode cX8_keepsTree 170 = .ok (.iinc 5 1, 3) := by decide +kernel
theorem dX8_keepsTree_173 : decode cX8_keepsTree 173 = .ok (.goto (-55), 3) := by decide +kernel
theorem dX8_keepsTree_176 : decode cX8_keepsTree 176 = .ok (.aload_n 0, 1) := by decide +kernel
theorem dX8_keepsTree_177 : decode cX8_keepsTree 177 = .ok (.getfield 16, 3) := by decide +kernel
theorem dX8_keepsTree_180 : decode cX8_keepsTree 180 = .ok (.iload_n 3, 1) := by decide +kernel
theorem dX8_keepsTree_181 : decode cX8_keepsTree 181 = .ok (.baload, 1) := by decide +kernel
theorem dX8_keepsTree_182 : decode cX8_keepsTree 182 = .ok (.ifCond .eq 34, 3) := by decide +kernel
theorem dX8_keepsTree_185 : decode cX8_keepsTree 185 = .ok (.aload_n 0, 1) := by decide +kernel
theorem dX8_keepsTree_186 : decode cX8_keepsTree 186 = .ok (.iload_n 1, 1) := by decide +kernel
theorem dX8_keepsTree_187 : decode cX8_keepsTree 187 = .ok (.iload_n 3, 1) := by decide +kernel
theorem dX8_keepsTree_188 : decode cX8_keepsTree 188 = .ok (.invokevirtual 94, 3) := by decide +kernel
theorem dX8_keepsTree_191 : decode cX8_keepsTree 191 = .ok (.ifCond .eq 25, 3) := by decide +kernel
theorem dX8_keepsTree_194 : decode cX8_keepsTree 194 = .ok (.iload 4, 2) := by decide +kernel
theorem dX8_keepsTree_196 : decode cX8_keepsTree 196 = .ok (.aload_n 0, 1) := by decide +kernel
theorem dX8_keepsTree_197 : decode cX8_keepsTree 197 = .ok (.getfield 20, 3) := by decide +kernel
theorem dX8_keepsTree_200 : decode cX8_keepsTree 200 = .ok (.iload_n 3, 1) := by decide +kernel
theorem dX8_keepsTree_201 : decode cX8_keepsTree 201 = .ok (.iaload, 1) := by decide +kernel
theorem dX8_keepsTree_202 : decode cX8_keepsTree 202 = .ok (.if_icmp .lt 18, 3) := by decide +kernel
theorem dX8_keepsTree_205 : decode cX8_keepsTree 205 = .ok (.iload 4, 2) := by decide +kernel
theorem dX8_keepsTree_207 : decode cX8_keepsTree 207 = .ok (.aload_n 0, 1) := by decide +kernel
theorem dX8_keepsTree_208 : decode cX8_keepsTree 208 = .ok (.getfield 23, 3) := by decide +kernel
theorem dX8_keepsTree_211 : decode cX8_keepsTree 211 = .ok (.iload_n 3, 1) := by decide +kernel
theorem dX8_keepsTree_212 : decode cX8_keepsTree 212 = .ok (.iaload, 1) := by decide +kernel
theorem dX8_keepsTree_213 : decode cX8_keepsTree 213 = .ok (.if_icmp .gt 7, 3) := by decide +kernel
theorem dX8_keepsTree_216 : decode cX8_keepsTree 216 = .ok (.iconst 1, 1) := by decide +kernel
theorem dX8_keepsTree_217 : decode cX8_keepsTree 217 = .ok (.goto 4, 3) := by decide +kernel
theorem dX8_keepsTree_220 : decode cX8_keepsTree 220 = .ok (.iconst 0, 1) := by decide +kernel
theorem dX8_keepsTree_221 : decode cX8_keepsTree 221 = .ok (.istore_n 2, 1) := by decide +kernel
theorem dX8_keepsTree_222 : decode cX8_keepsTree 222 = .ok (.iinc 3 1, 3) := by decide +kernel
theorem dX8_keepsTree_225 : decode cX8_keepsTree 225 = .ok (.goto (-125), 3) := by decide +kernel
theorem dX8_keepsTree_228 : decode cX8_keepsTree 228 = .ok (.iload_n 2, 1) := by decide +kernel
theorem dX8_keepsTree_229 : decode cX8_keepsTree 229 = .ok (.ireturn, 1) := by decide +kernel
set_option maxRecDepth 20000 in
theorem ggX8_keepsFormulas_X8_holds : GoodIn wsX8_keepsFormulas wsX8_holds := goodIn_r _ [9, 10, 11, 12, 8, 13, 14, 15, 16, 17, 18, 19, 20, 21, 22, 23, 24, 25, 26, 27, 28, 29, 30, 31, 32, 33, 34, 35, 36, 37, 38, 39, 40, 41] (by decide +kernel) (by decide +kernel)
set_option maxRecDepth 20000 in
theorem gX8_keepsFormulas_X8_holds : GoodIn wsX8_keepsFormulas (wsV RX8 98 RX8 yX8_holds wsX8_holds) := goodIn_app (goodIn_of _ (by decide +kernel)) ggX8_keepsFormulas_X8_holds
theorem dX8_keepsFormulas_0 : decode cX8_keepsFormulas 0 = .ok (.iconst 1, 1) := by decide +kernel
theorem dX8_keepsFormulas_1 : decode cX8_keepsFormulas 1 = .ok (.istore_n 2, 1) := by decide +kernel
theorem dX8_keepsFormulas_2 : decode cX8_keepsFormulas 2 = .ok (.iconst 0, 1) := by decide +kernel
theorem dX8_keepsFormulas_3 : decode cX8_keepsFormulas 3 = .ok (.istore_n 3, 1) := by decide +kernel
theorem dX8_keepsFormulas_4 : decode cX8_keepsFormulas 4 = .ok (.iload_n 3, 1) := by decide +kernel
theorem dX8_keepsFormulas_5 : decode cX8_keepsFormulas 5 = .ok (.aload_n 0, 1) := by decide +kernel
theorem dX8_keepsFormulas_6 : decode cX8_keepsFormulas 6 = .ok (.getfield 81, 3) := by decide +kernel
theorem dX8_keepsFormulas_9 : decode cX8_keepsFormulas 9 = .ok (.if_icmp .ge 135, 3) := by decide +kernel
theorem dX8_keepsFormulas_12 : decode cX8_keepsFormulas 12 = .ok (.iload_n 2, 1) := by decide +kernel
theorem dX8_keepsFormulas_13 : decode cX8_keepsFormulas 13 = .ok (.ifCond .eq 131, 3) := by decide +kernel
theorem dX8_keepsFormulas_16 : decode cX8_keepsFormulas 16 = .ok (.aload_n 0, 1) := by decide +kernel
theorem dX8_keepsFormulas_17 : decode cX8_keepsFormulas 17 = .ok (.iload_n 1, 1) := by decide +kernel
theorem dX8_keepsFormulas_18 : decode cX8_keepsFormulas 18 = .ok (.aload_n 0, 1) := by decide +kernel
theorem dX8_keepsFormulas_19 : decode cX8_keepsFormulas 19 = .ok (.getfield 32, 3) := by decide +kernel
theorem dX8_keepsFormulas_22 : decode cX8_keepsFormulas 22 = .ok (.iload_n 3, 1) := by decide +kernel
theorem dX8_keepsFormulas_23 : decode cX8_keepsFormulas 23 = .ok (.iaload, 1) := by decide +kernel
theorem dX8_keepsFormulas_24 : decode cX8_keepsFormulas 24 = .ok (.invokevirtual 98, 3) := by decide +kernel
theorem dX8_keepsFormulas_27 : decode cX8_keepsFormulas 27 = .ok (.istore 4, 2) := by decide +kernel
theorem dX8_keepsFormulas_29 : decode cX8_keepsFormulas 29 = .ok (.aload_n 0, 1) := by decide +kernel
theorem dX8_keepsFormulas_30 : decode cX8_keepsFormulas 30 = .ok (.iload_n 1, 1) := by decide +kernel
theorem dX8_keepsFormulas_31 : decode cX8_keepsFormulas 31 = .ok (.aload_n 0, 1) := by decide +kernel
theorem dX8_keepsFormulas_32 : decode cX8_keepsFormulas 32 = .ok (.getfield 35, 3) := by decide +kernel
theorem dX8_keepsFormulas_35 : decode cX8_keepsFormulas 35 = .ok (.iload_n 3, 1) := by decide +kernel
theorem dX8_keepsFormulas_36 : decode cX8_keepsFormulas 36 = .ok (.iaload, 1) := by decide +kernel
theorem dX8_keepsFormulas_37 : decode cX8_keepsFormulas 37 = .ok (.invokevirtual 98, 3) := by decide +kernel
theorem dX8_keepsFormulas_40 : decode cX8_keepsFormulas 40 = .ok (.istore 5, 2) := by decide +kernel
theorem dX8_keepsFormulas_42 : decode cX8_keepsFormulas 42 = .ok (.aload_n 0, 1) := by decide +kernel
theorem dX8_keepsFormulas_43 : decode cX8_keepsFormulas 43 = .ok (.getfield 29, 3) := by decide +kernel
theorem dX8_keepsFormulas_46 : decode cX8_keepsFormulas 46 = .ok (.iload_n 3, 1) := by decide +kernel
theorem dX8_keepsFormulas_47 : decode cX8_keepsFormulas 47 = .ok (.iaload, 1) := by decide +kernel
theorem dX8_keepsFormulas_48 : decode cX8_keepsFormulas 48 = .ok (.ifCond .ne 21, 3) := by decide +kernel
theorem dX8_keepsFormulas_51 : decode cX8_keepsFormulas 51 = .ok (.iload 4, 2) := by decide +kernel
theorem dX8_keepsFormulas_53 : decode cX8_keepsFormulas 53 = .ok (.ifCond .eq 8, 3) := by decide +kernel
theorem dX8_keepsFormulas_56 : decode cX8_keepsFormulas 56 = .ok (.iload 5, 2) := by decide +kernel
theorem dX8_keepsFormulas_58 : decode cX8_keepsFormulas 58 = .ok (.ifCond .eq 7, 3) := by decide +kernel
theorem dX8_keepsFormulas_61 : decode cX8_keepsFormulas 61 = .ok (.iconst 1, 1) := by decide +kernel
theorem dX8_keepsFormulas_62 : decode cX8_keepsFormulas 62 = .ok (.goto 75, 3) := by decide +kernel
theorem dX8_keepsFormulas_65 : decode cX8_keepsFormulas 65 = .ok (.iconst 0, 1) := by decide +kernel
theorem dX8_keepsFormulas_66 : decode cX8_keepsFormulas 66 = .ok (.goto 71, 3) := by decide +kernel
theorem dX8_keepsFormulas_69 : decode cX8_keepsFormulas 69 = .ok (.aload_n 0, 1) := by decide +kernel
theorem dX8_keepsFormulas_70 : decode cX8_keepsFormulas 70 = .ok (.getfield 29, 3) := by decide +kernel
theorem dX8_keepsFormulas_73 : decode cX8_keepsFormulas 73 = .ok (.iload_n 3, 1) := by decide +kernel
theorem dX8_keepsFormulas_74 : decode cX8_keepsFormulas 74 = .ok (.iaload, 1) := by decide +kernel
theorem dX8_keepsFormulas_75 : decode cX8_keepsFormulas 75 = .ok (.iconst 1, 1) := by decide +kernel
theorem dX8_keepsFormulas_76 : decode cX8_keepsFormulas 76 = .ok (.if_icmp .ne 21, 3) := by decide +kernel
theorem dX8_keepsFormulas_79 : decode cX8_keepsFormulas 79 = .ok (.iload 4, 2) := by decide +kernel
theorem dX8_keepsFormulas_81 : decode cX8_keepsFormulas 81 = .ok (.ifCond .eq 8, 3) := by decide +kernel
theorem dX8_keepsFormulas_84 : decode cX8_keepsFormulas 84 = .ok (.iload 5, 2) := by decide +kernel
theorem dX8_keepsFormulas_86 : decode cX8_keepsFormulas 86 = .ok (.ifCond .ne 7, 3) := by decide +kernel
theorem dX8_keepsFormulas_89 : decode cX8_keepsFormulas 89 = .ok (.iconst 1, 1) := by decide +kernel
theorem dX8_keepsFormulas_90 : decode cX8_keepsFormulas 90 = .ok (.goto 47, 3) := by decide +kernel
theorem dX8_keepsFormulas_93 : decode cX8_keepsFormulas 93 = .ok (.iconst 0, 1) := by decide +kernel
theorem dX8_keepsFormulas_94 : decode cX8_keepsFormulas 94 = .ok (.goto 43, 3) := by decide +kernel
theorem dX8_keepsFormulas_97 : decode cX8_keepsFormulas 97 = .ok (.aload_n 0, 1) := by decide +kernel
theorem dX8_keepsFormulas_98 : decode cX8_keepsFormulas 98 = .ok (.getfield 29, 3) := by decide +kernel
theorem dX8_keepsFormulas_101 : decode cX8_keepsFormulas 101 = .ok (.iload_n 3, 1) := by decide +kernel
theorem dX8_keepsFormulas_102 : decode cX8_keepsFormulas 102 = .ok (.iaload, 1) := by decide +kernel
theorem dX8_keepsFormulas_103 : decode cX8_keepsFormulas 103 = .ok (.iconst 2, 1) := by decide +kernel
theorem dX8_keepsFormulas_104 : decode cX8_keepsFormulas 104 = .ok (.if_icmp .ne 21, 3) := by decide +kernel
theorem dX8_keepsFormulas_107 : decode cX8_keepsFormulas 107 = .ok (.iload 4, 2) := by decide +kernel
theorem dX8_keepsFormulas_109 : decode cX8_keepsFormulas 109 = .ok (.ifCond .ne 8, 3) := by decide +kernel
theorem dX8_keepsFormulas_112 : decode cX8_keepsFormulas 112 = .ok (.iload 5, 2) := by decide +kernel
theorem dX8_keepsFormulas_114 : decode cX8_keepsFormulas 114 = .ok (.ifCond .eq 7, 3) := by decide +kernel
theorem dX8_keepsFormulas_117 : decode cX8_keepsFormulas 117 = .ok (.iconst 1, 1) := by decide +kernel
theorem dX8_keepsFormulas_118 : decode cX8_keepsFormulas 118 = .ok (.goto 19, 3) := by decide +kernel
theorem dX8_keepsFormulas_121 : decode cX8_keepsFormulas 121 = .ok (.iconst 0, 1) := by decide +kernel
theorem dX8_keepsFormulas_122 : decode cX8_keepsFormulas 122 = .ok (.goto 15, 3) := by decide +kernel
theorem dX8_keepsFormulas_125 : decode cX8_keepsFormulas 125 = .ok (.iload 4, 2) := by decide +kernel
theorem dX8_keepsFormulas_127 : decode cX8_keepsFormulas 127 = .ok (.iload 5, 2) := by decide +kernel
theorem dX8_keepsFormulas_129 : decode cX8_keepsFormulas 129 = .ok (.if_icmp .ne 7, 3) := by decide +kernel
theorem dX8_keepsFormulas_132 : decode cX8_keepsFormulas 132 = .ok (.iconst 1, 1) := by decide +kernel
theorem dX8_keepsFormulas_133 : decode cX8_keepsFormulas 133 = .ok (.goto 4, 3) := by decide +kernel
theorem dX8_keepsFormulas_136 : decode cX8_keepsFormulas 136 = .ok (.iconst 0, 1) := by decide +kernel
theorem dX8_keepsFormulas_137 : decode cX8_keepsFormulas 137 = .ok (.istore_n 2, 1) := by decide +kernel
theorem dX8_keepsFormulas_138 : decode cX8_keepsFormulas 138 = .ok (.iinc 3 1, 3) := by decide +kernel
theorem dX8_keepsFormulas_141 : decode cX8_keepsFormulas 141 = .ok (.goto (-137), 3) := by decide +kernel
theorem dX8_keepsFormulas_144 : decode cX8_keepsFormulas 144 = .ok (.iload_n 2, 1) := by decide +kernel
theorem dX8_keepsFormulas_145 : decode cX8_keepsFormulas 145 = .ok (.ireturn, 1) := by decide +kernel
set_option maxRecDepth 20000 in
theorem ggX8_keepsLimits_X8_isIn : GoodIn wsX8_keepsLimits wsX8_isIn := goodIn_r _ [9, 1, 10, 11, 12, 13, 14, 15, 16, 17, 18, 19, 20, 21, 22, 23, 24, 25, 26, 27, 28, 29, 30, 31, 32, 33, 34, 35, 36] (by decide +kernel) (by decide +kernel)
set_option maxRecDepth 20000 in
theorem gX8_keepsLimits_X8_isIn : GoodIn wsX8_keepsLimits (wsV RX8 94 RX8 yX8_isIn wsX8_isIn) := goodIn_app (goodIn_of _ (by decide +kernel)) ggX8_keepsLimits_X8_isIn
theorem dX8_keepsLimits_0 : decode cX8_keepsLimits 0 = .ok (.iconst 1, 1) := by decide +kernel
theorem dX8_keepsLimits_1 : decode cX8_keepsLimits 1 = .ok (.istore_n 2, 1) := by decide +kernel
theorem dX8_keepsLimits_2 : decode cX8_keepsLimits 2 = .ok (.iconst 0, 1) := by decide +kernel
theorem dX8_keepsLimits_3 : decode cX8_keepsLimits 3 = .ok (.istore_n 3, 1) := by decide +kernel
theorem dX8_keepsLimits_4 : decode cX8_keepsLimits 4 = .ok (.iload_n 3, 1) := by decide +kernel
theorem dX8_keepsLimits_5 : decode cX8_keepsLimits 5 = .ok (.iconst 4, 1) := by decide +kernel
theorem dX8_keepsLimits_6 : decode cX8_keepsLimits 6 = .ok (.if_icmp .ge 91, 3) := by decide +kernel
theorem dX8_keepsLimits_9 : decode cX8_keepsLimits 9 = .ok (.iconst 0, 1) := by decide +kernel
theorem dX8_keepsLimits_10 : decode cX8_keepsLimits 10 = .ok (.istore 4, 2) := by decide +kernel
theorem dX8_keepsLimits_12 : decode cX8_keepsLimits 12 = .ok (.iconst 1, 1) := by decide +kernel
theorem dX8_keepsLimits_13 : decode cX8_keepsLimits 13 = .ok (.istore 5, 2) := by decide +kernel
theorem dX8_keepsLimits_15 : decode cX8_keepsLimits 15 = .ok (.iload 5, 2) := by decide +kernel
theorem dX8_keepsLimits_17 : decode cX8_keepsLimits 17 = .ok (.aload_n 0, 1) := by decide +kernel
theorem dX8_keepsLimits_18 : decode cX8_keepsLimits 18 = .ok (.getfield 63, 3) := by decide +kernel
theorem dX8_keepsLimits_21 : decode cX8_keepsLimits 21 = .ok (.if_icmp .gt 40, 3) := by decide +kernel
theorem dX8_keepsLimits_24 : decode cX8_keepsLimits 24 = .ok (.aload_n 0, 1) := by decide +kernel
theorem dX8_keepsLimits_25 : decode cX8_keepsLimits 25 = .ok (.iload_n 1, 1) := by decide +kernel
theorem dX8_keepsLimits_26 : decode cX8_keepsLimits 26 = .ok (.iload 5, 2) := by decide +kernel
theorem dX8_keepsLimits_28 : decode cX8_keepsLimits 28 = .ok (.invokevirtual 94, 3) := by decide +kernel
theorem dX8_keepsLimits_31 : decode cX8_keepsLimits 31 = .ok (.ifCond .eq 20, 3) := by decide +kernel
theorem dX8_keepsLimits_34 : decode cX8_keepsLimits 34 = .ok (.iload 4, 2) := by decide +kernel
theorem dX8_keepsLimits_36 : decode cX8_keepsLimits 36 = .ok (.aload_n 0, 1) := by decide +kernel
theorem dX8_keepsLimits_37 : decode cX8_keepsLimits 37 = .ok (.getfield 26, 3) := by decide +kernel
theorem dX8_keepsLimits_40 : decode cX8_keepsLimits 40 = .ok (.iconst 4, 1) := by decide +kernel
theorem dX8_keepsLimits_41 : decode cX8_keepsLimits 41 = .ok (.iload 5, 2) := by decide +kernel
theorem dX8_keepsLimits_43 : decode cX8_keepsLimits 43 = .ok (.imul, 1) := by decide +kernel
theorem dX8_keepsLimits_44 : decode cX8_keepsLimits 44 = .ok (.iload_n 3, 1) := by decide +kernel
theorem dX8_keepsLimits_45 : decode cX8_keepsLimits 45 = .ok (.iadd, 1) := by decide +kernel
theorem dX8_keepsLimits_46 : decode cX8_keepsLimits 46 = .ok (.iaload, 1) := by decide +kernel
theorem dX8_keepsLimits_47 : decode cX8_keepsLimits 47 = .ok (.iadd, 1) := by decide +kernel
theorem dX8_keepsLimits_48 : decode cX8_keepsLimits 48 = .ok (.goto 5, 3) := by decide +kernel
theorem dX8_keepsLimits_51 : decode cX8_keepsLimits 51 = .ok (.iload 4, 2) := by decide +kernel
theorem dX8_keepsLimits_53 : decode cX8_keepsLimits 53 = .ok (.istore 4, 2) := by decide +kernel
theorem dX8_keepsLimits_55 : decode cX8_keepsLimits 55 = .ok (.iinc 5 1, 3) := by decide +kernel
theorem dX8_keepsLimits_58 : decode cX8_keepsLimits 58 = .ok (.goto (-43), 3) := by decide +kernel
theorem dX8_keepsLimits_61 : decode cX8_keepsLimits 61 = .ok (.iload_n 2, 1) := by decide +kernel
theorem dX8_keepsLimits_62 : decode cX8_keepsLimits 62 = .ok (.ifCond .eq 27, 3) := by decide +kernel
theorem dX8_keepsLimits_65 : decode cX8_keepsLimits 65 = .ok (.aload_n 0, 1) := by decide +kernel
theorem dX8_keepsLimits_66 : decode cX8_keepsLimits 66 = .ok (.getfield 38, 3) := by decide +kernel
theorem dX8_keepsLimits_69 : decode cX8_keepsLimits 69 = .ok (.iload_n 3, 1) := by decide +kernel
theorem dX8_keepsLimits_70 : decode cX8_keepsLimits 70 = .ok (.baload, 1) := by decide +kernel
theorem dX8_keepsLimits_71 : decode cX8_keepsLimits 71 = .ok (.ifCond .eq 14, 3) := by decide +kernel
theorem dX8_keepsLimits_74 : decode cX8_keepsLimits 74 = .ok (.iload 4, 2) := by decide +kernel
theorem dX8_keepsLimits_76 : decode cX8_keepsLimits 76 = .ok (.aload_n 0, 1) := by decide +kernel
theorem dX8_keepsLimits_77 : decode cX8_keepsLimits 77 = .ok (.getfield 41, 3) := by decide +kernel
theorem dX8_keepsLimits_80 : decode cX8_keepsLimits 80 = .ok (.iload_n 3, 1) := by decide +kernel
theorem dX8_keepsLimits_81 : decode cX8_keepsLimits 81 = .ok (.iaload, 1) := by decide +kernel
theorem dX8_keepsLimits_82 : decode cX8_keepsLimits 82 = .ok (.if_icmp .gt 7, 3) := by decide +kernel
theorem dX8_keepsLimits_85 : decode cX8_keepsLimits 85 = .ok (.iconst 1, 1) := by decide +kernel
theorem dX8_keepsLimits_86 : decode cX8_keepsLimits 86 = .ok (.goto 4, 3) := by decide +kernel
theorem dX8_keepsLimits_89 : decode cX8_keepsLimits 89 = .ok (.iconst 0, 1) := by decide +kernel
theorem dX8_keepsLimits_90 : decode cX8_keepsLimits 90 = .ok (.istore_n 2, 1) := by decide +kernel
theorem dX8_keepsLimits_91 : decode cX8_keepsLimits 91 = .ok (.iinc 3 1, 3) := by decide +kernel
theorem dX8_keepsLimits_94 : decode cX8_keepsLimits 94 = .ok (.goto (-90), 3) := by decide +kernel
theorem dX8_keepsLimits_97 : decode cX8_keepsLimits 97 = .ok (.iload_n 2, 1) := by decide +kernel
theorem dX8_keepsLimits_98 : decode cX8_keepsLimits 98 = .ok (.ireturn, 1) := by decide +kernel
set_option maxRecDepth 20000 in
theorem ggX8_know_X8_keepsTree : GoodIn wsX8_know wsX8_keepsTree := goodIn_ca (goodIn_r _ [9, 3, 10, 11, 12, 13, 14, 15, 16, 17, 8, 18, 38, 39, 40, 41, 42, 43, 44, 45, 46, 47, 48, 49, 50, 51, 52, 53, 54, 55, 56, 57, 58, 59, 60, 61, 62, 63, 64] (by decide +kernel) (by decide +kernel)) (goodIn_sub (fun _ h => List.mem_cons_of_mem _ (List.mem_append_right _ h)) (by decide +kernel))
set_option maxRecDepth 20000 in
theorem gX8_know_X8_keepsTree : GoodIn wsX8_know (wsV RX8 104 RX8 yX8_keepsTree wsX8_keepsTree) := goodIn_app (goodIn_of _ (by decide +kernel)) ggX8_know_X8_keepsTree
set_option maxRecDepth 20000 in
theorem ggX8_know_X8_keepsFormulas : GoodIn wsX8_know wsX8_keepsFormulas := goodIn_ca (goodIn_r _ [22, 23, 24, 25, 26, 27, 28, 29, 8, 30, 15, 16, 17, 18, 3, 38, 39, 40, 41, 42, 43, 44, 45, 46, 47, 48, 49, 50, 51, 52, 53, 54, 55, 56, 57, 58, 59, 60, 61, 62, 63, 64] (by decide +kernel) (by decide +kernel)) (goodIn_sub (fun _ h => List.mem_cons_of_mem _ (List.mem_append_right _ h)) (by decide +kernel))
set_option maxRecDepth 20000 in
theorem gX8_know_X8_keepsFormulas : GoodIn wsX8_know (wsV RX8 107 RX8 yX8_keepsFormulas wsX8_keepsFormulas) := goodIn_app (goodIn_of _ (by decide +kernel)) ggX8_know_X8_keepsFormulas
set_option maxRecDepth 20000 in
theorem ggX8_know_X8_keepsLimits : GoodIn wsX8_know wsX8_keepsLimits := goodIn_ca (goodIn_r _ [34, 3, 35, 36, 37, 15, 16, 17, 8, 18, 38, 39, 40, 41, 42, 43, 44, 45, 46, 47, 48, 49, 50, 51, 52, 53, 54, 55, 56, 57, 58, 59, 60, 61, 62, 63, 64] (by decide +kernel) (by decide +kernel)) (goodIn_sub (fun _ h => List.mem_cons_of_mem _ (List.mem_append_right _ h)) (by decide +kernel))
set_option maxRecDepth 20000 in
theorem gX8_know_X8_keepsLimits : GoodIn wsX8_know (wsV RX8 110 RX8 yX8_keepsLimits wsX8_keepsLimits) := goodIn_app (goodIn_of _ (by decide +kernel)) ggX8_know_X8_keepsLimits
theorem dX8_know_0 : decode cX8_know 0 = .ok (.aload_n 0, 1) := by decide +kernel
theorem dX8_know_1 : decode cX8_know 1 = .ok (.getfield 70, 3) := by decide +kernel
theorem dX8_know_4 : decode cX8_know 4 = .ok (.ifCond .eq 4, 3) := by decide +kernel
theorem dX8_know_7 : decode cX8_know 7 = .ok (.return_, 1) := by decide +kernel
theorem dX8_know_8 : decode cX8_know 8 = .ok (.aload_n 0, 1) := by decide +kernel
theorem dX8_know_9 : decode cX8_know 9 = .ok (.iconst 1, 1) := by decide +kernel
theorem dX8_know_10 : decode cX8_know 10 = .ok (.putfield 70, 3) := by decide +kernel
theorem dX8_know_13 : decode cX8_know 13 = .ok (.aload_n 0, 1) := by decide +kernel
theorem dX8_know_14 : decode cX8_know 14 = .ok (.iconst 0, 1) := by decide +kernel
theorem dX8_know_15 : decode cX8_know 15 = .ok (.putfield 101, 3) := by decide +kernel
theorem dX8_know_18 : decode cX8_know 18 = .ok (.iconst 1, 1) := by decide +kernel
theorem dX8_know_19 : decode cX8_know 19 = .ok (.aload_n 0, 1) := by decide +kernel
theorem dX8_know_20 : decode cX8_know 20 = .ok (.getfield 63, 3) := by decide +kernel
theorem dX8_know_23 : decode cX8_know 23 = .ok (.ishl, 1) := by decide +kernel
theorem dX8_know_24 : decode cX8_know 24 = .ok (.iconst 1, 1) := by decide +kernel
theorem dX8_know_25 : decode cX8_know 25 = .ok (.isub, 1) := by decide +kernel
theorem dX8_know_26 : decode cX8_know 26 = .ok (.istore_n 1, 1) := by decide +kernel
theorem dX8_know_27 : decode cX8_know 27 = .ok (.iload_n 1, 1) := by decide +kernel
theorem dX8_know_28 : decode cX8_know 28 = .ok (.ifCond .lt 53, 3) := by decide +kernel
theorem dX8_know_31 : decode cX8_know 31 = .ok (.aload_n 0, 1) := by decide +kernel
theorem dX8_know_32 : decode cX8_know 32 = .ok (.iload_n 1, 1) := by decide +kernel
theorem dX8_know_33 : decode cX8_know 33 = .ok (.invokevirtual 104, 3) := by decide +kernel
theorem dX8_know_36 : decode cX8_know 36 = .ok (.ifCond .eq 39, 3) := by decide +kernel
theorem dX8_know_39 : decode cX8_know 39 = .ok (.aload_n 0, 1) := by decide +kernel
theorem dX8_know_40 : decode cX8_know 40 = .ok (.iload_n 1, 1) := by decide +kernel
theorem dX8_know_41 : decode cX8_know 41 = .ok (.invokevirtual 107, 3) := by decide +kernel
theorem dX8_know_44 : decode cX8_know 44 = .ok (.ifCond .eq 31, 3) := by decide +kernel
theorem dX8_know_47 : decode cX8_know 47 = .ok (.aload_n 0, 1) := by decide +kernel
theorem dX8_know_48 : decode cX8_know 48 = .ok (.iload_n 1, 1) := by decide +kernel
theorem dX8_know_49 : decode cX8_know 49 = .ok (.invokevirtual 110, 3) := by decide +kernel
theorem dX8_know_52 : decode cX8_know 52 = .ok (.ifCond .eq 23, 3) := by decide +kernel
theorem dX8_know_55 : decode cX8_know 55 = .ok (.aload_n 0, 1) := by decide +kernel
theorem dX8_know_56 : decode cX8_know 56 = .ok (.getfield 47, 3) := by decide +kernel
theorem dX8_know_59 : decode cX8_know 59 = .ok (.aload_n 0, 1) := by decide +kernel
theorem dX8_know_60 : decode cX8_know 60 = .ok (.getfield 101, 3) := by decide +kernel
theorem dX8_know_63 : decode cX8_know 63 = .ok (.iload_n 1, 1) := by decide +kernel
theorem dX8_know_64 : decode cX8_know 64 = .ok (.iastore, 1) := by decide +kernel
theorem dX8_know_65 : decode cX8_know 65 = .ok (.aload_n 0, 1) := by decide +kernel
theorem dX8_know_66 : decode cX8_know 66 = .ok (.dup, 1) := by decide +kernel
theorem dX8_know_67 : decode cX8_know 67 = .ok (.getfield 101, 3) := by decide +kernel
theorem dX8_know_70 : decode cX8_know 70 = .ok (.iconst 1, 1) := by decide +kernel
theorem dX8_know_71 : decode cX8_know 71 = .ok (.iadd, 1) := by decide +kernel
theorem dX8_know_72 : decode cX8_know 72 = .ok (.putfield 101, 3) := by decide +kernel
theorem dX8_know_75 : decode cX8_know 75 = .ok (.iinc 1 (-1), 3) := by decide +kernel
theorem dX8_know_78 : decode cX8_know 78 = .ok (.goto (-51), 3) := by decide +kernel
theorem dX8_know_81 : decode cX8_know 81 = .ok (.return_, 1) := by decide +kernel
set_option maxRecDepth 20000 in
theorem ggX8_keepsChoices_X8_holds : GoodIn wsX8_keepsChoices wsX8_holds := goodIn_r _ [7, 8, 9, 10, 6, 11, 12, 13, 14, 15, 16, 17, 18, 19, 20, 21, 22, 23, 24, 25, 26, 27, 28, 29, 30, 31, 32, 33, 34, 35, 36, 37, 38, 39] (by decide +kernel) (by decide +kernel)
set_option maxRecDepth 20000 in
theorem gX8_keepsChoices_X8_holds : GoodIn wsX8_keepsChoices (wsV RX8 98 RX8 yX8_holds wsX8_holds) := goodIn_app (goodIn_of _ (by decide +kernel)) ggX8_keepsChoices_X8_holds
theorem dX8_keepsChoices_0 : decode cX8_keepsChoices 0 = .ok (.iconst 1, 1) := by decide +kernel
theorem dX8_keepsChoices_1 : decode cX8_keepsChoices 1 = .ok (.istore_n 3, 1) := by decide +kernel
theorem dX8_keepsChoices_2 : decode cX8_keepsChoices 2 = .ok (.iconst 0, 1) := by decide +kernel
theorem dX8_keepsChoices_3 : decode cX8_keepsChoices 3 = .ok (.istore 4, 2) := by decide +kernel
theorem dX8_keepsChoices_5 : decode cX8_keepsChoices 5 = .ok (.iload 4, 2) := by decide +kernel
theorem dX8_keepsChoices_7 : decode cX8_keepsChoices 7 = .ok (.aload_n 0, 1) := by decide +kernel
theorem dX8_keepsChoices_8 : decode cX8_keepsChoices 8 = .ok (.getfield 84, 3) := by decide +kernel
theorem dX8_keepsChoices_11 : decode cX8_keepsChoices 11 = .ok (.if_icmp .ge 44, 3) := by decide +kernel
theorem dX8_keepsChoices_14 : decode cX8_keepsChoices 14 = .ok (.iload_n 3, 1) := by decide +kernel
theorem dX8_keepsChoices_15 : decode cX8_keepsChoices 15 = .ok (.ifCond .eq 40, 3) := by decide +kernel
theorem dX8_keepsChoices_18 : decode cX8_keepsChoices 18 = .ok (.iload_n 2, 1) := by decide +kernel
theorem dX8_keepsChoices_19 : decode cX8_keepsChoices 19 = .ok (.iload 4, 2) := by decide +kernel
theorem dX8_keepsChoices_21 : decode cX8_keepsChoices 21 = .ok (.ishr, 1) := by decide +kernel
theorem dX8_keepsChoices_22 : decode cX8_keepsChoices 22 = .ok (.iconst 1, 1) := by decide +kernel
theorem dX8_keepsChoices_23 : decode cX8_keepsChoices 23 = .ok (.iand, 1) := by decide +kernel
theorem dX8_keepsChoices_24 : decode cX8_keepsChoices 24 = .ok (.iconst 1, 1) := by decide +kernel
theorem dX8_keepsChoices_25 : decode cX8_keepsChoices 25 = .ok (.if_icmp .eq 18, 3) := by decide +kernel
theorem dX8_keepsChoices_28 : decode cX8_keepsChoices 28 = .ok (.aload_n 0, 1) := by decide +kernel
theorem dX8_keepsChoices_29 : decode cX8_keepsChoices 29 = .ok (.iload_n 1, 1) := by decide +kernel
theorem dX8_keepsChoices_30 : decode cX8_keepsChoices 30 = .ok (.aload_n 0, 1) := by decide +kernel
theorem dX8_keepsChoices_31 : decode cX8_keepsChoices 31 = .ok (.getfield 44, 3) := by decide +kernel
theorem dX8_keepsChoices_34 : decode cX8_keepsChoices 34 = .ok (.iload 4, 2) := by decide +kernel
theorem dX8_keepsChoices_36 : decode cX8_keepsChoices 36 = .ok (.iaload, 1) := by decide +kernel
theorem dX8_keepsChoices_37 : decode cX8_keepsChoices 37 = .ok (.invokevirtual 98, 3) := by decide +kernel
theorem dX8_keepsChoices_40 : decode cX8_keepsChoices 40 = .ok (.ifCond .eq 7, 3) := by decide +kernel
theorem dX8_keepsChoices_43 : decode cX8_keepsChoices 43 = .ok (.iconst 1, 1) := by decide +kernel
theorem dX8_keepsChoices_44 : decode cX8_keepsChoices 44 = .ok (.goto 4, 3) := by decide +kernel
theorem dX8_keepsChoices_47 : decode cX8_keepsChoices 47 = .ok (.iconst 0, 1) := by decide +kernel
theorem dX8_keepsChoices_48 : decode cX8_keepsChoices 48 = .ok (.istore_n 3, 1) := by decide +kernel
theorem dX8_keepsChoices_49 : decode cX8_keepsChoices 49 = .ok (.iinc 4 1, 3) := by decide +kernel
theorem dX8_keepsChoices_52 : decode cX8_keepsChoices 52 = .ok (.goto (-47), 3) := by decide +kernel
theorem dX8_keepsChoices_55 : decode cX8_keepsChoices 55 = .ok (.iload_n 3, 1) := by decide +kernel
theorem dX8_keepsChoices_56 : decode cX8_keepsChoices 56 = .ok (.ireturn, 1) := by decide +kernel
set_option maxRecDepth 20000 in
theorem ggX8_firstWithout_X8_know : GoodIn wsX8_firstWithout wsX8_know := goodIn_ca (goodIn_r _ [7, 8, 1, 9, 2, 10, 11, 12, 6, 13, 14, 15, 16, 17, 18, 19, 20, 21, 22, 23, 24, 25, 26, 27, 28, 29, 30, 31, 32, 33, 34, 35, 36, 37, 38, 39, 40, 41, 48, 49, 50, 51, 52, 53, 54, 55, 56, 57, 58, 59, 60, 61, 62, 63, 64, 65, 66, 67, 68, 69, 70, 71, 72, 73, 74] (by decide +kernel) (by decide +kernel)) (goodIn_sub (fun _ h => List.mem_cons_of_mem _ (List.mem_append_right _ h)) (by decide +kernel))
set_option maxRecDepth 20000 in
theorem gX8_firstWithout_X8_know : GoodIn wsX8_firstWithout (wsV RX8 113 RX8 yX8_know wsX8_know) := goodIn_app (goodIn_of _ (by decide +kernel)) ggX8_firstWithout_X8_know
set_option maxRecDepth 20000 in
theorem ggX8_firstWithout_X8_keepsChoices : GoodIn wsX8_firstWithout wsX8_keepsChoices := goodIn_ca (goodIn_r _ [45, 46, 47, 31, 32, 33, 6, 34, 19, 20, 21, 22, 9, 48, 49, 50, 51, 52, 53, 54, 55, 56, 57, 58, 59, 60, 61, 62, 63, 64, 65, 66, 67, 68, 69, 70, 71, 72, 73, 74] (by decide +kernel) (by decide +kernel)) (goodIn_sub (fun _ h => List.mem_cons_of_mem _ (List.mem_append_right _ h)) (by decide +kernel))
set_option maxRecDepth 20000 in
theorem gX8_firstWithout_X8_keepsChoices : GoodIn wsX8_firstWithout (wsV RX8 116 RX8 yX8_keepsChoices wsX8_keepsChoices) := goodIn_app (goodIn_of _ (by decide +kernel)) ggX8_firstWithout_X8_keepsChoices
theorem dX8_firstWithout_0 : decode cX8_firstWithout 0 = .ok (.aload_n 0, 1) := by decide +kernel
theorem dX8_firstWithout_1 : decode cX8_firstWithout 1 = .ok (.invokevirtual 113, 3) := by decide +kernel
theorem dX8_firstWithout_4 : decode cX8_firstWithout 4 = .ok (.iconst 0, 1) := by decide +kernel
theorem dX8_firstWithout_5 : decode cX8_firstWithout 5 = .ok (.istore_n 2, 1) := by decide +kernel
theorem dX8_firstWithout_6 : decode cX8_firstWithout 6 = .ok (.iload_n 2, 1) := by decide +kernel
theorem dX8_firstWithout_7 : decode cX8_firstWithout 7 = .ok (.aload_n 0, 1) := by decide +kernel
theorem dX8_firstWithout_8 : decode cX8_firstWithout 8 = .ok (.getfield 101, 3) := by decide +kernel
theorem dX8_firstWithout_11 : decode cX8_firstWithout 11 = .ok (.if_icmp .ge 30, 3) := by decide +kernel
theorem dX8_firstWithout_14 : decode cX8_firstWithout 14 = .ok (.aload_n 0, 1) := by decide +kernel
theorem dX8_firstWithout_15 : decode cX8_firstWithout 15 = .ok (.aload_n 0, 1) := by decide +kernel
theorem dX8_firstWithout_16 : decode cX8_firstWithout 16 = .ok (.getfield 47, 3) := by decide +kernel
theorem dX8_firstWithout_19 : decode cX8_firstWithout 19 = .ok (.iload_n 2, 1) := by decide +kernel
theorem dX8_firstWithout_20 : decode cX8_firstWithout 20 = .ok (.iaload, 1) := by decide +kernel
theorem dX8_firstWithout_21 : decode cX8_firstWithout 21 = .ok (.iload_n 1, 1) := by decide +kernel
theorem dX8_firstWithout_22 : decode cX8_firstWithout 22 = .ok (.invokevirtual 116, 3) := by decide +kernel
theorem dX8_firstWithout_25 : decode cX8_firstWithout 25 = .ok (.ifCond .eq 10, 3) := by decide +kernel
theorem dX8_firstWithout_28 : decode cX8_firstWithout 28 = .ok (.aload_n 0, 1) := by decide +kernel
theorem dX8_firstWithout_29 : decode cX8_firstWithout 29 = .ok (.getfield 47, 3) := by decide +kernel
theorem dX8_firstWithout_32 : decode cX8_firstWithout 32 = .ok (.iload_n 2, 1) := by decide +kernel
theorem dX8_firstWithout_33 : decode cX8_firstWithout 33 = .ok (.iaload, 1) := by decide +kernel
theorem dX8_firstWithout_34 : decode cX8_firstWithout 34 = .ok (.ireturn, 1) := by decide +kernel
theorem dX8_firstWithout_35 : decode cX8_firstWithout 35 = .ok (.iinc 2 1, 3) := by decide +kernel
theorem dX8_firstWithout_38 : decode cX8_firstWithout 38 = .ok (.goto (-32), 3) := by decide +kernel
theorem dX8_firstWithout_41 : decode cX8_firstWithout 41 = .ok (.iconst (-1), 1) := by decide +kernel
theorem dX8_firstWithout_42 : decode cX8_firstWithout 42 = .ok (.ireturn, 1) := by decide +kernel
set_option maxRecDepth 20000 in
theorem ggX8_solve_X8_firstWithout : GoodIn wsX8_solve wsX8_firstWithout := goodIn_ca (goodIn_r _ [17, 18, 19, 20, 21, 22, 16, 23, 24, 5, 25, 26, 27, 28, 29, 30, 31, 32, 33, 34, 35, 36, 37, 38, 39, 40, 41, 42, 43, 44, 45, 46, 47, 48, 49, 50, 51, 52, 53, 54, 55, 56, 57, 58, 59, 60, 10, 12, 61, 62, 63, 64, 65, 66, 67, 68, 69, 70, 71, 72, 73, 74, 75, 76, 77, 78, 79, 80, 81, 82, 83, 84, 85, 86, 87] (by decide +kernel) (by decide +kernel)) (goodIn_sub (fun _ h => List.mem_cons_of_mem _ (List.mem_append_right _ h)) (by decide +kernel))
set_option maxRecDepth 20000 in
theorem gX8_solve_X8_firstWithout : GoodIn wsX8_solve (wsV RX8 122 RX8 yX8_firstWithout wsX8_firstWithout) := goodIn_app (goodIn_of _ (by decide +kernel)) ggX8_solve_X8_firstWithout
theorem dX8_solve_0 : decode cX8_solve 0 = .ok (.aload_n 0, 1) := by decide +kernel
theorem dX8_solve_1 : decode cX8_solve 1 = .ok (.iconst 0, 1) := by decide +kernel
theorem dX8_solve_2 : decode cX8_solve 2 = .ok (.putfield 59, 3) := by decide +kernel
theorem dX8_solve_5 : decode cX8_solve 5 = .ok (.aload_n 0, 1) := by decide +kernel
theorem dX8_solve_6 : decode cX8_solve 6 = .ok (.iconst 0, 1) := by decide +kernel
theorem dX8_solve_7 : decode cX8_solve 7 = .ok (.putfield 119, 3) := by decide +kernel
theorem dX8_solve_10 : decode cX8_solve 10 = .ok (.aload_n 0, 1) := by decide +kernel
theorem dX8_solve_11 : decode cX8_solve 11 = .ok (.iconst 0, 1) := by decide +kernel
theorem dX8_solve_12 : decode cX8_solve 12 = .ok (.invokevirtual 122, 3) := by decide +kernel
theorem dX8_solve_15 : decode cX8_solve 15 = .ok (.istore_n 1, 1) := by decide +kernel
theorem dX8_solve_16 : decode cX8_solve 16 = .ok (.aload_n 0, 1) := by decide +kernel
theorem dX8_solve_17 : decode cX8_solve 17 = .ok (.iload_n 1, 1) := by decide +kernel
theorem dX8_solve_18 : decode cX8_solve 18 = .ok (.ifCond .lt 7, 3) := by decide +kernel
theorem dX8_solve_21 : decode cX8_solve 21 = .ok (.iconst 1, 1) := by decide +kernel
theorem dX8_solve_22 : decode cX8_solve 22 = .ok (.goto 4, 3) := by decide +kernel
theorem dX8_solve_25 : decode cX8_solve 25 = .ok (.iconst 0, 1) := by decide +kernel
theorem dX8_solve_26 : decode cX8_solve 26 = .ok (.putfield 125, 3) := by decide +kernel
theorem dX8_solve_29 : decode cX8_solve 29 = .ok (.aload_n 0, 1) := by decide +kernel
theorem dX8_solve_30 : decode cX8_solve 30 = .ok (.getfield 125, 3) := by decide +kernel
theorem dX8_solve_33 : decode cX8_solve 33 = .ok (.ifCond .eq 61, 3) := by decide +kernel
theorem dX8_solve_36 : decode cX8_solve 36 = .ok (.aload_n 0, 1) := by decide +kernel
theorem dX8_solve_37 : decode cX8_solve 37 = .ok (.iload_n 1, 1) := by decide +kernel
theorem dX8_solve_38 : decode cX8_solve 38 = .ok (.putfield 128, 3) := by decide +kernel
theorem dX8_solve_41 : decode cX8_solve 41 = .ok (.aload_n 0, 1) := by decide +kernel
theorem dX8_solve_42 : decode cX8_solve 42 = .ok (.aload_n 0, 1) := by decide +kernel
theorem dX8_solve_43 : decode cX8_solve 43 = .ok (.getfield 63, 3) := by decide +kernel
theorem dX8_solve_46 : decode cX8_solve 46 = .ok (.putfield 131, 3) := by decide +kernel
theorem dX8_solve_49 : decode cX8_solve 49 = .ok (.aload_n 0, 1) := by decide +kernel
theorem dX8_solve_50 : decode cX8_solve 50 = .ok (.getfield 134, 3) := by decide +kernel
theorem dX8_solve_53 : decode cX8_solve 53 = .ok (.sipush 200, 3) := by decide +kernel
theorem dX8_solve_56 : decode cX8_solve 56 = .ok (.if_icmp .ge 36, 3) := by decide +kernel
theorem dX8_solve_59 : decode cX8_solve 59 = .ok (.aload_n 0, 1) := by decide +kernel
theorem dX8_solve_60 : decode cX8_solve 60 = .ok (.dup, 1) := by decide +kernel
theorem dX8_solve_61 : decode cX8_solve 61 = .ok (.getfield 134, 3) := by decide +kernel
theorem dX8_solve_64 : decode cX8_solve 64 = .ok (.iconst 1, 1) := by decide +kernel
theorem dX8_solve_65 : decode cX8_solve 65 = .ok (.iadd, 1) := by decide +kernel
theorem dX8_solve_66 : decode cX8_solve 66 = .ok (.putfield 134, 3) := by decide +kernel
theorem dX8_solve_69 : decode cX8_solve 69 = .ok (.aload_n 0, 1) := by decide +kernel
theorem dX8_solve_70 : decode cX8_solve 70 = .ok (.getfield 50, 3) := by decide +kernel
theorem dX8_solve_73 : decode cX8_solve 73 = .ok (.aload_n 0, 1) := by decide +kernel
theorem dX8_solve_74 : decode cX8_solve 74 = .ok (.getfield 134, 3) := by decide +kernel
theorem dX8_solve_77 : decode cX8_solve 77 = .ok (.iload_n 1, 1) := by decide +kernel
theorem dX8_solve_78 : decode cX8_solve 78 = .ok (.iastore, 1) := by decide +kernel
theorem dX8_solve_79 : decode cX8_solve 79 = .ok (.aload_n 0, 1) := by decide +kernel
theorem dX8_solve_80 : decode cX8_solve 80 = .ok (.getfield 53, 3) := by decide +kernel
theorem dX8_solve_83 : decode cX8_solve 83 = .ok (.aload_n 0, 1) := by decide +kernel
theorem dX8_solve_84 : decode cX8_solve 84 = .ok (.getfield 134, 3) := by decide +kernel
theorem dX8_solve_87 : decode cX8_solve 87 = .ok (.aload_n 0, 1) := by decide +kernel
theorem dX8_solve_88 : decode cX8_solve 88 = .ok (.getfield 63, 3) := by decide +kernel
theorem dX8_solve_91 : decode cX8_solve 91 = .ok (.iastore, 1) := by decide +kernel
theorem dX8_solve_92 : decode cX8_solve 92 = .ok (.iconst 1, 1) := by decide +kernel
theorem dX8_solve_93 : decode cX8_solve 93 = .ok (.ireturn, 1) := by decide +kernel
theorem dX8_solve_94 : decode cX8_solve 94 = .ok (.iconst 0, 1) := by decide +kernel
theorem dX8_solve_95 : decode cX8_solve 95 = .ok (.istore_n 2, 1) := by decide +kernel
theorem dX8_solve_96 : decode cX8_solve 96 = .ok (.iconst 0, 1) := by decide +kernel
theorem dX8_solve_97 : decode cX8_solve 97 = .ok (.istore_n 3, 1) := by decide +kernel
theorem dX8_solve_98 : decode cX8_solve 98 = .ok (.iload_n 3, 1) := by decide +kernel
theorem dX8_solve_99 : decode cX8_solve 99 = .ok (.aload_n 0, 1) := by decide +kernel
theorem dX8_solve_100 : decode cX8_solve 100 = .ok (.getfield 84, 3) := by decide +kernel
theorem dX8_solve_103 : decode cX8_solve 103 = .ok (.if_icmp .ge 31, 3) := by decide +kernel
theorem dX8_solve_106 : decode cX8_solve 106 = .ok (.aload_n 0, 1) := by decide +kernel
theorem dX8_solve_107 : decode cX8_solve 107 = .ok (.iload_n 2, 1) := by decide +kernel
theorem dX8_solve_108 : decode cX8_solve 108 = .ok (.iconst 1, 1) := by decide +kernel
theorem dX8_solve_109 : decode cX8_solve 109 = .ok (.iload_n 3, 1) := by decide +kernel
theorem dX8_solve_110 : decode cX8_solve 110 = .ok (.ishl, 1) := by decide +kernel
theorem dX8_solve_111 : decode cX8_solve 111 = .ok (.ior, 1) := by decide +kernel
theorem dX8_solve_112 : decode cX8_solve 112 = .ok (.invokevirtual 122, 3) := by decide +kernel
theorem dX8_solve_115 : decode cX8_solve 115 = .ok (.ifCond .ge 11, 3) := by decide +kernel
theorem dX8_solve_118 : decode cX8_solve 118 = .ok (.iload_n 2, 1) := by decide +kernel
theorem dX8_solve_119 : decode cX8_solve 119 = .ok (.iconst 1, 1) := by decide +kernel
theorem dX8_solve_120 : decode cX8_solve 120 = .ok (.iload_n 3, 1) := by decide +kernel
theorem dX8_solve_121 : decode cX8_solve 121 = .ok (.ishl, 1) := by decide +kernel
theorem dX8_solve_122 : decode cX8_solve 122 = .ok (.ior, 1) := by decide +kernel
theorem dX8_solve_123 : decode cX8_solve 123 = .ok (.goto 4, 3) := by decide +kernel
theorem dX8_solve_126 : decode cX8_solve 126 = .ok (.iload_n 2, 1) := by decide +kernel
theorem dX8_solve_127 : decode cX8_solve 127 = .ok (.istore_n 2, 1) := by decide +kernel
theorem dX8_solve_128 : decode cX8_solve 128 = .ok (.iinc 3 1, 3) := by decide +kernel
theorem dX8_solve_131 : decode cX8_solve 131 = .ok (.goto (-33), 3) := by decide +kernel
theorem dX8_solve_134 : decode cX8_solve 134 = .ok (.iconst 0, 1) := by decide +kernel
theorem dX8_solve_135 : decode cX8_solve 135 = .ok (.istore_n 3, 1) := by decide +kernel
theorem dX8_solve_136 : decode cX8_solve 136 = .ok (.iload_n 3, 1) := by decide +kernel
theorem dX8_solve_137 : decode cX8_solve 137 = .ok (.aload_n 0, 1) := by decide +kernel
theorem dX8_solve_138 : decode cX8_solve 138 = .ok (.getfield 84, 3) := by decide +kernel
theorem dX8_solve_141 : decode cX8_solve 141 = .ok (.if_icmp .ge 42, 3) := by decide +kernel
theorem dX8_solve_144 : decode cX8_solve 144 = .ok (.iload_n 2, 1) := by decide +kernel
theorem dX8_solve_145 : decode cX8_solve 145 = .ok (.iload_n 3, 1) := by decide +kernel
theorem dX8_solve_146 : decode cX8_solve 146 = .ok (.ishr, 1) := by decide +kernel
theorem dX8_solve_147 : decode cX8_solve 147 = .ok (.iconst 1, 1) := by decide +kernel
theorem dX8_solve_148 : decode cX8_solve 148 = .ok (.iand, 1) := by decide +kernel
theorem dX8_solve_149 : decode cX8_solve 149 = .ok (.ifCond .ne 28, 3) := by decide +kernel
theorem dX8_solve_152 : decode cX8_solve 152 = .ok (.aload_n 0, 1) := by decide +kernel
theorem dX8_solve_153 : decode cX8_solve 153 = .ok (.getfield 56, 3) := by decide +kernel
theorem dX8_solve_156 : decode cX8_solve 156 = .ok (.aload_n 0, 1) := by decide +kernel
theorem dX8_solve_157 : decode cX8_solve 157 = .ok (.getfield 119, 3) := by decide +kernel
theorem dX8_solve_160 : decode cX8_solve 160 = .ok (.aload_n 0, 1) := by decide +kernel
theorem dX8_solve_161 : decode cX8_solve 161 = .ok (.getfield 44, 3) := by decide +kernel
theorem dX8_solve_164 : decode cX8_solve 164 = .ok (.iload_n 3, 1) := by decide +kernel
theorem dX8_solve_165 : decode cX8_solve 165 = .ok (.iaload, 1) := by decide +kernel
theorem dX8_solve_166 : decode cX8_solve 166 = .ok (.iastore, 1) := by decide +kernel
theorem dX8_solve_167 : decode cX8_solve 167 = .ok (.aload_n 0, 1) := by decide +kernel
theorem dX8_solve_168 : decode cX8_solve 168 = .ok (.dup, 1) := by decide +kernel
theorem dX8_solve_169 : decode cX8_solve 169 = .ok (.getfield 119, 3) := by decide +kernel
theorem dX8_solve_172 : decode cX8_solve 172 = .ok (.iconst 1, 1) := by decide +kernel
theorem dX8_solve_173 : decode cX8_solve 173 = .ok (.iadd, 1) := by decide +kernel
theorem dX8_solve_174 : decode cX8_solve 174 = .ok (.putfield 119, 3) := by decide +kernel
theorem dX8_solve_177 : decode cX8_solve 177 = .ok (.iinc 3 1, 3) := by decide +kernel
theorem dX8_solve_180 : decode cX8_solve 180 = .ok (.goto (-44), 3) := by decide +kernel
theorem dX8_solve_183 : decode cX8_solve 183 = .ok (.iconst 0, 1) := by decide +kernel
theorem dX8_solve_184 : decode cX8_solve 184 = .ok (.ireturn, 1) := by decide +kernel
theorem dX8_wasIn_0 : decode cX8_wasIn 0 = .ok (.iload_n 2, 1) := by decide +kernel
theorem dX8_wasIn_1 : decode cX8_wasIn 1 = .ok (.iconst 1, 1) := by decide +kernel
theorem dX8_wasIn_2 : decode cX8_wasIn 2 = .ok (.if_icmp .lt 23, 3) := by decide +kernel
theorem dX8_wasIn_5 : decode cX8_wasIn 5 = .ok (.iload_n 2, 1) := by decide +kernel
theorem dX8_wasIn_6 : decode cX8_wasIn 6 = .ok (.iload_n 1, 1) := by decide +kernel
theorem dX8_wasIn_7 : decode cX8_wasIn 7 = .ok (.if_icmp .gt 18, 3) := by decide +kernel
theorem dX8_wasIn_10 : decode cX8_wasIn 10 = .ok (.iload_n 0, 1) := by decide +kernel
theorem dX8_wasIn_11 : decode cX8_wasIn 11 = .ok (.iload_n 1, 1) := by decide +kernel
theorem dX8_wasIn_12 : decode cX8_wasIn 12 = .ok (.iload_n 2, 1) := by decide +kernel
theorem dX8_wasIn_13 : decode cX8_wasIn 13 = .ok (.isub, 1) := by decide +kernel
theorem dX8_wasIn_14 : decode cX8_wasIn 14 = .ok (.ishr, 1) := by decide +kernel
theorem dX8_wasIn_15 : decode cX8_wasIn 15 = .ok (.iconst 1, 1) := by decide +kernel
theorem dX8_wasIn_16 : decode cX8_wasIn 16 = .ok (.iand, 1) := by decide +kernel
theorem dX8_wasIn_17 : decode cX8_wasIn 17 = .ok (.iconst 1, 1) := by decide +kernel
theorem dX8_wasIn_18 : decode cX8_wasIn 18 = .ok (.if_icmp .ne 7, 3) := by decide +kernel
theorem dX8_wasIn_21 : decode cX8_wasIn 21 = .ok (.iconst 1, 1) := by decide +kernel
theorem dX8_wasIn_22 : decode cX8_wasIn 22 = .ok (.goto 4, 3) := by decide +kernel
theorem dX8_wasIn_25 : decode cX8_wasIn 25 = .ok (.iconst 0, 1) := by decide +kernel
theorem dX8_wasIn_26 : decode cX8_wasIn 26 = .ok (.ireturn, 1) := by decide +kernel
set_option maxRecDepth 20000 in
theorem ggX8_chosen_X8_wasIn : GoodIn wsX8_chosen wsX8_wasIn := goodIn_r _ [8] (by decide +kernel) (by decide +kernel)
set_option maxRecDepth 20000 in
theorem gX8_chosen_X8_wasIn : GoodIn wsX8_chosen (va_wsS RX8 137 yX8_wasIn wsX8_wasIn) := goodIn_app (goodIn_of _ (by decide +kernel)) ggX8_chosen_X8_wasIn
theorem dX8_chosen_0 : decode cX8_chosen 0 = .ok (.aload_n 0, 1) := by decide +kernel
theorem dX8_chosen_1 : decode cX8_chosen 1 = .ok (.iconst 0, 1) := by decide +kernel
theorem dX8_chosen_2 : decode cX8_chosen 2 = .ok (.putfield 59, 3) := by decide +kernel
theorem dX8_chosen_5 : decode cX8_chosen 5 = .ok (.aload_n 0, 1) := by decide +kernel
theorem dX8_chosen_6 : decode cX8_chosen 6 = .ok (.getfield 125, 3) := by decide +kernel
theorem dX8_chosen_9 : decode cX8_chosen 9 = .ok (.ifCond .eq 22, 3) := by decide +kernel
theorem dX8_chosen_12 : decode cX8_chosen 12 = .ok (.aload_n 0, 1) := by decide +kernel
theorem dX8_chosen_13 : decode cX8_chosen 13 = .ok (.getfield 128, 3) := by decide +kernel
theorem dX8_chosen_16 : decode cX8_chosen 16 = .ok (.aload_n 0, 1) := by decide +kernel
theorem dX8_chosen_17 : decode cX8_chosen 17 = .ok (.getfield 131, 3) := by decide +kernel
theorem dX8_chosen_20 : decode cX8_chosen 20 = .ok (.iload_n 1, 1) := by decide +kernel
theorem dX8_chosen_21 : decode cX8_chosen 21 = .ok (.invokestatic 137, 3) := by decide +kernel
theorem dX8_chosen_24 : decode cX8_chosen 24 = .ok (.ifCond .eq 7, 3) := by decide +kernel
theorem dX8_chosen_27 : decode cX8_chosen 27 = .ok (.iconst 1, 1) := by decide +kernel
theorem dX8_chosen_28 : decode cX8_chosen 28 = .ok (.goto 4, 3) := by decide +kernel
theorem dX8_chosen_31 : decode cX8_chosen 31 = .ok (.iconst 0, 1) := by decide +kernel
theorem dX8_chosen_32 : decode cX8_chosen 32 = .ok (.ireturn, 1) := by decide +kernel
theorem dX8_why_0 : decode cX8_why 0 = .ok (.aload_n 0, 1) := by decide +kernel
theorem dX8_why_1 : decode cX8_why 1 = .ok (.iconst 0, 1) := by decide +kernel
theorem dX8_why_2 : decode cX8_why 2 = .ok (.putfield 59, 3) := by decide +kernel
theorem dX8_why_5 : decode cX8_why 5 = .ok (.iload_n 1, 1) := by decide +kernel
theorem dX8_why_6 : decode cX8_why 6 = .ok (.ifCond .lt 20, 3) := by decide +kernel
theorem dX8_why_9 : decode cX8_why 9 = .ok (.iload_n 1, 1) := by decide +kernel
theorem dX8_why_10 : decode cX8_why 10 = .ok (.aload_n 0, 1) := by decide +kernel
theorem dX8_why_11 : decode cX8_why 11 = .ok (.getfield 119, 3) := by decide +kernel
theorem dX8_why_14 : decode cX8_why 14 = .ok (.if_icmp .ge 12, 3) := by decide +kernel
theorem dX8_why_17 : decode cX8_why 17 = .ok (.aload_n 0, 1) := by decide +kernel
theorem dX8_why_18 : decode cX8_why 18 = .ok (.getfield 56, 3) := by decide +kernel
theorem dX8_why_21 : decode cX8_why 21 = .ok (.iload_n 1, 1) := by decide +kernel
theorem dX8_why_22 : decode cX8_why 22 = .ok (.iaload, 1) := by decide +kernel
theorem dX8_why_23 : decode cX8_why 23 = .ok (.goto 4, 3) := by decide +kernel
theorem dX8_why_26 : decode cX8_why 26 = .ok (.iconst 0, 1) := by decide +kernel
theorem dX8_why_27 : decode cX8_why 27 = .ok (.ireturn, 1) := by decide +kernel
set_option maxRecDepth 20000 in
theorem ggX8_count_X8_know : GoodIn wsX8_count wsX8_know := goodIn_ca (goodIn_r _ [11, 12, 5, 3, 6, 13, 14, 15, 10, 16, 17, 18, 19, 20, 21, 22, 23, 24, 25, 26, 27, 28, 29, 30, 31, 32, 33, 34, 35, 36, 37, 38, 39, 40, 41, 42, 43, 44, 51, 52, 53, 54, 55, 56, 57, 58, 59, 60, 61, 62, 63, 64, 65, 66, 67, 68, 69, 70, 71, 72, 73, 74, 75, 76, 77] (by decide +kernel) (by decide +kernel)) (goodIn_sub (fun _ h => List.mem_cons_of_mem _ (List.mem_append_right _ h)) (by decide +kernel))
set_option maxRecDepth 20000 in
theorem gX8_count_X8_know : GoodIn wsX8_count (wsV RX8 113 RX8 yX8_know wsX8_know) := goodIn_app (goodIn_of _ (by decide +kernel)) ggX8_count_X8_know
set_option maxRecDepth 20000 in
theorem ggX8_count_X8_keepsChoices : GoodIn wsX8_count wsX8_keepsChoices := goodIn_ca (goodIn_r _ [48, 49, 50, 34, 35, 36, 10, 37, 22, 23, 24, 25, 3, 51, 52, 53, 54, 55, 56, 57, 58, 59, 60, 61, 62, 63, 64, 65, 66, 67, 68, 69, 70, 71, 72, 73, 74, 75, 76, 77] (by decide +kernel) (by decide +kernel)) (goodIn_sub (fun _ h => List.mem_cons_of_mem _ (List.mem_append_right _ h)) (by decide +kernel))
set_option maxRecDepth 20000 in
theorem gX8_count_X8_keepsChoices : GoodIn wsX8_count (wsV RX8 116 RX8 yX8_keepsChoices wsX8_keepsChoices) := goodIn_app (goodIn_of _ (by decide +kernel)) ggX8_count_X8_keepsChoices
theorem dX8_count_0 : decode cX8_count 0 = .ok (.aload_n 0, 1) := by decide +kernel
theorem dX8_count_1 : decode cX8_count 1 = .ok (.iconst 0, 1) := by decide +kernel
theorem dX8_count_2 : decode cX8_count 2 = .ok (.putfield 59, 3) := by decide +kernel
theorem dX8_count_5 : decode cX8_count 5 = .ok (.lload_n 1, 1) := by decide +kernel
theorem dX8_count_6 : decode cX8_count 6 = .ok (.lconst 0, 1) := by decide +kernel
theorem dX8_count_7 : decode cX8_count 7 = .ok (.lcmp, 1) := by decide +kernel
theorem dX8_count_8 : decode cX8_count 8 = .ok (.ifCond .ge 7, 3) := by decide +kernel
theorem dX8_count_11 : decode cX8_count 11 = .ok (.ldc2_w 141, 3) := by decide +kernel
theorem dX8_count_14 : decode cX8_count 14 = .ok (.lreturn, 1) := by decide +kernel
theorem dX8_count_15 : decode cX8_count 15 = .ok (.lconst 1, 1) := by decide +kernel
theorem dX8_count_16 : decode cX8_count 16 = .ok (.aload_n 0, 1) := by decide +kernel
theorem dX8_count_17 : decode cX8_count 17 = .ok (.getfield 63, 3) := by decide +kernel
theorem dX8_count_20 : decode cX8_count 20 = .ok (.lshl, 1) := by decide +kernel
theorem dX8_count_21 : decode cX8_count 21 = .ok (.lload_n 1, 1) := by decide +kernel
theorem dX8_count_22 : decode cX8_count 22 = .ok (.lcmp, 1) := by decide +kernel
theorem dX8_count_23 : decode cX8_count 23 = .ok (.ifCond .le 7, 3) := by decide +kernel
theorem dX8_count_26 : decode cX8_count 26 = .ok (.ldc2_w 143, 3) := by decide +kernel
theorem dX8_count_29 : decode cX8_count 29 = .ok (.lreturn, 1) := by decide +kernel
theorem dX8_count_30 : decode cX8_count 30 = .ok (.aload_n 0, 1) := by decide +kernel
theorem dX8_count_31 : decode cX8_count 31 = .ok (.invokevirtual 113, 3) := by decide +kernel
theorem dX8_count_34 : decode cX8_count 34 = .ok (.lconst 0, 1) := by decide +kernel
theorem dX8_count_35 : decode cX8_count 35 = .ok (.lstore_n 3, 1) := by decide +kernel
theorem dX8_count_36 : decode cX8_count 36 = .ok (.iconst 0, 1) := by decide +kernel
theorem dX8_count_37 : decode cX8_count 37 = .ok (.istore 5, 2) := by decide +kernel
theorem dX8_count_39 : decode cX8_count 39 = .ok (.iload 5, 2) := by decide +kernel
theorem dX8_count_41 : decode cX8_count 41 = .ok (.aload_n 0, 1) := by decide +kernel
theorem dX8_count_42 : decode cX8_count 42 = .ok (.getfield 101, 3) := by decide +kernel
theorem dX8_count_45 : decode cX8_count 45 = .ok (.if_icmp .ge 32, 3) := by decide +kernel
theorem dX8_count_48 : decode cX8_count 48 = .ok (.aload_n 0, 1) := by decide +kernel
theorem dX8_count_49 : decode cX8_count 49 = .ok (.aload_n 0, 1) := by decide +kernel
theorem dX8_count_50 : decode cX8_count 50 = .ok (.getfield 47, 3) := by decide +kernel
theorem dX8_count_53 : decode cX8_count 53 = .ok (.iload 5, 2) := by decide +kernel
theorem dX8_count_55 : decode cX8_count 55 = .ok (.iaload, 1) := by decide +kernel
theorem dX8_count_56 : decode cX8_count 56 = .ok (.iconst 0, 1) := by decide +kernel
theorem dX8_count_57 : decode cX8_count 57 = .ok (.invokevirtual 116, 3) := by decide +kernel
theorem dX8_count_60 : decode cX8_count 60 = .ok (.ifCond .eq 9, 3) := by decide +kernel
theorem dX8_count_63 : decode cX8_count 63 = .ok (.lload_n 3, 1) := by decide +kernel
theorem dX8_count_64 : decode cX8_count 64 = .ok (.lconst 1, 1) := by decide +kernel
theorem dX8_count_65 : decode cX8_count 65 = .ok (.ladd, 1) := by decide +kernel
theorem dX8_count_66 : decode cX8_count 66 = .ok (.goto 4, 3) := by decide +kernel
theorem dX8_count_69 : decode cX8_count 69 = .ok (.lload_n 3, 1) := by decide +kernel
theorem dX8_count_70 : decode cX8_count 70 = .ok (.lstore_n 3, 1) := by decide +kernel
theorem dX8_count_71 : decode cX8_count 71 = .ok (.iinc 5 1, 3) := by decide +kernel
theorem dX8_count_74 : decode cX8_count 74 = .ok (.goto (-35), 3) := by decide +kernel
theorem dX8_count_77 : decode cX8_count 77 = .ok (.lload_n 3, 1) := by decide +kernel
theorem dX8_count_78 : decode cX8_count 78 = .ok (.lreturn, 1) := by decide +kernel
set_option maxRecDepth 20000 in
theorem ggX8_forces_X8_isFeature : GoodIn wsX8_forces wsX8_isFeature := goodIn_r _ [9, 4, 53, 54, 55, 56, 57, 58, 59, 60, 61, 62, 63, 64, 65, 66, 67, 68, 69, 70, 71, 72, 73, 74, 75, 76, 77, 78, 79] (by decide +kernel) (by decide +kernel)
set_option maxRecDepth 20000 in
theorem gX8_forces_X8_isFeature : GoodIn wsX8_forces (wsV RX8 66 RX8 yX8_isFeature wsX8_isFeature) := goodIn_app (goodIn_of _ (by decide +kernel)) ggX8_forces_X8_isFeature
set_option maxRecDepth 20000 in
theorem ggX8_forces_X8_know : GoodIn wsX8_forces wsX8_know := goodIn_ca (goodIn_r _ [13, 14, 2, 4, 3, 15, 16, 17, 8, 18, 19, 20, 21, 22, 23, 24, 25, 26, 27, 28, 29, 30, 31, 32, 33, 34, 35, 36, 37, 38, 39, 40, 41, 42, 43, 44, 45, 46, 53, 54, 55, 56, 57, 58, 59, 60, 61, 62, 63, 64, 65, 66, 67, 68, 69, 70, 71, 72, 73, 74, 75, 76, 77, 78, 79] (by decide +kernel) (by decide +kernel)) (goodIn_sub (fun _ h => List.mem_cons_of_mem _ (List.mem_append_right _ h)) (by decide +kernel))
set_option maxRecDepth 20000 in
theorem gX8_forces_X8_know : GoodIn wsX8_forces (wsV RX8 113 RX8 yX8_know wsX8_know) := goodIn_app (goodIn_of _ (by decide +kernel)) ggX8_forces_X8_know
set_option maxRecDepth 20000 in
theorem ggX8_forces_X8_isIn : GoodIn wsX8_forces wsX8_isIn := goodIn_r _ [27, 4, 53, 54, 55, 56, 57, 58, 59, 60, 61, 62, 63, 64, 65, 66, 67, 68, 69, 70, 71, 72, 73, 74, 75, 76, 77, 78, 79] (by decide +kernel) (by decide +kernel)
set_option maxRecDepth 20000 in
theorem gX8_forces_X8_isIn : GoodIn wsX8_forces (wsV RX8 94 RX8 yX8_isIn wsX8_isIn) := goodIn_app (goodIn_of _ (by decide +kernel)) ggX8_forces_X8_isIn
set_option maxRecDepth 20000 in
theorem ggX8_forces_X8_keepsChoices : GoodIn wsX8_forces wsX8_keepsChoices := goodIn_ca (goodIn_r _ [50, 51, 52, 36, 37, 38, 8, 39, 24, 25, 26, 27, 4, 53, 54, 55, 56, 57, 58, 59, 60, 61, 62, 63, 64, 65, 66, 67, 68, 69, 70, 71, 72, 73, 74, 75, 76, 77, 78, 79] (by decide +kernel) (by decide +kernel)) (goodIn_sub (fun _ h => List.mem_cons_of_mem _ (List.mem_append_right _ h)) (by decide +kernel))
set_option maxRecDepth 20000 in
theorem gX8_forces_X8_keepsChoices : GoodIn wsX8_forces (wsV RX8 116 RX8 yX8_keepsChoices wsX8_keepsChoices) := goodIn_app (goodIn_of _ (by decide +kernel)) ggX8_forces_X8_keepsChoices
theorem dX8_forces_0 : decode cX8_forces 0 = .ok (.aload_n 0, 1) := by decide +kernel
theorem dX8_forces_1 : decode cX8_forces 1 = .ok (.iconst 0, 1) := by decide +kernel
theorem dX8_forces_2 : decode cX8_forces 2 = .ok (.putfield 59, 3) := by decide +kernel
theorem dX8_forces_5 : decode cX8_forces 5 = .ok (.aload_n 0, 1) := by decide +kernel
theorem dX8_forces_6 : decode cX8_forces 6 = .ok (.iload_n 1, 1) := by decide +kernel
theorem dX8_forces_7 : decode cX8_forces 7 = .ok (.invokevirtual 66, 3) := by decide +kernel
theorem dX8_forces_10 : decode cX8_forces 10 = .ok (.ifCond .ne 5, 3) := by decide +kernel
theorem dX8_forces_13 : decode cX8_forces 13 = .ok (.iconst (-1), 1) := by decide +kernel
theorem dX8_forces_14 : decode cX8_forces 14 = .ok (.ireturn, 1) := by decide +kernel
theorem dX8_forces_15 : decode cX8_forces 15 = .ok (.aload_n 0, 1) := by decide +kernel
theorem dX8_forces_16 : decode cX8_forces 16 = .ok (.invokevirtual 113, 3) := by decide +kernel
theorem dX8_forces_19 : decode cX8_forces 19 = .ok (.iconst (-1), 1) := by decide +kernel
theorem dX8_forces_20 : decode cX8_forces 20 = .ok (.istore_n 3, 1) := by decide +kernel
theorem dX8_forces_21 : decode cX8_forces 21 = .ok (.iconst 0, 1) := by decide +kernel
theorem dX8_forces_22 : decode cX8_forces 22 = .ok (.istore 4, 2) := by decide +kernel
theorem dX8_forces_24 : decode cX8_forces 24 = .ok (.iconst 0, 1) := by decide +kernel
theorem dX8_forces_25 : decode cX8_forces 25 = .ok (.istore 5, 2) := by decide +kernel
theorem dX8_forces_27 : decode cX8_forces 27 = .ok (.iconst 0, 1) := by decide +kernel
theorem dX8_forces_28 : decode cX8_forces 28 = .ok (.istore 6, 2) := by decide +kernel
theorem dX8_forces_30 : decode cX8_forces 30 = .ok (.iload 6, 2) := by decide +kernel
theorem dX8_forces_32 : decode cX8_forces 32 = .ok (.aload_n 0, 1) := by decide +kernel
theorem dX8_forces_33 : decode cX8_forces 33 = .ok (.getfield 101, 3) := by decide +kernel
theorem dX8_forces_36 : decode cX8_forces 36 = .ok (.if_icmp .ge 64, 3) := by decide +kernel
theorem dX8_forces_39 : decode cX8_forces 39 = .ok (.aload_n 0, 1) := by decide +kernel
theorem dX8_forces_40 : decode cX8_forces 40 = .ok (.aload_n 0, 1) := by decide +kernel
theorem dX8_forces_41 : decode cX8_forces 41 = .ok (.getfield 47, 3) := by decide +kernel
theorem dX8_forces_44 : decode cX8_forces 44 = .ok (.iload 6, 2) := by decide +kernel
theorem dX8_forces_46 : decode cX8_forces 46 = .ok (.iaload, 1) := by decide +kernel
theorem dX8_forces_47 : decode cX8_forces 47 = .ok (.iload_n 1, 1) := by decide +kernel
theorem dX8_forces_48 : decode cX8_forces 48 = .ok (.invokevirtual 94, 3) := by decide +kernel
theorem dX8_forces_51 : decode cX8_forces 51 = .ok (.ifCond .eq 43, 3) := by decide +kernel
theorem dX8_forces_54 : decode cX8_forces 54 = .ok (.aload_n 0, 1) := by decide +kernel
theorem dX8_forces_55 : decode cX8_forces 55 = .ok (.aload_n 0, 1) := by decide +kernel
theorem dX8_forces_56 : decode cX8_forces 56 = .ok (.getfield 47, 3) := by decide +kernel
theorem dX8_forces_59 : decode cX8_forces 59 = .ok (.iload 6, 2) := by decide +kernel
theorem dX8_forces_61 : decode cX8_forces 61 = .ok (.iaload, 1) := by decide +kernel
theorem dX8_forces_62 : decode cX8_forces 62 = .ok (.iconst 0, 1) := by decide +kernel
theorem dX8_forces_63 : decode cX8_forces 63 = .ok (.invokevirtual 116, 3) := by decide +kernel
theorem dX8_forces_66 : decode cX8_forces 66 = .ok (.ifCond .eq 28, 3) := by decide +kernel
theorem dX8_forces_69 : decode cX8_forces 69 = .ok (.iload_n 3, 1) := by decide +kernel
theorem dX8_forces_70 : decode cX8_forces 70 = .ok (.aload_n 0, 1) := by decide +kernel
theorem dX8_forces_71 : decode cX8_forces 71 = .ok (.getfield 47, 3) := by decide +kernel
theorem dX8_forces_74 : decode cX8_forces 74 = .ok (.iload 6, 2) := by decide +kernel
theorem dX8_forces_76 : decode cX8_forces 76 = .ok (.iaload, 1) := by decide +kernel
theorem dX8_forces_77 : decode cX8_forces 77 = .ok (.iand, 1) := by decide +kernel
theorem dX8_forces_78 : decode cX8_forces 78 = .ok (.istore_n 3, 1) := by decide +kernel
theorem dX8_forces_79 : decode cX8_forces 79 = .ok (.iload 4, 2) := by decide +kernel
theorem dX8_forces_81 : decode cX8_forces 81 = .ok (.aload_n 0, 1) := by decide +kernel
theorem dX8_forces_82 : decode cX8_forces 82 = .ok (.getfield 47, 3) := by decide +kernel
theorem dX8_forces_85 : decode cX8_forces 85 = .ok (.iload 6, 2) := by decide +kernel
theorem dX8_forces_87 : decode cX8_forces 87 = .ok (.iaload, 1) := by decide +kernel
theorem dX8_forces_88 : decode cX8_forces 88 = .ok (.ior, 1) := by decide +kernel
theorem dX8_forces_89 : decode cX8_forces 89 = .ok (.istore 4, 2) := by decide +kernel
theorem dX8_forces_91 : decode cX8_forces 91 = .ok (.iconst 1, 1) := by decide +kernel
theorem dX8_forces_92 : decode cX8_forces 92 = .ok (.istore 5, 2) := by decide +kernel
theorem dX8_forces_94 : decode cX8_forces 94 = .ok (.iinc 6 1, 3) := by decide +kernel
theorem dX8_forces_97 : decode cX8_forces 97 = .ok (.goto (-67), 3) := by decide +kernel
theorem dX8_forces_100 : decode cX8_forces 100 = .ok (.iload_n 2, 1) := by decide +kernel
theorem dX8_forces_101 : decode cX8_forces 101 = .ok (.istore 6, 2) := by decide +kernel
theorem dX8_forces_103 : decode cX8_forces 103 = .ok (.iconst 1, 1) := by decide +kernel
theorem dX8_forces_104 : decode cX8_forces 104 = .ok (.istore 7, 2) := by decide +kernel
theorem dX8_forces_106 : decode cX8_forces 106 = .ok (.iload 7, 2) := by decide +kernel
theorem dX8_forces_108 : decode cX8_forces 108 = .ok (.aload_n 0, 1) := by decide +kernel
theorem dX8_forces_109 : decode cX8_forces 109 = .ok (.getfield 63, 3) := by decide +kernel
theorem dX8_forces_112 : decode cX8_forces 112 = .ok (.if_icmp .gt 71, 3) := by decide +kernel
theorem dX8_forces_115 : decode cX8_forces 115 = .ok (.iload 5, 2) := by decide +kernel
theorem dX8_forces_117 : decode cX8_forces 117 = .ok (.ifCond .eq 66, 3) := by decide +kernel
theorem dX8_forces_120 : decode cX8_forces 120 = .ok (.iload_n 2, 1) := by decide +kernel
theorem dX8_forces_121 : decode cX8_forces 121 = .ok (.ifCond .lt 62, 3) := by decide +kernel
theorem dX8_forces_124 : decode cX8_forces 124 = .ok (.aload_n 0, 1) := by decide +kernel
theorem dX8_forces_125 : decode cX8_forces 125 = .ok (.iload_n 3, 1) := by decide +kernel
theorem dX8_forces_126 : decode cX8_forces 126 = .ok (.iload 7, 2) := by decide +kernel
theorem dX8_forces_128 : decode cX8_forces 128 = .ok (.invokevirtual 94, 3) := by decide +kernel
theorem dX8_forces_131 : decode cX8_forces 131 = .ok (.istore 8, 2) := by decide +kernel
theorem dX8_forces_133 : decode cX8_forces 133 = .ok (.iload 7, 2) := by decide +kernel
theorem dX8_forces_135 : decode cX8_forces 135 = .ok (.iload_n 1, 1) := by decide +kernel
theorem dX8_forces_136 : decode cX8_forces 136 = .ok (.if_icmp .eq 41, 3) := by decide +kernel
theorem dX8_forces_139 : decode cX8_forces 139 = .ok (.iload 8, 2) := by decide +kernel
theorem dX8_forces_141 : decode cX8_forces 141 = .ok (.ifCond .ne 14, 3) := by decide +kernel
theorem dX8_forces_144 : decode cX8_forces 144 = .ok (.aload_n 0, 1) := by decide +kernel
theorem dX8_forces_145 : decode cX8_forces 145 = .ok (.iload 4, 2) := by decide +kernel
theorem dX8_forces_147 : decode cX8_forces 147 = .ok (.iload 7, 2) := by decide +kernel
theorem dX8_forces_149 : decode cX8_forces 149 = .ok (.invokevirtual 94, 3) := by decide +kernel
theorem dX8_forces_152 : decode cX8_forces 152 = .ok (.ifCond .ne 25, 3) := by decide +kernel
theorem dX8_forces_155 : decode cX8_forces 155 = .ok (.iload 6, 2) := by decide +kernel
theorem dX8_forces_157 : decode cX8_forces 157 = .ok (.ifCond .ne 17, 3) := by decide +kernel
theorem dX8_forces_160 : decode cX8_forces 160 = .ok (.iload 8, 2) := by decide +kernel
theorem dX8_forces_162 : decode cX8_forces 162 = .ok (.ifCond .eq 8, 3) := by decide +kernel
theorem dX8_forces_165 : decode cX8_forces 165 = .ok (.iload 7, 2) := by decide +kernel
theorem dX8_forces_167 : decode cX8_forces 167 = .ok (.goto 6, 3) := by decide +kernel
theorem dX8_forces_170 : decode cX8_forces 170 = .ok (.iload 7, 2) := by decide +kernel
theorem dX8_forces_172 : decode cX8_forces 172 = .ok (.ineg, 1) := by decide +kernel
theorem dX8_forces_173 : decode cX8_forces 173 = .ok (.ireturn, 1) := by decide +kernel
theorem dX8_forces_174 : decode cX8_forces 174 = .ok (.iinc 6 (-1), 3) := by decide +kernel
theorem dX8_forces_177 : decode cX8_forces 177 = .ok (.iinc 7 1, 3) := by decide +kernel
theorem dX8_forces_180 : decode cX8_forces 180 = .ok (.goto (-74), 3) := by decide +kernel
theorem dX8_forces_183 : decode cX8_forces 183 = .ok (.iconst 0, 1) := by decide +kernel
theorem dX8_forces_184 : decode cX8_forces 184 = .ok (.ireturn, 1) := by decide +kernel
set_option maxRecDepth 20000 in
theorem ggX8_differ_X8_wasIn : GoodIn wsX8_differ wsX8_wasIn := goodIn_r _ [8] (by decide +kernel) (by decide +kernel)
set_option maxRecDepth 20000 in
theorem gX8_differ_X8_wasIn : GoodIn wsX8_differ (va_wsS RX8 137 yX8_wasIn wsX8_wasIn) := goodIn_app (goodIn_of _ (by decide +kernel)) ggX8_differ_X8_wasIn
theorem dX8_differ_0 : decode cX8_differ 0 = .ok (.aload_n 0, 1) := by decide +kernel
theorem dX8_differ_1 : decode cX8_differ 1 = .ok (.iconst 0, 1) := by decide +kernel
theorem dX8_differ_2 : decode cX8_differ 2 = .ok (.putfield 59, 3) := by decide +kernel
theorem dX8_differ_5 : decode cX8_differ 5 = .ok (.iload_n 1, 1) := by decide +kernel
theorem dX8_differ_6 : decode cX8_differ 6 = .ok (.iconst 1, 1) := by decide +kernel
theorem dX8_differ_7 : decode cX8_differ 7 = .ok (.if_icmp .lt 24, 3) := by decide +kernel
theorem dX8_differ_10 : decode cX8_differ 10 = .ok (.iload_n 1, 1) := by decide +kernel
theorem dX8_differ_11 : decode cX8_differ 11 = .ok (.aload_n 0, 1) := by decide +kernel
theorem dX8_differ_12 : decode cX8_differ 12 = .ok (.getfield 134, 3) := by decide +kernel
theorem dX8_differ_15 : decode cX8_differ 15 = .ok (.if_icmp .gt 16, 3) := by decide +kernel
theorem dX8_differ_18 : decode cX8_differ 18 = .ok (.iload_n 2, 1) := by decide +kernel
theorem dX8_differ_19 : decode cX8_differ 19 = .ok (.iconst 1, 1) := by decide +kernel
theorem dX8_differ_20 : decode cX8_differ 20 = .ok (.if_icmp .lt 11, 3) := by decide +kernel
theorem dX8_differ_23 : decode cX8_differ 23 = .ok (.iload_n 2, 1) := by decide +kernel
theorem dX8_differ_24 : decode cX8_differ 24 = .ok (.aload_n 0, 1) := by decide +kernel
theorem dX8_differ_25 : decode cX8_differ 25 = .ok (.getfield 134, 3) := by decide +kernel
theorem dX8_differ_28 : decode cX8_differ 28 = .ok (.if_icmp .le 5, 3) := by decide +kernel
theorem dX8_differ_31 : decode cX8_differ 31 = .ok (.iconst (-1), 1) := by decide +kernel
theorem dX8_differ_32 : decode cX8_differ 32 = .ok (.ireturn, 1) := by decide +kernel
theorem dX8_differ_33 : decode cX8_differ 33 = .ok (.iconst 0, 1) := by decide +kernel
theorem dX8_differ_34 : decode cX8_differ 34 = .ok (.istore_n 3, 1) := by decide +kernel
theorem dX8_differ_35 : decode cX8_differ 35 = .ok (.iconst 1, 1) := by decide +kernel
theorem dX8_differ_36 : decode cX8_differ 36 = .ok (.istore 4, 2) := by decide +kernel
theorem dX8_differ_38 : decode cX8_differ 38 = .ok (.iload 4, 2) := by decide +kernel
theorem dX8_differ_40 : decode cX8_differ 40 = .ok (.bipush 14, 2) := by decide +kernel
theorem dX8_differ_42 : decode cX8_differ 42 = .ok (.if_icmp .gt 62, 3) := by decide +kernel
theorem dX8_differ_45 : decode cX8_differ 45 = .ok (.aload_n 0, 1) := by decide +kernel
theorem dX8_differ_46 : decode cX8_differ 46 = .ok (.getfield 50, 3) := by decide +kernel
theorem dX8_differ_49 : decode cX8_differ 49 = .ok (.iload_n 1, 1) := by decide +kernel
theorem dX8_differ_50 : decode cX8_differ 50 = .ok (.iaload, 1) := by decide +kernel
theorem dX8_differ_51 : decode cX8_differ 51 = .ok (.aload_n 0, 1) := by decide +kernel
theorem dX8_differ_52 : decode cX8_differ 52 = .ok (.getfield 53, 3) := by decide +kernel
theorem dX8_differ_55 : decode cX8_differ 55 = .ok (.iload_n 1, 1) := by decide +kernel
theorem dX8_differ_56 : decode cX8_differ 56 = .ok (.iaload, 1) := by decide +kernel
theorem dX8_differ_57 : decode cX8_differ 57 = .ok (.iload 4, 2) := by decide +kernel
theorem dX8_differ_59 : decode cX8_differ 59 = .ok (.invokestatic 137, 3) := by decide +kernel
theorem dX8_differ_62 : decode cX8_differ 62 = .ok (.istore 5, 2) := by decide +kernel
theorem dX8_differ_64 : decode cX8_differ 64 = .ok (.aload_n 0, 1) := by decide +kernel
theorem dX8_differ_65 : decode cX8_differ 65 = .ok (.getfield 50, 3) := by decide +kernel
theorem dX8_differ_68 : decode cX8_differ 68 = .ok (.iload_n 2, 1) := by decide +kernel
theorem dX8_differ_69 : decode cX8_differ 69 = .ok (.iaload, 1) := by decide +kernel
theorem dX8_differ_70 : decode cX8_differ 70 = .ok (.aload_n 0, 1) := by decide +kernel
theorem dX8_differ_71 : decode cX8_differ 71 = .ok (.getfield 53, 3) := by decide +kernel
theorem dX8_differ_74 : decode cX8_differ 74 = .ok (.iload_n 2, 1) := by decide +kernel
theorem dX8_differ_75 : decode cX8_differ 75 = .ok (.iaload, 1) := by decide +kernel
theorem dX8_differ_76 : decode cX8_differ 76 = .ok (.iload 4, 2) := by decide +kernel
theorem dX8_differ_78 : decode cX8_differ 78 = .ok (.invokestatic 137, 3) := by decide +kernel
theorem dX8_differ_81 : decode cX8_differ 81 = .ok (.istore 6, 2) := by decide +kernel
theorem dX8_differ_83 : decode cX8_differ 83 = .ok (.iload 5, 2) := by decide +kernel
theorem dX8_differ_85 : decode cX8_differ 85 = .ok (.iload 6, 2) := by decide +kernel
theorem dX8_differ_87 : decode cX8_differ 87 = .ok (.if_icmp .eq 9, 3) := by decide +kernel
theorem dX8_differ_90 : decode cX8_differ 90 = .ok (.iload_n 3, 1) := by decide +kernel
theorem dX8_differ_91 : decode cX8_differ 91 = .ok (.iconst 1, 1) := by decide +kernel
theorem dX8_differ_92 : decode cX8_differ 92 = .ok (.iadd, 1) := by decide +kernel
theorem dX8_differ_93 : decode cX8_differ 93 = .ok (.goto 4, 3) := by decide +kernel
theorem dX8_differ_96 : decode cX8_differ 96 = .ok (.iload_n 3, 1) := by decide +kernel
theorem dX8_differ_97 : decode cX8_differ 97 = .ok (.istore_n 3, 1) := by decide +kernel
theorem dX8_differ_98 : decode cX8_differ 98 = .ok (.iinc 4 1, 3) := by decide +kernel
theorem dX8_differ_101 : decode cX8_differ 101 = .ok (.goto (-63), 3) := by decide +kernel
theorem dX8_differ_104 : decode cX8_differ 104 = .ok (.iload_n 3, 1) := by decide +kernel
theorem dX8_differ_105 : decode cX8_differ 105 = .ok (.ireturn, 1) := by decide +kernel
theorem dX8_level_0 : decode cX8_level 0 = .ok (.aload_n 0, 1) := by decide +kernel
theorem dX8_level_1 : decode cX8_level 1 = .ok (.iconst 0, 1) := by decide +kernel
theorem dX8_level_2 : decode cX8_level 2 = .ok (.putfield 59, 3) := by decide +kernel
theorem dX8_level_5 : decode cX8_level 5 = .ok (.iload_n 1, 1) := by decide +kernel
theorem dX8_level_6 : decode cX8_level 6 = .ok (.ifCond .lt 11, 3) := by decide +kernel
theorem dX8_level_9 : decode cX8_level 9 = .ok (.iload_n 1, 1) := by decide +kernel
theorem dX8_level_10 : decode cX8_level 10 = .ok (.aload_n 0, 1) := by decide +kernel
theorem dX8_level_11 : decode cX8_level 11 = .ok (.getfield 63, 3) := by decide +kernel
theorem dX8_level_14 : decode cX8_level 14 = .ok (.if_icmp .lt 10, 3) := by decide +kernel
theorem dX8_level_17 : decode cX8_level 17 = .ok (.aload_n 0, 1) := by decide +kernel
theorem dX8_level_18 : decode cX8_level 18 = .ok (.iconst 1, 1) := by decide +kernel
theorem dX8_level_19 : decode cX8_level 19 = .ok (.putfield 59, 3) := by decide +kernel
theorem dX8_level_22 : decode cX8_level 22 = .ok (.iconst 0, 1) := by decide +kernel
theorem dX8_level_23 : decode cX8_level 23 = .ok (.ireturn, 1) := by decide +kernel
theorem dX8_level_24 : decode cX8_level 24 = .ok (.iconst 0, 1) := by decide +kernel
theorem dX8_level_25 : decode cX8_level 25 = .ok (.istore_n 2, 1) := by decide +kernel
theorem dX8_level_26 : decode cX8_level 26 = .ok (.aload_n 0, 1) := by decide +kernel
theorem dX8_level_27 : decode cX8_level 27 = .ok (.getfield 7, 3) := by decide +kernel
theorem dX8_level_30 : decode cX8_level 30 = .ok (.iload_n 1, 1) := by decide +kernel
theorem dX8_level_31 : decode cX8_level 31 = .ok (.iconst 1, 1) := by decide +kernel
theorem dX8_level_32 : decode cX8_level 32 = .ok (.iadd, 1) := by decide +kernel
theorem dX8_level_33 : decode cX8_level 33 = .ok (.iaload, 1) := by decide +kernel
theorem dX8_level_34 : decode cX8_level 34 = .ok (.istore_n 3, 1) := by decide +kernel
theorem dX8_level_35 : decode cX8_level 35 = .ok (.iload_n 3, 1) := by decide +kernel
theorem dX8_level_36 : decode cX8_level 36 = .ok (.ifCond .le 16, 3) := by decide +kernel
theorem dX8_level_39 : decode cX8_level 39 = .ok (.iinc 2 1, 3) := by decide +kernel
theorem dX8_level_42 : decode cX8_level 42 = .ok (.aload_n 0, 1) := by decide +kernel
theorem dX8_level_43 : decode cX8_level 43 = .ok (.getfield 7, 3) := by decide +kernel
theorem dX8_level_46 : decode cX8_level 46 = .ok (.iload_n 3, 1) := by decide +kernel
theorem dX8_level_47 : decode cX8_level 47 = .ok (.iaload, 1) := by decide +kernel
theorem dX8_level_48 : decode cX8_level 48 = .ok (.istore_n 3, 1) := by decide +kernel
theorem dX8_level_49 : decode cX8_level 49 = .ok (.goto (-14), 3) := by decide +kernel
theorem dX8_level_52 : decode cX8_level 52 = .ok (.iload_n 2, 1) := by decide +kernel
theorem dX8_level_53 : decode cX8_level 53 = .ok (.ireturn, 1) := by decide +kernel
theorem dJx00060_init_da8c8_0 : decode cJx00060_init_da8c8 0 = .ok (.aload_n 0, 1) := by decide +kernel
theorem dJx00060_init_da8c8_1 : decode cJx00060_init_da8c8 1 = .ok (.invokespecial 1, 3) := by decide +kernel
theorem dJx00060_init_da8c8_4 : decode cJx00060_init_da8c8 4 = .ok (.return_, 1) := by decide +kernel
theorem dJx00060_init_a7421_0 : decode cJx00060_init_a7421 0 = .ok (.aload_n 0, 1) := by decide +kernel
theorem dJx00060_init_a7421_1 : decode cJx00060_init_a7421 1 = .ok (.aload_n 1, 1) := by decide +kernel
theorem dJx00060_init_a7421_2 : decode cJx00060_init_a7421 2 = .ok (.invokespecial 7, 3) := by decide +kernel
theorem dJx00060_init_a7421_5 : decode cJx00060_init_a7421 5 = .ok (.return_, 1) := by decide +kernel
theorem dJ6_bitCount_0f7a4_0 : decode cJ6_bitCount_0f7a4 0 = .ok (.iload_n 0, 1) := by decide +kernel
theorem dJ6_bitCount_0f7a4_1 : decode cJ6_bitCount_0f7a4 1 = .ok (.iload_n 0, 1) := by decide +kernel
theorem dJ6_bitCount_0f7a4_2 : decode cJ6_bitCount_0f7a4 2 = .ok (.iconst 1, 1) := by decide +kernel
theorem dJ6_bitCount_0f7a4_3 : decode cJ6_bitCount_0f7a4 3 = .ok (.iushr, 1) := by decide +kernel
theorem dJ6_bitCount_0f7a4_4 : decode cJ6_bitCount_0f7a4 4 = .ok (.ldc_w 265, 3) := by decide +kernel
theorem dJ6_bitCount_0f7a4_7 : decode cJ6_bitCount_0f7a4 7 = .ok (.iand, 1) := by decide +kernel
theorem dJ6_bitCount_0f7a4_8 : decode cJ6_bitCount_0f7a4 8 = .ok (.isub, 1) := by decide +kernel
theorem dJ6_bitCount_0f7a4_9 : decode cJ6_bitCount_0f7a4 9 = .ok (.istore_n 0, 1) := by decide +kernel
theorem dJ6_bitCount_0f7a4_10 : decode cJ6_bitCount_0f7a4 10 = .ok (.iload_n 0, 1) := by decide +kernel
theorem dJ6_bitCount_0f7a4_11 : decode cJ6_bitCount_0f7a4 11 = .ok (.ldc_w 266, 3) := by decide +kernel
theorem dJ6_bitCount_0f7a4_14 : decode cJ6_bitCount_0f7a4 14 = .ok (.iand, 1) := by decide +kernel
theorem dJ6_bitCount_0f7a4_15 : decode cJ6_bitCount_0f7a4 15 = .ok (.iload_n 0, 1) := by decide +kernel
theorem dJ6_bitCount_0f7a4_16 : decode cJ6_bitCount_0f7a4 16 = .ok (.iconst 2, 1) := by decide +kernel
theorem dJ6_bitCount_0f7a4_17 : decode cJ6_bitCount_0f7a4 17 = .ok (.iushr, 1) := by decide +kernel
theorem dJ6_bitCount_0f7a4_18 : decode cJ6_bitCount_0f7a4 18 = .ok (.ldc_w 266, 3) := by decide +kernel
theorem dJ6_bitCount_0f7a4_21 : decode cJ6_bitCount_0f7a4 21 = .ok (.iand, 1) := by decide +kernel
theorem dJ6_bitCount_0f7a4_22 : decode cJ6_bitCount_0f7a4 22 = .ok (.iadd, 1) := by decide +kernel
theorem dJ6_bitCount_0f7a4_23 : decode cJ6_bitCount_0f7a4 23 = .ok (.istore_n 0, 1) := by decide +kernel
theorem dJ6_bitCount_0f7a4_24 : decode cJ6_bitCount_0f7a4 24 = .ok (.iload_n 0, 1) := by decide +kernel
theorem dJ6_bitCount_0f7a4_25 : decode cJ6_bitCount_0f7a4 25 = .ok (.iload_n 0, 1) := by decide +kernel
theorem dJ6_bitCount_0f7a4_26 : decode cJ6_bitCount_0f7a4 26 = .ok (.iconst 4, 1) := by decide +kernel
theorem dJ6_bitCount_0f7a4_27 : decode cJ6_bitCount_0f7a4 27 = .ok (.iushr, 1) := by decide +kernel
theorem dJ6_bitCount_0f7a4_28 : decode cJ6_bitCount_0f7a4 28 = .ok (.iadd, 1) := by decide +kernel
theorem dJ6_bitCount_0f7a4_29 : decode cJ6_bitCount_0f7a4 29 = .ok (.ldc_w 267, 3) := by decide +kernel
theorem dJ6_bitCount_0f7a4_32 : decode cJ6_bitCount_0f7a4 32 = .ok (.iand, 1) := by decide +kernel
theorem dJ6_bitCount_0f7a4_33 : decode cJ6_bitCount_0f7a4 33 = .ok (.istore_n 0, 1) := by decide +kernel
theorem dJ6_bitCount_0f7a4_34 : decode cJ6_bitCount_0f7a4 34 = .ok (.iload_n 0, 1) := by decide +kernel
theorem dJ6_bitCount_0f7a4_35 : decode cJ6_bitCount_0f7a4 35 = .ok (.iload_n 0, 1) := by decide +kernel
theorem dJ6_bitCount_0f7a4_36 : decode cJ6_bitCount_0f7a4 36 = .ok (.bipush 8, 2) := by decide +kernel
theorem dJ6_bitCount_0f7a4_38 : decode cJ6_bitCount_0f7a4 38 = .ok (.iushr, 1) := by decide +kernel
theorem dJ6_bitCount_0f7a4_39 : decode cJ6_bitCount_0f7a4 39 = .ok (.iadd, 1) := by decide +kernel
theorem dJ6_bitCount_0f7a4_40 : decode cJ6_bitCount_0f7a4 40 = .ok (.istore_n 0, 1) := by decide +kernel
theorem dJ6_bitCount_0f7a4_41 : decode cJ6_bitCount_0f7a4 41 = .ok (.iload_n 0, 1) := by decide +kernel
theorem dJ6_bitCount_0f7a4_42 : decode cJ6_bitCount_0f7a4 42 = .ok (.iload_n 0, 1) := by decide +kernel
theorem dJ6_bitCount_0f7a4_43 : decode cJ6_bitCount_0f7a4 43 = .ok (.bipush 16, 2) := by decide +kernel
theorem dJ6_bitCount_0f7a4_45 : decode cJ6_bitCount_0f7a4 45 = .ok (.iushr, 1) := by decide +kernel
theorem dJ6_bitCount_0f7a4_46 : decode cJ6_bitCount_0f7a4 46 = .ok (.iadd, 1) := by decide +kernel
theorem dJ6_bitCount_0f7a4_47 : decode cJ6_bitCount_0f7a4 47 = .ok (.istore_n 0, 1) := by decide +kernel
theorem dJ6_bitCount_0f7a4_48 : decode cJ6_bitCount_0f7a4 48 = .ok (.iload_n 0, 1) := by decide +kernel
theorem dJ6_bitCount_0f7a4_49 : decode cJ6_bitCount_0f7a4 49 = .ok (.bipush 63, 2) := by decide +kernel
theorem dJ6_bitCount_0f7a4_51 : decode cJ6_bitCount_0f7a4 51 = .ok (.iand, 1) := by decide +kernel
theorem dJ6_bitCount_0f7a4_52 : decode cJ6_bitCount_0f7a4 52 = .ok (.ireturn, 1) := by decide +kernel
set_option maxRecDepth 20000 in
theorem ggL_level_X7_level : GoodIn wsL_level wsX7_level := goodIn_ca (goodIn_r _ [6, 7, 8, 9, 10, 11, 12, 13, 14, 15, 16, 17, 18, 5, 19, 20, 21, 22, 23, 24, 25, 26, 27, 28, 29, 30, 31, 32, 33, 34, 35, 36, 37, 38, 39, 40] (by decide +kernel) (by decide +kernel)) (goodIn_sub (fun _ h => List.mem_cons_of_mem _ (List.mem_append_right _ h)) (by decide +kernel))
set_option maxRecDepth 20000 in
theorem gL_level_X7_level : GoodIn wsL_level (wsV RL 7 RX7 yX7_level wsX7_level) := goodIn_app (goodIn_of _ (by decide +kernel)) ggL_level_X7_level
theorem dL_level_0 : decode cL_level 0 = .ok (.aload_n 2, 1) := by decide +kernel
theorem dL_level_1 : decode cL_level 1 = .ok (.iconst 0, 1) := by decide +kernel
theorem dL_level_2 : decode cL_level 2 = .ok (.aload_n 0, 1) := by decide +kernel
theorem dL_level_3 : decode cL_level 3 = .ok (.iload_n 1, 1) := by decide +kernel
theorem dL_level_4 : decode cL_level 4 = .ok (.invokevirtual 7, 3) := by decide +kernel
theorem dL_level_7 : decode cL_level 7 = .ok (.i2l, 1) := by decide +kernel
theorem dL_level_8 : decode cL_level 8 = .ok (.lastore, 1) := by decide +kernel
theorem dL_level_9 : decode cL_level 9 = .ok (.goto 6, 3) := by decide +kernel
theorem dL_level_12 : decode cL_level 12 = .ok (.astore_n 3, 1) := by decide +kernel
theorem dL_level_13 : decode cL_level 13 = .ok (.iconst 1, 1) := by decide +kernel
theorem dL_level_14 : decode cL_level 14 = .ok (.ireturn, 1) := by decide +kernel
theorem dL_level_15 : decode cL_level 15 = .ok (.iconst 0, 1) := by decide +kernel
theorem dL_level_16 : decode cL_level 16 = .ok (.ireturn, 1) := by decide +kernel
set_option maxRecDepth 20000 in
theorem ggL_law_X7_init : GoodIn wsL_law wsX7_init := goodIn_ca (goodIn_r _ [10, 11, 12, 13, 14, 15, 16, 17, 18, 19, 20, 21, 22, 23, 24, 25, 26, 27, 28, 29, 30, 31, 32, 33, 34, 35, 36, 37, 38, 39, 40, 41, 42, 43, 44, 45, 46, 47, 48, 49, 50, 51, 52, 53, 54, 55, 56, 57, 58, 59, 60, 61, 62, 63, 64, 65, 66, 67, 68, 69, 70, 71, 72, 73, 74, 75, 76, 77, 78, 79, 80, 81, 82, 83, 84, 85, 86, 506, 507, 508, 509, 510, 511, 472, 473, 474, 475, 476, 477, 478, 512, 513, 514, 515, 516, 517, 518, 519, 520, 521, 522, 523, 524, 525, 526, 527, 528, 529, 530, 531, 532, 533, 534, 535, 536] (by decide +kernel) (by decide +kernel)) (goodIn_sub (fun _ h => List.mem_append_right _ h) (by decide +kernel))
set_option maxRecDepth 20000 in
theorem gL_law_X7_init : GoodIn wsL_law (wsX7_init) := ggL_law_X7_init
set_option maxRecDepth 20000 in
theorem ggL_law_X8_init : GoodIn wsL_law wsX8_init := goodIn_r _ [89, 90, 12, 13, 51, 91, 92, 93, 94, 95, 96, 97, 98, 99, 100, 101, 102, 103, 104, 105, 106, 107, 479, 480, 481, 482, 483, 484, 485, 486, 487, 488, 489, 490, 491, 492, 493, 494, 495, 496, 497, 498, 499, 500, 501, 502, 503, 504, 505] (by decide +kernel) (by decide +kernel)
set_option maxRecDepth 20000 in
theorem gL_law_X8_init : GoodIn wsL_law (wsX8_init) := ggL_law_X8_init
set_option maxRecDepth 20000 in
theorem ggL_law_X7_feature : GoodIn wsL_law wsX7_feature := goodIn_ca (goodIn_r _ [111, 19, 112, 17, 113, 114, 115, 41, 116, 117, 118, 119, 120, 121, 122, 123, 124, 16, 125, 126, 127, 128, 129, 130, 56, 57, 58, 59, 131, 2, 132, 133, 134, 135, 136, 472, 473, 474, 475, 476, 477, 478, 521, 522, 523, 524, 525, 526, 527, 528, 506, 507, 508, 509, 510, 511] (by decide +kernel) (by decide +kernel)) (goodIn_sub (fun _ h => List.mem_append_right _ h) (by decide +kernel))
set_option maxRecDepth 20000 in
theorem gL_law_X7_feature : GoodIn wsL_law (wsV RL 19 RX7 yX7_feature wsX7_feature) := goodIn_app (goodIn_of _ (by decide +kernel)) ggL_law_X7_feature
set_option maxRecDepth 20000 in
theorem ggL_law_X8_feature : GoodIn wsL_law wsX8_feature := goodIn_ca (goodIn_r _ [140, 141, 142, 91, 92, 143, 144, 145, 146, 5, 147, 479, 480, 481, 482, 483, 484, 485, 486, 487, 488, 489, 490, 491, 492, 493, 494, 495, 496, 497, 498, 499, 500, 501, 502, 503, 504, 505] (by decide +kernel) (by decide +kernel)) (goodIn_sub (fun _ h => List.mem_append_right _ h) (by decide +kernel))
set_option maxRecDepth 20000 in
theorem gL_law_X8_feature : GoodIn wsL_law (wsV RL 23 RX8 yX8_feature wsX8_feature) := goodIn_app (goodIn_of _ (by decide +kernel)) ggL_law_X8_feature
set_option maxRecDepth 20000 in
theorem ggL_law_X7_group : GoodIn wsL_law wsX7_group := goodIn_ca (goodIn_r _ [151, 19, 17, 152, 119, 120, 41, 121, 117, 122, 123, 124, 16, 125, 126, 153, 154, 155, 156, 60, 61, 157, 59, 131, 2, 132, 135, 136, 133, 134, 158, 159, 160, 161, 162, 163, 164, 472, 473, 474, 475, 476, 477, 478, 521, 522, 523, 524, 525, 526, 527, 528, 506, 507, 508, 509, 510, 511] (by decide +kernel) (by decide +kernel)) (goodIn_sub (fun _ h => List.mem_append_right _ h) (by decide +kernel))
set_option maxRecDepth 20000 in
theorem gL_law_X7_group : GoodIn wsL_law (wsV RL 24 RX7 yX7_group wsX7_group) := goodIn_app (goodIn_of _ (by decide +kernel)) ggL_law_X7_group
set_option maxRecDepth 20000 in
theorem ggL_law_X8_group : GoodIn wsL_law wsX8_group := goodIn_ca (goodIn_r _ [168, 141, 94, 95, 96, 143, 144, 145, 146, 5, 147, 142, 169, 170, 171, 172, 91, 92, 479, 480, 481, 482, 483, 484, 485, 486, 487, 488, 489, 490, 491, 492, 493, 494, 495, 496, 497, 498, 499, 500, 501, 502, 503, 504, 505] (by decide +kernel) (by decide +kernel)) (goodIn_sub (fun _ h => List.mem_append_right _ h) (by decide +kernel))
set_option maxRecDepth 20000 in
theorem gL_law_X8_group : GoodIn wsL_law (wsV RL 28 RX8 yX8_group wsX8_group) := goodIn_app (goodIn_of _ (by decide +kernel)) ggL_law_X8_group
set_option maxRecDepth 20000 in
theorem ggL_law_X7_formula : GoodIn wsL_law wsX7_formula := goodIn_ca (goodIn_r _ [176, 19, 21, 177, 17, 178, 179, 180, 41, 181, 118, 119, 120, 121, 117, 182, 183, 45, 184, 185, 186, 187, 135, 2, 136, 188, 189, 190, 191, 192, 193, 122, 123, 124, 16, 125, 126, 194, 195, 196, 197, 65, 198, 66, 67, 68, 69, 131, 132, 472, 473, 474, 475, 476, 477, 478, 529, 530, 531, 532, 533, 534, 521, 522, 523, 524, 525, 526, 527, 528, 506, 507, 508, 509, 510, 511] (by decide +kernel) (by decide +kernel)) (goodIn_sub (fun _ h => List.mem_append_right _ h) (by decide +kernel))
set_option maxRecDepth 20000 in
theorem gL_law_X7_formula : GoodIn wsL_law (wsV RL 29 RX7 yX7_formula wsX7_formula) := goodIn_app (goodIn_of _ (by decide +kernel)) ggL_law_X7_formula
set_option maxRecDepth 20000 in
theorem ggL_law_X8_formula : GoodIn wsL_law wsX8_formula := goodIn_ca (goodIn_r _ [202, 141, 203, 98, 99, 100, 143, 204, 205, 206, 5, 207, 144, 145, 146, 147, 142, 479, 480, 481, 482, 483, 484, 485, 486, 487, 488, 489, 490, 491, 492, 493, 494, 495, 496, 497, 498, 499, 500, 501, 502, 503, 504, 505] (by decide +kernel) (by decide +kernel)) (goodIn_sub (fun _ h => List.mem_append_right _ h) (by decide +kernel))
set_option maxRecDepth 20000 in
theorem gL_law_X8_formula : GoodIn wsL_law (wsV RL 32 RX8 yX8_formula wsX8_formula) := goodIn_app (goodIn_of _ (by decide +kernel)) ggL_law_X8_formula
set_option maxRecDepth 20000 in
theorem ggL_law_X7_attribute : GoodIn wsL_law wsX7_attribute := goodIn_ca (goodIn_r _ [211, 19, 17, 23, 152, 119, 120, 41, 121, 117, 122, 123, 124, 16, 125, 126, 212, 213, 214, 49, 215, 74, 131, 2, 132, 216, 217, 218, 219, 73, 472, 473, 474, 475, 476, 477, 478, 521, 522, 523, 524, 525, 526, 527, 528, 506, 507, 508, 509, 510, 511, 535, 536] (by decide +kernel) (by decide +kernel)) (goodIn_sub (fun _ h => List.mem_append_right _ h) (by decide +kernel))
set_option maxRecDepth 20000 in
theorem gL_law_X7_attribute : GoodIn wsL_law (wsV RL 33 RX7 yX7_attribute wsX7_attribute) := goodIn_app (goodIn_of _ (by decide +kernel)) ggL_law_X7_attribute
set_option maxRecDepth 20000 in
theorem ggL_law_X8_attribute : GoodIn wsL_law wsX8_attribute := goodIn_ca (goodIn_r _ [223, 141, 101, 102, 97, 143, 144, 145, 146, 5, 147, 142, 479, 480, 481, 482, 483, 484, 485, 486, 487, 488, 489, 490, 491, 492, 493, 494, 495, 496, 497, 498, 499, 500, 501, 502, 503, 504, 505] (by decide +kernel) (by decide +kernel)) (goodIn_sub (fun _ h => List.mem_append_right _ h) (by decide +kernel))
set_option maxRecDepth 20000 in
theorem gL_law_X8_attribute : GoodIn wsL_law (wsV RL 36 RX8 yX8_attribute wsX8_attribute) := goodIn_app (goodIn_of _ (by decide +kernel)) ggL_law_X8_attribute
set_option maxRecDepth 20000 in
theorem ggL_law_X7_choose : GoodIn wsL_law wsX7_choose := goodIn_ca (goodIn_r _ [227, 19, 27, 228, 178, 179, 180, 41, 181, 118, 119, 120, 121, 117, 229, 230, 231, 26, 232, 233, 78, 234, 235, 133, 2, 134, 131, 132, 135, 136, 236, 237, 238, 239, 240, 472, 473, 474, 475, 476, 477, 478, 512, 513, 514, 515, 521, 522, 523, 524, 525, 526, 527, 528] (by decide +kernel) (by decide +kernel)) (goodIn_sub (fun _ h => List.mem_append_right _ h) (by decide +kernel))
set_option maxRecDepth 20000 in
theorem gL_law_X7_choose : GoodIn wsL_law (wsV RL 37 RX7 yX7_choose wsX7_choose) := goodIn_app (goodIn_of _ (by decide +kernel)) ggL_law_X7_choose
set_option maxRecDepth 20000 in
theorem ggL_law_X8_choose : GoodIn wsL_law wsX8_choose := goodIn_ca (goodIn_r _ [244, 141, 103, 245, 204, 205, 206, 5, 207, 144, 145, 146, 147, 142, 246, 247, 248, 249, 250, 251, 252, 253, 479, 480, 481, 482, 483, 484, 485, 486, 487, 488, 489, 490, 491, 492, 493, 494, 495, 496, 497, 498, 499, 500, 501, 502, 503, 504, 505] (by decide +kernel) (by decide +kernel)) (goodIn_sub (fun _ h => List.mem_append_right _ h) (by decide +kernel))
set_option maxRecDepth 20000 in
theorem gL_law_X8_choose : GoodIn wsL_law (wsV RL 41 RX8 yX8_choose wsX8_choose) := goodIn_app (goodIn_of _ (by decide +kernel)) ggL_law_X8_choose
set_option maxRecDepth 20000 in
theorem ggL_law_X7_solve : GoodIn wsL_law wsX7_solve := goodIn_ca (goodIn_r _ [257, 17, 27, 258, 259, 35, 31, 260, 261, 262, 16, 263, 264, 52, 265, 266, 267, 268, 126, 42, 269, 131, 2, 132, 270, 271, 272, 273, 133, 134, 274, 275, 276, 41, 277, 58, 278, 279, 280, 281, 56, 135, 136, 282, 283, 284, 285, 46, 50, 286, 287, 288, 289, 117, 59, 157, 60, 61, 158, 159, 160, 161, 162, 163, 164, 290, 291, 292, 45, 293, 198, 66, 67, 68, 69, 65, 191, 192, 193, 294, 295, 296, 49, 297, 74, 73, 298, 299, 300, 301, 302, 303, 34, 304, 305, 306, 307, 308, 30, 309, 310, 311, 312, 313, 314, 228, 315, 316, 317, 26, 318, 78, 319, 320, 321, 322, 323, 86, 324, 325, 326, 327, 328, 82, 472, 473, 474, 475, 476, 477, 478, 512, 513, 514, 515, 506, 507, 508, 509, 510, 511, 521, 522, 523, 524, 525, 526, 527, 528, 529, 530, 531, 532, 533, 534, 535, 536, 519, 520, 516, 517, 518] (by decide +kernel) (by decide +kernel)) (goodIn_sub (fun _ h => List.mem_append_right _ h) (by decide +kernel))
set_option maxRecDepth 20000 in
theorem gL_law_X7_solve : GoodIn wsL_law (wsV RL 42 RX7 yX7_solve wsX7_solve) := goodIn_app (goodIn_of _ (by decide +kernel)) ggL_law_X7_solve
set_option maxRecDepth 20000 in
theorem ggL_law_X8_solve : GoodIn wsL_law wsX8_solve := goodIn_ca (goodIn_r _ [332, 141, 333, 334, 335, 142, 336, 337, 105, 106, 245, 107, 103, 338, 339, 340, 5, 341, 342, 104, 343, 344, 345, 346, 143, 347, 348, 349, 350, 91, 92, 94, 95, 96, 351, 352, 353, 354, 355, 356, 357, 358, 203, 99, 100, 98, 359, 360, 361, 362, 363, 364, 365, 366, 97, 101, 102, 367, 368, 369, 370, 479, 480, 481, 482, 483, 484, 485, 486, 487, 488, 489, 490, 491, 492, 493, 494, 495, 496, 497, 498, 499, 500, 501, 502, 503, 504, 505] (by decide +kernel) (by decide +kernel)) (goodIn_sub (fun _ h => List.mem_append_right _ h) (by decide +kernel))
set_option maxRecDepth 20000 in
theorem gL_law_X8_solve : GoodIn wsL_law (wsV RL 46 RX8 yX8_solve wsX8_solve) := goodIn_app (goodIn_of _ (by decide +kernel)) ggL_law_X8_solve
set_option maxRecDepth 20000 in
theorem ggL_law_X7_chosen : GoodIn wsL_law wsX7_chosen := goodIn_r _ [374, 31, 375, 319, 135, 2, 136, 472, 473, 474, 475, 476, 477, 478, 516, 517, 518] (by decide +kernel) (by decide +kernel)
set_option maxRecDepth 20000 in
theorem gL_law_X7_chosen : GoodIn wsL_law (wsV RL 47 RX7 yX7_chosen wsX7_chosen) := goodIn_app (goodIn_of _ (by decide +kernel)) ggL_law_X7_chosen
set_option maxRecDepth 20000 in
theorem ggL_law_X8_chosen : GoodIn wsL_law wsX8_chosen := goodIn_r _ [379, 141, 334, 335, 336, 380, 381, 5, 382, 479, 480, 481, 482, 483, 484, 485, 486, 487, 488, 489, 490, 491, 492, 493, 494, 495, 496, 497, 498, 499, 500, 501, 502, 503, 504, 505] (by decide +kernel) (by decide +kernel)
set_option maxRecDepth 20000 in
theorem gL_law_X8_chosen : GoodIn wsL_law (wsV RL 51 RX8 yX8_chosen wsX8_chosen) := goodIn_app (goodIn_of _ (by decide +kernel)) ggL_law_X8_chosen
set_option maxRecDepth 20000 in
theorem ggL_law_X7_why : GoodIn wsL_law wsX7_why := goodIn_ca (goodIn_r _ [386, 35, 387, 388, 389, 34, 390, 305, 86, 133, 2, 134, 472, 473, 474, 475, 476, 477, 478, 519, 520] (by decide +kernel) (by decide +kernel)) (goodIn_sub (fun _ h => List.mem_append_right _ h) (by decide +kernel))
set_option maxRecDepth 20000 in
theorem gL_law_X7_why : GoodIn wsL_law (wsV RL 52 RX7 yX7_why wsX7_why) := goodIn_app (goodIn_of _ (by decide +kernel)) ggL_law_X7_why
set_option maxRecDepth 20000 in
theorem ggL_law_X8_why : GoodIn wsL_law wsX8_why := goodIn_ca (goodIn_r _ [394, 141, 333, 107, 479, 480, 481, 482, 483, 484, 485, 486, 487, 488, 489, 490, 491, 492, 493, 494, 495, 496, 497, 498, 499, 500, 501, 502, 503, 504, 505] (by decide +kernel) (by decide +kernel)) (goodIn_sub (fun _ h => List.mem_append_right _ h) (by decide +kernel))
set_option maxRecDepth 20000 in
theorem gL_law_X8_why : GoodIn wsL_law (wsV RL 55 RX8 yX8_why wsX8_why) := goodIn_app (goodIn_of _ (by decide +kernel)) ggL_law_X8_why
set_option maxRecDepth 20000 in
theorem ggL_law_X7_count : GoodIn wsL_law wsX7_count := goodIn_ca (goodIn_r _ [398, 399, 19, 112, 400, 17, 27, 258, 259, 401, 402, 403, 16, 404, 264, 52, 265, 266, 267, 268, 126, 42, 269, 131, 2, 132, 270, 271, 272, 273, 133, 134, 274, 275, 276, 41, 277, 58, 278, 279, 280, 281, 56, 135, 136, 282, 283, 284, 285, 46, 50, 286, 287, 288, 289, 117, 59, 157, 60, 61, 158, 159, 160, 161, 162, 163, 164, 290, 291, 292, 45, 293, 198, 66, 67, 68, 69, 65, 191, 192, 193, 294, 295, 296, 49, 297, 74, 73, 298, 299, 300, 472, 473, 474, 475, 476, 477, 478, 521, 522, 523, 524, 525, 526, 527, 528, 512, 513, 514, 515, 506, 507, 508, 509, 510, 511, 529, 530, 531, 532, 533, 534, 535, 536] (by decide +kernel) (by decide +kernel)) (goodIn_sub (fun _ h => List.mem_append_right _ h) (by decide +kernel))
set_option maxRecDepth 20000 in
theorem gL_law_X7_count : GoodIn wsL_law (wsV RL 58 RX7 yX7_count wsX7_count) := goodIn_app (goodIn_of _ (by decide +kernel)) ggL_law_X7_count
set_option maxRecDepth 20000 in
theorem ggL_law_X8_count : GoodIn wsL_law wsX8_count := goodIn_ca (goodIn_r _ [408, 141, 409, 142, 410, 342, 104, 343, 344, 345, 5, 346, 143, 347, 348, 349, 350, 91, 92, 94, 95, 96, 351, 352, 353, 354, 355, 356, 357, 358, 203, 99, 100, 98, 359, 360, 361, 362, 363, 364, 365, 366, 97, 101, 102, 367, 368, 369, 370, 245, 103, 479, 480, 481, 482, 483, 484, 485, 486, 487, 488, 489, 490, 491, 492, 493, 494, 495, 496, 497, 498, 499, 500, 501, 502, 503, 504, 505] (by decide +kernel) (by decide +kernel)) (goodIn_sub (fun _ h => List.mem_append_right _ h) (by decide +kernel))
set_option maxRecDepth 20000 in
theorem gL_law_X8_count : GoodIn wsL_law (wsV RL 62 RX8 yX8_count wsX8_count) := goodIn_app (goodIn_of _ (by decide +kernel)) ggL_law_X8_count
set_option maxRecDepth 20000 in
theorem ggL_law_X7_forces : GoodIn wsL_law wsX7_forces := goodIn_ca (goodIn_r _ [414, 19, 27, 258, 17, 259, 152, 119, 120, 41, 121, 117, 319, 135, 2, 136, 260, 261, 262, 16, 263, 264, 52, 265, 266, 267, 268, 126, 42, 269, 131, 132, 270, 271, 272, 273, 133, 134, 274, 275, 276, 277, 58, 278, 279, 280, 281, 56, 282, 283, 284, 285, 46, 50, 286, 287, 288, 289, 59, 157, 60, 61, 158, 159, 160, 161, 162, 163, 164, 290, 291, 292, 45, 293, 198, 66, 67, 68, 69, 65, 191, 192, 193, 294, 295, 296, 49, 297, 74, 73, 298, 299, 300, 415, 416, 417, 418, 419, 420, 421, 422, 423, 424, 425, 426, 112, 472, 473, 474, 475, 476, 477, 478, 512, 513, 514, 515, 521, 522, 523, 524, 525, 526, 527, 528, 506, 507, 508, 509, 510, 511, 529, 530, 531, 532, 533, 534, 535, 536] (by decide +kernel) (by decide +kernel)) (goodIn_sub (fun _ h => List.mem_append_right _ h) (by decide +kernel))
set_option maxRecDepth 20000 in
theorem gL_law_X7_forces : GoodIn wsL_law (wsV RL 63 RX7 yX7_forces wsX7_forces) := goodIn_app (goodIn_of _ (by decide +kernel)) ggL_law_X7_forces
set_option maxRecDepth 20000 in
theorem ggL_law_X8_forces : GoodIn wsL_law wsX8_forces := goodIn_ca (goodIn_r _ [430, 141, 342, 104, 142, 144, 145, 146, 5, 147, 343, 344, 345, 346, 143, 347, 348, 349, 350, 91, 92, 94, 95, 96, 351, 352, 353, 354, 355, 356, 357, 358, 203, 99, 100, 98, 359, 360, 361, 362, 363, 364, 365, 366, 97, 101, 102, 367, 368, 369, 370, 245, 103, 479, 480, 481, 482, 483, 484, 485, 486, 487, 488, 489, 490, 491, 492, 493, 494, 495, 496, 497, 498, 499, 500, 501, 502, 503, 504, 505] (by decide +kernel) (by decide +kernel)) (goodIn_sub (fun _ h => List.mem_append_right _ h) (by decide +kernel))
set_option maxRecDepth 20000 in
theorem gL_law_X8_forces : GoodIn wsL_law (wsV RL 66 RX8 yX8_forces wsX8_forces) := goodIn_app (goodIn_of _ (by decide +kernel)) ggL_law_X8_forces
set_option maxRecDepth 20000 in
theorem ggL_law_X7_differ : GoodIn wsL_law wsX7_differ := goodIn_ca (goodIn_r _ [434, 31, 435, 436, 437, 30, 438, 328, 439, 440, 441, 442, 82, 133, 2, 134, 443, 159, 160, 161, 162, 163, 164, 472, 473, 474, 475, 476, 477, 478, 516, 517, 518] (by decide +kernel) (by decide +kernel)) (goodIn_sub (fun _ h => List.mem_append_right _ h) (by decide +kernel))
set_option maxRecDepth 20000 in
theorem gL_law_X7_differ : GoodIn wsL_law (wsV RL 67 RX7 yX7_differ wsX7_differ) := goodIn_app (goodIn_of _ (by decide +kernel)) ggL_law_X7_differ
set_option maxRecDepth 20000 in
theorem ggL_law_X8_differ : GoodIn wsL_law wsX8_differ := goodIn_ca (goodIn_r _ [447, 141, 337, 105, 106, 380, 381, 5, 382, 479, 480, 481, 482, 483, 484, 485, 486, 487, 488, 489, 490, 491, 492, 493, 494, 495, 496, 497, 498, 499, 500, 501, 502, 503, 504, 505] (by decide +kernel) (by decide +kernel)) (goodIn_sub (fun _ h => List.mem_append_right _ h) (by decide +kernel))
set_option maxRecDepth 20000 in
theorem gL_law_X8_differ : GoodIn wsL_law (wsV RL 70 RX8 yX8_differ wsX8_differ) := goodIn_app (goodIn_of _ (by decide +kernel)) ggL_law_X8_differ
set_option maxRecDepth 20000 in
theorem ggL_law_L_level : GoodIn wsL_law wsL_level := goodIn_ca (goodIn_r _ [451, 452, 453, 454, 455, 2, 456, 19, 112, 457, 458, 459, 460, 461, 462, 41, 463, 57, 133, 134, 472, 473, 474, 475, 476, 477, 478, 521, 522, 523, 524, 525, 526, 527, 528, 537, 538, 539, 540, 541, 542] (by decide +kernel) (by decide +kernel)) (goodIn_sub (fun _ h => List.mem_append_right _ h) (by decide +kernel))
set_option maxRecDepth 20000 in
theorem gL_law_L_level : GoodIn wsL_law (va_wsS RL 71 yL_level wsL_level) := goodIn_app (goodIn_of _ (by decide +kernel)) ggL_law_L_level
set_option maxRecDepth 20000 in
theorem ggL_law_X8_level : GoodIn wsL_law wsX8_level := goodIn_ca (goodIn_r _ [467, 141, 142, 91, 479, 480, 481, 482, 483, 484, 485, 486, 487, 488, 489, 490, 491, 492, 493, 494, 495, 496, 497, 498, 499, 500, 501, 502, 503, 504, 505] (by decide +kernel) (by decide +kernel)) (goodIn_sub (fun _ h => List.mem_append_right _ h) (by decide +kernel))
set_option maxRecDepth 20000 in
theorem gL_law_X8_level : GoodIn wsL_law (wsV RL 76 RX8 yX8_level wsX8_level) := goodIn_app (goodIn_of _ (by decide +kernel)) ggL_law_X8_level
set_option maxRecDepth 20000 in
theorem ggL_law_X8_thrown : GoodIn wsL_law wsX8_thrown := goodIn_r _ [471, 141, 479, 480, 481, 482, 483, 484, 485, 486, 487, 488, 489, 490, 491, 492, 493, 494, 495, 496, 497, 498, 499, 500, 501, 502, 503, 504, 505] (by decide +kernel) (by decide +kernel)
set_option maxRecDepth 20000 in
theorem gL_law_X8_thrown : GoodIn wsL_law (wsV RL 77 RX8 yX8_thrown wsX8_thrown) := goodIn_app (goodIn_of _ (by decide +kernel)) ggL_law_X8_thrown
theorem dL_law_0 : decode cL_law 0 = .ok (.new 8, 3) := by decide +kernel
theorem dL_law_3 : decode cL_law 3 = .ok (.dup, 1) := by decide +kernel
theorem dL_law_4 : decode cL_law 4 = .ok (.invokespecial 15, 3) := by decide +kernel
theorem dL_law_7 : decode cL_law 7 = .ok (.astore_n 1, 1) := by decide +kernel
theorem dL_law_8 : decode cL_law 8 = .ok (.new 16, 3) := by decide +kernel
theorem dL_law_11 : decode cL_law 11 = .ok (.dup, 1) := by decide +kernel
theorem dL_law_12 : decode cL_law 12 = .ok (.invokespecial 18, 3) := by decide +kernel
theorem dL_law_15 : decode cL_law 15 = .ok (.astore_n 2, 1) := by decide +kernel
theorem dL_law_16 : decode cL_law 16 = .ok (.iconst 1, 1) := by decide +kernel
theorem dL_law_17 : decode cL_law 17 = .ok (.newarray .long, 2) := by decide +kernel
theorem dL_law_19 : decode cL_law 19 = .ok (.astore_n 3, 1) := by decide +kernel
theorem dL_law_20 : decode cL_law 20 = .ok (.iconst 0, 1) := by decide +kernel
theorem dL_law_21 : decode cL_law 21 = .ok (.istore 4, 2) := by decide +kernel
theorem dL_law_23 : decode cL_law 23 = .ok (.iload 4, 2) := by decide +kernel
theorem dL_law_25 : decode cL_law 25 = .ok (.aload_n 0, 1) := by decide +kernel
theorem dL_law_26 : decode cL_law 26 = .ok (.arraylength, 1) := by decide +kernel
theorem dL_law_27 : decode cL_law 27 = .ok (.iconst 4, 1) := by decide +kernel
theorem dL_law_28 : decode cL_law 28 = .ok (.isub, 1) := by decide +kernel
theorem dL_law_29 : decode cL_law 29 = .ok (.if_icmp .gt 565, 3) := by decide +kernel
theorem dL_law_32 : decode cL_law 32 = .ok (.aload_n 0, 1) := by decide +kernel
theorem dL_law_33 : decode cL_law 33 = .ok (.iload 4, 2) := by decide +kernel
theorem dL_law_35 : decode cL_law 35 = .ok (.iaload, 1) := by decide +kernel
theorem dL_law_36 : decode cL_law 36 = .ok (.bipush 15, 2) := by decide +kernel
theorem dL_law_38 : decode cL_law 38 = .ok (.iand, 1) := by decide +kernel
theorem dL_law_39 : decode cL_law 39 = .ok (.tableswitch 549 0 11 #[61, 98, 147, 196, 245, 298, 311, 336, 361, 419, 456, 493], 61) := by decide +kernel
theorem dL_law_100 : decode cL_law 100 = .ok (.aload_n 1, 1) := by decide +kernel
theorem dL_law_101 : decode cL_law 101 = .ok (.aload_n 0, 1) := by decide +kernel
theorem dL_law_102 : decode cL_law 102 = .ok (.iload 4, 2) := by decide +kernel
theorem dL_law_104 : decode cL_law 104 = .ok (.iconst 1, 1) := by decide +kernel
theorem dL_law_105 : decode cL_law 105 = .ok (.iadd, 1) := by decide +kernel
theorem dL_law_106 : decode cL_law 106 = .ok (.iaload, 1) := by decide +kernel
theorem dL_law_107 : decode cL_law 107 = .ok (.aload_n 0, 1) := by decide +kernel
theorem dL_law_108 : decode cL_law 108 = .ok (.iload 4, 2) := by decide +kernel
theorem dL_law_110 : decode cL_law 110 = .ok (.iconst 2, 1) := by decide +kernel
theorem dL_law_111 : decode cL_law 111 = .ok (.iadd, 1) := by decide +kernel
theorem dL_law_112 : decode cL_law 112 = .ok (.iaload, 1) := by decide +kernel
theorem dL_law_113 : decode cL_law 113 = .ok (.invokevirtual 19, 3) := by decide +kernel
theorem dL_law_116 : decode cL_law 116 = .ok (.aload_n 2, 1) := by decide +kernel
theorem dL_law_117 : decode cL_law 117 = .ok (.aload_n 0, 1) := by decide +kernel
theorem dL_law_118 : decode cL_law 118 = .ok (.iload 4, 2) := by decide +kernel
theorem dL_law_120 : decode cL_law 120 = .ok (.iconst 1, 1) := by decide +kernel
theorem dL_law_121 : decode cL_law 121 = .ok (.iadd, 1) := by decide +kernel
theorem dL_law_122 : decode cL_law 122 = .ok (.iaload, 1) := by decide +kernel
theorem dL_law_123 : decode cL_law 123 = .ok (.aload_n 0, 1) := by decide +kernel
theorem dL_law_124 : decode cL_law 124 = .ok (.iload 4, 2) := by decide +kernel
theorem dL_law_126 : decode cL_law 126 = .ok (.iconst 2, 1) := by decide +kernel
theorem dL_law_127 : decode cL_law 127 = .ok (.iadd, 1) := by decide +kernel
theorem dL_law_128 : decode cL_law 128 = .ok (.iaload, 1) := by decide +kernel
theorem dL_law_129 : decode cL_law 129 = .ok (.invokevirtual 23, 3) := by decide +kernel
theorem dL_law_132 : decode cL_law 132 = .ok (.if_icmp .eq 456, 3) := by decide +kernel
theorem dL_law_135 : decode cL_law 135 = .ok (.iconst 0, 1) := by decide +kernel
theorem dL_law_136 : decode cL_law 136 = .ok (.ireturn, 1) := by decide +kernel
theorem dL_law_137 : decode cL_law 137 = .ok (.aload_n 1, 1) := by decide +kernel
theorem dL_law_138 : decode cL_law 138 = .ok (.aload_n 0, 1) := by decide +kernel
theorem dL_law_139 : decode cL_law 139 = .ok (.iload 4, 2) := by decide +kernel
theorem dL_law_141 : decode cL_law 141 = .ok (.iconst 1, 1) := by decide +kernel
theorem dL_law_142 : decode cL_law 142 = .ok (.iadd, 1) := by decide +kernel
theorem dL_law_143 : decode cL_law 143 = .ok (.iaload, 1) := by decide +kernel
theorem dL_law_144 : decode cL_law 144 = .ok (.aload_n 0, 1) := by decide +kernel
theorem dL_law_145 : decode cL_law 145 = .ok (.iload 4, 2) := by decide +kernel
theorem dL_law_147 : decode cL_law 147 = .ok (.iconst 2, 1) := by decide +kernel
theorem dL_law_148 : decode cL_law 148 = .ok (.iadd, 1) := by decide +kernel
theorem dL_law_149 : decode cL_law 149 = .ok (.iaload, 1) := by decide +kernel
theorem dL_law_150 : decode cL_law 150 = .ok (.aload_n 0, 1) := by decide +kernel
theorem dL_law_151 : decode cL_law 151 = .ok (.iload 4, 2) := by decide +kernel
theorem dL_law_153 : decode cL_law 153 = .ok (.iconst 3, 1) := by decide +kernel
theorem dL_law_154 : decode cL_law 154 = .ok (.iadd, 1) := by decide +kernel
theorem dL_law_155 : decode cL_law 155 = .ok (.iaload, 1) := by decide +kernel
theorem dL_law_156 : decode cL_law 156 = .ok (.invokevirtual 24, 3) := by decide +kernel
theorem dL_law_159 : decode cL_law 159 = .ok (.aload_n 2, 1) := by decide +kernel
theorem dL_law_160 : decode cL_law 160 = .ok (.aload_n 0, 1) := by decide +kernel
theorem dL_law_161 : decode cL_law 161 = .ok (.iload 4, 2) := by decide +kernel
theorem dL_law_163 : decode cL_law 163 = .ok (.iconst 1, 1) := by decide +kernel
theorem dL_law_164 : decode cL_law 164 = .ok (.iadd, 1) := by decide +kernel
theorem dL_law_165 : decode cL_law 165 = .ok (.iaload, 1) := by decide +kernel
theorem dL_law_166 : decode cL_law 166 = .ok (.aload_n 0, 1) := by decide +kernel
theorem dL_law_167 : decode cL_law 167 = .ok (.iload 4, 2) := by decide +kernel
theorem dL_law_169 : decode cL_law 169 = .ok (.iconst 2, 1) := by decide +kernel
theorem dL_law_170 : decode cL_law 170 = .ok (.iadd, 1) := by decide +kernel
theorem dL_law_171 : decode cL_law 171 = .ok (.iaload, 1) := by decide +kernel
theorem dL_law_172 : decode cL_law 172 = .ok (.aload_n 0, 1) := by decide +kernel
theorem dL_law_173 : decode cL_law 173 = .ok (.iload 4, 2) := by decide +kernel
theorem dL_law_175 : decode cL_law 175 = .ok (.iconst 3, 1) := by decide +kernel
theorem dL_law_176 : decode cL_law 176 = .ok (.iadd, 1) := by decide +kernel
theorem dL_law_177 : decode cL_law 177 = .ok (.iaload, 1) := by decide +kernel
theorem dL_law_178 : decode cL_law 178 = .ok (.invokevirtual 28, 3) := by decide +kernel
theorem dL_law_181 : decode cL_law 181 = .ok (.if_icmp .eq 407, 3) := by decide +kernel
theorem dL_law_184 : decode cL_law 184 = .ok (.iconst 0, 1) := by decide +kernel
theorem dL_law_185 : decode cL_law 185 = .ok (.ireturn, 1) := by decide +kernel
theorem dL_law_186 : decode cL_law 186 = .ok (.aload_n 1, 1) := by decide +kernel
theorem dL_law_187 : decode cL_law 187 = .ok (.aload_n 0, 1) := by decide +kernel
theorem dL_law_188 : decode cL_law 188 = .ok (.iload 4, 2) := by decide +kernel
theorem dL_law_190 : decode cL_law 190 = .ok (.iconst 1, 1) := by decide +kernel
theorem dL_law_191 : decode cL_law 191 = .ok (.iadd, 1) := by decide +kernel
theorem dL_law_192 : decode cL_law 192 = .ok (.iaload, 1) := by decide +kernel
theorem dL_law_193 : decode cL_law 193 = .ok (.aload_n 0, 1) := by decide +kernel
theorem dL_law_194 : decode cL_law 194 = .ok (.iload 4, 2) := by decide +kernel
theorem dL_law_196 : decode cL_law 196 = .ok (.iconst 2, 1) := by decide +kernel
theorem dL_law_197 : decode cL_law 197 = .ok (.iadd, 1) := by decide +kernel
theorem dL_law_198 : decode cL_law 198 = .ok (.iaload, 1) := by decide +kernel
theorem dL_law_199 : decode cL_law 199 = .ok (.aload_n 0, 1) := by decide +kernel
theorem dL_law_200 : decode cL_law 200 = .ok (.iload 4, 2) := by decide +kernel
theorem dL_law_202 : decode cL_law 202 = .ok (.iconst 3, 1) := by decide +kernel
theorem dL_law_203 : decode cL_law 203 = .ok (.iadd, 1) := by decide +kernel
theorem dL_law_204 : decode cL_law 204 = .ok (.iaload, 1) := by decide +kernel
theorem dL_law_205 : decode cL_law 205 = .ok (.invokevirtual 29, 3) := by decide +kernel
theorem dL_law_208 : decode cL_law 208 = .ok (.aload_n 2, 1) := by decide +kernel
theorem dL_law_209 : decode cL_law 209 = .ok (.aload_n 0, 1) := by decide +kernel
theorem dL_law_210 : decode cL_law 210 = .ok (.iload 4, 2) := by decide +kernel
theorem dL_law_212 : decode cL_law 212 = .ok (.iconst 1, 1) := by decide +kernel
theorem dL_law_213 : decode cL_law 213 = .ok (.iadd, 1) := by decide +kernel
theorem dL_law_214 : decode cL_law 214 = .ok (.iaload, 1) := by decide +kernel
theorem dL_law_215 : decode cL_law 215 = .ok (.aload_n 0, 1) := by decide +kernel
theorem dL_law_216 : decode cL_law 216 = .ok (.iload 4, 2) := by decide +kernel
theorem dL_law_218 : decode cL_law 218 = .ok (.iconst 2, 1) := by decide +kernel
theorem dL_law_219 : decode cL_law 219 = .ok (.iadd, 1) := by decide +kernel
theorem dL_law_220 : decode cL_law 220 = .ok (.iaload, 1) := by decide +kernel
theorem dL_law_221 : decode cL_law 221 = .ok (.aload_n 0, 1) := by decide +kernel
theorem dL_law_222 : decode cL_law 222 = .ok (.iload 4, 2) := by decide +kernel
theorem dL_law_224 : decode cL_law 224 = .ok (.iconst 3, 1) := by decide +kernel
theorem dL_law_225 : decode cL_law 225 = .ok (.iadd, 1) := by decide +kernel
theorem dL_law_226 : decode cL_law 226 = .ok (.iaload, 1) := by decide +kernel
theorem dL_law_227 : decode cL_law 227 = .ok (.invokevirtual 32, 3) := by decide +kernel
theorem dL_law_230 : decode cL_law 230 = .ok (.if_icmp .eq 358, 3) := by decide +kernel
theorem dL_law_233 : decode cL_law 233 = .ok (.iconst 0, 1) := by decide +kernel
theorem dL_law_234 : decode cL_law 234 = .ok (.ireturn, 1) := by decide +kernel
theorem dL_law_235 : decode cL_law 235 = .ok (.aload_n 1, 1) := by decide +kernel
theorem dL_law_236 : decode cL_law 236 = .ok (.aload_n 0, 1) := by decide +kernel
theorem dL_law_237 : decode cL_law 237 = .ok (.iload 4, 2) := by decide +kernel
theorem dL_law_239 : decode cL_law 239 = .ok (.iconst 1, 1) := by decide +kernel
theorem dL_law_240 : decode cL_law 240 = .ok (.iadd, 1) := by decide +kernel
theorem dL_law_241 : decode cL_law 241 = .ok (.iaload, 1) := by decide +kernel
theorem dL_law_242 : decode cL_law 242 = .ok (.aload_n 0, 1) := by decide +kernel
theorem dL_law_243 : decode cL_law 243 = .ok (.iload 4, 2) := by decide +kernel
theorem dL_law_245 : decode cL_law 245 = .ok (.iconst 2, 1) := by decide +kernel
theorem dL_law_246 : decode cL_law 246 = .ok (.iadd, 1) := by decide +kernel
theorem dL_law_247 : decode cL_law 247 = .ok (.iaload, 1) := by decide +kernel
theorem dL_law_248 : decode cL_law 248 = .ok (.aload_n 0, 1) := by decide +kernel
theorem dL_law_249 : decode cL_law 249 = .ok (.iload 4, 2) := by decide +kernel
theorem dL_law_251 : decode cL_law 251 = .ok (.iconst 3, 1) := by decide +kernel
theorem dL_law_252 : decode cL_law 252 = .ok (.iadd, 1) := by decide +kernel
theorem dL_law_253 : decode cL_law 253 = .ok (.iaload, 1) := by decide +kernel
theorem dL_law_254 : decode cL_law 254 = .ok (.invokevirtual 33, 3) := by decide +kernel
theorem dL_law_257 : decode cL_law 257 = .ok (.aload_n 2, 1) := by decide +kernel
theorem dL_law_258 : decode cL_law 258 = .ok (.aload_n 0, 1) := by decide +kernel
theorem dL_law_259 : decode cL_law 259 = .ok (.iload 4, 2) := by decide +kernel
theorem dL_law_261 : decode cL_law 261 = .ok (.iconst 1, 1) := by decide +kernel
theorem dL_law_262 : decode cL_law 262 = .ok (.iadd, 1) := by decide +kernel
theorem dL_law_263 : decode cL_law 263 = .ok (.iaload, 1) := by decide +kernel
theorem dL_law_264 : decode cL_law 264 = .ok (.aload_n 0, 1) := by decide +kernel
theorem dL_law_265 : decode cL_law 265 = .ok (.iload 4, 2) := by decide +kernel
theorem dL_law_267 : decode cL_law 267 = .ok (.iconst 2, 1) := by decide +kernel
theorem dL_law_268 : decode cL_law 268 = .ok (.iadd, 1) := by decide +kernel
theorem dL_law_269 : decode cL_law 269 = .ok (.iaload, 1) := by decide +kernel
theorem dL_law_270 : decode cL_law 270 = .ok (.aload_n 0, 1) := by decide +kernel
theorem dL_law_271 : decode cL_law 271 = .ok (.iload 4, 2) := by decide +kernel
theorem dL_law_273 : decode cL_law 273 = .ok (.iconst 3, 1) := by decide +kernel
theorem dL_law_274 : decode cL_law 274 = .ok (.iadd, 1) := by decide +kernel
theorem dL_law_275 : decode cL_law 275 = .ok (.iaload, 1) := by decide +kernel
theorem dL_law_276 : decode cL_law 276 = .ok (.invokevirtual 36, 3) := by decide +kernel
theorem dL_law_279 : decode cL_law 279 = .ok (.if_icmp .eq 309, 3) := by decide +kernel
theorem dL_law_282 : decode cL_law 282 = .ok (.iconst 0, 1) := by decide +kernel
theorem dL_law_283 : decode cL_law 283 = .ok (.ireturn, 1) := by decide +kernel
theorem dL_law_284 : decode cL_law 284 = .ok (.aload_n 1, 1) := by decide +kernel
theorem dL_law_285 : decode cL_law 285 = .ok (.aload_n 0, 1) := by decide +kernel
theorem dL_law_286 : decode cL_law 286 = .ok (.iload 4, 2) := by decide +kernel
theorem dL_law_288 : decode cL_law 288 = .ok (.iconst 1, 1) := by decide +kernel
theorem dL_law_289 : decode cL_law 289 = .ok (.iadd, 1) := by decide +kernel
theorem dL_law_290 : decode cL_law 290 = .ok (.iaload, 1) := by decide +kernel
theorem dL_law_291 : decode cL_law 291 = .ok (.aload_n 0, 1) := by decide +kernel
theorem dL_law_292 : decode cL_law 292 = .ok (.iload 4, 2) := by decide +kernel
theorem dL_law_294 : decode cL_law 294 = .ok (.iconst 2, 1) := by decide +kernel
theorem dL_law_295 : decode cL_law 295 = .ok (.iadd, 1) := by decide +kernel
theorem dL_law_296 : decode cL_law 296 = .ok (.iaload, 1) := by decide +kernel
theorem dL_law_297 : decode cL_law 297 = .ok (.ifCond .eq 7, 3) := by decide +kernel
theorem dL_law_300 : decode cL_law 300 = .ok (.iconst 1, 1) := by decide +kernel
theorem dL_law_301 : decode cL_law 301 = .ok (.goto 4, 3) := by decide +kernel
theorem dL_law_304 : decode cL_law 304 = .ok (.iconst 0, 1) := by decide +kernel
theorem dL_law_305 : decode cL_law 305 = .ok (.invokevirtual 37, 3) := by decide +kernel
theorem dL_law_308 : decode cL_law 308 = .ok (.aload_n 2, 1) := by decide +kernel
theorem dL_law_309 : decode cL_law 309 = .ok (.aload_n 0, 1) := by decide +kernel
theorem dL_law_310 : decode cL_law 310 = .ok (.iload 4, 2) := by decide +kernel
theorem dL_law_312 : decode cL_law 312 = .ok (.iconst 1, 1) := by decide +kernel
theorem dL_law_313 : decode cL_law 313 = .ok (.iadd, 1) := by decide +kernel
theorem dL_law_314 : decode cL_law 314 = .ok (.iaload, 1) := by decide +kernel
theorem dL_law_315 : decode cL_law 315 = .ok (.aload_n 0, 1) := by decide +kernel
theorem dL_law_316 : decode cL_law 316 = .ok (.iload 4, 2) := by decide +kernel
theorem dL_law_318 : decode cL_law 318 = .ok (.iconst 2, 1) := by decide +kernel
theorem dL_law_319 : decode cL_law 319 = .ok (.iadd, 1) := by decide +kernel
theorem dL_law_320 : decode cL_law 320 = .ok (.iaload, 1) := by decide +kernel
theorem dL_law_321 : decode cL_law 321 = .ok (.ifCond .eq 7, 3) := by decide +kernel
theorem dL_law_324 : decode cL_law 324 = .ok (.iconst 1, 1) := by decide +kernel
theorem dL_law_325 : decode cL_law 325 = .ok (.goto 4, 3) := by decide +kernel
theorem dL_law_328 : decode cL_law 328 = .ok (.iconst 0, 1) := by decide +kernel
theorem dL_law_329 : decode cL_law 329 = .ok (.invokevirtual 41, 3) := by decide +kernel
theorem dL_law_332 : decode cL_law 332 = .ok (.if_icmp .eq 256, 3) := by decide +kernel
theorem dL_law_335 : decode cL_law 335 = .ok (.iconst 0, 1) := by decide +kernel
theorem dL_law_336 : decode cL_law 336 = .ok (.ireturn, 1) := by decide +kernel
theorem dL_law_337 : decode cL_law 337 = .ok (.aload_n 1, 1) := by decide +kernel
theorem dL_law_338 : decode cL_law 338 = .ok (.invokevirtual 42, 3) := by decide +kernel
theorem dL_law_341 : decode cL_law 341 = .ok (.aload_n 2, 1) := by decide +kernel
theorem dL_law_342 : decode cL_law 342 = .ok (.invokevirtual 46, 3) := by decide +kernel
theorem dL_law_345 : decode cL_law 345 = .ok (.if_icmp .eq 243, 3) := by decide +kernel
theorem dL_law_348 : decode cL_law 348 = .ok (.iconst 0, 1) := by decide +kernel
theorem dL_law_349 : decode cL_law 349 = .ok (.ireturn, 1) := by decide +kernel
theorem dL_law_350 : decode cL_law 350 = .ok (.aload_n 1, 1) := by decide +kernel
theorem dL_law_351 : decode cL_law 351 = .ok (.aload_n 0, 1) := by decide +kernel
theorem dL_law_352 : decode cL_law 352 = .ok (.iload 4, 2) := by decide +kernel
theorem dL_law_354 : decode cL_law 354 = .ok (.iconst 1, 1) := by decide +kernel
theorem dL_law_355 : decode cL_law 355 = .ok (.iadd, 1) := by decide +kernel
theorem dL_law_356 : decode cL_law 356 = .ok (.iaload, 1) := by decide +kernel
theorem dL_law_357 : decode cL_law 357 = .ok (.invokevirtual 47, 3) := by decide +kernel
theorem dL_law_360 : decode cL_law 360 = .ok (.aload_n 2, 1) := by decide +kernel
theorem dL_law_361 : decode cL_law 361 = .ok (.aload_n 0, 1) := by decide +kernel
theorem dL_law_362 : decode cL_law 362 = .ok (.iload 4, 2) := by decide +kernel
theorem dL_law_364 : decode cL_law 364 = .ok (.iconst 1, 1) := by decide +kernel
theorem dL_law_365 : decode cL_law 365 = .ok (.iadd, 1) := by decide +kernel
theorem dL_law_366 : decode cL_law 366 = .ok (.iaload, 1) := by decide +kernel
theorem dL_law_367 : decode cL_law 367 = .ok (.invokevirtual 51, 3) := by decide +kernel
theorem dL_law_370 : decode cL_law 370 = .ok (.if_icmp .eq 218, 3) := by decide +kernel
theorem dL_law_373 : decode cL_law 373 = .ok (.iconst 0, 1) := by decide +kernel
theorem dL_law_374 : decode cL_law 374 = .ok (.ireturn, 1) := by decide +kernel
theorem dL_law_375 : decode cL_law 375 = .ok (.aload_n 1, 1) := by decide +kernel
theorem dL_law_376 : decode cL_law 376 = .ok (.aload_n 0, 1) := by decide +kernel
theorem dL_law_377 : decode cL_law 377 = .ok (.iload 4, 2) := by decide +kernel
theorem dL_law_379 : decode cL_law 379 = .ok (.iconst 1, 1) := by decide +kernel
theorem dL_law_380 : decode cL_law 380 = .ok (.iadd, 1) := by decide +kernel
theorem dL_law_381 : decode cL_law 381 = .ok (.iaload, 1) := by decide +kernel
theorem dL_law_382 : decode cL_law 382 = .ok (.invokevirtual 52, 3) := by decide +kernel
theorem dL_law_385 : decode cL_law 385 = .ok (.aload_n 2, 1) := by decide +kernel
theorem dL_law_386 : decode cL_law 386 = .ok (.aload_n 0, 1) := by decide +kernel
theorem dL_law_387 : decode cL_law 387 = .ok (.iload 4, 2) := by decide +kernel
theorem dL_law_389 : decode cL_law 389 = .ok (.iconst 1, 1) := by decide +kernel
theorem dL_law_390 : decode cL_law 390 = .ok (.iadd, 1) := by decide +kernel
theorem dL_law_391 : decode cL_law 391 = .ok (.iaload, 1) := by decide +kernel
theorem dL_law_392 : decode cL_law 392 = .ok (.invokevirtual 55, 3) := by decide +kernel
theorem dL_law_395 : decode cL_law 395 = .ok (.if_icmp .eq 193, 3) := by decide +kernel
theorem dL_law_398 : decode cL_law 398 = .ok (.iconst 0, 1) := by decide +kernel
theorem dL_law_399 : decode cL_law 399 = .ok (.ireturn, 1) := by decide +kernel
theorem dL_law_400 : decode cL_law 400 = .ok (.aload_n 1, 1) := by decide +kernel
theorem dL_law_401 : decode cL_law 401 = .ok (.aload_n 0, 1) := by decide +kernel
theorem dL_law_402 : decode cL_law 402 = .ok (.iload 4, 2) := by decide +kernel
theorem dL_law_404 : decode cL_law 404 = .ok (.iconst 1, 1) := by decide +kernel
theorem dL_law_405 : decode cL_law 405 = .ok (.iadd, 1) := by decide +kernel
theorem dL_law_406 : decode cL_law 406 = .ok (.iaload, 1) := by decide +kernel
theorem dL_law_407 : decode cL_law 407 = .ok (.i2l, 1) := by decide +kernel
theorem dL_law_408 : decode cL_law 408 = .ok (.bipush 32, 2) := by decide +kernel
theorem dL_law_410 : decode cL_law 410 = .ok (.lshl, 1) := by decide +kernel
theorem dL_law_411 : decode cL_law 411 = .ok (.aload_n 0, 1) := by decide +kernel
theorem dL_law_412 : decode cL_law 412 = .ok (.iload 4, 2) := by decide +kernel
theorem dL_law_414 : decode cL_law 414 = .ok (.iconst 2, 1) := by decide +kernel
theorem dL_law_415 : decode cL_law 415 = .ok (.iadd, 1) := by decide +kernel
theorem dL_law_416 : decode cL_law 416 = .ok (.iaload, 1) := by decide +kernel
theorem dL_law_417 : decode cL_law 417 = .ok (.i2l, 1) := by decide +kernel
theorem dL_law_418 : decode cL_law 418 = .ok (.ldc2_w 56, 3) := by decide +kernel
theorem dL_law_421 : decode cL_law 421 = .ok (.land, 1) := by decide +kernel
theorem dL_law_422 : decode cL_law 422 = .ok (.lor, 1) := by decide +kernel
theorem dL_law_423 : decode cL_law 423 = .ok (.invokevirtual 58, 3) := by decide +kernel
theorem dL_law_426 : decode cL_law 426 = .ok (.aload_n 2, 1) := by decide +kernel
theorem dL_law_427 : decode cL_law 427 = .ok (.aload_n 0, 1) := by decide +kernel
theorem dL_law_428 : decode cL_law 428 = .ok (.iload 4, 2) := by decide +kernel
theorem dL_law_430 : decode cL_law 430 = .ok (.iconst 1, 1) := by decide +kernel
theorem dL_law_431 : decode cL_law 431 = .ok (.iadd, 1) := by decide +kernel
theorem dL_law_432 : decode cL_law 432 = .ok (.iaload, 1) := by decide +kernel
theorem dL_law_433 : decode cL_law 433 = .ok (.i2l, 1) := by decide +kernel
theorem dL_law_434 : decode cL_law 434 = .ok (.bipush 32, 2) := by decide +kernel
theorem dL_law_436 : decode cL_law 436 = .ok (.lshl, 1) := by decide +kernel
theorem dL_law_437 : decode cL_law 437 = .ok (.aload_n 0, 1) := by decide +kernel
theorem dL_law_438 : decode cL_law 438 = .ok (.iload 4, 2) := by decide +kernel
theorem dL_law_440 : decode cL_law 440 = .ok (.iconst 2, 1) := by decide +kernel
theorem dL_law_441 : decode cL_law 441 = .ok (.iadd, 1) := by decide +kernel
theorem dL_law_442 : decode cL_law 442 = .ok (.iaload, 1) := by decide +kernel
theorem dL_law_443 : decode cL_law 443 = .ok (.i2l, 1) := by decide +kernel
theorem dL_law_444 : decode cL_law 444 = .ok (.ldc2_w 56, 3) := by decide +kernel
theorem dL_law_447 : decode cL_law 447 = .ok (.land, 1) := by decide +kernel
theorem dL_law_448 : decode cL_law 448 = .ok (.lor, 1) := by decide +kernel
theorem dL_law_449 : decode cL_law 449 = .ok (.invokevirtual 62, 3) := by decide +kernel
theorem dL_law_452 : decode cL_law 452 = .ok (.lcmp, 1) := by decide +kernel
theorem dL_law_453 : decode cL_law 453 = .ok (.ifCond .eq 135, 3) := by decide +kernel
theorem dL_law_456 : decode cL_law 456 = .ok (.iconst 0, 1) := by decide +kernel
theorem dL_law_457 : decode cL_law 457 = .ok (.ireturn, 1) := by decide +kernel
theorem dL_law_458 : decode cL_law 458 = .ok (.aload_n 1, 1) := by decide +kernel
theorem dL_law_459 : decode cL_law 459 = .ok (.aload_n 0, 1) := by decide +kernel
theorem dL_law_460 : decode cL_law 460 = .ok (.iload 4, 2) := by decide +kernel
theorem dL_law_462 : decode cL_law 462 = .ok (.iconst 1, 1) := by decide +kernel
theorem dL_law_463 : decode cL_law 463 = .ok (.iadd, 1) := by decide +kernel
theorem dL_law_464 : decode cL_law 464 = .ok (.iaload, 1) := by decide +kernel
theorem dL_law_465 : decode cL_law 465 = .ok (.aload_n 0, 1) := by decide +kernel
theorem dL_law_466 : decode cL_law 466 = .ok (.iload 4, 2) := by decide +kernel
theorem dL_law_468 : decode cL_law 468 = .ok (.iconst 2, 1) := by decide +kernel
theorem dL_law_469 : decode cL_law 469 = .ok (.iadd, 1) := by decide +kernel
theorem dL_law_470 : decode cL_law 470 = .ok (.iaload, 1) := by decide +kernel
theorem dL_law_471 : decode cL_law 471 = .ok (.invokevirtual 63, 3) := by decide +kernel
theorem dL_law_474 : decode cL_law 474 = .ok (.aload_n 2, 1) := by decide +kernel
theorem dL_law_475 : decode cL_law 475 = .ok (.aload_n 0, 1) := by decide +kernel
theorem dL_law_476 : decode cL_law 476 = .ok (.iload 4, 2) := by decide +kernel
theorem dL_law_478 : decode cL_law 478 = .ok (.iconst 1, 1) := by decide +kernel
theorem dL_law_479 : decode cL_law 479 = .ok (.iadd, 1) := by decide +kernel
theorem dL_law_480 : decode cL_law 480 = .ok (.iaload, 1) := by decide +kernel
theorem dL_law_481 : decode cL_law 481 = .ok (.aload_n 0, 1) := by decide +kernel
theorem dL_law_482 : decode cL_law 482 = .ok (.iload 4, 2) := by decide +kernel
theorem dL_law_484 : decode cL_law 484 = .ok (.iconst 2, 1) := by decide +kernel
theorem dL_law_485 : decode cL_law 485 = .ok (.iadd, 1) := by decide +kernel
theorem dL_law_486 : decode cL_law 486 = .ok (.iaload, 1) := by decide +kernel
theorem dL_law_487 : decode cL_law 487 = .ok (.invokevirtual 66, 3) := by decide +kernel
theorem dL_law_490 : decode cL_law 490 = .ok (.if_icmp .eq 98, 3) := by decide +kernel
theorem dL_law_493 : decode cL_law 493 = .ok (.iconst 0, 1) := by decide +kernel
theorem dL_law_494 : decode cL_law 494 = .ok (.ireturn, 1) := by decide +kernel
theorem dL_law_495 : decode cL_law 495 = .ok (.aload_n 1, 1) := by decide +kernel
theorem dL_law_496 : decode cL_law 496 = .ok (.aload_n 0, 1) := by decide +kernel
theorem dL_law_497 : decode cL_law 497 = .ok (.iload 4, 2) := by decide +kernel
theorem dL_law_499 : decode cL_law 499 = .ok (.iconst 1, 1) := by decide +kernel
theorem dL_law_500 : decode cL_law 500 = .ok (.iadd, 1) := by decide +kernel
theorem dL_law_501 : decode cL_law 501 = .ok (.iaload, 1) := by decide +kernel
theorem dL_law_502 : decode cL_law 502 = .ok (.aload_n 0, 1) := by decide +kernel
theorem dL_law_503 : decode cL_law 503 = .ok (.iload 4, 2) := by decide +kernel
theorem dL_law_505 : decode cL_law 505 = .ok (.iconst 2, 1) := by decide +kernel
theorem dL_law_506 : decode cL_law 506 = .ok (.iadd, 1) := by decide +kernel
theorem dL_law_507 : decode cL_law 507 = .ok (.iaload, 1) := by decide +kernel
theorem dL_law_508 : decode cL_law 508 = .ok (.invokevirtual 67, 3) := by decide +kernel
theorem dL_law_511 : decode cL_law 511 = .ok (.aload_n 2, 1) := by decide +kernel
theorem dL_law_512 : decode cL_law 512 = .ok (.aload_n 0, 1) := by decide +kernel
theorem dL_law_513 : decode cL_law 513 = .ok (.iload 4, 2) := by decide +kernel
theorem dL_law_515 : decode cL_law 515 = .ok (.iconst 1, 1) := by decide +kernel
theorem dL_law_516 : decode cL_law 516 = .ok (.iadd, 1) := by decide +kernel
theorem dL_law_517 : decode cL_law 517 = .ok (.iaload, 1) := by decide +kernel
theorem dL_law_518 : decode cL_law 518 = .ok (.aload_n 0, 1) := by decide +kernel
theorem dL_law_519 : decode cL_law 519 = .ok (.iload 4, 2) := by decide +kernel
theorem dL_law_521 : decode cL_law 521 = .ok (.iconst 2, 1) := by decide +kernel
theorem dL_law_522 : decode cL_law 522 = .ok (.iadd, 1) := by decide +kernel
theorem dL_law_523 : decode cL_law 523 = .ok (.iaload, 1) := by decide +kernel
theorem dL_law_524 : decode cL_law 524 = .ok (.invokevirtual 70, 3) := by decide +kernel
theorem dL_law_527 : decode cL_law 527 = .ok (.if_icmp .eq 61, 3) := by decide +kernel
theorem dL_law_530 : decode cL_law 530 = .ok (.iconst 0, 1) := by decide +kernel
theorem dL_law_531 : decode cL_law 531 = .ok (.ireturn, 1) := by decide +kernel
theorem dL_law_532 : decode cL_law 532 = .ok (.aload_n 1, 1) := by decide +kernel
theorem dL_law_533 : decode cL_law 533 = .ok (.aload_n 0, 1) := by decide +kernel
theorem dL_law_534 : decode cL_law 534 = .ok (.iload 4, 2) := by decide +kernel
theorem dL_law_536 : decode cL_law 536 = .ok (.iconst 1, 1) := by decide +kernel
theorem dL_law_537 : decode cL_law 537 = .ok (.iadd, 1) := by decide +kernel
theorem dL_law_538 : decode cL_law 538 = .ok (.iaload, 1) := by decide +kernel
theorem dL_law_539 : decode cL_law 539 = .ok (.aload_n 3, 1) := by decide +kernel
theorem dL_law_540 : decode cL_law 540 = .ok (.invokestatic 71, 3) := by decide +kernel
theorem dL_law_543 : decode cL_law 543 = .ok (.istore 5, 2) := by decide +kernel
theorem dL_law_545 : decode cL_law 545 = .ok (.aload_n 2, 1) := by decide +kernel
theorem dL_law_546 : decode cL_law 546 = .ok (.aload_n 0, 1) := by decide +kernel
theorem dL_law_547 : decode cL_law 547 = .ok (.iload 4, 2) := by decide +kernel
theorem dL_law_549 : decode cL_law 549 = .ok (.iconst 1, 1) := by decide +kernel
theorem dL_law_550 : decode cL_law 550 = .ok (.iadd, 1) := by decide +kernel
theorem dL_law_551 : decode cL_law 551 = .ok (.iaload, 1) := by decide +kernel
theorem dL_law_552 : decode cL_law 552 = .ok (.invokevirtual 76, 3) := by decide +kernel
theorem dL_law_555 : decode cL_law 555 = .ok (.istore 6, 2) := by decide +kernel
theorem dL_law_557 : decode cL_law 557 = .ok (.aload_n 2, 1) := by decide +kernel
theorem dL_law_558 : decode cL_law 558 = .ok (.invokevirtual 77, 3) := by decide +kernel
theorem dL_law_561 : decode cL_law 561 = .ok (.iload 5, 2) := by decide +kernel
theorem dL_law_563 : decode cL_law 563 = .ok (.if_icmp .eq 5, 3) := by decide +kernel
theorem dL_law_566 : decode cL_law 566 = .ok (.iconst 0, 1) := by decide +kernel
theorem dL_law_567 : decode cL_law 567 = .ok (.ireturn, 1) := by decide +kernel
theorem dL_law_568 : decode cL_law 568 = .ok (.iload 5, 2) := by decide +kernel
theorem dL_law_570 : decode cL_law 570 = .ok (.ifCond .ne 15, 3) := by decide +kernel
theorem dL_law_573 : decode cL_law 573 = .ok (.aload_n 3, 1) := by decide +kernel
theorem dL_law_574 : decode cL_law 574 = .ok (.iconst 0, 1) := by decide +kernel
theorem dL_law_575 : decode cL_law 575 = .ok (.laload, 1) := by decide +kernel
theorem dL_law_576 : decode cL_law 576 = .ok (.iload 6, 2) := by decide +kernel
theorem dL_law_578 : decode cL_law 578 = .ok (.i2l, 1) := by decide +kernel
theorem dL_law_579 : decode cL_law 579 = .ok (.lcmp, 1) := by decide +kernel
theorem dL_law_580 : decode cL_law 580 = .ok (.ifCond .eq 5, 3) := by decide +kernel
theorem dL_law_583 : decode cL_law 583 = .ok (.iconst 0, 1) := by decide +kernel
theorem dL_law_584 : decode cL_law 584 = .ok (.ireturn, 1) := by decide +kernel
theorem dL_law_585 : decode cL_law 585 = .ok (.goto 3, 3) := by decide +kernel
theorem dL_law_588 : decode cL_law 588 = .ok (.iinc 4 4, 3) := by decide +kernel
theorem dL_law_591 : decode cL_law 591 = .ok (.goto (-568), 3) := by decide +kernel
theorem dL_law_594 : decode cL_law 594 = .ok (.iconst 1, 1) := by decide +kernel
theorem dL_law_595 : decode cL_law 595 = .ok (.ireturn, 1) := by decide +kernel
end
section
/-! cells, by their classes -/
abbrev cI (G : va_G × ClassId × ClassId) (a n : Nat) (f : Nat → Int32) : Nat × va_E := (a, .inl (G.2.1, n, .inl f))
abbrev cZ (G : va_G × ClassId × ClassId) (a n : Nat) (f : Nat → Int32) : Nat × va_E := (a, .inl (G.2.2, n, .inl f))
abbrev oX0 (a : Nat) (v0 : Int32) (v1 : Int32) (v2 : Int32) (v3 : Nat) : Nat × va_E := (a, .inr (2, [.int v0, .int v1, .int v2, .ref v3]))
abbrev oX1 (a : Nat) (v0 : Int32) (v1 : Nat) (v2 : Nat) (v3 : Nat) (v4 : Nat) (v5 : Nat) : Nat × va_E := (a, .inr (3, [.int v0, .ref v1, .ref v2, .ref v3, .ref v4, .ref v5]))
abbrev oX2 (a : Nat) (v0 : Int32) (v1 : Int32) (v2 : Nat) : Nat × va_E := (a, .inr (4, [.int v0, .int v1, .ref v2]))
abbrev oX3 (a : Nat) (v0 : Int32) (v1 : Nat) : Nat × va_E := (a, .inr (5, [.int v0, .ref v1]))
abbrev oX4 (a : Nat) (v0 : Nat) (v1 : Nat) : Nat × va_E := (a, .inr (6, [.ref v0, .ref v1]))
abbrev oX5 (a : Nat) (v0 : Int32) (v1 : Nat) (v2 : Nat) (v3 : Nat) (v4 : Nat) (v5 : Nat) (v6 : Nat) (v7 : Int32) : Nat × va_E := (a, .inr (7, [.int v0, .ref v1, .ref v2, .ref v3, .ref v4, .ref v5, .ref v6, .int v7]))
abbrev oX6 (a : Nat) (v0 : Nat) (v1 : Nat) (v2 : Nat) (v3 : Nat) (v4 : Int32) (v5 : Int32) : Nat × va_E := (a, .inr (8, [.ref v0, .ref v1, .ref v2, .ref v3, .int v4, .int v5]))
abbrev oX7 (a : Nat) (v0 : Nat) (v1 : Nat) (v2 : Nat) (v3 : Nat) (v4 : Nat) (v5 : Nat) (v6 : Nat) : Nat × va_E := (a, .inr (9, [.ref v0, .ref v1, .ref v2, .ref v3, .ref v4, .ref v5, .ref v6]))
abbrev oX8 (a : Nat) (v0 : Int32) (v1 : Nat) (v2 : Nat) (v3 : Nat) (v4 : Nat) (v5 : Nat) (v6 : Nat) (v7 : Int32) (v8 : Nat) (v9 : Nat) (v10 : Nat) (v11 : Int32) (v12 : Nat) (v13 : Nat) (v14 : Nat) (v15 : Int32) (v16 : Int32) (v17 : Nat) (v18 : Int32) (v19 : Nat) (v20 : Int32) (v21 : Nat) (v22 : Int32) (v23 : Int32) (v24 : Int32) (v25 : Nat) (v26 : Int32) : Nat × va_E := (a, .inr (10, [.int v0, .ref v1, .ref v2, .ref v3, .ref v4, .ref v5, .ref v6, .int v7, .ref v8, .ref v9, .ref v10, .int v11, .ref v12, .ref v13, .ref v14, .int v15, .int v16, .ref v17, .int v18, .ref v19, .int v20, .ref v21, .int v22, .int v23, .int v24, .ref v25, .int v26]))
end
section
/-! what every contract here says of the tables: the classes, the two array classes, the private members of nest mates -/
def nestL : List (String × Nat × MethodName) := [(RX7, 9, yX6_init), (RX6, 11, yX5_init), (RX6, 20, yX1_init), (RX6, 27, yX4_init), (RX7, 33, yX0_init), (RX7, 40, yX2_init), (RX7, 47, yX3_init), (RX5, 38, yX7_put), (RX5, 42, yX7_at), (RX5, 46, yX7_bit), (RX1, 39, yX7_bit), (RX1, 31, yX7_put), (RX4, 18, yX7_put), (RX0, 15, yX7_at), (RX0, 27, yX7_put), (RX0, 34, yX7_bit), (RX6, 55, yX7_put), (RX6, 47, yX7_at), (RX6, 74, yX7_bit), (RX1, 42, yX7_at), (RX4, 22, yX7_at), (RX4, 26, yX7_bit), (RX3, 19, yX7_put), (RX2, 22, yX7_put), (RX3, 23, yX7_at), (RX2, 26, yX7_at)]
def KN (U : State) : Prop := ∀ q ∈ nestL, va_Nw (.methodLinkNest q.1 q.2.1 q.2.2 RX7) U
theorem KN.nth {U : State} (h : KN U) (i : Nat) {q : String × Nat × MethodName} (hq : nestL[i]? = some q) : va_Nw (.methodLinkNest q.1 q.2.1 q.2.2 RX7) U := h q (List.mem_of_getElem? hq)
abbrev GG : Type := va_G × ClassId × ClassId
def KK (G : GG) (U : State) : Prop := va_K G.1 vwCl [(G.2.1, .int), (G.2.2, .boolean)] U ∧ KN U
theorem KK.warm {G : GG} {s U : State} (hW : s.WarmedH U.vm) (h : KK G s) : KK G U := ⟨va_K.moved hW.alike h.1, fun q hq => va_Nw.warmM hW (h.2 q hq)⟩
theorem KK.calling {G : GG} {U : State} {g : JFrame} {mk : MethodId} {a : Array Value} (h : KK G U) : KK G (U.calling g mk a) := ⟨va_K.moved (u := U) (U := U.calling g mk a) (Vm.Alike.refl U.vm) h.1, fun q hq => va_Nw.same rfl rfl (h.2 q hq)⟩
/-- a reader's start -/
def PS (G : GG) (ws : va_W) (U : State) : Prop := va_P G.1 vwCl ws U.heap ∧ KK G U
theorem PS_blind {G : GG} {ws : va_W} {av : List Value} : FrameBlind (va_Pc av (PS G ws)) := fun a U g mk q => ⟨q.1, q.2.1, q.2.2.calling⟩
/-- a writer's start -/
def PM (G : GG) (ws : va_W) (U : State) : Prop := va_P G.1 vwCl ws U.heap ∧ va_D (fun _ => True) ws ∧ KK G U
theorem PM_blind {G : GG} {ws : va_W} {av : List Value} : FrameBlind (va_Pc av (PM G ws)) := fun a U g mk q => ⟨q.1, q.2.1, q.2.2.1, q.2.2.2.calling⟩
abbrev rmK (k : Nat) : Room := { frames := k, cells := 0, slots := 0, locals := 40 * k }
def adr (wc : va_W) : Nat → Prop := fun q => ∃ e ∈ wc, e.1 = q
/-- a writer's end: its cells hold what 'w1' says, nothing else has changed -/
def QG {S : Type} (G : GG) (wc : va_W) (post : S → Prop) (ov : S → Option Value) (w1 : S → va_W) : Array Value → State → Outcome → State → Prop := fun _ st o t => ∃ u : S, o = .returned (ov u) ∧ post u ∧ va_P G.1 vwCl (w1 u) t.heap ∧ st.heap.size ≤ t.heap.size ∧ ∀ q : Nat, q < st.heap.size → ¬ adr wc q → t.heap[q]? = st.heap[q]?
def PD (G : GG) (A : Nat → Prop) (ws : va_W) (H : Heap) : Prop := va_P G.1 vwCl ws H ∧ va_D A ws
def sets (ws : va_W) (is : List Nat) (es : va_W) : va_W := (is.zip es).foldl (fun w q => w.set q.1 q.2) ws
theorem sets_get : ∀ (is : List Nat) (es ws : va_W), is.length = es.length → va_nd is = true → (∀ i ∈ is, i < ws.length) → ∀ (k : Nat) (q : Nat × va_E), (sets ws is es)[k]? = some q → (∃ j : Nat, is[j]? = some k ∧ es[j]? = some q) ∨ (k ∉ is ∧ ws[k]? = some q)
  | [], es, ws, _, _, _, k, q, h => Or.inr ⟨List.not_mem_nil, by simpa [sets] using h⟩
  | i :: is, [], ws, hl, _, _, k, q, h => by simp at hl
  | i :: is, e :: es, ws, hl, hn, hi, k, q, h => by
    simp only [va_nd, Bool.and_eq_true, decide_eq_true_eq] at hn
    have h1 : (sets (ws.set i e) is es)[k]? = some q := by simpa [sets] using h
    rcases sets_get is es (ws.set i e) (by simpa using hl) hn.2 (fun j hj => by rw [List.length_set]; exact hi j (List.mem_cons_of_mem _ hj)) k q h1 with ⟨j, a, b⟩ | ⟨a, b⟩
    · exact Or.inl ⟨j + 1, by simpa using a, by simpa using b⟩
    · have hlt := hi i List.mem_cons_self
      by_cases hk : k = i
      · subst hk
        rw [List.getElem?_set_self hlt] at b
        exact Or.inl ⟨0, rfl, by simpa using b⟩
      · rw [List.getElem?_set_ne (Ne.symm hk)] at b
        exact Or.inr ⟨fun z => (List.mem_cons.mp z).elim hk a, b⟩
theorem map_some {ws wc : va_W} {is : List Nat} (h : is.map (fun i => ws[i]?) = wc.map some) : ∀ (k : Nat) (q : Nat × va_E), wc[k]? = some q → ∃ i, is[k]? = some i ∧ ws[i]? = some q := by
  intro k q hq
  have h1 : (is.map (fun i => ws[i]?))[k]? = some (some q) := by rw [h, List.getElem?_map, hq]; rfl
  rw [List.getElem?_map] at h1
  cases hi : is[k]? with
  | none => rw [hi] at h1; cases h1
  | some i => rw [hi] at h1; exact ⟨i, rfl, Option.some.inj h1⟩
theorem map_some' {ws wc : va_W} {is : List Nat} (h : is.map (fun i => ws[i]?) = wc.map some) : ∀ (k i : Nat), is[k]? = some i → ∃ q, wc[k]? = some q ∧ ws[i]? = some q := by
  intro k i hi
  have h1 : (wc.map some)[k]? = some (ws[i]?) := by rw [← h, List.getElem?_map, hi]; rfl
  rw [List.getElem?_map] at h1
  cases hq : wc[k]? with
  | none => rw [hq] at h1; cases h1
  | some q => rw [hq] at h1; exact ⟨q, rfl, (Option.some.inj h1).symm⟩
theorem va_P.pick {D : va_G} {cl : List vw_C} {ws wc : va_W} {H : Heap} (h : va_P D cl ws H) {is : List Nat} (hC : is.map (fun i => ws[i]?) = wc.map some) : va_P D cl wc H := fun k q hk => by
  obtain ⟨i, -, hi⟩ := map_some hC k q hk
  exact h i q hi
theorem va_D.same {A : Nat → Prop} {ws ws' : va_W} (hD : va_D A ws) (h : ws'.map (·.1) = ws.map (·.1)) : va_D A ws' := by
  have key : ∀ (k : Nat) (q : Nat × va_E), ws'[k]? = some q → ∃ q0, ws[k]? = some q0 ∧ q0.1 = q.1 := by
    intro k q hk
    have h1 : (ws.map (·.1))[k]? = some q.1 := by rw [← h, List.getElem?_map, hk]; rfl
    rw [List.getElem?_map] at h1
    cases hq : ws[k]? with
    | none => rw [hq] at h1; cases h1
    | some q0 => rw [hq] at h1; exact ⟨q0, rfl, Option.some.inj h1⟩
  refine ⟨fun i j x y hi hj hxy => ?_, fun k q hk => ?_⟩
  · obtain ⟨x0, h1, h2⟩ := key i x hi
    obtain ⟨y0, h3, h4⟩ := key j y hj
    exact hD.1 i j x0 y0 h1 h3 (h2.trans (hxy.trans h4.symm))
  · obtain ⟨q0, h1, h2⟩ := key k q hk
    rw [← h2]
    exact hD.2 k q0 h1
theorem va_D.own {ws : va_W} {A : Nat → Prop} (h : va_D A ws) : va_D (adr ws) ws := ⟨h.1, fun k q hk => ⟨q, List.mem_of_getElem? hk, rfl⟩⟩
theorem adr_in {A : Nat → Prop} {ws wc : va_W} (hD : va_D A ws) {is : List Nat} (hC : is.map (fun i => ws[i]?) = wc.map some) : ∀ q, adr wc q → A q := by
  rintro q ⟨e, he, rfl⟩
  obtain ⟨k, hk⟩ := List.getElem?_of_mem he
  obtain ⟨i, -, hi⟩ := map_some hC k e hk
  exact hD.2 i e hi
/-- behind a writer's call: its cells are new at their places, the others as they were -/
theorem world_back {A : Nat → Prop} {D : va_G} {cl : List vw_C} {ws wc w1 : va_W} {H H1 : Heap} (hP : va_P D cl ws H) (hD : va_D A ws) {is : List Nat} (hC : is.map (fun i => ws[i]?) = wc.map some) (hn : va_nd is = true) (ha : w1.map (·.1) = wc.map (·.1))
    (hk : ∀ q : Nat, q < H.size → ¬ adr wc q → H1[q]? = H[q]?) (hP1 : va_P D cl w1 H1) : va_P D cl (sets ws is w1) H1 := by
  have hlen : is.length = w1.length := by
    have h1 := congrArg List.length hC
    have h2 := congrArg List.length ha
    simp at h1 h2
    omega
  intro k q hq
  rcases sets_get is w1 ws hlen hn (fun i hi => by
    obtain ⟨j, hj⟩ := List.getElem?_of_mem hi
    obtain ⟨q, -, h⟩ := map_some' hC j i hj
    exact (List.getElem?_eq_some_iff.mp h).1) k q hq with ⟨j, a, b⟩ | ⟨a, b⟩
  · exact hP1 j q b
  · refine (hP k q b).kept (hk q.1 (hP k q b).lt ?_)
    rintro ⟨e, he, heq⟩
    obtain ⟨j, hj⟩ := List.getElem?_of_mem he
    obtain ⟨i, h1, h2⟩ := map_some hC j e hj
    have := hD.1 i k e q h2 b heq
    subst this
    exact a (List.mem_of_getElem? h1)
section CG
variable {p : Program} {l : Launch} {e : Env} {R : Room} {s : State} {m : MethodId} {args : Array Value} {below : List Frame} {meth : Method} {c : Code} {H : Heap} {locs : List Loc} {cells slots : Nat} {Q : State → Prop}
variable {Ts w : List Cond} {cc bytes : ByteArray} {nL maxL index n k : Nat} {own C host : String} {y : MethodName} {ret : Option FieldType} {b : Addr} {As rest st : List Value} {pc : Nat} {ls : Array Slot} {G : GG} {wc ws : va_W} {r : Int32} {A : Nat → Prop} {H0 : Heap} {a : Array Value} {ci N : Nat} {T0 : u_T} {fs : List Value}
theorem cpV (S : CallFix p m c cc nL s args Ts own) (hM : Met l y w (rmK k) (va_Pc (.ref b :: As) (PS G wc)) (QcRead r) 0 0 (fun _ => False)) (cw : CallW R s args own C index y bytes maxL ret w (rmK k) 0 0 n) (hK : KK G s) (hP : va_P G.1 vwCl ws H) (is : List Nat) (hC : is.map (fun i => ws[i]?) = wc.map some) (hc : vwCl[ci]? = some (C, T0, N)) (he : wc[0]? = some (b, .inr (ci, fs)))
    (hn : As.length = n) (hsize : ls.size = nL) (hst : st = As.reverse ++ .ref b :: rest) (hW : (rest.map fun v => v.category).sum ≤ 8) (hdg : decode cc pc = .ok (.invokevirtual index, 3)) (hf : cells ≤ R.cells ∧ slots ≤ R.slots)
    (kk : W p l e R s m args below meth c H locs cells slots Q (F0 m (pc + 3) ls (.int r :: rest))) : W p l e R s m args below meth c H locs cells slots Q (F0 m pc ls st) := by
  subst hst
  have hPc := hP.pick hC
  exact W.callR (W.runV S hM cw ⟨PS_blind, va_recv hK.1 hPc hc he, fun U hU hW => ⟨rfl, by rw [hU]; exact hPc, hK.warm hW⟩⟩ rfl hn hsize rfl (lv_room hW) hdg hf) kk
theorem cpS (S : CallFix p m c cc nL s args Ts own) (hM : Met l y w (rmK k) (va_Pc As (PS G wc)) (QcRead r) 0 0 (fun _ => False)) (cw : CallB R s args own index y bytes maxL ret w (rmK k) 0 0 n ∧ (Cond.static y).before args s = true) (hK : KK G s) (hP : va_P G.1 vwCl ws H) (is : List Nat) (hC : is.map (fun i => ws[i]?) = wc.map some)
    (hn : As.length = n) (hsize : ls.size = nL) (hst : st = As.reverse ++ rest) (hW : (rest.map fun v => v.category).sum ≤ 8) (hdg : decode cc pc = .ok (.invokestatic index, 3)) (hf : cells ≤ R.cells ∧ slots ≤ R.slots)
    (kk : W p l e R s m args below meth c H locs cells slots Q (F0 m (pc + 3) ls (.int r :: rest))) : W p l e R s m args below meth c H locs cells slots Q (F0 m pc ls st) := by
  subst hst
  have hPc := hP.pick hC
  exact W.callR (W.runS S hM cw ⟨PS_blind, fun U hU hW => ⟨rfl, by rw [hU]; exact hPc, hK.warm hW⟩⟩ rfl hn hsize rfl (lv_room hW) hdg hf) kk
theorem cpN (S : CallFix p m c cc nL s args Ts own) (hM : Met l y w (rmK k) (va_Pc As (PS G wc)) (QcRead r) 0 0 (fun _ => False)) (cw : va_CN R s args own index y host bytes maxL ret w (rmK k) 0 0 n ∧ (Cond.static y).before args s = true ∧ True) (hK : KK G s) (hP : va_P G.1 vwCl ws H) (is : List Nat) (hC : is.map (fun i => ws[i]?) = wc.map some)
    (hn : As.length = n) (hsize : ls.size = nL) (hst : st = As.reverse ++ rest) (hW : (rest.map fun v => v.category).sum ≤ 8) (hdg : decode cc pc = .ok (.invokestatic index, 3)) (hf : cells ≤ R.cells ∧ slots ≤ R.slots)
    (kk : W p l e R s m args below meth c H locs cells slots Q (F0 m (pc + 3) ls (.int r :: rest))) : W p l e R s m args below meth c H locs cells slots Q (F0 m pc ls st) := by
  subst hst
  have hPc := hP.pick hC
  exact W.callR (va_Run.run (va_runSN S hM cw ⟨PS_blind, fun U hU hW => ⟨rfl, by rw [hU]; exact hPc, hK.warm hW⟩⟩ rfl hn hsize rfl (lv_room hW) hdg hf)) kk
variable {S0 : Type} {post : S0 → Prop} {ov : S0 → Option Value} {w1 : S0 → va_W}
theorem cgR (hr : CallRun p l e R s m args below meth c H locs cells slots 0 0 (F0 m pc ls st) rest (QG G wc post ov w1 a) (adr wc)) (hP : va_P G.1 vwCl ws H) (hD : va_D A ws) (hS : va_S A H0 H locs) {is : List Nat} (hC : is.map (fun i => ws[i]?) = wc.map some) (hnd : va_nd is = true) (ha : ∀ u, (w1 u).map (·.1) = wc.map (·.1)) (hs : ∀ u, (sets ws is (w1 u)).map (·.1) = ws.map (·.1))
    (kk : ∀ (u : S0) (H1 : Heap) (locs1 : List Loc), post u → va_P G.1 vwCl (sets ws is (w1 u)) H1 → va_D A (sets ws is (w1 u)) → va_S A H0 H1 locs1 → W p l e R s m args below meth c H1 locs1 cells slots Q (F0 m (pc + 3) ls ((ov u).toList ++ rest))) : W p l e R s m args below meth c H locs cells slots Q (F0 m pc ls st) := by
  intro T hT X
  obtain ⟨v, st₀, t, T', L, h0, X', hL, e1, ⟨u, hv, hp, hP1, hz, hk⟩, stp⟩ := hr T hT X
  cases hv
  rw [h0] at hz hk
  have hA := adr_in hD hC
  have hPn := world_back (H1 := T'.heap) hP hD hC hnd (ha u) (fun q h1 h2 => by rw [e1]; exact hk q h1 h2) (by rw [e1]; exact hP1)
  have hS1 : va_S A H0 T'.heap (locs ++ L) := ⟨Nat.le_trans hS.1 (by rw [e1]; exact hz), fun q h1 h2 => by rw [e1, hk q (Nat.lt_of_lt_of_le h1 hS.1) (fun z => h2 (hA q z))]; exact hS.2.1 q h1 h2, fun q hq => by
    rcases List.mem_append.mp hq with h | h
    · exact hS.2.2 q h
    · exact hA _ (hL q h)⟩
  obtain ⟨t2, a1, b1⟩ := kk u T'.heap (locs ++ L) hp hPn (hD.same (hs u)) hS1 T' rfl X'
  exact ⟨t2, stp t2 a1, b1⟩
theorem cgV (S : CallFix p m c cc nL s args Ts own) (hM : Met l y w (rmK k) (va_Pc (.ref b :: As) (PM G wc)) (QG G wc post ov w1) 0 0 (adr wc)) (cw : CallW R s args own C index y bytes maxL ret w (rmK k) 0 0 n) (hK : KK G s) (hP : va_P G.1 vwCl ws H) (hD : va_D A ws) (hS : va_S A H0 H locs) (is : List Nat) (hC : is.map (fun i => ws[i]?) = wc.map some) (hnd : va_nd is = true) (hc : vwCl[ci]? = some (C, T0, N)) (he : wc[0]? = some (b, .inr (ci, fs)))
    (hn : As.length = n) (hsize : ls.size = nL) (hst : st = As.reverse ++ .ref b :: rest) (hW : (rest.map fun v => v.category).sum ≤ 8) (hdg : decode cc pc = .ok (.invokevirtual index, 3)) (hf : cells ≤ R.cells ∧ slots ≤ R.slots) (ha : ∀ u, (w1 u).map (·.1) = wc.map (·.1)) (hs : ∀ u, (sets ws is (w1 u)).map (·.1) = ws.map (·.1))
    (kk : ∀ (u : S0) (H1 : Heap) (locs1 : List Loc), post u → va_P G.1 vwCl (sets ws is (w1 u)) H1 → va_D A (sets ws is (w1 u)) → va_S A H0 H1 locs1 → W p l e R s m args below meth c H1 locs1 cells slots Q (F0 m (pc + 3) ls ((ov u).toList ++ rest))) : W p l e R s m args below meth c H locs cells slots Q (F0 m pc ls st) := by
  subst hst
  have hPc := hP.pick hC
  exact cgR (W.runV S hM cw ⟨PM_blind, va_recv hK.1 hPc hc he, fun U hU hW => ⟨rfl, by rw [hU]; exact hPc, (hD.sub is hnd hC).weaken (fun _ _ _ _ => trivial), hK.warm hW⟩⟩ rfl hn hsize rfl (lv_room hW) hdg hf) hP hD hS hC hnd ha hs kk
theorem cgS (S : CallFix p m c cc nL s args Ts own) (hM : Met l y w (rmK k) (va_Pc As (PM G wc)) (QG G wc post ov w1) 0 0 (adr wc)) (cw : CallB R s args own index y bytes maxL ret w (rmK k) 0 0 n ∧ (Cond.static y).before args s = true) (hK : KK G s) (hP : va_P G.1 vwCl ws H) (hD : va_D A ws) (hS : va_S A H0 H locs) (is : List Nat) (hC : is.map (fun i => ws[i]?) = wc.map some) (hnd : va_nd is = true)
    (hn : As.length = n) (hsize : ls.size = nL) (hst : st = As.reverse ++ rest) (hW : (rest.map fun v => v.category).sum ≤ 8) (hdg : decode cc pc = .ok (.invokestatic index, 3)) (hf : cells ≤ R.cells ∧ slots ≤ R.slots) (ha : ∀ u, (w1 u).map (·.1) = wc.map (·.1)) (hs : ∀ u, (sets ws is (w1 u)).map (·.1) = ws.map (·.1))
    (kk : ∀ (u : S0) (H1 : Heap) (locs1 : List Loc), post u → va_P G.1 vwCl (sets ws is (w1 u)) H1 → va_D A (sets ws is (w1 u)) → va_S A H0 H1 locs1 → W p l e R s m args below meth c H1 locs1 cells slots Q (F0 m (pc + 3) ls ((ov u).toList ++ rest))) : W p l e R s m args below meth c H locs cells slots Q (F0 m pc ls st) := by
  subst hst
  have hPc := hP.pick hC
  exact cgR (W.runS S hM cw ⟨PM_blind, fun U hU hW => ⟨rfl, by rw [hU]; exact hPc, (hD.sub is hnd hC).weaken (fun _ _ _ _ => trivial), hK.warm hW⟩⟩ rfl hn hsize rfl (lv_room hW) hdg hf) hP hD hS hC hnd ha hs kk
theorem cgN (S : CallFix p m c cc nL s args Ts own) (hM : Met l y w (rmK k) (va_Pc As (PM G wc)) (QG G wc post ov w1) 0 0 (adr wc)) (cw : va_CN R s args own index y host bytes maxL ret w (rmK k) 0 0 n ∧ (Cond.static y).before args s = true ∧ True) (hK : KK G s) (hP : va_P G.1 vwCl ws H) (hD : va_D A ws) (hS : va_S A H0 H locs) (is : List Nat) (hC : is.map (fun i => ws[i]?) = wc.map some) (hnd : va_nd is = true)
    (hn : As.length = n) (hsize : ls.size = nL) (hst : st = As.reverse ++ rest) (hW : (rest.map fun v => v.category).sum ≤ 8) (hdg : decode cc pc = .ok (.invokestatic index, 3)) (hf : cells ≤ R.cells ∧ slots ≤ R.slots) (ha : ∀ u, (w1 u).map (·.1) = wc.map (·.1)) (hs : ∀ u, (sets ws is (w1 u)).map (·.1) = ws.map (·.1))
    (kk : ∀ (u : S0) (H1 : Heap) (locs1 : List Loc), post u → va_P G.1 vwCl (sets ws is (w1 u)) H1 → va_D A (sets ws is (w1 u)) → va_S A H0 H1 locs1 → W p l e R s m args below meth c H1 locs1 cells slots Q (F0 m (pc + 3) ls ((ov u).toList ++ rest))) : W p l e R s m args below meth c H locs cells slots Q (F0 m pc ls st) := by
  subst hst
  have hPc := hP.pick hC
  exact cgR (va_Run.run (va_runSN S hM cw ⟨PM_blind, fun U hU hW => ⟨rfl, by rw [hU]; exact hPc, (hD.sub is hnd hC).weaken (fun _ _ _ _ => trivial), hK.warm hW⟩⟩ rfl hn hsize rfl (lv_room hW) hdg hf)) hP hD hS hC hnd ha hs kk
/-- ends: a reader's -/
theorem pret {v : Int32} {ty : FieldType} (hx : p.tables.exec = Jvm.exec) (hb : c.code = cc) (hr : meth.sig.returnType = some ty) (hlocks : meth.locks = false) (hn : narrow ty (.int v) = .int v) (hv : v = r) (hdg : decode cc pc = .ok (.ireturn, 1)) : W p l e R s m args below meth c s.heap [] 0 0 (MQ below (QcRead r) args s 0 0 (fun _ => False)) (F0 m pc ls [.int v]) :=
  W.zret hx hb hr hn (fun t ht hW => ⟨by rw [hv], ht⟩) (fun q h => by cases h) hdg hlocks
/-- ends: a writer's -/
theorem gretv (hx : p.tables.exec = Jvm.exec) (hb : c.code = cc) (hr : meth.sig.returnType = none) (hlocks : meth.locks = false) (hA : adr wc = A) (hS : va_S A s.heap H locs) (u : S0) (ho : ov u = none) (hp : post u) (hP : va_P G.1 vwCl (w1 u) H) (hdg : decode cc pc = .ok (.return_, 1)) : W p l e R s m args below meth c H locs 0 0 (MQ below (QG G wc post ov w1) args s 0 0 A) (F0 m pc ls []) := by
  subst hA
  exact W.vret hx hb hr (fun t ht hW => ⟨u, by rw [ho], hp, by rw [ht]; exact hP, by rw [ht]; exact hS.1, fun q h1 h2 => by rw [ht]; exact hS.2.1 q h1 h2⟩) hS.2.2 hdg hlocks
theorem greti {v : Int32} {ty : FieldType} (hx : p.tables.exec = Jvm.exec) (hb : c.code = cc) (hr : meth.sig.returnType = some ty) (hlocks : meth.locks = false) (hn : narrow ty (.int v) = .int v) (hA : adr wc = A) (hS : va_S A s.heap H locs) (u : S0) (ho : ov u = some (.int v)) (hp : post u) (hP : va_P G.1 vwCl (w1 u) H) (hdg : decode cc pc = .ok (.ireturn, 1)) : W p l e R s m args below meth c H locs 0 0 (MQ below (QG G wc post ov w1) args s 0 0 A) (F0 m pc ls [.int v]) := by
  subst hA
  exact W.zret hx hb hr hn (fun t ht hW => ⟨u, by rw [ho], hp, by rw [ht]; exact hP, by rw [ht]; exact hS.1, fun q h1 h2 => by rw [ht]; exact hS.2.1 q h1 h2⟩) hS.2.2 hdg hlocks
theorem gretl {v : Int64} (hx : p.tables.exec = Jvm.exec) (hb : c.code = cc) (hr : meth.sig.returnType = some .long) (hlocks : meth.locks = false) (hA : adr wc = A) (hS : va_S A s.heap H locs) (u : S0) (ho : ov u = some (.long v)) (hp : post u) (hP : va_P G.1 vwCl (w1 u) H) (hdg : decode cc pc = .ok (.lreturn, 1)) : W p l e R s m args below meth c H locs 0 0 (MQ below (QG G wc post ov w1) args s 0 0 A) (F0 m pc ls [.long v]) := by
  subst hA
  exact W.lret hx hb hr (fun t ht hW => ⟨u, by rw [ho], hp, by rw [ht]; exact hP, by rw [ht]; exact hS.1, fun q h1 h2 => by rw [ht]; exact hS.2.1 q h1 h2⟩) hS.2.2 hdg hlocks
/-- cuts: what lies behind a place where roads meet is walked once -/
theorem cutJ {lv : List (Nat × Value)} {pc' : Nat} {st' : List Value} {g : JFrame} (k : ∀ ls : Array Slot, lv_has ls nL lv → W p l e R s m args below meth c H locs cells slots Q (F0 m pc' ls st')) (h : (∀ ls : Array Slot, lv_has ls nL lv → W p l e R s m args below meth c H locs cells slots Q (F0 m pc' ls st')) → W p l e R s m args below meth c H locs cells slots Q g) : W p l e R s m args below meth c H locs cells slots Q g := h k
theorem cutH {lv : List (Nat × Value)} {pc' : Nat} {st' : List Value} {g : JFrame} {wj : va_W} (k : ∀ (H1 : Heap) (locs1 : List Loc) (ls : Array Slot), va_P G.1 vwCl wj H1 → va_D A wj → va_S A H0 H1 locs1 → lv_has ls nL lv → W p l e R s m args below meth c H1 locs1 cells slots Q (F0 m pc' ls st')) (h : (∀ (H1 : Heap) (locs1 : List Loc) (ls : Array Slot), va_P G.1 vwCl wj H1 → va_D A wj → va_S A H0 H1 locs1 → lv_has ls nL lv → W p l e R s m args below meth c H1 locs1 cells slots Q (F0 m pc' ls st')) → W p l e R s m args below meth c H locs cells slots Q g) : W p l e R s m args below meth c H locs cells slots Q g := h k
/-- a loop whose body only reads: x is what changes from turn to turn -/
theorem loopJ {X : Type} (I : X → Prop) (μ : X → Nat) (lv : X → List (Nat × Value)) {pc' : Nat} (body : ∀ x, I x → (∀ y, I y → μ y < μ x → ∀ ls : Array Slot, lv_has ls nL (lv y) → W p l e R s m args below meth c H locs cells slots Q (F0 m pc' ls [])) → ∀ ls : Array Slot, lv_has ls nL (lv x) → W p l e R s m args below meth c H locs cells slots Q (F0 m pc' ls [])) : ∀ x, I x → ∀ ls : Array Slot, lv_has ls nL (lv x) → W p l e R s m args below meth c H locs cells slots Q (F0 m pc' ls []) := by
  have key : ∀ n x, μ x < n → I x → ∀ ls : Array Slot, lv_has ls nL (lv x) → W p l e R s m args below meth c H locs cells slots Q (F0 m pc' ls []) := by
    intro n
    induction n with
    | zero => intro x h; omega
    | succ n ih => intro x h hI ls hl; exact body x hI (fun y hy hlt ls hl => ih y (by omega) hy ls hl) ls hl
  exact fun x hI ls hl => key (μ x + 1) x (by omega) hI ls hl
theorem loopH {X : Type} (I : X → Prop) (μ : X → Nat) (lv : X → List (Nat × Value)) (wj : X → va_W) {pc' : Nat} (body : ∀ x, I x → (∀ y, I y → μ y < μ x → ∀ (H1 : Heap) (locs1 : List Loc) (ls : Array Slot), va_P G.1 vwCl (wj y) H1 → va_D A (wj y) → va_S A H0 H1 locs1 → lv_has ls nL (lv y) → W p l e R s m args below meth c H1 locs1 cells slots Q (F0 m pc' ls [])) → ∀ (H1 : Heap) (locs1 : List Loc) (ls : Array Slot), va_P G.1 vwCl (wj x) H1 → va_D A (wj x) → va_S A H0 H1 locs1 → lv_has ls nL (lv x) → W p l e R s m args below meth c H1 locs1 cells slots Q (F0 m pc' ls [])) : ∀ x, I x → ∀ (H1 : Heap) (locs1 : List Loc) (ls : Array Slot), va_P G.1 vwCl (wj x) H1 → va_D A (wj x) → va_S A H0 H1 locs1 → lv_has ls nL (lv x) → W p l e R s m args below meth c H1 locs1 cells slots Q (F0 m pc' ls []) := by
  have key : ∀ n x, μ x < n → I x → ∀ (H1 : Heap) (locs1 : List Loc) (ls : Array Slot), va_P G.1 vwCl (wj x) H1 → va_D A (wj x) → va_S A H0 H1 locs1 → lv_has ls nL (lv x) → W p l e R s m args below meth c H1 locs1 cells slots Q (F0 m pc' ls []) := by
    intro n
    induction n with
    | zero => intro x h; omega
    | succ n ih => intro x h hI H1 locs1 ls a1 a2 a3 hl; exact body x hI (fun y hy hlt H2 locs2 ls b1 b2 b3 hl => ih y (by omega) hy H2 locs2 ls b1 b2 b3 hl) H1 locs1 ls a1 a2 a3 hl
  exact fun x hI H1 locs1 ls a1 a2 a3 hl => key (μ x + 1) x (by omega) hI H1 locs1 ls a1 a2 a3 hl
theorem stI {e_1 : Env} {x y : Int32} (e : x = y) (k : W p l e_1 R s m args below meth c H locs cells slots Q (F0 m pc ls (.int y :: rest))) : W p l e_1 R s m args below meth c H locs cells slots Q (F0 m pc ls (.int x :: rest)) := e ▸ k
theorem aldI (hx : p.tables.exec = Jvm.exec) (hb : c.code = cc) (hK : va_K G.1 vwCl [(G.2.1, .int), (G.2.2, .boolean)] s) (hP : va_P G.1 vwCl ws H) (q0 : Nat) {k n : Nat} {f : Nat → Int32} {a : Nat} {i : Int32} (ha : ws[q0]? = some (a, .inl (G.2.1, n, .inl f))) (hi : i = nI k) (hk : k < n) (hn : n < 2 ^ 31) (hdg : decode cc pc = .ok (.iaload, 1)) (kk : W p l e R s m args below meth c H locs cells slots Q (F0 m (pc + 1) ls (.int (f k) :: rest))) : W p l e R s m args below meth c H locs cells slots Q (F0 m pc ls (.int i :: .ref a :: rest)) := by
  subst hi
  have h1 : (nI k).toNatClampNeg = k := nI_clamp (by omega)
  refine va_iald hx hb hK hP q0 0 ha rfl (vp_in_nI hk hn) hdg ?_
  rw [h1]; exact kk
theorem aldZ (hx : p.tables.exec = Jvm.exec) (hb : c.code = cc) (hK : va_K G.1 vwCl [(G.2.1, .int), (G.2.2, .boolean)] s) (hP : va_P G.1 vwCl ws H) (q0 : Nat) {k n : Nat} {f : Nat → Int32} {a : Nat} {i : Int32} (ha : ws[q0]? = some (a, .inl (G.2.2, n, .inl f))) (hi : i = nI k) (hk : k < n) (hn : n < 2 ^ 31) (hdg : decode cc pc = .ok (.baload, 1)) (kk : W p l e R s m args below meth c H locs cells slots Q (F0 m (pc + 1) ls (.int (f k) :: rest))) : W p l e R s m args below meth c H locs cells slots Q (F0 m pc ls (.int i :: .ref a :: rest)) := by
  subst hi
  have h1 : (nI k).toNatClampNeg = k := nI_clamp (by omega)
  refine va_zald hx hb hK hP q0 1 ha rfl (vp_in_nI hk hn) hdg ?_
  rw [h1]; exact kk
theorem astI (hx : p.tables.exec = Jvm.exec) (hb : c.code = cc) (hK : va_K G.1 vwCl [(G.2.1, .int), (G.2.2, .boolean)] s) (hP : va_P G.1 vwCl ws H) (hD : va_D A ws) (hS : va_S A H0 H locs) (q0 : Nat) {k n : Nat} {f : Nat → Int32} {a : Nat} {i x : Int32} (ha : ws[q0]? = some (a, .inl (G.2.1, n, .inl f))) (hi : i = nI k) (hk : k < n) (hn : n < 2 ^ 31) (hdg : decode cc pc = .ok (.iastore, 1))
    (kk : ∀ (H1 : Heap) (locs1 : List Loc), va_P G.1 vwCl (ws.set q0 (a, .inl (G.2.1, n, .inl (upd f k x)))) H1 → va_D A (ws.set q0 (a, .inl (G.2.1, n, .inl (upd f k x)))) → va_S A H0 H1 locs1 → W p l e R s m args below meth c H1 locs1 cells slots Q (F0 m (pc + 1) ls rest)) : W p l e R s m args below meth c H locs cells slots Q (F0 m pc ls (.int x :: .int i :: .ref a :: rest)) := by
  subst hi
  have h1 : (nI k).toNatClampNeg = k := nI_clamp (by omega)
  refine va_iast hx hb hK hP hD hS q0 0 ha rfl (vp_in_nI hk hn) hdg ?_
  rw [h1]; exact kk
theorem astZ (hx : p.tables.exec = Jvm.exec) (hb : c.code = cc) (hK : va_K G.1 vwCl [(G.2.1, .int), (G.2.2, .boolean)] s) (hP : va_P G.1 vwCl ws H) (hD : va_D A ws) (hS : va_S A H0 H locs) (q0 : Nat) {k n : Nat} {f : Nat → Int32} {a : Nat} {i x : Int32} (ha : ws[q0]? = some (a, .inl (G.2.2, n, .inl f))) (hi : i = nI k) (hk : k < n) (hn : n < 2 ^ 31) (hz : x = 0 ∨ x = 1) (hdg : decode cc pc = .ok (.bastore, 1))
    (kk : ∀ (H1 : Heap) (locs1 : List Loc), va_P G.1 vwCl (ws.set q0 (a, .inl (G.2.2, n, .inl (upd f k x)))) H1 → va_D A (ws.set q0 (a, .inl (G.2.2, n, .inl (upd f k x)))) → va_S A H0 H1 locs1 → W p l e R s m args below meth c H1 locs1 cells slots Q (F0 m (pc + 1) ls rest)) : W p l e R s m args below meth c H locs cells slots Q (F0 m pc ls (.int x :: .int i :: .ref a :: rest)) := by
  subst hi
  have h1 : (nI k).toNatClampNeg = k := nI_clamp (by omega)
  have h2 : vp_nar .boolean x = x := by rcases hz with rfl | rfl <;> rfl
  refine va_zast hx hb hK hP hD hS q0 1 ha rfl (vp_in_nI hk hn) hdg ?_
  rw [h1, h2]; exact kk
end CG
/-- a truth as the machine has it -/
def bI (b : Bool) : Int32 := if b then 1 else 0
theorem bI_t : bI true = 1 := rfl
theorem bI_f : bI false = 0 := rfl
theorem bI_nar (b : Bool) : narrow .boolean (.int (bI b)) = .int (bI b) := by cases b <;> rfl
theorem bI_fit (b : Bool) : fits .boolean (.int (bI b)) = true := by cases b <;> rfl
theorem bI_0 {b : Bool} : bI b = 0 ↔ b = false := by cases b <;> decide
theorem bI_n0 {b : Bool} (h : ¬ bI b = 0) : b = true := by cases b with
  | true => rfl
  | false => exact absurd rfl h
theorem bI_1 {b : Bool} : bI b = 1 ↔ b = true := by cases b <;> decide
theorem bI_of {P : Prop} (d : Bool) (h : d = true ↔ P) (hp : P) : (1 : Int32) = bI d := by rw [h.mpr hp]; rfl
theorem bI_no {P : Prop} (d : Bool) (h : d = true ↔ P) (hp : ¬ P) : (0 : Int32) = bI d := by
  cases hd : d with
  | false => rfl
  | true => exact absurd (h.mp hd) hp
end
section
/-! what the small methods answer -/
def bitI (x : Int32) : Int32 := if x < 1 then 0 else if 14 < x then 0 else (1 : Int32) <<< ((14 - x) &&& 31)
def bitN (j : Nat) : Nat := if 1 ≤ j ∧ j ≤ 14 then 2 ^ (14 - j) else 0
def atf (n : Nat) (f : Nat → Int32) (i : Int32) : Int32 := if i < 0 then 0 else if nI n ≤ i then 0 else f i.toNatClampNeg
def putf (n : Nat) (f : Nat → Int32) (i v : Int32) : Nat → Int32 := if i < 0 then f else if nI n ≤ i then f else upd f i.toNatClampNeg v
def bitOfI (x : Int32) : Int32 := bitI x ||| bitI (-x)
def holdsB (op : Int32) (a b : Bool) : Bool := if op = 0 then !a || b else if op = 1 then !a || !b else if op = 2 then a || b else a == b
def holdsInB (v op a b : Int32) : Bool := holdsB op (decide (v &&& bitOfI a = bitI a)) (decide (v &&& bitOfI b = bitI b))
def alwaysB (op a b : Int32) : Bool := holdsInB 0 op a b && (holdsInB (bitOfI a) op a b && (holdsInB (bitOfI b) op a b && holdsInB (bitOfI a ||| bitOfI b) op a b))
def hasB (z x : Int32) : Bool := decide (1 ≤ x ∧ x ≤ z)
def hasSignedB (z x : Int32) : Bool := if 0 ≤ x then hasB z x else hasB z (-x)
def takesB (z x : Int32) : Bool := if z = 0 then decide (x = 0) else hasB z x
def mayInB (pb : Nat → Int32) (v : Int32) (f : Nat) : Bool := if f = 1 then true else decide (v &&& pb f ≠ 0)
def mayOutB (kd pb : Nat → Int32) (v : Int32) (f : Nat) : Bool := if f = 1 then false else if kd f ≠ 0 then true else decide (v &&& pb f = 0)
def fitsB (v mu mn : Int32) : Bool := decide (v &&& mu = mu ∧ v &&& mn = 0)
def bcI (x : Int32) : Int32 :=
  let a := x - ((x.toUInt32 >>> ((1 : Int32).toUInt32 &&& Int32.toUInt32 31)).toInt32 &&& 1431655765)
  let b := (a &&& 858993459) + ((a.toUInt32 >>> ((2 : Int32).toUInt32 &&& Int32.toUInt32 31)).toInt32 &&& 858993459)
  let c := (b + (b.toUInt32 >>> ((4 : Int32).toUInt32 &&& Int32.toUInt32 31)).toInt32) &&& 252645135
  let d := c + (c.toUInt32 >>> ((8 : Int32).toUInt32 &&& Int32.toUInt32 31)).toInt32
  (d + (d.toUInt32 >>> ((16 : Int32).toUInt32 &&& Int32.toUInt32 31)).toInt32) &&& 63
/-! numbers -/
theorem i_lt1 {x : Int32} : x < 1 ↔ ¬ 1 ≤ x := Int32.not_le.symm
theorem i_nlt {x y : Int32} : ¬ x < y ↔ y ≤ x := Int32.not_lt
theorem i_nle {x y : Int32} : ¬ x ≤ y ↔ y < x := Int32.not_le
theorem i_toInt1 : (1 : Int32).toInt = 1 := rfl
theorem atf_nI {n k : Nat} {f : Nat → Int32} (hk : k < n) (hn : n < 2 ^ 31) : atf n f (nI k) = f k := by
  have hk31 : k < 2 ^ 31 := by omega
  unfold atf
  rw [if_neg (nI_pos hk31), if_neg (nI_ge hk hn), nI_clamp hk31]
theorem putf_nI {n k : Nat} {f : Nat → Int32} {v : Int32} (hk : k < n) (hn : n < 2 ^ 31) : putf n f (nI k) v = upd f k v := by
  have hk31 : k < 2 ^ 31 := by omega
  unfold putf
  rw [if_neg (nI_pos hk31), if_neg (nI_ge hk hn), nI_clamp hk31]
theorem hasB_iff {z x : Int32} : hasB z x = true ↔ 1 ≤ x ∧ x ≤ z := by simp [hasB]
theorem bI_and {P Q : Bool} (hp : P = true) : bI (P && Q) = bI Q := by rw [hp]; rfl
theorem bI_andf {P Q : Bool} (hp : P = false) : bI (P && Q) = 0 := by rw [hp]; rfl
theorem in_of {x : Int32} {n : Nat} (hn : n < 2 ^ 31) (h0 : ¬ x < 0) (h1 : ¬ nI n ≤ x) : vp_in x n := by
  obtain ⟨j, hj, rfl⟩ := nI_of h0
  refine vp_in_nI ?_ hn
  rcases Nat.lt_or_ge j n with q | q
  · exact q
  · exact absurd (nI_le q hj) h1
theorem nI_eq1 {f : Nat} (h : f < 2 ^ 31) : nI f = 1 ↔ f = 1 := nI_eq (b := 1) h (by decide)
end
section
set_option maxHeartbeats 4000000 in
set_option maxRecDepth 100000 in
/-- bit(x) -/
theorem c_X7_bit (l : Launch) (G : GG) (x : Int32) : Met l yX7_bit wsX7_bit (rmK 0) (va_Pc [.int x] (PS G [])) (QcRead (bitI x)) 0 0 (fun _ => False) := by
  refine Met.ofW (cc := cX7_bit) (maxL := 1) (ret := (some .int)) (by decide) rfl ?_
  intro p e s m args below meth c s₁ B hml hv
  obtain ⟨rfl, hP, hKK⟩ := hv
  have hx := B.exec
  have hb := B.bytes
  have hr := B.returns
  have hts := atoms_spec (ws := wsX7_bit) B.pre
  have hown : s.vm.findClass RX7 = some m.cls := findClass_of_methodNamed B.named
  have hlocks := B.notSynchronized
  have hK := hKK.1
  have hl := lv_entry ([.int x]) (n := 1) (Nat.le_of_ble_eq_true rfl)
  rw [lg_entry_eq]
  generalize (lg_sl ([.int x]) ++ List.replicate (1 - (lg_sl ([.int x])).length) Slot.unset).toArray = ls at hl ⊢
  have hl : lv_has ls 1 [(0, .int x)] := hl
  refine lv_iload_n hx hb dX7_bit_0 rfl (lv_at hl 0 rfl) ?_
  refine lv_iconst (v := 1) hx hb dX7_bit_1 (by decide) ?_
  refine lv_icmp_lt (tgt := 20) hx hb dX7_bit_2 (by decide) (fun c_2 => ?_) (fun c_2 => ?_)
  · skip
    refine lv_iconst (v := 0) hx hb dX7_bit_20 (by decide) ?_
    exact pret hx hb hr hlocks rfl (by unfold bitI; rw [if_pos c_2]) dX7_bit_21
  · skip
    refine lv_iload_n hx hb dX7_bit_5 rfl (lv_at hl 0 rfl) ?_
    refine lv_bipush (v := 14) hx hb dX7_bit_6 (by decide) ?_
    refine lv_icmp_gt (tgt := 20) hx hb dX7_bit_8 (by decide) (fun c_8 => ?_) (fun c_8 => ?_)
    · skip
      refine lv_iconst (v := 0) hx hb dX7_bit_20 (by decide) ?_
      exact pret hx hb hr hlocks rfl (by unfold bitI; rw [if_neg c_2, if_pos c_8]) dX7_bit_21
    · skip
      refine lv_iconst (v := 1) hx hb dX7_bit_11 (by decide) ?_
      refine lv_bipush (v := 14) hx hb dX7_bit_12 (by decide) ?_
      refine lv_iload_n hx hb dX7_bit_14 rfl (lv_at hl 0 rfl) ?_
      refine lv_isub hx hb dX7_bit_15 ?_
      refine lv_ishl hx hb dX7_bit_16 ?_
      refine lv_goto (tgt := 21) hx hb dX7_bit_17 (by decide) ?_
      exact pret hx hb hr hlocks rfl (by unfold bitI; rw [if_neg c_2, if_neg c_8]) dX7_bit_21

set_option maxHeartbeats 4000000 in
set_option maxRecDepth 100000 in
/-- at(row, i) -/
theorem c_X7_at (l : Launch) (G : GG) (h n : Nat) (f : Nat → Int32) (i : Int32) (hn : n < 2 ^ 31) : Met l yX7_at wsX7_at (rmK 0) (va_Pc [.ref h, .int i] (PS G [(cI G h n f)])) (QcRead (atf n f i)) 0 0 (fun _ => False) := by
  refine Met.ofW (cc := cX7_at) (maxL := 2) (ret := (some .int)) (by decide) rfl ?_
  intro p e s m args below meth c s₁ B hml hv
  obtain ⟨rfl, hP, hKK⟩ := hv
  have hx := B.exec
  have hb := B.bytes
  have hr := B.returns
  have hts := atoms_spec (ws := wsX7_at) B.pre
  have hown : s.vm.findClass RX7 = some m.cls := findClass_of_methodNamed B.named
  have hlocks := B.notSynchronized
  have hK := hKK.1
  have hl := lv_entry ([.ref h, .int i]) (n := 2) (Nat.le_of_ble_eq_true rfl)
  rw [lg_entry_eq]
  generalize (lg_sl ([.ref h, .int i]) ++ List.replicate (2 - (lg_sl ([.ref h, .int i])).length) Slot.unset).toArray = ls at hl ⊢
  have hl : lv_has ls 2 [(0, .ref h), (1, .int i)] := hl
  refine lv_iload_n hx hb dX7_at_0 rfl (lv_at hl 1 rfl) ?_
  refine lv_if_lt (tgt := 16) hx hb dX7_at_1 (by decide) (fun c_1 => ?_) (fun c_1 => ?_)
  · skip
    refine lv_iconst (v := 0) hx hb dX7_at_16 (by decide) ?_
    exact pret hx hb hr hlocks rfl (by unfold atf; rw [if_pos c_1]) dX7_at_17
  · skip
    refine lv_iload_n hx hb dX7_at_4 rfl (lv_at hl 1 rfl) ?_
    refine lv_aload_n hx hb dX7_at_5 rfl (lv_at hl 0 rfl) ?_
    refine va_alen (v := nI n) hx hb hK hP 0 0 rfl rfl rfl dX7_at_6 ?_
    refine lv_icmp_ge (tgt := 16) hx hb dX7_at_7 (by decide) (fun c_7 => ?_) (fun c_7 => ?_)
    · skip
      refine lv_iconst (v := 0) hx hb dX7_at_16 (by decide) ?_
      exact pret hx hb hr hlocks rfl (by unfold atf; rw [if_neg c_1, if_pos c_7]) dX7_at_17
    · skip
      refine lv_aload_n hx hb dX7_at_10 rfl (lv_at hl 0 rfl) ?_
      refine lv_iload_n hx hb dX7_at_11 rfl (lv_at hl 1 rfl) ?_
      refine va_iald hx hb hK hP 0 0 rfl rfl (in_of hn c_1 c_7) dX7_at_12 ?_
      refine lv_goto (tgt := 17) hx hb dX7_at_13 (by decide) ?_
      exact pret hx hb hr hlocks rfl (by unfold atf; rw [if_neg c_1, if_neg c_7]) dX7_at_17

theorem c_X7_atk (l : Launch) (G : GG) (h n : Nat) (f : Nat → Int32) (i : Int32) (k : Nat) (hi : i = nI k) (hk : k < n) (hn : n < 2 ^ 31) : Met l yX7_at wsX7_at (rmK 0) (va_Pc [.ref h, .int i] (PS G [(h, .inl (G.2.1, n, .inl f))])) (QcRead (f k)) 0 0 (fun _ => False) := by
  subst hi
  have h1 := c_X7_at l G h n f (nI k) hn
  rwa [atf_nI hk hn] at h1

set_option maxHeartbeats 4000000 in
set_option maxRecDepth 100000 in
/-- put(row, i, v) -/
theorem c_X7_put (l : Launch) (G : GG) (h n : Nat) (f : Nat → Int32) (i v : Int32) (hn : n < 2 ^ 31) : Met l yX7_put wsX7_put (rmK 0) (va_Pc [.ref h, .int i, .int v] (PM G [(cI G h n f)])) (QG (S := Unit) G [(cI G h n f)] (fun u => True) (fun u => none) (fun u => [(cI G h n (putf n f i v))])) 0 0 (adr [(cI G h n f)]) := by
  refine Met.ofW (cc := cX7_put) (maxL := 3) (ret := none) (by decide) rfl ?_
  intro p e s m args below meth c s₁ B hml hv
  obtain ⟨rfl, hP, hD0, hKK⟩ := hv
  have hx := B.exec
  have hb := B.bytes
  have hr := B.returns
  have hts := atoms_spec (ws := wsX7_put) B.pre
  have hown : s.vm.findClass RX7 = some m.cls := findClass_of_methodNamed B.named
  have hlocks := B.notSynchronized
  have hK := hKK.1
  generalize hAe : adr [(cI G h n f)] = A
  have hD : va_D A [(cI G h n f)] := by rw [← hAe]; exact hD0.own
  have hS : va_S A s.heap s.heap [] := va_S.rf
  have hP : va_P G.1 vwCl [(cI G h n f)] s.heap := hP
  have hl := lv_entry ([.ref h, .int i, .int v]) (n := 3) (Nat.le_of_ble_eq_true rfl)
  rw [lg_entry_eq]
  generalize (lg_sl ([.ref h, .int i, .int v]) ++ List.replicate (3 - (lg_sl ([.ref h, .int i, .int v])).length) Slot.unset).toArray = ls at hl ⊢
  have hl : lv_has ls 3 [(0, .ref h), (1, .int i), (2, .int v)] := hl
  refine lv_iload_n hx hb dX7_put_0 rfl (lv_at hl 1 rfl) ?_
  refine lv_if_lt (tgt := 14) hx hb dX7_put_1 (by decide) (fun c_1 => ?_) (fun c_1 => ?_)
  · skip
    exact gretv hx hb hr hlocks hAe hS (()) (rfl) (trivial) (by unfold putf; rw [if_pos c_1]; exact hP) dX7_put_14
  · skip
    refine lv_iload_n hx hb dX7_put_4 rfl (lv_at hl 1 rfl) ?_
    refine lv_aload_n hx hb dX7_put_5 rfl (lv_at hl 0 rfl) ?_
    refine va_alen (v := nI n) hx hb hK hP 0 0 rfl rfl rfl dX7_put_6 ?_
    refine lv_icmp_ge (tgt := 14) hx hb dX7_put_7 (by decide) (fun c_7 => ?_) (fun c_7 => ?_)
    · skip
      exact gretv hx hb hr hlocks hAe hS (()) (rfl) (trivial) (by unfold putf; rw [if_neg c_1, if_pos c_7]; exact hP) dX7_put_14
    · skip
      refine lv_aload_n hx hb dX7_put_10 rfl (lv_at hl 0 rfl) ?_
      refine lv_iload_n hx hb dX7_put_11 rfl (lv_at hl 1 rfl) ?_
      refine lv_iload_n hx hb dX7_put_12 rfl (lv_at hl 2 rfl) ?_
      refine va_iast hx hb hK hP hD hS 0 0 rfl rfl (in_of hn c_1 c_7) dX7_put_13 (fun H locs hP hD hS => ?_)
      have hPD : PD G A [(cI G h n (upd f (i).toNatClampNeg v))] H := ⟨hP, hD⟩
      have hP := hPD.1
      have hD := hPD.2
      clear hPD
      exact gretv hx hb hr hlocks hAe hS (()) (rfl) (trivial) (by unfold putf; rw [if_neg c_1, if_neg c_7]; exact hP) dX7_put_14

theorem c_X7_putk (l : Launch) (G : GG) (h n : Nat) (f : Nat → Int32) (i v : Int32) (k : Nat) (hi : i = nI k) (hk : k < n) (hn : n < 2 ^ 31) : Met l yX7_put wsX7_put (rmK 0) (va_Pc [.ref h, .int i, .int v] (PM G [(h, .inl (G.2.1, n, .inl f))])) (QG (S := Unit) G [(h, .inl (G.2.1, n, .inl f))] (fun _ => True) (fun _ => none) (fun _ => [(h, .inl (G.2.1, n, .inl (upd f k v)))])) 0 0 (adr [(h, .inl (G.2.1, n, .inl f))]) := by
  subst hi
  have h1 := c_X7_put l G h n f (nI k) v hn
  rwa [putf_nI hk hn] at h1

theorem fJ6_bitCount_0f7a4_0 : Cond.constant RJ6 265 (1431655765) ∈ wsJ6_bitCount_0f7a4 := by decide +kernel
theorem fJ6_bitCount_0f7a4_1 : Cond.constant RJ6 266 (858993459) ∈ wsJ6_bitCount_0f7a4 := by decide +kernel
theorem fJ6_bitCount_0f7a4_2 : Cond.constant RJ6 267 (252645135) ∈ wsJ6_bitCount_0f7a4 := by decide +kernel
set_option maxHeartbeats 4000000 in
set_option maxRecDepth 100000 in
/-- Integer.bitCount(x) -/
theorem c_J6_bitCount_0f7a4 (l : Launch) (G : GG) (x : Int32) : Met l yJ6_bitCount_0f7a4 wsJ6_bitCount_0f7a4 (rmK 0) (va_Pc [.int x] (PS G [])) (QcRead (bcI x)) 0 0 (fun _ => False) := by
  refine Met.ofW (cc := cJ6_bitCount_0f7a4) (maxL := 1) (ret := (some .int)) (by decide) rfl ?_
  intro p e s m args below meth c s₁ B hml hv
  obtain ⟨rfl, hP, hKK⟩ := hv
  have hx := B.exec
  have hb := B.bytes
  have hr := B.returns
  have hts := atoms_spec (ws := wsJ6_bitCount_0f7a4) B.pre
  have hown : s.vm.findClass RJ6 = some m.cls := findClass_of_methodNamed B.named
  have hlocks := B.notSynchronized
  have hK := hKK.1
  have hl := lv_entry ([.int x]) (n := 1) (Nat.le_of_ble_eq_true rfl)
  rw [lg_entry_eq]
  generalize (lg_sl ([.int x]) ++ List.replicate (1 - (lg_sl ([.int x])).length) Slot.unset).toArray = ls at hl ⊢
  have hl : lv_has ls 1 [(0, .int x)] := hl
  refine lv_iload_n hx hb dJ6_bitCount_0f7a4_0 rfl (lv_at hl 0 rfl) ?_
  refine lv_iload_n hx hb dJ6_bitCount_0f7a4_1 rfl (lv_at hl 0 rfl) ?_
  refine lv_iconst (v := 1) hx hb dJ6_bitCount_0f7a4_2 (by decide) ?_
  refine lv_iushr (v := ((x : Int32).toUInt32 >>> ((1 : Int32).toUInt32 &&& Int32.toUInt32 31)).toInt32) hx hb dJ6_bitCount_0f7a4_3 (rfl) ?_
  refine lv_ldcw hx hb hown (hts _ fJ6_bitCount_0f7a4_0) dJ6_bitCount_0f7a4_4 ?_
  refine lv_iand hx hb dJ6_bitCount_0f7a4_7 ?_
  refine lv_isub hx hb dJ6_bitCount_0f7a4_8 ?_
  refine lv_topi (fun v1 e1 => ?_)
  refine lv_istore_n (lv' := [(0, .int v1)]) hx hb dJ6_bitCount_0f7a4_9 rfl hl (by decide) rfl (fun ls hl => ?_)
  refine lv_iload_n hx hb dJ6_bitCount_0f7a4_10 rfl (lv_at hl 0 rfl) ?_
  refine lv_ldcw hx hb hown (hts _ fJ6_bitCount_0f7a4_1) dJ6_bitCount_0f7a4_11 ?_
  refine lv_iand hx hb dJ6_bitCount_0f7a4_14 ?_
  refine lv_iload_n hx hb dJ6_bitCount_0f7a4_15 rfl (lv_at hl 0 rfl) ?_
  refine lv_iconst (v := 2) hx hb dJ6_bitCount_0f7a4_16 (by decide) ?_
  refine lv_iushr (v := ((v1 : Int32).toUInt32 >>> ((2 : Int32).toUInt32 &&& Int32.toUInt32 31)).toInt32) hx hb dJ6_bitCount_0f7a4_17 (rfl) ?_
  refine lv_ldcw hx hb hown (hts _ fJ6_bitCount_0f7a4_1) dJ6_bitCount_0f7a4_18 ?_
  refine lv_iand hx hb dJ6_bitCount_0f7a4_21 ?_
  refine lv_iadd hx hb dJ6_bitCount_0f7a4_22 ?_
  refine lv_topi (fun v2 e2 => ?_)
  refine lv_istore_n (lv' := [(0, .int v2)]) hx hb dJ6_bitCount_0f7a4_23 rfl hl (by decide) rfl (fun ls hl => ?_)
  refine lv_iload_n hx hb dJ6_bitCount_0f7a4_24 rfl (lv_at hl 0 rfl) ?_
  refine lv_iload_n hx hb dJ6_bitCount_0f7a4_25 rfl (lv_at hl 0 rfl) ?_
  refine lv_iconst (v := 4) hx hb dJ6_bitCount_0f7a4_26 (by decide) ?_
  refine lv_iushr (v := ((v2 : Int32).toUInt32 >>> ((4 : Int32).toUInt32 &&& Int32.toUInt32 31)).toInt32) hx hb dJ6_bitCount_0f7a4_27 (rfl) ?_
  refine lv_iadd hx hb dJ6_bitCount_0f7a4_28 ?_
  refine lv_ldcw hx hb hown (hts _ fJ6_bitCount_0f7a4_2) dJ6_bitCount_0f7a4_29 ?_
  refine lv_iand hx hb dJ6_bitCount_0f7a4_32 ?_
  refine lv_topi (fun v3 e3 => ?_)
  refine lv_istore_n (lv' := [(0, .int v3)]) hx hb dJ6_bitCount_0f7a4_33 rfl hl (by decide) rfl (fun ls hl => ?_)
  refine lv_iload_n hx hb dJ6_bitCount_0f7a4_34 rfl (lv_at hl 0 rfl) ?_
  refine lv_iload_n hx hb dJ6_bitCount_0f7a4_35 rfl (lv_at hl 0 rfl) ?_
  refine lv_bipush (v := 8) hx hb dJ6_bitCount_0f7a4_36 (by decide) ?_
  refine lv_iushr (v := ((v3 : Int32).toUInt32 >>> ((8 : Int32).toUInt32 &&& Int32.toUInt32 31)).toInt32) hx hb dJ6_bitCount_0f7a4_38 (rfl) ?_
  refine lv_iadd hx hb dJ6_bitCount_0f7a4_39 ?_
  refine lv_topi (fun v4 e4 => ?_)
  refine lv_istore_n (lv' := [(0, .int v4)]) hx hb dJ6_bitCount_0f7a4_40 rfl hl (by decide) rfl (fun ls hl => ?_)
  refine lv_iload_n hx hb dJ6_bitCount_0f7a4_41 rfl (lv_at hl 0 rfl) ?_
  refine lv_iload_n hx hb dJ6_bitCount_0f7a4_42 rfl (lv_at hl 0 rfl) ?_
  refine lv_bipush (v := 16) hx hb dJ6_bitCount_0f7a4_43 (by decide) ?_
  refine lv_iushr (v := ((v4 : Int32).toUInt32 >>> ((16 : Int32).toUInt32 &&& Int32.toUInt32 31)).toInt32) hx hb dJ6_bitCount_0f7a4_45 (rfl) ?_
  refine lv_iadd hx hb dJ6_bitCount_0f7a4_46 ?_
  refine lv_topi (fun v5 e5 => ?_)
  refine lv_istore_n (lv' := [(0, .int v5)]) hx hb dJ6_bitCount_0f7a4_47 rfl hl (by decide) rfl (fun ls hl => ?_)
  refine lv_iload_n hx hb dJ6_bitCount_0f7a4_48 rfl (lv_at hl 0 rfl) ?_
  refine lv_bipush (v := 63) hx hb dJ6_bitCount_0f7a4_49 (by decide) ?_
  refine lv_iand hx hb dJ6_bitCount_0f7a4_51 ?_
  exact pret hx hb hr hlocks rfl (by simp only [bcI, e1, e2, e3, e4, e5]) dJ6_bitCount_0f7a4_52

theorem hd_X7_bit : yX7_bit.cls ≠ "java/lang/invoke/MethodHandle" ∧ yX7_bit.cls ≠ "java/lang/invoke/VarHandle" ∧ (parseMethodDescriptor yX7_bit.desc).map (fun d => d.parameters.length) = some 1 := by decide +kernel
theorem fX1_bitOf_0 : Cond.initialized RX7 ∈ wsX1_bitOf := by decide +kernel
theorem fX1_bitOf_1 : Cond.static yX7_bit ∈ wsX1_bitOf := by decide +kernel
set_option maxHeartbeats 4000000 in
set_option maxRecDepth 100000 in
/-- Formulas.bitOf(x) -/
theorem c_X1_bitOf (l : Launch) (G : GG) (x : Int32) : Met l yX1_bitOf wsX1_bitOf (rmK 1) (va_Pc [.int x] (PS G [])) (QcRead (bitOfI x)) 0 0 (fun _ => False) := by
  refine Met.ofW (cc := cX1_bitOf) (maxL := 1) (ret := (some .int)) (by decide) rfl ?_
  intro p e s m args below meth c s₁ B hml hv
  obtain ⟨rfl, hP, hKK⟩ := hv
  have hx := B.exec
  have hb := B.bytes
  have hr := B.returns
  have hts := atoms_spec (ws := wsX1_bitOf) B.pre
  have hown : s.vm.findClass RX1 = some m.cls := findClass_of_methodNamed B.named
  have hlocks := B.notSynchronized
  have hK := hKK.1
  have hl := lv_entry ([.int x]) (n := 1) (Nat.le_of_ble_eq_true rfl)
  rw [lg_entry_eq]
  generalize (lg_sl ([.int x]) ++ List.replicate (1 - (lg_sl ([.int x])).length) Slot.unset).toArray = ls at hl ⊢
  have hl : lv_has ls 1 [(0, .int x)] := hl
  refine lv_iload_n hx hb dX1_bitOf_0 rfl (lv_at hl 0 rfl) ?_
  refine cpN (As := [.int x]) (rest := []) ⟨hx, hb, hml, hown, hts⟩ (c_X7_bit l G x) ⟨va_cnB (own := RX1) (host := RX7) (index := 39) (y := yX7_bit) 1 hts gX1_bitOf_X7_bit_n39 rfl rfl rfl (hKK.2.nth 10 (q := (RX1, 39, yX7_bit)) rfl) (hts _ fX1_bitOf_0) hd_X7_bit ⟨Nat.le_of_ble_eq_true rfl, Nat.le_of_ble_eq_true rfl⟩, (hts _ fX1_bitOf_1), trivial⟩ hKK hP [] rfl rfl hl.1 rfl (Nat.le_of_ble_eq_true rfl) dX1_bitOf_1 ⟨Nat.zero_le _, Nat.zero_le _⟩ ?_
  refine lv_iload_n hx hb dX1_bitOf_4 rfl (lv_at hl 0 rfl) ?_
  refine lv_ineg hx hb dX1_bitOf_5 ?_
  refine cpN (As := [.int (-x)]) (rest := [.int (bitI x)]) ⟨hx, hb, hml, hown, hts⟩ (c_X7_bit l G (-x)) ⟨va_cnB (own := RX1) (host := RX7) (index := 39) (y := yX7_bit) 1 hts gX1_bitOf_X7_bit_n39 rfl rfl rfl (hKK.2.nth 10 (q := (RX1, 39, yX7_bit)) rfl) (hts _ fX1_bitOf_0) hd_X7_bit ⟨Nat.le_of_ble_eq_true rfl, Nat.le_of_ble_eq_true rfl⟩, (hts _ fX1_bitOf_1), trivial⟩ hKK hP [] rfl rfl hl.1 rfl (Nat.le_of_ble_eq_true rfl) dX1_bitOf_6 ⟨Nat.zero_le _, Nat.zero_le _⟩ ?_
  refine lv_ior hx hb dX1_bitOf_9 ?_
  exact pret hx hb hr hlocks rfl (rfl) dX1_bitOf_10

set_option maxHeartbeats 4000000 in
set_option maxRecDepth 100000 in
/-- Formulas.holds(op, a, b) -/
theorem c_X1_holds (l : Launch) (G : GG) (op : Int32) (a b : Bool) : Met l yX1_holds wsX1_holds (rmK 0) (va_Pc [.int op, .int (bI a), .int (bI b)] (PS G [])) (QcRead (bI (holdsB op a b))) 0 0 (fun _ => False) := by
  refine Met.ofW (cc := cX1_holds) (maxL := 3) (ret := (some .boolean)) (by decide) rfl ?_
  intro p e s m args below meth c s₁ B hml hv
  obtain ⟨rfl, hP, hKK⟩ := hv
  have hx := B.exec
  have hb := B.bytes
  have hr := B.returns
  have hts := atoms_spec (ws := wsX1_holds) B.pre
  have hown : s.vm.findClass RX1 = some m.cls := findClass_of_methodNamed B.named
  have hlocks := B.notSynchronized
  have hK := hKK.1
  have hl := lv_entry ([.int op, .int (bI a), .int (bI b)]) (n := 3) (Nat.le_of_ble_eq_true rfl)
  rw [lg_entry_eq]
  generalize (lg_sl ([.int op, .int (bI a), .int (bI b)]) ++ List.replicate (3 - (lg_sl ([.int op, .int (bI a), .int (bI b)])).length) Slot.unset).toArray = ls at hl ⊢
  have hl : lv_has ls 3 [(0, .int op), (1, .int (bI a)), (2, .int (bI b))] := hl
  refine lv_iload_n hx hb dX1_holds_0 rfl (lv_at hl 0 rfl) ?_
  by_cases ho0 : op = 0
  · subst ho0
    refine lv_tableIn (off := 27) (tgt := 28) hx hb dX1_holds_1 (by decide) (by decide) rfl (by decide) ?_
    refine lv_iload_n hx hb dX1_holds_28 rfl (lv_at hl 1 rfl) ?_
    refine lv_if_eq (tgt := 36) hx hb dX1_holds_29 (by decide) (fun c_29 => ?_) (fun c_29 => ?_)
    · skip
      refine lv_iconst (v := 1) hx hb dX1_holds_36 (by decide) ?_
      refine lv_goto (tgt := 41) hx hb dX1_holds_37 (by decide) ?_
      exact pret hx hb hr hlocks rfl (by revert c_29; cases a <;> cases b <;> decide) dX1_holds_41
    · skip
      refine lv_iload_n hx hb dX1_holds_32 rfl (lv_at hl 2 rfl) ?_
      refine lv_if_eq (tgt := 40) hx hb dX1_holds_33 (by decide) (fun c_33 => ?_) (fun c_33 => ?_)
      · skip
        refine lv_iconst (v := 0) hx hb dX1_holds_40 (by decide) ?_
        exact pret hx hb hr hlocks rfl (by revert c_29 c_33; cases a <;> cases b <;> decide) dX1_holds_41
      · skip
        refine lv_iconst (v := 1) hx hb dX1_holds_36 (by decide) ?_
        refine lv_goto (tgt := 41) hx hb dX1_holds_37 (by decide) ?_
        exact pret hx hb hr hlocks rfl (by revert c_29 c_33; cases a <;> cases b <;> decide) dX1_holds_41
  by_cases ho1 : op = 1
  · subst ho1
    refine lv_tableIn (off := 41) (tgt := 42) hx hb dX1_holds_1 (by decide) (by decide) rfl (by decide) ?_
    refine lv_iload_n hx hb dX1_holds_42 rfl (lv_at hl 1 rfl) ?_
    refine lv_if_eq (tgt := 50) hx hb dX1_holds_43 (by decide) (fun c_43 => ?_) (fun c_43 => ?_)
    · skip
      refine lv_iconst (v := 1) hx hb dX1_holds_50 (by decide) ?_
      refine lv_goto (tgt := 55) hx hb dX1_holds_51 (by decide) ?_
      exact pret hx hb hr hlocks rfl (by revert c_43; cases a <;> cases b <;> decide) dX1_holds_55
    · skip
      refine lv_iload_n hx hb dX1_holds_46 rfl (lv_at hl 2 rfl) ?_
      refine lv_if_ne (tgt := 54) hx hb dX1_holds_47 (by decide) (fun c_47 => ?_) (fun c_47 => ?_)
      · skip
        refine lv_iconst (v := 0) hx hb dX1_holds_54 (by decide) ?_
        exact pret hx hb hr hlocks rfl (by revert c_43 c_47; cases a <;> cases b <;> decide) dX1_holds_55
      · skip
        refine lv_iconst (v := 1) hx hb dX1_holds_50 (by decide) ?_
        refine lv_goto (tgt := 55) hx hb dX1_holds_51 (by decide) ?_
        exact pret hx hb hr hlocks rfl (by revert c_43 c_47; cases a <;> cases b <;> decide) dX1_holds_55
  by_cases ho2 : op = 2
  · subst ho2
    refine lv_tableIn (off := 55) (tgt := 56) hx hb dX1_holds_1 (by decide) (by decide) rfl (by decide) ?_
    refine lv_iload_n hx hb dX1_holds_56 rfl (lv_at hl 1 rfl) ?_
    refine lv_if_ne (tgt := 64) hx hb dX1_holds_57 (by decide) (fun c_57 => ?_) (fun c_57 => ?_)
    · skip
      refine lv_iconst (v := 1) hx hb dX1_holds_64 (by decide) ?_
      refine lv_goto (tgt := 69) hx hb dX1_holds_65 (by decide) ?_
      exact pret hx hb hr hlocks rfl (by revert c_57; cases a <;> cases b <;> decide) dX1_holds_69
    · skip
      refine lv_iload_n hx hb dX1_holds_60 rfl (lv_at hl 2 rfl) ?_
      refine lv_if_eq (tgt := 68) hx hb dX1_holds_61 (by decide) (fun c_61 => ?_) (fun c_61 => ?_)
      · skip
        refine lv_iconst (v := 0) hx hb dX1_holds_68 (by decide) ?_
        exact pret hx hb hr hlocks rfl (by revert c_57 c_61; cases a <;> cases b <;> decide) dX1_holds_69
      · skip
        refine lv_iconst (v := 1) hx hb dX1_holds_64 (by decide) ?_
        refine lv_goto (tgt := 69) hx hb dX1_holds_65 (by decide) ?_
        exact pret hx hb hr hlocks rfl (by revert c_57 c_61; cases a <;> cases b <;> decide) dX1_holds_69
  refine lv_tableOut (tgt := 70) hx hb dX1_holds_1 (by have h0 := mt Int32.toInt_inj.mp ho0; have h1 := mt Int32.toInt_inj.mp ho1; have h2 := mt Int32.toInt_inj.mp ho2; have e0 : (0 : Int32).toInt = 0 := rfl; have e1 : (1 : Int32).toInt = 1 := rfl; have e2 : (2 : Int32).toInt = 2 := rfl; omega) (by decide) ?_
  refine lv_iload_n hx hb dX1_holds_70 rfl (lv_at hl 1 rfl) ?_
  refine lv_iload_n hx hb dX1_holds_71 rfl (lv_at hl 2 rfl) ?_
  refine lv_icmp_ne (tgt := 79) hx hb dX1_holds_72 (by decide) (fun c_72 => ?_) (fun c_72 => ?_)
  · skip
    refine lv_iconst (v := 0) hx hb dX1_holds_79 (by decide) ?_
    exact pret hx hb hr hlocks rfl (by simp only [holdsB, if_neg ho0, if_neg ho1, if_neg ho2]; revert c_72; cases a <;> cases b <;> decide) dX1_holds_80
  · skip
    refine lv_iconst (v := 1) hx hb dX1_holds_75 (by decide) ?_
    refine lv_goto (tgt := 80) hx hb dX1_holds_76 (by decide) ?_
    exact pret hx hb hr hlocks rfl (by simp only [holdsB, if_neg ho0, if_neg ho1, if_neg ho2]; revert c_72; cases a <;> cases b <;> decide) dX1_holds_80

theorem hd_X1_holds : yX1_holds.cls ≠ "java/lang/invoke/MethodHandle" ∧ yX1_holds.cls ≠ "java/lang/invoke/VarHandle" ∧ (parseMethodDescriptor yX1_holds.desc).map (fun d => d.parameters.length) = some 3 := by decide +kernel
theorem hd_X1_bitOf : yX1_bitOf.cls ≠ "java/lang/invoke/MethodHandle" ∧ yX1_bitOf.cls ≠ "java/lang/invoke/VarHandle" ∧ (parseMethodDescriptor yX1_bitOf.desc).map (fun d => d.parameters.length) = some 1 := by decide +kernel
theorem fX1_holdsIn_0 : Cond.initialized RX7 ∈ wsX1_holdsIn := by decide +kernel
theorem fX1_holdsIn_1 : Cond.static yX7_bit ∈ wsX1_holdsIn := by decide +kernel
set_option maxHeartbeats 4000000 in
set_option maxRecDepth 100000 in
/-- Formulas.holdsIn(v, op, a, b) -/
theorem c_X1_holdsIn (l : Launch) (G : GG) (v op a b : Int32) : Met l yX1_holdsIn wsX1_holdsIn (rmK 2) (va_Pc [.int v, .int op, .int a, .int b] (PS G [])) (QcRead (bI (holdsInB v op a b))) 0 0 (fun _ => False) := by
  refine Met.ofW (cc := cX1_holdsIn) (maxL := 4) (ret := (some .boolean)) (by decide) rfl ?_
  intro p e s m args below meth c s₁ B hml hv
  obtain ⟨rfl, hP, hKK⟩ := hv
  have hx := B.exec
  have hb := B.bytes
  have hr := B.returns
  have hts := atoms_spec (ws := wsX1_holdsIn) B.pre
  have hown : s.vm.findClass RX1 = some m.cls := findClass_of_methodNamed B.named
  have hlocks := B.notSynchronized
  have hK := hKK.1
  have hl := lv_entry ([.int v, .int op, .int a, .int b]) (n := 4) (Nat.le_of_ble_eq_true rfl)
  rw [lg_entry_eq]
  generalize (lg_sl ([.int v, .int op, .int a, .int b]) ++ List.replicate (4 - (lg_sl ([.int v, .int op, .int a, .int b])).length) Slot.unset).toArray = ls at hl ⊢
  have hl : lv_has ls 4 [(0, .int v), (1, .int op), (2, .int a), (3, .int b)] := hl
  refine cutJ (nL := 4) (lv := [(0, .int v), (1, .int op), (2, .int a), (3, .int b)]) (pc' := 19) (st' := [.int (bI (decide (v &&& bitOfI a = bitI a))), .int op]) (fun ls hl => ?_) (fun hJ_19 => ?_)
  · skip
    refine cutJ (nL := 4) (lv := [(0, .int v), (1, .int op), (2, .int a), (3, .int b)]) (pc' := 37) (st' := [.int (bI (decide (v &&& bitOfI b = bitI b))), .int (bI (decide (v &&& bitOfI a = bitI a))), .int op]) (fun ls hl => ?_) (fun hJ_37 => ?_)
    · skip
      refine cpS (As := [.int op, .int (bI (decide (v &&& bitOfI a = bitI a))), .int (bI (decide (v &&& bitOfI b = bitI b)))]) (rest := []) ⟨hx, hb, hml, hown, hts⟩ (c_X1_holds l G op (decide (v &&& bitOfI a = bitI a)) (decide (v &&& bitOfI b = bitI b))) (va_cwS 3 hts gX1_holdsIn_X1_holds rfl rfl rfl hd_X1_holds ⟨Nat.le_of_ble_eq_true rfl, Nat.le_of_ble_eq_true rfl⟩) hKK hP [] rfl rfl hl.1 rfl (Nat.le_of_ble_eq_true rfl) dX1_holdsIn_37 ⟨Nat.zero_le _, Nat.zero_le _⟩ ?_
      exact pret hx hb hr hlocks (bI_nar _) (rfl) dX1_holdsIn_40
    · skip
      refine lv_iload_n hx hb dX1_holdsIn_19 rfl (lv_at hl 0 rfl) ?_
      refine lv_iload_n hx hb dX1_holdsIn_20 rfl (lv_at hl 3 rfl) ?_
      refine cpS (As := [.int b]) (rest := [.int v, .int (bI (decide (v &&& bitOfI a = bitI a))), .int op]) ⟨hx, hb, hml, hown, hts⟩ (c_X1_bitOf l G b) (va_cwS 1 hts gX1_holdsIn_X1_bitOf rfl rfl rfl hd_X1_bitOf ⟨Nat.le_of_ble_eq_true rfl, Nat.le_of_ble_eq_true rfl⟩) hKK hP [] rfl rfl hl.1 rfl (Nat.le_of_ble_eq_true rfl) dX1_holdsIn_21 ⟨Nat.zero_le _, Nat.zero_le _⟩ ?_
      refine lv_iand hx hb dX1_holdsIn_24 ?_
      refine lv_iload_n hx hb dX1_holdsIn_25 rfl (lv_at hl 3 rfl) ?_
      refine cpN (As := [.int b]) (rest := [.int (v &&& (bitOfI b)), .int (bI (decide (v &&& bitOfI a = bitI a))), .int op]) ⟨hx, hb, hml, hown, hts⟩ (c_X7_bit l G b) ⟨va_cnB (own := RX1) (host := RX7) (index := 39) (y := yX7_bit) 1 hts gX1_holdsIn_X7_bit_n39 rfl rfl rfl (hKK.2.nth 10 (q := (RX1, 39, yX7_bit)) rfl) (hts _ fX1_holdsIn_0) hd_X7_bit ⟨Nat.le_of_ble_eq_true rfl, Nat.le_of_ble_eq_true rfl⟩, (hts _ fX1_holdsIn_1), trivial⟩ hKK hP [] rfl rfl hl.1 rfl (Nat.le_of_ble_eq_true rfl) dX1_holdsIn_26 ⟨Nat.zero_le _, Nat.zero_le _⟩ ?_
      refine lv_icmp_ne (tgt := 36) hx hb dX1_holdsIn_29 (by decide) (fun c_29 => ?_) (fun c_29 => ?_)
      · skip
        refine lv_iconst (v := 0) hx hb dX1_holdsIn_36 (by decide) ?_
        refine stI (y := (bI (decide (v &&& bitOfI b = bitI b)))) (bI_no _ decide_eq_true_iff c_29) ?_
        exact hJ_37 ls (lv_sub hl [0, 1, 2, 3] rfl)
      · skip
        refine lv_iconst (v := 1) hx hb dX1_holdsIn_32 (by decide) ?_
        refine lv_goto (tgt := 37) hx hb dX1_holdsIn_33 (by decide) ?_
        refine stI (y := (bI (decide (v &&& bitOfI b = bitI b)))) (bI_of _ decide_eq_true_iff c_29) ?_
        exact hJ_37 ls (lv_sub hl [0, 1, 2, 3] rfl)
  · skip
    refine lv_iload_n hx hb dX1_holdsIn_0 rfl (lv_at hl 1 rfl) ?_
    refine lv_iload_n hx hb dX1_holdsIn_1 rfl (lv_at hl 0 rfl) ?_
    refine lv_iload_n hx hb dX1_holdsIn_2 rfl (lv_at hl 2 rfl) ?_
    refine cpS (As := [.int a]) (rest := [.int v, .int op]) ⟨hx, hb, hml, hown, hts⟩ (c_X1_bitOf l G a) (va_cwS 1 hts gX1_holdsIn_X1_bitOf rfl rfl rfl hd_X1_bitOf ⟨Nat.le_of_ble_eq_true rfl, Nat.le_of_ble_eq_true rfl⟩) hKK hP [] rfl rfl hl.1 rfl (Nat.le_of_ble_eq_true rfl) dX1_holdsIn_3 ⟨Nat.zero_le _, Nat.zero_le _⟩ ?_
    refine lv_iand hx hb dX1_holdsIn_6 ?_
    refine lv_iload_n hx hb dX1_holdsIn_7 rfl (lv_at hl 2 rfl) ?_
    refine cpN (As := [.int a]) (rest := [.int (v &&& (bitOfI a)), .int op]) ⟨hx, hb, hml, hown, hts⟩ (c_X7_bit l G a) ⟨va_cnB (own := RX1) (host := RX7) (index := 39) (y := yX7_bit) 1 hts gX1_holdsIn_X7_bit_n39 rfl rfl rfl (hKK.2.nth 10 (q := (RX1, 39, yX7_bit)) rfl) (hts _ fX1_holdsIn_0) hd_X7_bit ⟨Nat.le_of_ble_eq_true rfl, Nat.le_of_ble_eq_true rfl⟩, (hts _ fX1_holdsIn_1), trivial⟩ hKK hP [] rfl rfl hl.1 rfl (Nat.le_of_ble_eq_true rfl) dX1_holdsIn_8 ⟨Nat.zero_le _, Nat.zero_le _⟩ ?_
    refine lv_icmp_ne (tgt := 18) hx hb dX1_holdsIn_11 (by decide) (fun c_11 => ?_) (fun c_11 => ?_)
    · skip
      refine lv_iconst (v := 0) hx hb dX1_holdsIn_18 (by decide) ?_
      refine stI (y := (bI (decide (v &&& bitOfI a = bitI a)))) (bI_no _ decide_eq_true_iff c_11) ?_
      exact hJ_19 ls (lv_sub hl [0, 1, 2, 3] rfl)
    · skip
      refine lv_iconst (v := 1) hx hb dX1_holdsIn_14 (by decide) ?_
      refine lv_goto (tgt := 19) hx hb dX1_holdsIn_15 (by decide) ?_
      refine stI (y := (bI (decide (v &&& bitOfI a = bitI a)))) (bI_of _ decide_eq_true_iff c_11) ?_
      exact hJ_19 ls (lv_sub hl [0, 1, 2, 3] rfl)

theorem hd_X1_holdsIn : yX1_holdsIn.cls ≠ "java/lang/invoke/MethodHandle" ∧ yX1_holdsIn.cls ≠ "java/lang/invoke/VarHandle" ∧ (parseMethodDescriptor yX1_holdsIn.desc).map (fun d => d.parameters.length) = some 4 := by decide +kernel
set_option maxHeartbeats 4000000 in
set_option maxRecDepth 100000 in
/-- Formulas.isAlwaysTrue -/
theorem c_X1_isAlwaysTrue (l : Launch) (G : GG) (op a b : Int32) : Met l yX1_isAlwaysTrue wsX1_isAlwaysTrue (rmK 3) (va_Pc [.int op, .int a, .int b] (PS G [])) (QcRead (bI (alwaysB op a b))) 0 0 (fun _ => False) := by
  refine Met.ofW (cc := cX1_isAlwaysTrue) (maxL := 5) (ret := (some .boolean)) (by decide) rfl ?_
  intro p e s m args below meth c s₁ B hml hv
  obtain ⟨rfl, hP, hKK⟩ := hv
  have hx := B.exec
  have hb := B.bytes
  have hr := B.returns
  have hts := atoms_spec (ws := wsX1_isAlwaysTrue) B.pre
  have hown : s.vm.findClass RX1 = some m.cls := findClass_of_methodNamed B.named
  have hlocks := B.notSynchronized
  have hK := hKK.1
  have hl := lv_entry ([.int op, .int a, .int b]) (n := 5) (Nat.le_of_ble_eq_true rfl)
  rw [lg_entry_eq]
  generalize (lg_sl ([.int op, .int a, .int b]) ++ List.replicate (5 - (lg_sl ([.int op, .int a, .int b])).length) Slot.unset).toArray = ls at hl ⊢
  have hl : lv_has ls 5 [(0, .int op), (1, .int a), (2, .int b)] := hl
  refine lv_iload_n hx hb dX1_isAlwaysTrue_0 rfl (lv_at hl 1 rfl) ?_
  refine cpS (As := [.int a]) (rest := []) ⟨hx, hb, hml, hown, hts⟩ (c_X1_bitOf l G a) (va_cwS 1 hts gX1_isAlwaysTrue_X1_bitOf rfl rfl rfl hd_X1_bitOf ⟨Nat.le_of_ble_eq_true rfl, Nat.le_of_ble_eq_true rfl⟩) hKK hP [] rfl rfl hl.1 rfl (Nat.le_of_ble_eq_true rfl) dX1_isAlwaysTrue_1 ⟨Nat.zero_le _, Nat.zero_le _⟩ ?_
  refine lv_istore_n (lv' := [(3, .int (bitOfI a)), (0, .int op), (1, .int a), (2, .int b)]) hx hb dX1_isAlwaysTrue_4 rfl hl (by decide) rfl (fun ls hl => ?_)
  refine lv_iload_n hx hb dX1_isAlwaysTrue_5 rfl (lv_at hl 3 rfl) ?_
  refine cpS (As := [.int b]) (rest := []) ⟨hx, hb, hml, hown, hts⟩ (c_X1_bitOf l G b) (va_cwS 1 hts gX1_isAlwaysTrue_X1_bitOf rfl rfl rfl hd_X1_bitOf ⟨Nat.le_of_ble_eq_true rfl, Nat.le_of_ble_eq_true rfl⟩) hKK hP [] rfl rfl hl.1 rfl (Nat.le_of_ble_eq_true rfl) dX1_isAlwaysTrue_6 ⟨Nat.zero_le _, Nat.zero_le _⟩ ?_
  refine lv_istore (lv' := [(4, .int (bitOfI b)), (3, .int (bitOfI a)), (0, .int op), (1, .int a), (2, .int b)]) hx hb dX1_isAlwaysTrue_9 hl (by decide) rfl (fun ls hl => ?_)
  refine lv_iconst (v := 0) hx hb dX1_isAlwaysTrue_11 (by decide) ?_
  refine lv_iload_n hx hb dX1_isAlwaysTrue_12 rfl (lv_at hl 2 rfl) ?_
  refine lv_iload_n hx hb dX1_isAlwaysTrue_13 rfl (lv_at hl 3 rfl) ?_
  refine lv_iload_n hx hb dX1_isAlwaysTrue_14 rfl (lv_at hl 4 rfl) ?_
  refine cpS (As := [.int 0, .int op, .int a, .int b]) (rest := []) ⟨hx, hb, hml, hown, hts⟩ (c_X1_holdsIn l G 0 op a b) (va_cwS 4 hts gX1_isAlwaysTrue_X1_holdsIn rfl rfl rfl hd_X1_holdsIn ⟨Nat.le_of_ble_eq_true rfl, Nat.le_of_ble_eq_true rfl⟩) hKK hP [] rfl rfl hl.1 rfl (Nat.le_of_ble_eq_true rfl) dX1_isAlwaysTrue_15 ⟨Nat.zero_le _, Nat.zero_le _⟩ ?_
  refine lv_if_eq (tgt := 59) hx hb dX1_isAlwaysTrue_18 (by decide) (fun c_18 => ?_) (fun c_18 => ?_)
  · skip
    refine lv_iconst (v := 0) hx hb dX1_isAlwaysTrue_59 (by decide) ?_
    exact pret hx hb hr hlocks rfl (by unfold alwaysB; rw [bI_0.mp c_18]; rfl) dX1_isAlwaysTrue_60
  · skip
    refine lv_iload_n hx hb dX1_isAlwaysTrue_21 rfl (lv_at hl 1 rfl) ?_
    refine lv_iload_n hx hb dX1_isAlwaysTrue_22 rfl (lv_at hl 2 rfl) ?_
    refine lv_iload_n hx hb dX1_isAlwaysTrue_23 rfl (lv_at hl 3 rfl) ?_
    refine lv_iload_n hx hb dX1_isAlwaysTrue_24 rfl (lv_at hl 4 rfl) ?_
    refine cpS (As := [.int (bitOfI a), .int op, .int a, .int b]) (rest := []) ⟨hx, hb, hml, hown, hts⟩ (c_X1_holdsIn l G (bitOfI a) op a b) (va_cwS 4 hts gX1_isAlwaysTrue_X1_holdsIn rfl rfl rfl hd_X1_holdsIn ⟨Nat.le_of_ble_eq_true rfl, Nat.le_of_ble_eq_true rfl⟩) hKK hP [] rfl rfl hl.1 rfl (Nat.le_of_ble_eq_true rfl) dX1_isAlwaysTrue_25 ⟨Nat.zero_le _, Nat.zero_le _⟩ ?_
    refine lv_if_eq (tgt := 59) hx hb dX1_isAlwaysTrue_28 (by decide) (fun c_28 => ?_) (fun c_28 => ?_)
    · skip
      refine lv_iconst (v := 0) hx hb dX1_isAlwaysTrue_59 (by decide) ?_
      exact pret hx hb hr hlocks rfl (by unfold alwaysB; rw [bI_n0 c_18, bI_0.mp c_28]; rfl) dX1_isAlwaysTrue_60
    · skip
      refine lv_iload hx hb dX1_isAlwaysTrue_31 (lv_at hl 0 rfl) ?_
      refine lv_iload_n hx hb dX1_isAlwaysTrue_33 rfl (lv_at hl 2 rfl) ?_
      refine lv_iload_n hx hb dX1_isAlwaysTrue_34 rfl (lv_at hl 3 rfl) ?_
      refine lv_iload_n hx hb dX1_isAlwaysTrue_35 rfl (lv_at hl 4 rfl) ?_
      refine cpS (As := [.int (bitOfI b), .int op, .int a, .int b]) (rest := []) ⟨hx, hb, hml, hown, hts⟩ (c_X1_holdsIn l G (bitOfI b) op a b) (va_cwS 4 hts gX1_isAlwaysTrue_X1_holdsIn rfl rfl rfl hd_X1_holdsIn ⟨Nat.le_of_ble_eq_true rfl, Nat.le_of_ble_eq_true rfl⟩) hKK hP [] rfl rfl hl.1 rfl (Nat.le_of_ble_eq_true rfl) dX1_isAlwaysTrue_36 ⟨Nat.zero_le _, Nat.zero_le _⟩ ?_
      refine lv_if_eq (tgt := 59) hx hb dX1_isAlwaysTrue_39 (by decide) (fun c_39 => ?_) (fun c_39 => ?_)
      · skip
        refine lv_iconst (v := 0) hx hb dX1_isAlwaysTrue_59 (by decide) ?_
        exact pret hx hb hr hlocks rfl (by unfold alwaysB; rw [bI_n0 c_18, bI_n0 c_28, bI_0.mp c_39]; rfl) dX1_isAlwaysTrue_60
      · skip
        refine lv_iload_n hx hb dX1_isAlwaysTrue_42 rfl (lv_at hl 1 rfl) ?_
        refine lv_iload hx hb dX1_isAlwaysTrue_43 (lv_at hl 0 rfl) ?_
        refine lv_ior hx hb dX1_isAlwaysTrue_45 ?_
        refine lv_iload_n hx hb dX1_isAlwaysTrue_46 rfl (lv_at hl 2 rfl) ?_
        refine lv_iload_n hx hb dX1_isAlwaysTrue_47 rfl (lv_at hl 3 rfl) ?_
        refine lv_iload_n hx hb dX1_isAlwaysTrue_48 rfl (lv_at hl 4 rfl) ?_
        refine cpS (As := [.int ((bitOfI a) ||| (bitOfI b)), .int op, .int a, .int b]) (rest := []) ⟨hx, hb, hml, hown, hts⟩ (c_X1_holdsIn l G ((bitOfI a) ||| (bitOfI b)) op a b) (va_cwS 4 hts gX1_isAlwaysTrue_X1_holdsIn rfl rfl rfl hd_X1_holdsIn ⟨Nat.le_of_ble_eq_true rfl, Nat.le_of_ble_eq_true rfl⟩) hKK hP [] rfl rfl hl.1 rfl (Nat.le_of_ble_eq_true rfl) dX1_isAlwaysTrue_49 ⟨Nat.zero_le _, Nat.zero_le _⟩ ?_
        refine lv_if_eq (tgt := 59) hx hb dX1_isAlwaysTrue_52 (by decide) (fun c_52 => ?_) (fun c_52 => ?_)
        · skip
          refine lv_iconst (v := 0) hx hb dX1_isAlwaysTrue_59 (by decide) ?_
          exact pret hx hb hr hlocks rfl (by unfold alwaysB; rw [bI_n0 c_18, bI_n0 c_28, bI_n0 c_39, bI_0.mp c_52]; rfl) dX1_isAlwaysTrue_60
        · skip
          refine lv_iconst (v := 1) hx hb dX1_isAlwaysTrue_55 (by decide) ?_
          refine lv_goto (tgt := 60) hx hb dX1_isAlwaysTrue_56 (by decide) ?_
          exact pret hx hb hr hlocks rfl (by unfold alwaysB; rw [bI_n0 c_18, bI_n0 c_28, bI_n0 c_39, bI_n0 c_52]; rfl) dX1_isAlwaysTrue_60

theorem iX5_has_X5 : ∀ w ∈ u_ws RX5 TX5 8, w ∈ wsX5_has := by decide +kernel
theorem fX5_has_1 : Cond.fieldLink RX5 30 "FeatureSolve$Tree" "size" "I" ∈ wsX5_has := by decide +kernel
set_option maxHeartbeats 4000000 in
set_option maxRecDepth 100000 in
/-- Tree.has(x) -/
theorem c_X5_has (l : Launch) (G : GG) (h : Nat) (z : Int32) (k1 k2 k3 k4 k5 k6 : Nat) (bd : Int32) (x : Int32) : Met l yX5_has wsX5_has (rmK 0) (va_Pc [.ref h, .int x] (PS G [(oX5 h z k1 k2 k3 k4 k5 k6 bd)])) (QcRead (bI (hasB z x))) 0 0 (fun _ => False) := by
  refine Met.ofW (cc := cX5_has) (maxL := 2) (ret := (some .boolean)) (by decide) rfl ?_
  intro p e s m args below meth c s₁ B hml hv
  obtain ⟨rfl, hP, hKK⟩ := hv
  have hx := B.exec
  have hb := B.bytes
  have hr := B.returns
  have hts := atoms_spec (ws := wsX5_has) B.pre
  have hown : s.vm.findClass RX5 = some m.cls := findClass_of_methodNamed B.named
  have hlocks := B.notSynchronized
  have hK := hKK.1
  have hl := lv_entry ([.ref h, .int x]) (n := 2) (Nat.le_of_ble_eq_true rfl)
  rw [lg_entry_eq]
  generalize (lg_sl ([.ref h, .int x]) ++ List.replicate (2 - (lg_sl ([.ref h, .int x])).length) Slot.unset).toArray = ls at hl ⊢
  have hl : lv_has ls 2 [(0, .ref h), (1, .int x)] := hl
  refine lv_iload_n hx hb dX5_has_0 rfl (lv_at hl 1 rfl) ?_
  refine lv_iconst (v := 1) hx hb dX5_has_1 (by decide) ?_
  refine lv_icmp_lt (tgt := 17) hx hb dX5_has_2 (by decide) (fun c_2 => ?_) (fun c_2 => ?_)
  · skip
    refine lv_iconst (v := 0) hx hb dX5_has_17 (by decide) ?_
    exact pret hx hb hr hlocks rfl (bI_no _ hasB_iff (fun h => i_lt1.mp c_2 h.1)) dX5_has_18
  · skip
    refine lv_iload_n hx hb dX5_has_5 rfl (lv_at hl 1 rfl) ?_
    refine lv_aload_n hx hb dX5_has_6 rfl (lv_at hl 0 rfl) ?_
    refine va_get (D := G.1) (ci := 7) (v := .int z) (C := RX5) (T := TX5) (N := 8) hx hb hts iX5_has_X5 hown hK hP 0 rfl rfl 0 (by decide) (hts _ fX5_has_1) (fun _ h9 => h9) rfl dX5_has_7 ?_
    refine lv_icmp_gt (tgt := 17) hx hb dX5_has_10 (by decide) (fun c_10 => ?_) (fun c_10 => ?_)
    · skip
      refine lv_iconst (v := 0) hx hb dX5_has_17 (by decide) ?_
      exact pret hx hb hr hlocks rfl (bI_no _ hasB_iff (fun h => i_nlt.mpr h.2 c_10)) dX5_has_18
    · skip
      refine lv_iconst (v := 1) hx hb dX5_has_13 (by decide) ?_
      refine lv_goto (tgt := 18) hx hb dX5_has_14 (by decide) ?_
      exact pret hx hb hr hlocks rfl (bI_of _ hasB_iff ⟨i_nlt.mp c_2, i_nlt.mp c_10⟩) dX5_has_18

theorem hd_X5_has : yX5_has.cls ≠ "java/lang/invoke/MethodHandle" ∧ yX5_has.cls ≠ "java/lang/invoke/VarHandle" ∧ (parseMethodDescriptor yX5_has.desc).map (fun d => d.parameters.length) = some 1 := by decide +kernel
set_option maxHeartbeats 4000000 in
set_option maxRecDepth 100000 in
/-- Tree.hasSigned(x) -/
theorem c_X5_hasSigned (l : Launch) (G : GG) (h : Nat) (z : Int32) (k1 k2 k3 k4 k5 k6 : Nat) (bd : Int32) (x : Int32) : Met l yX5_hasSigned wsX5_hasSigned (rmK 1) (va_Pc [.ref h, .int x] (PS G [(oX5 h z k1 k2 k3 k4 k5 k6 bd)])) (QcRead (bI (hasSignedB z x))) 0 0 (fun _ => False) := by
  refine Met.ofW (cc := cX5_hasSigned) (maxL := 2) (ret := (some .boolean)) (by decide) rfl ?_
  intro p e s m args below meth c s₁ B hml hv
  obtain ⟨rfl, hP, hKK⟩ := hv
  have hx := B.exec
  have hb := B.bytes
  have hr := B.returns
  have hts := atoms_spec (ws := wsX5_hasSigned) B.pre
  have hown : s.vm.findClass RX5 = some m.cls := findClass_of_methodNamed B.named
  have hlocks := B.notSynchronized
  have hK := hKK.1
  have hl := lv_entry ([.ref h, .int x]) (n := 2) (Nat.le_of_ble_eq_true rfl)
  rw [lg_entry_eq]
  generalize (lg_sl ([.ref h, .int x]) ++ List.replicate (2 - (lg_sl ([.ref h, .int x])).length) Slot.unset).toArray = ls at hl ⊢
  have hl : lv_has ls 2 [(0, .ref h), (1, .int x)] := hl
  refine lv_aload_n hx hb dX5_hasSigned_0 rfl (lv_at hl 0 rfl) ?_
  refine lv_iload_n hx hb dX5_hasSigned_1 rfl (lv_at hl 1 rfl) ?_
  refine lv_if_ge (tgt := 10) hx hb dX5_hasSigned_2 (by decide) (fun c_2 => ?_) (fun c_2 => ?_)
  · skip
    refine lv_iload_n hx hb dX5_hasSigned_10 rfl (lv_at hl 1 rfl) ?_
    refine cpV (ci := 7) (T0 := TX5) (N := 8) (As := [.int x]) (rest := []) ⟨hx, hb, hml, hown, hts⟩ (c_X5_has l G h z k1 k2 k3 k4 k5 k6 bd x) (cwV 1 hts gX5_hasSigned_X5_has rfl rfl rfl ⟨rfl, hd_X5_has⟩ ⟨Nat.le_of_ble_eq_true rfl, Nat.le_of_ble_eq_true rfl⟩) hKK hP [0] rfl rfl rfl rfl hl.1 rfl (Nat.le_of_ble_eq_true rfl) dX5_hasSigned_11 ⟨Nat.zero_le _, Nat.zero_le _⟩ ?_
    exact pret hx hb hr hlocks (bI_nar _) (by unfold hasSignedB; rw [if_pos c_2]) dX5_hasSigned_14
  · skip
    refine lv_iload_n hx hb dX5_hasSigned_5 rfl (lv_at hl 1 rfl) ?_
    refine lv_ineg hx hb dX5_hasSigned_6 ?_
    refine lv_goto (tgt := 11) hx hb dX5_hasSigned_7 (by decide) ?_
    refine cpV (ci := 7) (T0 := TX5) (N := 8) (As := [.int (-x)]) (rest := []) ⟨hx, hb, hml, hown, hts⟩ (c_X5_has l G h z k1 k2 k3 k4 k5 k6 bd (-x)) (cwV 1 hts gX5_hasSigned_X5_has rfl rfl rfl ⟨rfl, hd_X5_has⟩ ⟨Nat.le_of_ble_eq_true rfl, Nat.le_of_ble_eq_true rfl⟩) hKK hP [0] rfl rfl rfl rfl hl.1 rfl (Nat.le_of_ble_eq_true rfl) dX5_hasSigned_11 ⟨Nat.zero_le _, Nat.zero_le _⟩ ?_
    exact pret hx hb hr hlocks (bI_nar _) (by unfold hasSignedB; rw [if_neg c_2]) dX5_hasSigned_14

theorem iX5_takesParent_X5 : ∀ w ∈ u_ws RX5 TX5 8, w ∈ wsX5_takesParent := by decide +kernel
theorem fX5_takesParent_1 : Cond.fieldLink RX5 30 "FeatureSolve$Tree" "size" "I" ∈ wsX5_takesParent := by decide +kernel
set_option maxHeartbeats 4000000 in
set_option maxRecDepth 100000 in
/-- Tree.takesParent(x) -/
theorem c_X5_takesParent (l : Launch) (G : GG) (h : Nat) (z : Int32) (k1 k2 k3 k4 k5 k6 : Nat) (bd : Int32) (x : Int32) : Met l yX5_takesParent wsX5_takesParent (rmK 1) (va_Pc [.ref h, .int x] (PS G [(oX5 h z k1 k2 k3 k4 k5 k6 bd)])) (QcRead (bI (takesB z x))) 0 0 (fun _ => False) := by
  refine Met.ofW (cc := cX5_takesParent) (maxL := 2) (ret := (some .boolean)) (by decide) rfl ?_
  intro p e s m args below meth c s₁ B hml hv
  obtain ⟨rfl, hP, hKK⟩ := hv
  have hx := B.exec
  have hb := B.bytes
  have hr := B.returns
  have hts := atoms_spec (ws := wsX5_takesParent) B.pre
  have hown : s.vm.findClass RX5 = some m.cls := findClass_of_methodNamed B.named
  have hlocks := B.notSynchronized
  have hK := hKK.1
  have hl := lv_entry ([.ref h, .int x]) (n := 2) (Nat.le_of_ble_eq_true rfl)
  rw [lg_entry_eq]
  generalize (lg_sl ([.ref h, .int x]) ++ List.replicate (2 - (lg_sl ([.ref h, .int x])).length) Slot.unset).toArray = ls at hl ⊢
  have hl : lv_has ls 2 [(0, .ref h), (1, .int x)] := hl
  refine lv_aload_n hx hb dX5_takesParent_0 rfl (lv_at hl 0 rfl) ?_
  refine va_get (D := G.1) (ci := 7) (v := .int z) (C := RX5) (T := TX5) (N := 8) hx hb hts iX5_takesParent_X5 hown hK hP 0 rfl rfl 0 (by decide) (hts _ fX5_takesParent_1) (fun _ h9 => h9) rfl dX5_takesParent_1 ?_
  refine lv_if_ne (tgt := 19) hx hb dX5_takesParent_4 (by decide) (fun c_4 => ?_) (fun c_4 => ?_)
  · skip
    refine lv_aload_n hx hb dX5_takesParent_19 rfl (lv_at hl 0 rfl) ?_
    refine lv_iload_n hx hb dX5_takesParent_20 rfl (lv_at hl 1 rfl) ?_
    refine cpV (ci := 7) (T0 := TX5) (N := 8) (As := [.int x]) (rest := []) ⟨hx, hb, hml, hown, hts⟩ (c_X5_has l G h z k1 k2 k3 k4 k5 k6 bd x) (cwV 1 hts gX5_takesParent_X5_has rfl rfl rfl ⟨rfl, hd_X5_has⟩ ⟨Nat.le_of_ble_eq_true rfl, Nat.le_of_ble_eq_true rfl⟩) hKK hP [0] rfl rfl rfl rfl hl.1 rfl (Nat.le_of_ble_eq_true rfl) dX5_takesParent_21 ⟨Nat.zero_le _, Nat.zero_le _⟩ ?_
    exact pret hx hb hr hlocks (bI_nar _) (by unfold takesB; rw [if_neg c_4]) dX5_takesParent_24
  · skip
    refine lv_iload_n hx hb dX5_takesParent_7 rfl (lv_at hl 1 rfl) ?_
    refine lv_if_ne (tgt := 15) hx hb dX5_takesParent_8 (by decide) (fun c_8 => ?_) (fun c_8 => ?_)
    · skip
      refine lv_iconst (v := 0) hx hb dX5_takesParent_15 (by decide) ?_
      refine lv_goto (tgt := 24) hx hb dX5_takesParent_16 (by decide) ?_
      exact pret hx hb hr hlocks rfl (by unfold takesB; rw [if_pos c_4]; exact bI_no _ decide_eq_true_iff c_8) dX5_takesParent_24
    · skip
      refine lv_iconst (v := 1) hx hb dX5_takesParent_11 (by decide) ?_
      refine lv_goto (tgt := 24) hx hb dX5_takesParent_12 (by decide) ?_
      exact pret hx hb hr hlocks rfl (by unfold takesB; rw [if_pos c_4]; exact bI_of _ decide_eq_true_iff c_8) dX5_takesParent_24

theorem iX5_above_X5 : ∀ w ∈ u_ws RX5 TX5 8, w ∈ wsX5_above := by decide +kernel
theorem fX5_above_1 : Cond.fieldLink RX5 15 "FeatureSolve$Tree" "depths" "[I" ∈ wsX5_above := by decide +kernel
theorem hd_X7_at : yX7_at.cls ≠ "java/lang/invoke/MethodHandle" ∧ yX7_at.cls ≠ "java/lang/invoke/VarHandle" ∧ (parseMethodDescriptor yX7_at.desc).map (fun d => d.parameters.length) = some 2 := by decide +kernel
theorem fX5_above_2 : Cond.initialized RX7 ∈ wsX5_above := by decide +kernel
theorem fX5_above_3 : Cond.static yX7_at ∈ wsX5_above := by decide +kernel
set_option maxHeartbeats 4000000 in
set_option maxRecDepth 100000 in
/-- Tree.above(f) -/
theorem c_X5_above (l : Launch) (G : GG) (h : Nat) (z : Int32) (k1 k2 k3 k4 k5 k6 : Nat) (bd : Int32) (dp : Nat → Int32) (f : Nat) (hf : f < 15) : Met l yX5_above wsX5_above (rmK 1) (va_Pc [.ref h, .int (nI f)] (PS G [(oX5 h z k1 k2 k3 k4 k5 k6 bd), (cI G k2 15 dp)])) (QcRead (dp f)) 0 0 (fun _ => False) := by
  refine Met.ofW (cc := cX5_above) (maxL := 2) (ret := (some .int)) (by decide) rfl ?_
  intro p e s m args below meth c s₁ B hml hv
  obtain ⟨rfl, hP, hKK⟩ := hv
  have hx := B.exec
  have hb := B.bytes
  have hr := B.returns
  have hts := atoms_spec (ws := wsX5_above) B.pre
  have hown : s.vm.findClass RX5 = some m.cls := findClass_of_methodNamed B.named
  have hlocks := B.notSynchronized
  have hK := hKK.1
  have hl := lv_entry ([.ref h, .int (nI f)]) (n := 2) (Nat.le_of_ble_eq_true rfl)
  rw [lg_entry_eq]
  generalize (lg_sl ([.ref h, .int (nI f)]) ++ List.replicate (2 - (lg_sl ([.ref h, .int (nI f)])).length) Slot.unset).toArray = ls at hl ⊢
  have hl : lv_has ls 2 [(0, .ref h), (1, .int (nI f))] := hl
  refine lv_aload_n hx hb dX5_above_0 rfl (lv_at hl 0 rfl) ?_
  refine va_get (D := G.1) (ci := 7) (v := .ref k2) (C := RX5) (T := TX5) (N := 8) hx hb hts iX5_above_X5 hown hK hP 0 rfl rfl 2 (by decide) (hts _ fX5_above_1) (fun _ h9 => h9) rfl dX5_above_1 ?_
  refine lv_iload_n hx hb dX5_above_4 rfl (lv_at hl 1 rfl) ?_
  refine cpN (As := [.ref k2, .int (nI f)]) (rest := []) ⟨hx, hb, hml, hown, hts⟩ (c_X7_atk l G k2 15 dp (nI f) f (rfl) (by omega) (by decide)) ⟨va_cnB (own := RX5) (host := RX7) (index := 42) (y := yX7_at) 2 hts gX5_above_X7_at_n42 rfl rfl rfl (hKK.2.nth 8 (q := (RX5, 42, yX7_at)) rfl) (hts _ fX5_above_2) hd_X7_at ⟨Nat.le_of_ble_eq_true rfl, Nat.le_of_ble_eq_true rfl⟩, (hts _ fX5_above_3), trivial⟩ hKK hP [1] rfl rfl hl.1 rfl (Nat.le_of_ble_eq_true rfl) dX5_above_5 ⟨Nat.zero_le _, Nat.zero_le _⟩ ?_
  exact pret hx hb hr hlocks rfl (rfl) dX5_above_8

theorem iX5_mayBeIn_X5 : ∀ w ∈ u_ws RX5 TX5 8, w ∈ wsX5_mayBeIn := by decide +kernel
theorem fX5_mayBeIn_1 : Cond.fieldLink RX5 18 "FeatureSolve$Tree" "parentBits" "[I" ∈ wsX5_mayBeIn := by decide +kernel
theorem fX5_mayBeIn_2 : Cond.initialized RX7 ∈ wsX5_mayBeIn := by decide +kernel
theorem fX5_mayBeIn_3 : Cond.static yX7_at ∈ wsX5_mayBeIn := by decide +kernel
set_option maxHeartbeats 4000000 in
set_option maxRecDepth 100000 in
/-- Tree.mayBeIn(v, f) -/
theorem c_X5_mayBeIn (l : Launch) (G : GG) (h : Nat) (z : Int32) (k1 k2 k3 k4 k5 k6 : Nat) (bd : Int32) (pb : Nat → Int32) (v : Int32) (f : Nat) (hf : f < 15) : Met l yX5_mayBeIn wsX5_mayBeIn (rmK 1) (va_Pc [.ref h, .int v, .int (nI f)] (PS G [(oX5 h z k1 k2 k3 k4 k5 k6 bd), (cI G k3 15 pb)])) (QcRead (bI (mayInB pb v f))) 0 0 (fun _ => False) := by
  refine Met.ofW (cc := cX5_mayBeIn) (maxL := 3) (ret := (some .boolean)) (by decide) rfl ?_
  intro p e s m args below meth c s₁ B hml hv
  obtain ⟨rfl, hP, hKK⟩ := hv
  have hx := B.exec
  have hb := B.bytes
  have hr := B.returns
  have hts := atoms_spec (ws := wsX5_mayBeIn) B.pre
  have hown : s.vm.findClass RX5 = some m.cls := findClass_of_methodNamed B.named
  have hlocks := B.notSynchronized
  have hK := hKK.1
  have hl := lv_entry ([.ref h, .int v, .int (nI f)]) (n := 3) (Nat.le_of_ble_eq_true rfl)
  rw [lg_entry_eq]
  generalize (lg_sl ([.ref h, .int v, .int (nI f)]) ++ List.replicate (3 - (lg_sl ([.ref h, .int v, .int (nI f)])).length) Slot.unset).toArray = ls at hl ⊢
  have hl : lv_has ls 3 [(0, .ref h), (1, .int v), (2, .int (nI f))] := hl
  refine lv_iload_n hx hb dX5_mayBeIn_0 rfl (lv_at hl 2 rfl) ?_
  refine lv_iconst (v := 1) hx hb dX5_mayBeIn_1 (by decide) ?_
  refine lv_icmp_eq (tgt := 18) hx hb dX5_mayBeIn_2 (by decide) (fun c_2 => ?_) (fun c_2 => ?_)
  · skip
    refine lv_iconst (v := 1) hx hb dX5_mayBeIn_18 (by decide) ?_
    refine lv_goto (tgt := 23) hx hb dX5_mayBeIn_19 (by decide) ?_
    exact pret hx hb hr hlocks rfl (by unfold mayInB; rw [if_pos ((nI_eq1 (by omega)).mp c_2)]; rfl) dX5_mayBeIn_23
  · skip
    refine lv_iload_n hx hb dX5_mayBeIn_5 rfl (lv_at hl 1 rfl) ?_
    refine lv_aload_n hx hb dX5_mayBeIn_6 rfl (lv_at hl 0 rfl) ?_
    refine va_get (D := G.1) (ci := 7) (v := .ref k3) (C := RX5) (T := TX5) (N := 8) hx hb hts iX5_mayBeIn_X5 hown hK hP 0 rfl rfl 3 (by decide) (hts _ fX5_mayBeIn_1) (fun _ h9 => h9) rfl dX5_mayBeIn_7 ?_
    refine lv_iload_n hx hb dX5_mayBeIn_10 rfl (lv_at hl 2 rfl) ?_
    refine cpN (As := [.ref k3, .int (nI f)]) (rest := [.int v]) ⟨hx, hb, hml, hown, hts⟩ (c_X7_atk l G k3 15 pb (nI f) f (rfl) (by omega) (by decide)) ⟨va_cnB (own := RX5) (host := RX7) (index := 42) (y := yX7_at) 2 hts gX5_mayBeIn_X7_at_n42 rfl rfl rfl (hKK.2.nth 8 (q := (RX5, 42, yX7_at)) rfl) (hts _ fX5_mayBeIn_2) hd_X7_at ⟨Nat.le_of_ble_eq_true rfl, Nat.le_of_ble_eq_true rfl⟩, (hts _ fX5_mayBeIn_3), trivial⟩ hKK hP [1] rfl rfl hl.1 rfl (Nat.le_of_ble_eq_true rfl) dX5_mayBeIn_11 ⟨Nat.zero_le _, Nat.zero_le _⟩ ?_
    refine lv_iand hx hb dX5_mayBeIn_14 ?_
    refine lv_if_eq (tgt := 22) hx hb dX5_mayBeIn_15 (by decide) (fun c_15 => ?_) (fun c_15 => ?_)
    · skip
      refine lv_iconst (v := 0) hx hb dX5_mayBeIn_22 (by decide) ?_
      exact pret hx hb hr hlocks rfl (by unfold mayInB; rw [if_neg (mt (nI_eq1 (by omega)).mpr c_2)]; exact bI_no _ decide_eq_true_iff (fun h => h c_15)) dX5_mayBeIn_23
    · skip
      refine lv_iconst (v := 1) hx hb dX5_mayBeIn_18 (by decide) ?_
      refine lv_goto (tgt := 23) hx hb dX5_mayBeIn_19 (by decide) ?_
      exact pret hx hb hr hlocks rfl (by unfold mayInB; rw [if_neg (mt (nI_eq1 (by omega)).mpr c_2)]; exact bI_of _ decide_eq_true_iff c_15) dX5_mayBeIn_23

theorem iX5_mayBeOut_X5 : ∀ w ∈ u_ws RX5 TX5 8, w ∈ wsX5_mayBeOut := by decide +kernel
theorem fX5_mayBeOut_1 : Cond.fieldLink RX5 9 "FeatureSolve$Tree" "kinds" "[I" ∈ wsX5_mayBeOut := by decide +kernel
theorem fX5_mayBeOut_2 : Cond.initialized RX7 ∈ wsX5_mayBeOut := by decide +kernel
theorem fX5_mayBeOut_3 : Cond.static yX7_at ∈ wsX5_mayBeOut := by decide +kernel
theorem fX5_mayBeOut_4 : Cond.fieldLink RX5 18 "FeatureSolve$Tree" "parentBits" "[I" ∈ wsX5_mayBeOut := by decide +kernel
set_option maxHeartbeats 4000000 in
set_option maxRecDepth 100000 in
/-- Tree.mayBeOut(v, f) -/
theorem c_X5_mayBeOut (l : Launch) (G : GG) (h : Nat) (z : Int32) (k1 k2 k3 k4 k5 k6 : Nat) (bd : Int32) (kd pb : Nat → Int32) (v : Int32) (f : Nat) (hf : f < 15) : Met l yX5_mayBeOut wsX5_mayBeOut (rmK 1) (va_Pc [.ref h, .int v, .int (nI f)] (PS G [(oX5 h z k1 k2 k3 k4 k5 k6 bd), (cI G k1 15 kd), (cI G k3 15 pb)])) (QcRead (bI (mayOutB kd pb v f))) 0 0 (fun _ => False) := by
  refine Met.ofW (cc := cX5_mayBeOut) (maxL := 3) (ret := (some .boolean)) (by decide) rfl ?_
  intro p e s m args below meth c s₁ B hml hv
  obtain ⟨rfl, hP, hKK⟩ := hv
  have hx := B.exec
  have hb := B.bytes
  have hr := B.returns
  have hts := atoms_spec (ws := wsX5_mayBeOut) B.pre
  have hown : s.vm.findClass RX5 = some m.cls := findClass_of_methodNamed B.named
  have hlocks := B.notSynchronized
  have hK := hKK.1
  have hl := lv_entry ([.ref h, .int v, .int (nI f)]) (n := 3) (Nat.le_of_ble_eq_true rfl)
  rw [lg_entry_eq]
  generalize (lg_sl ([.ref h, .int v, .int (nI f)]) ++ List.replicate (3 - (lg_sl ([.ref h, .int v, .int (nI f)])).length) Slot.unset).toArray = ls at hl ⊢
  have hl : lv_has ls 3 [(0, .ref h), (1, .int v), (2, .int (nI f))] := hl
  refine lv_iload_n hx hb dX5_mayBeOut_0 rfl (lv_at hl 2 rfl) ?_
  refine lv_iconst (v := 1) hx hb dX5_mayBeOut_1 (by decide) ?_
  refine lv_icmp_ne (tgt := 7) hx hb dX5_mayBeOut_2 (by decide) (fun c_2 => ?_) (fun c_2 => ?_)
  · skip
    refine lv_aload_n hx hb dX5_mayBeOut_7 rfl (lv_at hl 0 rfl) ?_
    refine va_get (D := G.1) (ci := 7) (v := .ref k1) (C := RX5) (T := TX5) (N := 8) hx hb hts iX5_mayBeOut_X5 hown hK hP 0 rfl rfl 1 (by decide) (hts _ fX5_mayBeOut_1) (fun _ h9 => h9) rfl dX5_mayBeOut_8 ?_
    refine lv_iload_n hx hb dX5_mayBeOut_11 rfl (lv_at hl 2 rfl) ?_
    refine cpN (As := [.ref k1, .int (nI f)]) (rest := []) ⟨hx, hb, hml, hown, hts⟩ (c_X7_atk l G k1 15 kd (nI f) f (rfl) (by omega) (by decide)) ⟨va_cnB (own := RX5) (host := RX7) (index := 42) (y := yX7_at) 2 hts gX5_mayBeOut_X7_at_n42 rfl rfl rfl (hKK.2.nth 8 (q := (RX5, 42, yX7_at)) rfl) (hts _ fX5_mayBeOut_2) hd_X7_at ⟨Nat.le_of_ble_eq_true rfl, Nat.le_of_ble_eq_true rfl⟩, (hts _ fX5_mayBeOut_3), trivial⟩ hKK hP [1] rfl rfl hl.1 rfl (Nat.le_of_ble_eq_true rfl) dX5_mayBeOut_12 ⟨Nat.zero_le _, Nat.zero_le _⟩ ?_
    refine lv_if_ne (tgt := 31) hx hb dX5_mayBeOut_15 (by decide) (fun c_15 => ?_) (fun c_15 => ?_)
    · skip
      refine lv_iconst (v := 1) hx hb dX5_mayBeOut_31 (by decide) ?_
      refine lv_goto (tgt := 36) hx hb dX5_mayBeOut_32 (by decide) ?_
      exact pret hx hb hr hlocks rfl (by unfold mayOutB; rw [if_neg (mt (nI_eq1 (by omega)).mpr c_2), if_pos c_15]; rfl) dX5_mayBeOut_36
    · skip
      refine lv_iload_n hx hb dX5_mayBeOut_18 rfl (lv_at hl 1 rfl) ?_
      refine lv_aload_n hx hb dX5_mayBeOut_19 rfl (lv_at hl 0 rfl) ?_
      refine va_get (D := G.1) (ci := 7) (v := .ref k3) (C := RX5) (T := TX5) (N := 8) hx hb hts iX5_mayBeOut_X5 hown hK hP 0 rfl rfl 3 (by decide) (hts _ fX5_mayBeOut_4) (fun _ h9 => h9) rfl dX5_mayBeOut_20 ?_
      refine lv_iload_n hx hb dX5_mayBeOut_23 rfl (lv_at hl 2 rfl) ?_
      refine cpN (As := [.ref k3, .int (nI f)]) (rest := [.int v]) ⟨hx, hb, hml, hown, hts⟩ (c_X7_atk l G k3 15 pb (nI f) f (rfl) (by omega) (by decide)) ⟨va_cnB (own := RX5) (host := RX7) (index := 42) (y := yX7_at) 2 hts gX5_mayBeOut_X7_at_n42 rfl rfl rfl (hKK.2.nth 8 (q := (RX5, 42, yX7_at)) rfl) (hts _ fX5_mayBeOut_2) hd_X7_at ⟨Nat.le_of_ble_eq_true rfl, Nat.le_of_ble_eq_true rfl⟩, (hts _ fX5_mayBeOut_3), trivial⟩ hKK hP [2] rfl rfl hl.1 rfl (Nat.le_of_ble_eq_true rfl) dX5_mayBeOut_24 ⟨Nat.zero_le _, Nat.zero_le _⟩ ?_
      refine lv_iand hx hb dX5_mayBeOut_27 ?_
      refine lv_if_ne (tgt := 35) hx hb dX5_mayBeOut_28 (by decide) (fun c_28 => ?_) (fun c_28 => ?_)
      · skip
        refine lv_iconst (v := 0) hx hb dX5_mayBeOut_35 (by decide) ?_
        exact pret hx hb hr hlocks rfl (by unfold mayOutB; rw [if_neg (mt (nI_eq1 (by omega)).mpr c_2), if_neg (fun h => h c_15)]; exact bI_no _ decide_eq_true_iff c_28) dX5_mayBeOut_36
      · skip
        refine lv_iconst (v := 1) hx hb dX5_mayBeOut_31 (by decide) ?_
        refine lv_goto (tgt := 36) hx hb dX5_mayBeOut_32 (by decide) ?_
        exact pret hx hb hr hlocks rfl (by unfold mayOutB; rw [if_neg (mt (nI_eq1 (by omega)).mpr c_2), if_neg (fun h => h c_15)]; exact bI_of _ decide_eq_true_iff c_28) dX5_mayBeOut_36
  · skip
    refine lv_iconst (v := 0) hx hb dX5_mayBeOut_5 (by decide) ?_
    exact pret hx hb hr hlocks rfl (by unfold mayOutB; rw [if_pos ((nI_eq1 (by omega)).mp c_2)]; rfl) dX5_mayBeOut_6

set_option maxHeartbeats 4000000 in
set_option maxRecDepth 100000 in
/-- Variants.fits -/
theorem c_X6_fits (l : Launch) (G : GG) (v mu mn : Int32) : Met l yX6_fits wsX6_fits (rmK 0) (va_Pc [.int v, .int mu, .int mn] (PS G [])) (QcRead (bI (fitsB v mu mn))) 0 0 (fun _ => False) := by
  refine Met.ofW (cc := cX6_fits) (maxL := 3) (ret := (some .boolean)) (by decide) rfl ?_
  intro p e s m args below meth c s₁ B hml hv
  obtain ⟨rfl, hP, hKK⟩ := hv
  have hx := B.exec
  have hb := B.bytes
  have hr := B.returns
  have hts := atoms_spec (ws := wsX6_fits) B.pre
  have hown : s.vm.findClass RX6 = some m.cls := findClass_of_methodNamed B.named
  have hlocks := B.notSynchronized
  have hK := hKK.1
  have hl := lv_entry ([.int v, .int mu, .int mn]) (n := 3) (Nat.le_of_ble_eq_true rfl)
  rw [lg_entry_eq]
  generalize (lg_sl ([.int v, .int mu, .int mn]) ++ List.replicate (3 - (lg_sl ([.int v, .int mu, .int mn])).length) Slot.unset).toArray = ls at hl ⊢
  have hl : lv_has ls 3 [(0, .int v), (1, .int mu), (2, .int mn)] := hl
  refine lv_iload_n hx hb dX6_fits_0 rfl (lv_at hl 0 rfl) ?_
  refine lv_iload_n hx hb dX6_fits_1 rfl (lv_at hl 1 rfl) ?_
  refine lv_iand hx hb dX6_fits_2 ?_
  refine lv_iload_n hx hb dX6_fits_3 rfl (lv_at hl 1 rfl) ?_
  refine lv_icmp_ne (tgt := 17) hx hb dX6_fits_4 (by decide) (fun c_4 => ?_) (fun c_4 => ?_)
  · skip
    refine lv_iconst (v := 0) hx hb dX6_fits_17 (by decide) ?_
    exact pret hx hb hr hlocks rfl (bI_no _ decide_eq_true_iff (fun h => c_4 h.1)) dX6_fits_18
  · skip
    refine lv_iload_n hx hb dX6_fits_7 rfl (lv_at hl 0 rfl) ?_
    refine lv_iload_n hx hb dX6_fits_8 rfl (lv_at hl 2 rfl) ?_
    refine lv_iand hx hb dX6_fits_9 ?_
    refine lv_if_ne (tgt := 17) hx hb dX6_fits_10 (by decide) (fun c_10 => ?_) (fun c_10 => ?_)
    · skip
      refine lv_iconst (v := 0) hx hb dX6_fits_17 (by decide) ?_
      exact pret hx hb hr hlocks rfl (bI_no _ decide_eq_true_iff (fun h => c_10 h.2)) dX6_fits_18
    · skip
      refine lv_iconst (v := 1) hx hb dX6_fits_13 (by decide) ?_
      refine lv_goto (tgt := 18) hx hb dX6_fits_14 (by decide) ?_
      exact pret hx hb hr hlocks rfl (bI_of _ decide_eq_true_iff ⟨c_4, c_10⟩) dX6_fits_18

theorem iX2_has_X2 : ∀ w ∈ u_ws RX2 TX2 3, w ∈ wsX2_has := by decide +kernel
theorem fX2_has_1 : Cond.fieldLink RX2 19 "FeatureSolve$Found" "size" "I" ∈ wsX2_has := by decide +kernel
set_option maxHeartbeats 4000000 in
set_option maxRecDepth 100000 in
/-- Found.has(x) -/
theorem c_X2_has (l : Launch) (G : GG) (h : Nat) (la z : Int32) (k1 : Nat) (x : Int32) : Met l yX2_has wsX2_has (rmK 0) (va_Pc [.ref h, .int x] (PS G [(oX2 h la z k1)])) (QcRead (bI (hasB z x))) 0 0 (fun _ => False) := by
  refine Met.ofW (cc := cX2_has) (maxL := 2) (ret := (some .boolean)) (by decide) rfl ?_
  intro p e s m args below meth c s₁ B hml hv
  obtain ⟨rfl, hP, hKK⟩ := hv
  have hx := B.exec
  have hb := B.bytes
  have hr := B.returns
  have hts := atoms_spec (ws := wsX2_has) B.pre
  have hown : s.vm.findClass RX2 = some m.cls := findClass_of_methodNamed B.named
  have hlocks := B.notSynchronized
  have hK := hKK.1
  have hl := lv_entry ([.ref h, .int x]) (n := 2) (Nat.le_of_ble_eq_true rfl)
  rw [lg_entry_eq]
  generalize (lg_sl ([.ref h, .int x]) ++ List.replicate (2 - (lg_sl ([.ref h, .int x])).length) Slot.unset).toArray = ls at hl ⊢
  have hl : lv_has ls 2 [(0, .ref h), (1, .int x)] := hl
  refine lv_iload_n hx hb dX2_has_0 rfl (lv_at hl 1 rfl) ?_
  refine lv_iconst (v := 1) hx hb dX2_has_1 (by decide) ?_
  refine lv_icmp_lt (tgt := 17) hx hb dX2_has_2 (by decide) (fun c_2 => ?_) (fun c_2 => ?_)
  · skip
    refine lv_iconst (v := 0) hx hb dX2_has_17 (by decide) ?_
    exact pret hx hb hr hlocks rfl (bI_no _ hasB_iff (fun h => i_lt1.mp c_2 h.1)) dX2_has_18
  · skip
    refine lv_iload_n hx hb dX2_has_5 rfl (lv_at hl 1 rfl) ?_
    refine lv_aload_n hx hb dX2_has_6 rfl (lv_at hl 0 rfl) ?_
    refine va_get (D := G.1) (ci := 4) (v := .int z) (C := RX2) (T := TX2) (N := 3) hx hb hts iX2_has_X2 hown hK hP 0 rfl rfl 1 (by decide) (hts _ fX2_has_1) (fun _ h9 => h9) rfl dX2_has_7 ?_
    refine lv_icmp_gt (tgt := 17) hx hb dX2_has_10 (by decide) (fun c_10 => ?_) (fun c_10 => ?_)
    · skip
      refine lv_iconst (v := 0) hx hb dX2_has_17 (by decide) ?_
      exact pret hx hb hr hlocks rfl (bI_no _ hasB_iff (fun h => i_nlt.mpr h.2 c_10)) dX2_has_18
    · skip
      refine lv_iconst (v := 1) hx hb dX2_has_13 (by decide) ?_
      refine lv_goto (tgt := 18) hx hb dX2_has_14 (by decide) ?_
      exact pret hx hb hr hlocks rfl (bI_of _ hasB_iff ⟨i_nlt.mp c_2, i_nlt.mp c_10⟩) dX2_has_18

theorem iX2_get_X2 : ∀ w ∈ u_ws RX2 TX2 3, w ∈ wsX2_get := by decide +kernel
theorem fX2_get_1 : Cond.fieldLink RX2 9 "FeatureSolve$Found" "kept" "[I" ∈ wsX2_get := by decide +kernel
theorem fX2_get_2 : Cond.initialized RX7 ∈ wsX2_get := by decide +kernel
theorem fX2_get_3 : Cond.static yX7_at ∈ wsX2_get := by decide +kernel
set_option maxHeartbeats 4000000 in
set_option maxRecDepth 100000 in
/-- Found.get(f + 1) -/
theorem c_X2_get (l : Launch) (G : GG) (h : Nat) (la z : Int32) (k1 : Nat) (kp : Nat → Int32) (x : Int32) (f : Nat) (hx0 : x = nI (f + 1)) (hf : f < 200) : Met l yX2_get wsX2_get (rmK 1) (va_Pc [.ref h, .int x] (PS G [(oX2 h la z k1), (cI G k1 200 kp)])) (QcRead (kp f)) 0 0 (fun _ => False) := by
  refine Met.ofW (cc := cX2_get) (maxL := 2) (ret := (some .int)) (by decide) rfl ?_
  intro p e s m args below meth c s₁ B hml hv
  obtain ⟨rfl, hP, hKK⟩ := hv
  have hx := B.exec
  have hb := B.bytes
  have hr := B.returns
  have hts := atoms_spec (ws := wsX2_get) B.pre
  have hown : s.vm.findClass RX2 = some m.cls := findClass_of_methodNamed B.named
  have hlocks := B.notSynchronized
  have hK := hKK.1
  have hl := lv_entry ([.ref h, .int x]) (n := 2) (Nat.le_of_ble_eq_true rfl)
  rw [lg_entry_eq]
  generalize (lg_sl ([.ref h, .int x]) ++ List.replicate (2 - (lg_sl ([.ref h, .int x])).length) Slot.unset).toArray = ls at hl ⊢
  have hl : lv_has ls 2 [(0, .ref h), (1, .int x)] := hl
  refine lv_aload_n hx hb dX2_get_0 rfl (lv_at hl 0 rfl) ?_
  refine va_get (D := G.1) (ci := 4) (v := .ref k1) (C := RX2) (T := TX2) (N := 3) hx hb hts iX2_get_X2 hown hK hP 0 rfl rfl 2 (by decide) (hts _ fX2_get_1) (fun _ h9 => h9) rfl dX2_get_1 ?_
  refine lv_iload_n hx hb dX2_get_4 rfl (lv_at hl 1 rfl) ?_
  refine lv_iconst (v := 1) hx hb dX2_get_5 (by decide) ?_
  refine lv_isub hx hb dX2_get_6 ?_
  refine cpN (As := [.ref k1, .int (x - 1)]) (rest := []) ⟨hx, hb, hml, hown, hts⟩ (c_X7_atk l G k1 200 kp (x - 1) f (by rw [hx0]; exact nI_pred f) (by omega) (by decide)) ⟨va_cnB (own := RX2) (host := RX7) (index := 26) (y := yX7_at) 2 hts gX2_get_X7_at_n26 rfl rfl rfl (hKK.2.nth 25 (q := (RX2, 26, yX7_at)) rfl) (hts _ fX2_get_2) hd_X7_at ⟨Nat.le_of_ble_eq_true rfl, Nat.le_of_ble_eq_true rfl⟩, (hts _ fX2_get_3), trivial⟩ hKK hP [1] rfl rfl hl.1 rfl (Nat.le_of_ble_eq_true rfl) dX2_get_7 ⟨Nat.zero_le _, Nat.zero_le _⟩ ?_
  exact pret hx hb hr hlocks rfl (rfl) dX2_get_10

theorem iX3_get_X3 : ∀ w ∈ u_ws RX3 TX3 2, w ∈ wsX3_get := by decide +kernel
theorem fX3_get_1 : Cond.fieldLink RX3 15 "FeatureSolve$Reason" "size" "I" ∈ wsX3_get := by decide +kernel
theorem fX3_get_2 : Cond.fieldLink RX3 9 "FeatureSolve$Reason" "left" "[I" ∈ wsX3_get := by decide +kernel
theorem fX3_get_3 : Cond.initialized RX7 ∈ wsX3_get := by decide +kernel
theorem fX3_get_4 : Cond.static yX7_at ∈ wsX3_get := by decide +kernel
set_option maxHeartbeats 4000000 in
set_option maxRecDepth 100000 in
/-- Reason.get(x) -/
theorem c_X3_get (l : Launch) (G : GG) (h : Nat) (z : Int32) (k1 : Nat) (lf : Nat → Int32) (x : Int32) (q : Nat) (hz : z = nI q) (hq : q ≤ 14) : Met l yX3_get wsX3_get (rmK 1) (va_Pc [.ref h, .int x] (PS G [(oX3 h z k1), (cI G k1 14 lf)])) (QcRead (if x < 0 then 0 else if z ≤ x then 0 else lf x.toNatClampNeg)) 0 0 (fun _ => False) := by
  refine Met.ofW (cc := cX3_get) (maxL := 2) (ret := (some .int)) (by decide) rfl ?_
  intro p e s m args below meth c s₁ B hml hv
  obtain ⟨rfl, hP, hKK⟩ := hv
  have hx := B.exec
  have hb := B.bytes
  have hr := B.returns
  have hts := atoms_spec (ws := wsX3_get) B.pre
  have hown : s.vm.findClass RX3 = some m.cls := findClass_of_methodNamed B.named
  have hlocks := B.notSynchronized
  have hK := hKK.1
  have hl := lv_entry ([.ref h, .int x]) (n := 2) (Nat.le_of_ble_eq_true rfl)
  rw [lg_entry_eq]
  generalize (lg_sl ([.ref h, .int x]) ++ List.replicate (2 - (lg_sl ([.ref h, .int x])).length) Slot.unset).toArray = ls at hl ⊢
  have hl : lv_has ls 2 [(0, .ref h), (1, .int x)] := hl
  refine lv_iload_n hx hb dX3_get_0 rfl (lv_at hl 1 rfl) ?_
  refine lv_if_lt (tgt := 23) hx hb dX3_get_1 (by decide) (fun c_1 => ?_) (fun c_1 => ?_)
  · skip
    refine lv_iconst (v := 0) hx hb dX3_get_23 (by decide) ?_
    exact pret hx hb hr hlocks rfl (by rw [if_pos c_1]) dX3_get_24
  · skip
    refine lv_iload_n hx hb dX3_get_4 rfl (lv_at hl 1 rfl) ?_
    refine lv_aload_n hx hb dX3_get_5 rfl (lv_at hl 0 rfl) ?_
    refine va_get (D := G.1) (ci := 5) (v := .int z) (C := RX3) (T := TX3) (N := 2) hx hb hts iX3_get_X3 hown hK hP 0 rfl rfl 0 (by decide) (hts _ fX3_get_1) (fun _ h9 => h9) rfl dX3_get_6 ?_
    refine lv_icmp_ge (tgt := 23) hx hb dX3_get_9 (by decide) (fun c_9 => ?_) (fun c_9 => ?_)
    · skip
      refine lv_iconst (v := 0) hx hb dX3_get_23 (by decide) ?_
      exact pret hx hb hr hlocks rfl (by rw [if_neg c_1, if_pos c_9]) dX3_get_24
    · skip
      refine lv_aload_n hx hb dX3_get_12 rfl (lv_at hl 0 rfl) ?_
      refine va_get (D := G.1) (ci := 5) (v := .ref k1) (C := RX3) (T := TX3) (N := 2) hx hb hts iX3_get_X3 hown hK hP 0 rfl rfl 1 (by decide) (hts _ fX3_get_2) (fun _ h9 => h9) rfl dX3_get_13 ?_
      refine lv_iload_n hx hb dX3_get_16 rfl (lv_at hl 1 rfl) ?_
      obtain ⟨j, hj, hxj⟩ := nI_of c_1
      have hjq : j < q := by
        rcases Nat.lt_or_ge j q with a | a
        · exact a
        · exact absurd (by rw [hz, hxj]; exact nI_le a hj) c_9
      refine cpN (As := [.ref k1, .int x]) (rest := []) ⟨hx, hb, hml, hown, hts⟩ (c_X7_atk l G k1 14 lf x j (hxj) (by omega) (by decide)) ⟨va_cnB (own := RX3) (host := RX7) (index := 23) (y := yX7_at) 2 hts gX3_get_X7_at_n23 rfl rfl rfl (hKK.2.nth 24 (q := (RX3, 23, yX7_at)) rfl) (hts _ fX3_get_3) hd_X7_at ⟨Nat.le_of_ble_eq_true rfl, Nat.le_of_ble_eq_true rfl⟩, (hts _ fX3_get_4), trivial⟩ hKK hP [1] rfl rfl hl.1 rfl (Nat.le_of_ble_eq_true rfl) dX3_get_17 ⟨Nat.zero_le _, Nat.zero_le _⟩ ?_
      refine lv_goto (tgt := 24) hx hb dX3_get_20 (by decide) ?_
      exact pret hx hb hr hlocks rfl (by rw [if_neg c_1, if_neg c_9, hxj, nI_clamp hj]) dX3_get_24

theorem iX0_get_X0 : ∀ w ∈ u_ws RX0 TX0 4, w ∈ wsX0_get := by decide +kernel
theorem fX0_get_1 : Cond.fieldLink RX0 9 "FeatureSolve$Choices" "told" "[I" ∈ wsX0_get := by decide +kernel
theorem fX0_get_2 : Cond.initialized RX7 ∈ wsX0_get := by decide +kernel
theorem fX0_get_3 : Cond.static yX7_at ∈ wsX0_get := by decide +kernel
set_option maxHeartbeats 4000000 in
set_option maxRecDepth 100000 in
/-- Choices.get(f) -/
theorem c_X0_get (l : Launch) (G : GG) (h : Nat) (z mu mn : Int32) (k1 : Nat) (td : Nat → Int32) (f : Nat) (hf : f < 14) : Met l yX0_get wsX0_get (rmK 1) (va_Pc [.ref h, .int (nI f)] (PS G [(oX0 h z mu mn k1), (cI G k1 14 td)])) (QcRead (td f)) 0 0 (fun _ => False) := by
  refine Met.ofW (cc := cX0_get) (maxL := 2) (ret := (some .int)) (by decide) rfl ?_
  intro p e s m args below meth c s₁ B hml hv
  obtain ⟨rfl, hP, hKK⟩ := hv
  have hx := B.exec
  have hb := B.bytes
  have hr := B.returns
  have hts := atoms_spec (ws := wsX0_get) B.pre
  have hown : s.vm.findClass RX0 = some m.cls := findClass_of_methodNamed B.named
  have hlocks := B.notSynchronized
  have hK := hKK.1
  have hl := lv_entry ([.ref h, .int (nI f)]) (n := 2) (Nat.le_of_ble_eq_true rfl)
  rw [lg_entry_eq]
  generalize (lg_sl ([.ref h, .int (nI f)]) ++ List.replicate (2 - (lg_sl ([.ref h, .int (nI f)])).length) Slot.unset).toArray = ls at hl ⊢
  have hl : lv_has ls 2 [(0, .ref h), (1, .int (nI f))] := hl
  refine lv_aload_n hx hb dX0_get_0 rfl (lv_at hl 0 rfl) ?_
  refine va_get (D := G.1) (ci := 2) (v := .ref k1) (C := RX0) (T := TX0) (N := 4) hx hb hts iX0_get_X0 hown hK hP 0 rfl rfl 3 (by decide) (hts _ fX0_get_1) (fun _ h9 => h9) rfl dX0_get_1 ?_
  refine lv_iload_n hx hb dX0_get_4 rfl (lv_at hl 1 rfl) ?_
  refine cpN (As := [.ref k1, .int (nI f)]) (rest := []) ⟨hx, hb, hml, hown, hts⟩ (c_X7_atk l G k1 14 td (nI f) f (rfl) (by omega) (by decide)) ⟨va_cnB (own := RX0) (host := RX7) (index := 15) (y := yX7_at) 2 hts gX0_get_X7_at_n15 rfl rfl rfl (hKK.2.nth 13 (q := (RX0, 15, yX7_at)) rfl) (hts _ fX0_get_2) hd_X7_at ⟨Nat.le_of_ble_eq_true rfl, Nat.le_of_ble_eq_true rfl⟩, (hts _ fX0_get_3), trivial⟩ hKK hP [1] rfl rfl hl.1 rfl (Nat.le_of_ble_eq_true rfl) dX0_get_5 ⟨Nat.zero_le _, Nat.zero_le _⟩ ?_
  exact pret hx hb hr hlocks rfl (rfl) dX0_get_8
end
section
/-! sums, counts, all-of; rows that hold lists -/
def allZ (P : Nat → Bool) : Nat → Bool
  | 0 => true
  | k + 1 => allZ P k && P k
def allU (P : Nat → Bool) : Nat → Bool
  | 0 => true
  | k + 1 => allU P k && P (k + 1)
def sumT (g : Nat → Int32) : Nat → Int32
  | 0 => 0
  | k + 1 => sumT g k + g (k + 1)
theorem allZ_no {P : Nat → Bool} {k : Nat} (h : P k = false) : ∀ N, k < N → allZ P N = false
  | 0, hk => absurd hk (Nat.not_lt_zero _)
  | N + 1, hk => by
    show (allZ P N && P N) = false
    rcases Nat.lt_or_ge k N with q | q
    · rw [allZ_no h N q]; rfl
    · have : k = N := by omega
      subst this
      rw [h, Bool.and_false]
theorem allU_no {P : Nat → Bool} {k : Nat} (h : P (k + 1) = false) : ∀ N, k < N → allU P N = false
  | 0, hk => absurd hk (Nat.not_lt_zero _)
  | N + 1, hk => by
    show (allU P N && P (N + 1)) = false
    rcases Nat.lt_or_ge k N with q | q
    · rw [allU_no h N q]; rfl
    · have : k = N := by omega
      subst this
      rw [h, Bool.and_false]
theorem allZ_s {P : Nat → Bool} {k : Nat} (h : allZ P k = true) (h2 : P k = true) : allZ P (k + 1) = true := by
  show (allZ P k && P k) = true
  rw [h, h2]; rfl
theorem allU_s {P : Nat → Bool} {k : Nat} (h : allU P k = true) (h2 : P (k + 1) = true) : allU P (k + 1) = true := by
  show (allU P k && P (k + 1)) = true
  rw [h, h2]; rfl
theorem allZ_iff {P : Nat → Bool} : ∀ {N : Nat}, allZ P N = true ↔ ∀ k, k < N → P k = true
  | 0 => ⟨fun _ k h => absurd h (Nat.not_lt_zero _), fun _ => rfl⟩
  | N + 1 => by
    show (allZ P N && P N) = true ↔ _
    rw [Bool.and_eq_true, allZ_iff]
    constructor
    · rintro ⟨h1, h2⟩ k hk
      rcases Nat.lt_or_ge k N with q | q
      · exact h1 k q
      · rw [show k = N by omega]; exact h2
    · exact fun h => ⟨fun k hk => h k (by omega), h N (by omega)⟩
theorem allU_iff {P : Nat → Bool} : ∀ {N : Nat}, allU P N = true ↔ ∀ k, 1 ≤ k → k ≤ N → P k = true
  | 0 => ⟨fun _ k h h2 => absurd h (by omega), fun _ => rfl⟩
  | N + 1 => by
    show (allU P N && P (N + 1)) = true ↔ _
    rw [Bool.and_eq_true, allU_iff]
    constructor
    · rintro ⟨h1, h2⟩ k hk hk2
      rcases Nat.lt_or_ge k (N + 1) with q | q
      · exact h1 k hk (by omega)
      · rw [show k = N + 1 by omega]; exact h2
    · exact fun h => ⟨fun k h1 h2 => h k h1 (by omega), h (N + 1) (by omega) (by omega)⟩
/-- a row's first places hold a list -/
def rowIs (f : Nat → Int32) (L : List Int32) : Prop := ∀ k, k < L.length → f k = L.getD k 0
theorem getD_take {L : List Int32} {j k : Nat} (h : k < j) : (L.take j).getD k 0 = L.getD k 0 := by
  simp [List.getD, List.getElem?_take, h]
theorem take_s {L : List Int32} {j : Nat} (h : j < L.length) : L.take (j + 1) = L.take j ++ [L.getD j 0] := by
  rw [List.take_add_one, List.getElem?_eq_getElem h, List.getD_eq_getElem?_getD, List.getElem?_eq_getElem h]
  rfl
theorem getD_app1 {A B : List Int32} {k : Nat} (h : k < A.length) : (A ++ B).getD k 0 = A.getD k 0 := by
  simp [List.getD, List.getElem?_append_left h]
theorem getD_app2 {A B : List Int32} {k : Nat} (h : A.length ≤ k) : (A ++ B).getD k 0 = B.getD (k - A.length) 0 := by
  simp [List.getD, List.getElem?_append_right h]
theorem fl_t {P : Int32 → Bool} {v : Int32} (h : P v = true) : [v].filter P = [v] := by simp [h]
theorem fl_f {P : Int32 → Bool} {v : Int32} (h : P v = false) : [v].filter P = [] := by simp [h]
/-- a row is made smaller in place: j places are read, what is kept stands at its head -/
def cmpI (L : List Int32) (P : Int32 → Bool) (j : Nat) (f : Nat → Int32) : Prop := j ≤ L.length ∧ rowIs f ((L.take j).filter P) ∧ ∀ k, j ≤ k → k < L.length → f k = L.getD k 0
def cmpN (L : List Int32) (P : Int32 → Bool) (j : Nat) : Nat := ((L.take j).filter P).length
theorem cmpN_le (L : List Int32) (P : Int32 → Bool) (j : Nat) : cmpN L P j ≤ j := by
  have h := List.length_filter_le P (L.take j)
  have h2 := List.length_take_le j L
  unfold cmpN
  omega
theorem cmpI_0 {L : List Int32} {P : Int32 → Bool} {f : Nat → Int32} (h : rowIs f L) : cmpI L P 0 f := ⟨Nat.zero_le _, fun k hk => absurd hk (by simp), fun k _ h2 => h k h2⟩
theorem cmpN_0 (L : List Int32) (P : Int32 → Bool) : cmpN L P 0 = 0 := by simp [cmpN]
theorem cmpI_read {L : List Int32} {P : Int32 → Bool} {j : Nat} {f : Nat → Int32} (h : cmpI L P j f) (hj : j < L.length) : f j = L.getD j 0 := h.2.2 j (Nat.le_refl _) hj
theorem cmpN_keep {L : List Int32} {P : Int32 → Bool} {j : Nat} (hj : j < L.length) (hp : P (L.getD j 0) = true) : cmpN L P (j + 1) = cmpN L P j + 1 := by
  unfold cmpN
  rw [take_s hj, List.filter_append, fl_t hp, List.length_append]
  rfl
theorem cmpN_drop {L : List Int32} {P : Int32 → Bool} {j : Nat} (hj : j < L.length) (hp : P (L.getD j 0) = false) : cmpN L P (j + 1) = cmpN L P j := by
  unfold cmpN
  rw [take_s hj, List.filter_append, fl_f hp, List.append_nil]
theorem cmpI_keep {L : List Int32} {P : Int32 → Bool} {j : Nat} {f : Nat → Int32} (h : cmpI L P j f) (hj : j < L.length) (hp : P (L.getD j 0) = true) : cmpI L P (j + 1) (upd f (cmpN L P j) (L.getD j 0)) := by
  have hn := cmpN_le L P j
  refine ⟨hj, fun k hk => ?_, fun k h1 h2 => ?_⟩
  · have hk' : k < cmpN L P j + 1 := by rw [← cmpN_keep hj hp]; exact hk
    rw [take_s hj, List.filter_append, fl_t hp]
    by_cases hkn : k = cmpN L P j
    · subst hkn
      rw [show cmpN L P j = ((L.take j).filter P).length from rfl, getD_app2 (Nat.le_refl _), Nat.sub_self]
      simp [upd]
    · rw [getD_app1 (show k < _ by unfold cmpN at hkn hk'; omega)]
      simp only [upd, if_neg hkn]
      exact h.2.1 k (by unfold cmpN at hkn hk'; omega)
  · simp only [upd, if_neg (show k ≠ cmpN L P j by omega)]
    exact h.2.2 k (by omega) h2
theorem cmpI_drop {L : List Int32} {P : Int32 → Bool} {j : Nat} {f : Nat → Int32} (h : cmpI L P j f) (hj : j < L.length) (hp : P (L.getD j 0) = false) : cmpI L P (j + 1) f := by
  refine ⟨hj, fun k hk => ?_, fun k h1 h2 => h.2.2 k (by omega) h2⟩
  rw [take_s hj, List.filter_append, fl_f hp, List.append_nil] at hk ⊢
  exact h.2.1 k hk
theorem cmpI_end {L : List Int32} {P : Int32 → Bool} {f : Nat → Int32} (h : cmpI L P L.length f) : rowIs f (L.filter P) := by
  have := h.2.1
  rwa [List.take_length] at this
theorem cmpN_end (L : List Int32) (P : Int32 → Bool) : cmpN L P L.length = (L.filter P).length := by unfold cmpN; rw [List.take_length]
/-! what the larger readers answer -/
def gtm (vl : Nat → Int32) (v : Int32) (wh f : Nat) : Int32 := if v &&& bitI (nI f) = 0 then 0 else vl (wh * 15 + f)
def capB (lm vl : Nat → Int32) (v : Int32) (wh : Nat) : Bool := if lm wh = 14000 then true else decide (sumT (gtm vl v wh) 14 ≤ lm wh)
def sumsB (lm vl : Nat → Int32) (v : Int32) : Bool := allZ (capB lm vl v) 4
def grpB (gb le mo : Nat → Int32) (bd v : Int32) (f : Nat) : Bool := if v &&& bd &&& bitI (nI f) = 0 then true else if bcI (v &&& gb f) < le f then false else decide (bcI (v &&& gb f) ≤ mo f)
def frmB (op lb lw rb rw : Nat → Int32) (v : Int32) (k : Nat) : Bool := holdsB (op k) (decide (v &&& lb k = lw k)) (decide (v &&& rb k = rw k))
def dropB (f c : Int32) : Bool := decide (c ≠ f ∧ c ≠ -f)
/-! branching -/
def brV (kd pb : Nat → Int32) (f : Nat) (v : Int32) : List Int32 := (if mayInB pb v f then [v ||| bitI (nI f)] else []) ++ (if mayOutB kd pb v f then [v] else [])
def brL (kd pb : Nat → Int32) (f : Nat) (L : List Int32) : List Int32 := L.flatMap (brV kd pb f)
theorem brL_s {kd pb : Nat → Int32} {f : Nat} {L : List Int32} {j : Nat} (h : j < L.length) : brL kd pb f (L.take (j + 1)) = brL kd pb f (L.take j) ++ brV kd pb f (L.getD j 0) := by
  unfold brL
  rw [take_s h, List.flatMap_append]
  simp
def brOk (kd pb : Nat → Int32) (f : Nat) (L : List Int32) : Prop := ∀ v ∈ L, mayInB pb v f = true ∨ mayOutB kd pb v f = true
theorem brV_ge {kd pb : Nat → Int32} {f : Nat} {v : Int32} (h : mayInB pb v f = true ∨ mayOutB kd pb v f = true) : 1 ≤ (brV kd pb f v).length := by
  unfold brV
  rcases h with h | h <;> simp [h]
theorem getD_mem {L : List Int32} {j : Nat} (h : j < L.length) : L.getD j 0 ∈ L := by
  rw [List.getD_eq_getElem?_getD, List.getElem?_eq_getElem h]
  exact List.getElem_mem h
theorem brL_ge {kd pb : Nat → Int32} {f : Nat} {L : List Int32} (h : brOk kd pb f L) : ∀ j, j ≤ L.length → j ≤ (brL kd pb f (L.take j)).length
  | 0, _ => Nat.zero_le _
  | j + 1, hj => by
    rw [brL_s (by omega), List.length_append]
    have := brL_ge h j (by omega)
    have := brV_ge (h _ (getD_mem (L := L) (j := j) (by omega)))
    omega
/-- the last place that is written when all places from t on are done -/
def brN (kd pb : Nat → Int32) (f : Nat) (L : List Int32) (t : Nat) : Nat := (brL kd pb f (L.take t)).length
/-- rows while branching goes backwards: t places are still to be read -/
def brI (kd pb : Nat → Int32) (f : Nat) (L : List Int32) (t : Nat) (g : Nat → Int32) : Prop := t ≤ L.length ∧ (∀ k, k < t → g k = L.getD k 0) ∧ ∀ k, brN kd pb f L t ≤ k → k < (brL kd pb f L).length → g k = (brL kd pb f L).getD k 0
theorem brI_0 {kd pb : Nat → Int32} {f : Nat} {L : List Int32} {g : Nat → Int32} (h : rowIs g L) : brI kd pb f L L.length g :=
  ⟨Nat.le_refl _, h, fun k h1 h2 => absurd h1 (by unfold brN; rw [List.take_length]; omega)⟩
theorem brI_end {kd pb : Nat → Int32} {f : Nat} {L : List Int32} {g : Nat → Int32} (h : brI kd pb f L 0 g) : rowIs g (brL kd pb f L) := fun k hk => h.2.2 k (by simp [brN, brL]) hk
theorem brL_split {kd pb : Nat → Int32} {f : Nat} {L : List Int32} {t : Nat} (h : t < L.length) : ∃ R, brL kd pb f L = brL kd pb f (L.take t) ++ brV kd pb f (L.getD t 0) ++ R := by
  refine ⟨brL kd pb f (L.drop (t + 1)), ?_⟩
  rw [← brL_s h]
  unfold brL
  rw [← List.flatMap_append, List.take_append_drop]
theorem brN_s {kd pb : Nat → Int32} {f : Nat} {L : List Int32} {t : Nat} (h : t < L.length) : brN kd pb f L (t + 1) = brN kd pb f L t + (brV kd pb f (L.getD t 0)).length := by
  unfold brN; rw [brL_s h, List.length_append]
theorem brN_le {kd pb : Nat → Int32} {f : Nat} {L : List Int32} {t : Nat} (h : t ≤ L.length) : brN kd pb f L t ≤ (brL kd pb f L).length := by
  have h1 : brL kd pb f L = brL kd pb f (L.take t) ++ brL kd pb f (L.drop t) := by
    unfold brL
    rw [← List.flatMap_append, List.take_append_drop]
  unfold brN
  rw [h1, List.length_append]
  omega
end
section
theorem iX2_keep_X2 : ∀ w ∈ u_ws RX2 TX2 3, w ∈ wsX2_keep := by decide +kernel
theorem fX2_keep_1 : Cond.fieldLink RX2 15 "FeatureSolve$Found" "last" "I" ∈ wsX2_keep := by decide +kernel
theorem fX2_keep_2 : Cond.fieldLink RX2 19 "FeatureSolve$Found" "size" "I" ∈ wsX2_keep := by decide +kernel
theorem fX2_keep_3 : Cond.fieldLink RX2 9 "FeatureSolve$Found" "kept" "[I" ∈ wsX2_keep := by decide +kernel
theorem hd_X7_put : yX7_put.cls ≠ "java/lang/invoke/MethodHandle" ∧ yX7_put.cls ≠ "java/lang/invoke/VarHandle" ∧ (parseMethodDescriptor yX7_put.desc).map (fun d => d.parameters.length) = some 3 := by decide +kernel
theorem fX2_keep_4 : Cond.initialized RX7 ∈ wsX2_keep := by decide +kernel
theorem fX2_keep_5 : Cond.static yX7_put ∈ wsX2_keep := by decide +kernel
set_option maxHeartbeats 4000000 in
set_option maxRecDepth 100000 in
/-- Found.keep(v) -/
theorem c_X2_keep (l : Launch) (G : GG) (h : Nat) (la : Int32) (q k1 : Nat) (kp : Nat → Int32) (v : Int32) (hq : q ≤ 200) : Met l yX2_keep wsX2_keep (rmK 1) (va_Pc [.ref h, .int v] (PM G [(oX2 h la (nI q) k1), (cI G k1 200 kp)])) (QG (S := Unit) G [(oX2 h la (nI q) k1), (cI G k1 200 kp)] (fun u => True) (fun u => none) (fun u => [(oX2 h v (if q < 200 then nI (q + 1) else nI q) k1), (cI G k1 200 (if q < 200 then upd kp q v else kp))])) 0 0 (adr [(oX2 h la (nI q) k1), (cI G k1 200 kp)]) := by
  refine Met.ofW (cc := cX2_keep) (maxL := 2) (ret := none) (by decide) rfl ?_
  intro p e s m args below meth c s₁ B hml hv
  obtain ⟨rfl, hP, hD0, hKK⟩ := hv
  have hx := B.exec
  have hb := B.bytes
  have hr := B.returns
  have hts := atoms_spec (ws := wsX2_keep) B.pre
  have hown : s.vm.findClass RX2 = some m.cls := findClass_of_methodNamed B.named
  have hlocks := B.notSynchronized
  have hK := hKK.1
  generalize hAe : adr [(oX2 h la (nI q) k1), (cI G k1 200 kp)] = A
  have hD : va_D A [(oX2 h la (nI q) k1), (cI G k1 200 kp)] := by rw [← hAe]; exact hD0.own
  have hS : va_S A s.heap s.heap [] := va_S.rf
  have hP : va_P G.1 vwCl [(oX2 h la (nI q) k1), (cI G k1 200 kp)] s.heap := hP
  have hl := lv_entry ([.ref h, .int v]) (n := 2) (Nat.le_of_ble_eq_true rfl)
  rw [lg_entry_eq]
  generalize (lg_sl ([.ref h, .int v]) ++ List.replicate (2 - (lg_sl ([.ref h, .int v])).length) Slot.unset).toArray = ls at hl ⊢
  have hl : lv_has ls 2 [(0, .ref h), (1, .int v)] := hl
  refine lv_aload_n hx hb dX2_keep_0 rfl (lv_at hl 0 rfl) ?_
  refine lv_iload_n hx hb dX2_keep_1 rfl (lv_at hl 1 rfl) ?_
  refine va_put (D := G.1) (ci := 4) (v := .int v) (ty := .int) (C := RX2) (T := TX2) (N := 3) hx hb hts iX2_keep_X2 tyX2 tyX2_ok nmX2 hown hK hP hD hS 0 rfl rfl 0 (by decide) (hts _ fX2_keep_1) (fun _ h9 => h9) rfl (by decide +kernel) rfl rfl (Nat.le_of_ble_eq_true rfl) dX2_keep_2 (fun H locs hP hD hS => ?_)
  have hPD : PD G A [(oX2 h v (nI q) k1), (cI G k1 200 kp)] H := ⟨hP, hD⟩
  have hP := hPD.1
  have hD := hPD.2
  clear hPD
  refine lv_aload_n hx hb dX2_keep_5 rfl (lv_at hl 0 rfl) ?_
  refine va_get (D := G.1) (ci := 4) (v := .int (nI q)) (C := RX2) (T := TX2) (N := 3) hx hb hts iX2_keep_X2 hown hK hP 0 rfl rfl 1 (by decide) (hts _ fX2_keep_2) (fun _ h9 => h9) rfl dX2_keep_6 ?_
  refine lv_sipush (v := 200) hx hb dX2_keep_9 (by decide) ?_
  refine lv_icmp_ge (tgt := 37) hx hb dX2_keep_12 (by decide) (fun c_12 => ?_) (fun c_12 => ?_)
  · skip
    have h20 : ¬ q < 200 := Nat.not_lt.mpr ((nI_leI (a := 200) (by decide) (by omega)).mp c_12)
    exact gretv hx hb hr hlocks hAe hS (()) (rfl) (trivial) (by simp only [if_neg h20]; exact hP) dX2_keep_37
  · skip
    have h20 : q < 200 := Nat.lt_of_not_le (fun z => c_12 ((nI_leI (a := 200) (by decide) (by omega)).mpr z))
    refine lv_aload_n hx hb dX2_keep_15 rfl (lv_at hl 0 rfl) ?_
    refine va_get (D := G.1) (ci := 4) (v := .ref k1) (C := RX2) (T := TX2) (N := 3) hx hb hts iX2_keep_X2 hown hK hP 0 rfl rfl 2 (by decide) (hts _ fX2_keep_3) (fun _ h9 => h9) rfl dX2_keep_16 ?_
    refine lv_aload_n hx hb dX2_keep_19 rfl (lv_at hl 0 rfl) ?_
    refine va_get (D := G.1) (ci := 4) (v := .int (nI q)) (C := RX2) (T := TX2) (N := 3) hx hb hts iX2_keep_X2 hown hK hP 0 rfl rfl 1 (by decide) (hts _ fX2_keep_2) (fun _ h9 => h9) rfl dX2_keep_20 ?_
    refine lv_iload_n hx hb dX2_keep_23 rfl (lv_at hl 1 rfl) ?_
    refine cgN (As := [.ref k1, .int (nI q), .int v]) (rest := []) ⟨hx, hb, hml, hown, hts⟩ (c_X7_putk l G k1 200 kp (nI q) v q (rfl) (by omega) (by decide)) ⟨va_cnB (own := RX2) (host := RX7) (index := 22) (y := yX7_put) 3 hts gX2_keep_X7_put_n22 rfl rfl rfl (hKK.2.nth 23 (q := (RX2, 22, yX7_put)) rfl) (hts _ fX2_keep_4) hd_X7_put ⟨Nat.le_of_ble_eq_true rfl, Nat.le_of_ble_eq_true rfl⟩, (hts _ fX2_keep_5), trivial⟩ hKK hP hD hS [1] rfl (by decide) rfl hl.1 rfl (Nat.le_of_ble_eq_true rfl) dX2_keep_24 ⟨Nat.zero_le _, Nat.zero_le _⟩ (fun _ => rfl) (fun _ => rfl) (fun _ H locs _ hP hD hS => ?_)
    have hPD : PD G A [(oX2 h v (nI q) k1), (cI G k1 200 (upd kp q v))] H := ⟨hP, hD⟩
    have hP := hPD.1
    have hD := hPD.2
    clear hPD
    refine lv_aload_n hx hb dX2_keep_27 rfl (lv_at hl 0 rfl) ?_
    refine lv_dup hx hb dX2_keep_28 rfl ?_
    refine va_get (D := G.1) (ci := 4) (v := .int (nI q)) (C := RX2) (T := TX2) (N := 3) hx hb hts iX2_keep_X2 hown hK hP 0 rfl rfl 1 (by decide) (hts _ fX2_keep_2) (fun _ h9 => h9) rfl dX2_keep_29 ?_
    refine lv_iconst (v := 1) hx hb dX2_keep_32 (by decide) ?_
    refine lv_iadd hx hb dX2_keep_33 ?_
    refine stI (y := nI (q + 1)) (nI_1 q) ?_
    refine va_put (D := G.1) (ci := 4) (v := .int (nI (q + 1))) (ty := .int) (C := RX2) (T := TX2) (N := 3) hx hb hts iX2_keep_X2 tyX2 tyX2_ok nmX2 hown hK hP hD hS 0 rfl rfl 1 (by decide) (hts _ fX2_keep_2) (fun _ h9 => h9) rfl (by decide +kernel) rfl rfl (Nat.le_of_ble_eq_true rfl) dX2_keep_34 (fun H locs hP hD hS => ?_)
    have hPD : PD G A [(oX2 h v (nI (q + 1)) k1), (cI G k1 200 (upd kp q v))] H := ⟨hP, hD⟩
    have hP := hPD.1
    have hD := hPD.2
    clear hPD
    exact gretv hx hb hr hlocks hAe hS (()) (rfl) (trivial) (by simp only [if_pos h20]; exact hP) dX2_keep_37

theorem iX2_keepNone_X2 : ∀ w ∈ u_ws RX2 TX2 3, w ∈ wsX2_keepNone := by decide +kernel
theorem fX2_keepNone_1 : Cond.fieldLink RX2 15 "FeatureSolve$Found" "last" "I" ∈ wsX2_keepNone := by decide +kernel
set_option maxHeartbeats 4000000 in
set_option maxRecDepth 100000 in
/-- Found.keepNone() -/
theorem c_X2_keepNone (l : Launch) (G : GG) (h : Nat) (la z : Int32) (k1 : Nat) : Met l yX2_keepNone wsX2_keepNone (rmK 0) (va_Pc [.ref h] (PM G [(oX2 h la z k1)])) (QG (S := Unit) G [(oX2 h la z k1)] (fun u => True) (fun u => none) (fun u => [(oX2 h 0 z k1)])) 0 0 (adr [(oX2 h la z k1)]) := by
  refine Met.ofW (cc := cX2_keepNone) (maxL := 1) (ret := none) (by decide) rfl ?_
  intro p e s m args below meth c s₁ B hml hv
  obtain ⟨rfl, hP, hD0, hKK⟩ := hv
  have hx := B.exec
  have hb := B.bytes
  have hr := B.returns
  have hts := atoms_spec (ws := wsX2_keepNone) B.pre
  have hown : s.vm.findClass RX2 = some m.cls := findClass_of_methodNamed B.named
  have hlocks := B.notSynchronized
  have hK := hKK.1
  generalize hAe : adr [(oX2 h la z k1)] = A
  have hD : va_D A [(oX2 h la z k1)] := by rw [← hAe]; exact hD0.own
  have hS : va_S A s.heap s.heap [] := va_S.rf
  have hP : va_P G.1 vwCl [(oX2 h la z k1)] s.heap := hP
  have hl := lv_entry ([.ref h]) (n := 1) (Nat.le_of_ble_eq_true rfl)
  rw [lg_entry_eq]
  generalize (lg_sl ([.ref h]) ++ List.replicate (1 - (lg_sl ([.ref h])).length) Slot.unset).toArray = ls at hl ⊢
  have hl : lv_has ls 1 [(0, .ref h)] := hl
  refine lv_aload_n hx hb dX2_keepNone_0 rfl (lv_at hl 0 rfl) ?_
  refine lv_iconst (v := 0) hx hb dX2_keepNone_1 (by decide) ?_
  refine va_put (D := G.1) (ci := 4) (v := .int 0) (ty := .int) (C := RX2) (T := TX2) (N := 3) hx hb hts iX2_keepNone_X2 tyX2 tyX2_ok nmX2 hown hK hP hD hS 0 rfl rfl 0 (by decide) (hts _ fX2_keepNone_1) (fun _ h9 => h9) rfl (by decide +kernel) rfl rfl (Nat.le_of_ble_eq_true rfl) dX2_keepNone_2 (fun H locs hP hD hS => ?_)
  have hPD : PD G A [(oX2 h 0 z k1)] H := ⟨hP, hD⟩
  have hP := hPD.1
  have hD := hPD.2
  clear hPD
  exact gretv hx hb hr hlocks hAe hS (()) (rfl) (trivial) (hP) dX2_keepNone_5

theorem iX3_clear_X3 : ∀ w ∈ u_ws RX3 TX3 2, w ∈ wsX3_clear := by decide +kernel
theorem fX3_clear_1 : Cond.fieldLink RX3 15 "FeatureSolve$Reason" "size" "I" ∈ wsX3_clear := by decide +kernel
set_option maxHeartbeats 4000000 in
set_option maxRecDepth 100000 in
/-- Reason.clear() -/
theorem c_X3_clear (l : Launch) (G : GG) (h : Nat) (z : Int32) (k1 : Nat) : Met l yX3_clear wsX3_clear (rmK 0) (va_Pc [.ref h] (PM G [(oX3 h z k1)])) (QG (S := Unit) G [(oX3 h z k1)] (fun u => True) (fun u => none) (fun u => [(oX3 h 0 k1)])) 0 0 (adr [(oX3 h z k1)]) := by
  refine Met.ofW (cc := cX3_clear) (maxL := 1) (ret := none) (by decide) rfl ?_
  intro p e s m args below meth c s₁ B hml hv
  obtain ⟨rfl, hP, hD0, hKK⟩ := hv
  have hx := B.exec
  have hb := B.bytes
  have hr := B.returns
  have hts := atoms_spec (ws := wsX3_clear) B.pre
  have hown : s.vm.findClass RX3 = some m.cls := findClass_of_methodNamed B.named
  have hlocks := B.notSynchronized
  have hK := hKK.1
  generalize hAe : adr [(oX3 h z k1)] = A
  have hD : va_D A [(oX3 h z k1)] := by rw [← hAe]; exact hD0.own
  have hS : va_S A s.heap s.heap [] := va_S.rf
  have hP : va_P G.1 vwCl [(oX3 h z k1)] s.heap := hP
  have hl := lv_entry ([.ref h]) (n := 1) (Nat.le_of_ble_eq_true rfl)
  rw [lg_entry_eq]
  generalize (lg_sl ([.ref h]) ++ List.replicate (1 - (lg_sl ([.ref h])).length) Slot.unset).toArray = ls at hl ⊢
  have hl : lv_has ls 1 [(0, .ref h)] := hl
  refine lv_aload_n hx hb dX3_clear_0 rfl (lv_at hl 0 rfl) ?_
  refine lv_iconst (v := 0) hx hb dX3_clear_1 (by decide) ?_
  refine va_put (D := G.1) (ci := 5) (v := .int 0) (ty := .int) (C := RX3) (T := TX3) (N := 2) hx hb hts iX3_clear_X3 tyX3 tyX3_ok nmX3 hown hK hP hD hS 0 rfl rfl 0 (by decide) (hts _ fX3_clear_1) (fun _ h9 => h9) rfl (by decide +kernel) rfl rfl (Nat.le_of_ble_eq_true rfl) dX3_clear_2 (fun H locs hP hD hS => ?_)
  have hPD : PD G A [(oX3 h 0 k1)] H := ⟨hP, hD⟩
  have hP := hPD.1
  have hD := hPD.2
  clear hPD
  exact gretv hx hb hr hlocks hAe hS (()) (rfl) (trivial) (hP) dX3_clear_5

theorem iX3_add_X3 : ∀ w ∈ u_ws RX3 TX3 2, w ∈ wsX3_add := by decide +kernel
theorem fX3_add_1 : Cond.fieldLink RX3 9 "FeatureSolve$Reason" "left" "[I" ∈ wsX3_add := by decide +kernel
theorem fX3_add_2 : Cond.fieldLink RX3 15 "FeatureSolve$Reason" "size" "I" ∈ wsX3_add := by decide +kernel
theorem fX3_add_3 : Cond.initialized RX7 ∈ wsX3_add := by decide +kernel
theorem fX3_add_4 : Cond.static yX7_put ∈ wsX3_add := by decide +kernel
set_option maxHeartbeats 4000000 in
set_option maxRecDepth 100000 in
/-- Reason.add(v) -/
theorem c_X3_add (l : Launch) (G : GG) (h q k1 : Nat) (lf : Nat → Int32) (v : Int32) (hq : q < 14) : Met l yX3_add wsX3_add (rmK 1) (va_Pc [.ref h, .int v] (PM G [(oX3 h (nI q) k1), (cI G k1 14 lf)])) (QG (S := Unit) G [(oX3 h (nI q) k1), (cI G k1 14 lf)] (fun u => True) (fun u => none) (fun u => [(oX3 h (nI (q + 1)) k1), (cI G k1 14 (upd lf q v))])) 0 0 (adr [(oX3 h (nI q) k1), (cI G k1 14 lf)]) := by
  refine Met.ofW (cc := cX3_add) (maxL := 2) (ret := none) (by decide) rfl ?_
  intro p e s m args below meth c s₁ B hml hv
  obtain ⟨rfl, hP, hD0, hKK⟩ := hv
  have hx := B.exec
  have hb := B.bytes
  have hr := B.returns
  have hts := atoms_spec (ws := wsX3_add) B.pre
  have hown : s.vm.findClass RX3 = some m.cls := findClass_of_methodNamed B.named
  have hlocks := B.notSynchronized
  have hK := hKK.1
  generalize hAe : adr [(oX3 h (nI q) k1), (cI G k1 14 lf)] = A
  have hD : va_D A [(oX3 h (nI q) k1), (cI G k1 14 lf)] := by rw [← hAe]; exact hD0.own
  have hS : va_S A s.heap s.heap [] := va_S.rf
  have hP : va_P G.1 vwCl [(oX3 h (nI q) k1), (cI G k1 14 lf)] s.heap := hP
  have hl := lv_entry ([.ref h, .int v]) (n := 2) (Nat.le_of_ble_eq_true rfl)
  rw [lg_entry_eq]
  generalize (lg_sl ([.ref h, .int v]) ++ List.replicate (2 - (lg_sl ([.ref h, .int v])).length) Slot.unset).toArray = ls at hl ⊢
  have hl : lv_has ls 2 [(0, .ref h), (1, .int v)] := hl
  refine lv_aload_n hx hb dX3_add_0 rfl (lv_at hl 0 rfl) ?_
  refine va_get (D := G.1) (ci := 5) (v := .ref k1) (C := RX3) (T := TX3) (N := 2) hx hb hts iX3_add_X3 hown hK hP 0 rfl rfl 1 (by decide) (hts _ fX3_add_1) (fun _ h9 => h9) rfl dX3_add_1 ?_
  refine lv_aload_n hx hb dX3_add_4 rfl (lv_at hl 0 rfl) ?_
  refine va_get (D := G.1) (ci := 5) (v := .int (nI q)) (C := RX3) (T := TX3) (N := 2) hx hb hts iX3_add_X3 hown hK hP 0 rfl rfl 0 (by decide) (hts _ fX3_add_2) (fun _ h9 => h9) rfl dX3_add_5 ?_
  refine lv_iload_n hx hb dX3_add_8 rfl (lv_at hl 1 rfl) ?_
  refine cgN (As := [.ref k1, .int (nI q), .int v]) (rest := []) ⟨hx, hb, hml, hown, hts⟩ (c_X7_putk l G k1 14 lf (nI q) v q (rfl) (by omega) (by decide)) ⟨va_cnB (own := RX3) (host := RX7) (index := 19) (y := yX7_put) 3 hts gX3_add_X7_put_n19 rfl rfl rfl (hKK.2.nth 22 (q := (RX3, 19, yX7_put)) rfl) (hts _ fX3_add_3) hd_X7_put ⟨Nat.le_of_ble_eq_true rfl, Nat.le_of_ble_eq_true rfl⟩, (hts _ fX3_add_4), trivial⟩ hKK hP hD hS [1] rfl (by decide) rfl hl.1 rfl (Nat.le_of_ble_eq_true rfl) dX3_add_9 ⟨Nat.zero_le _, Nat.zero_le _⟩ (fun _ => rfl) (fun _ => rfl) (fun _ H locs _ hP hD hS => ?_)
  have hPD : PD G A [(oX3 h (nI q) k1), (cI G k1 14 (upd lf q v))] H := ⟨hP, hD⟩
  have hP := hPD.1
  have hD := hPD.2
  clear hPD
  refine lv_aload_n hx hb dX3_add_12 rfl (lv_at hl 0 rfl) ?_
  refine lv_dup hx hb dX3_add_13 rfl ?_
  refine va_get (D := G.1) (ci := 5) (v := .int (nI q)) (C := RX3) (T := TX3) (N := 2) hx hb hts iX3_add_X3 hown hK hP 0 rfl rfl 0 (by decide) (hts _ fX3_add_2) (fun _ h9 => h9) rfl dX3_add_14 ?_
  refine lv_iconst (v := 1) hx hb dX3_add_17 (by decide) ?_
  refine lv_iadd hx hb dX3_add_18 ?_
  refine stI (y := nI (q + 1)) (nI_1 q) ?_
  refine va_put (D := G.1) (ci := 5) (v := .int (nI (q + 1))) (ty := .int) (C := RX3) (T := TX3) (N := 2) hx hb hts iX3_add_X3 tyX3 tyX3_ok nmX3 hown hK hP hD hS 0 rfl rfl 0 (by decide) (hts _ fX3_add_2) (fun _ h9 => h9) rfl (by decide +kernel) rfl rfl (Nat.le_of_ble_eq_true rfl) dX3_add_19 (fun H locs hP hD hS => ?_)
  have hPD : PD G A [(oX3 h (nI (q + 1)) k1), (cI G k1 14 (upd lf q v))] H := ⟨hP, hD⟩
  have hP := hPD.1
  have hD := hPD.2
  clear hPD
  exact gretv hx hb hr hlocks hAe hS (()) (rfl) (trivial) (hP) dX3_add_22

theorem iX4_set_X4 : ∀ w ∈ u_ws RX4 TX4 2, w ∈ wsX4_set := by decide +kernel
theorem fX4_set_1 : Cond.fieldLink RX4 11 "FeatureSolve$Sums" "values" "[I" ∈ wsX4_set := by decide +kernel
theorem fX4_set_2 : Cond.initialized RX7 ∈ wsX4_set := by decide +kernel
theorem fX4_set_3 : Cond.static yX7_put ∈ wsX4_set := by decide +kernel
set_option maxHeartbeats 4000000 in
set_option maxRecDepth 100000 in
/-- Sums.set(f, what, v) -/
theorem c_X4_set (l : Launch) (G : GG) (h k1 k2 : Nat) (vl : Nat → Int32) (f wh : Nat) (v : Int32) (hf : f < 15) (hw : wh < 4) : Met l yX4_set wsX4_set (rmK 1) (va_Pc [.ref h, .int (nI f), .int (nI wh), .int v] (PM G [(oX4 h k1 k2), (cI G k1 60 vl)])) (QG (S := Unit) G [(oX4 h k1 k2), (cI G k1 60 vl)] (fun u => True) (fun u => none) (fun u => [(oX4 h k1 k2), (cI G k1 60 (upd vl (wh * 15 + f) v))])) 0 0 (adr [(oX4 h k1 k2), (cI G k1 60 vl)]) := by
  refine Met.ofW (cc := cX4_set) (maxL := 4) (ret := none) (by decide) rfl ?_
  intro p e s m args below meth c s₁ B hml hv
  obtain ⟨rfl, hP, hD0, hKK⟩ := hv
  have hx := B.exec
  have hb := B.bytes
  have hr := B.returns
  have hts := atoms_spec (ws := wsX4_set) B.pre
  have hown : s.vm.findClass RX4 = some m.cls := findClass_of_methodNamed B.named
  have hlocks := B.notSynchronized
  have hK := hKK.1
  generalize hAe : adr [(oX4 h k1 k2), (cI G k1 60 vl)] = A
  have hD : va_D A [(oX4 h k1 k2), (cI G k1 60 vl)] := by rw [← hAe]; exact hD0.own
  have hS : va_S A s.heap s.heap [] := va_S.rf
  have hP : va_P G.1 vwCl [(oX4 h k1 k2), (cI G k1 60 vl)] s.heap := hP
  have hl := lv_entry ([.ref h, .int (nI f), .int (nI wh), .int v]) (n := 4) (Nat.le_of_ble_eq_true rfl)
  rw [lg_entry_eq]
  generalize (lg_sl ([.ref h, .int (nI f), .int (nI wh), .int v]) ++ List.replicate (4 - (lg_sl ([.ref h, .int (nI f), .int (nI wh), .int v])).length) Slot.unset).toArray = ls at hl ⊢
  have hl : lv_has ls 4 [(0, .ref h), (1, .int (nI f)), (2, .int (nI wh)), (3, .int v)] := hl
  refine lv_aload_n hx hb dX4_set_0 rfl (lv_at hl 0 rfl) ?_
  refine va_get (D := G.1) (ci := 6) (v := .ref k1) (C := RX4) (T := TX4) (N := 2) hx hb hts iX4_set_X4 hown hK hP 0 rfl rfl 0 (by decide) (hts _ fX4_set_1) (fun _ h9 => h9) rfl dX4_set_1 ?_
  refine lv_iload_n hx hb dX4_set_4 rfl (lv_at hl 2 rfl) ?_
  refine lv_bipush (v := 15) hx hb dX4_set_5 (by decide) ?_
  refine lv_imul hx hb dX4_set_7 ?_
  refine lv_iload_n hx hb dX4_set_8 rfl (lv_at hl 1 rfl) ?_
  refine lv_iadd hx hb dX4_set_9 ?_
  refine lv_iload_n hx hb dX4_set_10 rfl (lv_at hl 3 rfl) ?_
  refine cgN (As := [.ref k1, .int (((nI wh) * 15) + (nI f)), .int v]) (rest := []) ⟨hx, hb, hml, hown, hts⟩ (c_X7_putk l G k1 60 vl (((nI wh) * 15) + (nI f)) v (wh * 15 + f) (by rw [show (15 : Int32) = nI 15 from rfl, pk_mul, nI_add]) (by omega) (by decide)) ⟨va_cnB (own := RX4) (host := RX7) (index := 18) (y := yX7_put) 3 hts gX4_set_X7_put_n18 rfl rfl rfl (hKK.2.nth 12 (q := (RX4, 18, yX7_put)) rfl) (hts _ fX4_set_2) hd_X7_put ⟨Nat.le_of_ble_eq_true rfl, Nat.le_of_ble_eq_true rfl⟩, (hts _ fX4_set_3), trivial⟩ hKK hP hD hS [1] rfl (by decide) rfl hl.1 rfl (Nat.le_of_ble_eq_true rfl) dX4_set_11 ⟨Nat.zero_le _, Nat.zero_le _⟩ (fun _ => rfl) (fun _ => rfl) (fun _ H locs _ hP hD hS => ?_)
  have hPD : PD G A [(oX4 h k1 k2), (cI G k1 60 (upd vl (wh * 15 + f) v))] H := ⟨hP, hD⟩
  have hP := hPD.1
  have hD := hPD.2
  clear hPD
  exact gretv hx hb hr hlocks hAe hS (()) (rfl) (trivial) (hP) dX4_set_14

theorem iX4_limit_X4 : ∀ w ∈ u_ws RX4 TX4 2, w ∈ wsX4_limit := by decide +kernel
theorem fX4_limit_1 : Cond.fieldLink RX4 15 "FeatureSolve$Sums" "limits" "[I" ∈ wsX4_limit := by decide +kernel
theorem fX4_limit_2 : Cond.initialized RX7 ∈ wsX4_limit := by decide +kernel
theorem fX4_limit_3 : Cond.static yX7_put ∈ wsX4_limit := by decide +kernel
set_option maxHeartbeats 4000000 in
set_option maxRecDepth 100000 in
/-- Sums.limit(what, v) -/
theorem c_X4_limit (l : Launch) (G : GG) (h k1 k2 : Nat) (lm : Nat → Int32) (wh : Nat) (v : Int32) (hw : wh < 4) : Met l yX4_limit wsX4_limit (rmK 1) (va_Pc [.ref h, .int (nI wh), .int v] (PM G [(oX4 h k1 k2), (cI G k2 4 lm)])) (QG (S := Unit) G [(oX4 h k1 k2), (cI G k2 4 lm)] (fun u => True) (fun u => none) (fun u => [(oX4 h k1 k2), (cI G k2 4 (upd lm wh v))])) 0 0 (adr [(oX4 h k1 k2), (cI G k2 4 lm)]) := by
  refine Met.ofW (cc := cX4_limit) (maxL := 3) (ret := none) (by decide) rfl ?_
  intro p e s m args below meth c s₁ B hml hv
  obtain ⟨rfl, hP, hD0, hKK⟩ := hv
  have hx := B.exec
  have hb := B.bytes
  have hr := B.returns
  have hts := atoms_spec (ws := wsX4_limit) B.pre
  have hown : s.vm.findClass RX4 = some m.cls := findClass_of_methodNamed B.named
  have hlocks := B.notSynchronized
  have hK := hKK.1
  generalize hAe : adr [(oX4 h k1 k2), (cI G k2 4 lm)] = A
  have hD : va_D A [(oX4 h k1 k2), (cI G k2 4 lm)] := by rw [← hAe]; exact hD0.own
  have hS : va_S A s.heap s.heap [] := va_S.rf
  have hP : va_P G.1 vwCl [(oX4 h k1 k2), (cI G k2 4 lm)] s.heap := hP
  have hl := lv_entry ([.ref h, .int (nI wh), .int v]) (n := 3) (Nat.le_of_ble_eq_true rfl)
  rw [lg_entry_eq]
  generalize (lg_sl ([.ref h, .int (nI wh), .int v]) ++ List.replicate (3 - (lg_sl ([.ref h, .int (nI wh), .int v])).length) Slot.unset).toArray = ls at hl ⊢
  have hl : lv_has ls 3 [(0, .ref h), (1, .int (nI wh)), (2, .int v)] := hl
  refine lv_aload_n hx hb dX4_limit_0 rfl (lv_at hl 0 rfl) ?_
  refine va_get (D := G.1) (ci := 6) (v := .ref k2) (C := RX4) (T := TX4) (N := 2) hx hb hts iX4_limit_X4 hown hK hP 0 rfl rfl 1 (by decide) (hts _ fX4_limit_1) (fun _ h9 => h9) rfl dX4_limit_1 ?_
  refine lv_iload_n hx hb dX4_limit_4 rfl (lv_at hl 1 rfl) ?_
  refine lv_iload_n hx hb dX4_limit_5 rfl (lv_at hl 2 rfl) ?_
  refine cgN (As := [.ref k2, .int (nI wh), .int v]) (rest := []) ⟨hx, hb, hml, hown, hts⟩ (c_X7_putk l G k2 4 lm (nI wh) v wh (rfl) (by omega) (by decide)) ⟨va_cnB (own := RX4) (host := RX7) (index := 18) (y := yX7_put) 3 hts gX4_limit_X7_put_n18 rfl rfl rfl (hKK.2.nth 12 (q := (RX4, 18, yX7_put)) rfl) (hts _ fX4_limit_2) hd_X7_put ⟨Nat.le_of_ble_eq_true rfl, Nat.le_of_ble_eq_true rfl⟩, (hts _ fX4_limit_3), trivial⟩ hKK hP hD hS [1] rfl (by decide) rfl hl.1 rfl (Nat.le_of_ble_eq_true rfl) dX4_limit_6 ⟨Nat.zero_le _, Nat.zero_le _⟩ (fun _ => rfl) (fun _ => rfl) (fun _ H locs _ hP hD hS => ?_)
  have hPD : PD G A [(oX4 h k1 k2), (cI G k2 4 (upd lm wh v))] H := ⟨hP, hD⟩
  have hP := hPD.1
  have hD := hPD.2
  clear hPD
  exact gretv hx hb hr hlocks hAe hS (()) (rfl) (trivial) (hP) dX4_limit_9

theorem iX4_keeps_X4 : ∀ w ∈ u_ws RX4 TX4 2, w ∈ wsX4_keeps := by decide +kernel
theorem fX4_keeps_1 : Cond.fieldLink RX4 15 "FeatureSolve$Sums" "limits" "[I" ∈ wsX4_keeps := by decide +kernel
theorem fX4_keeps_2 : Cond.initialized RX7 ∈ wsX4_keeps := by decide +kernel
theorem fX4_keeps_3 : Cond.static yX7_at ∈ wsX4_keeps := by decide +kernel
theorem fX4_keeps_4 : Cond.static yX7_bit ∈ wsX4_keeps := by decide +kernel
theorem fX4_keeps_5 : Cond.fieldLink RX4 11 "FeatureSolve$Sums" "values" "[I" ∈ wsX4_keeps := by decide +kernel
set_option maxHeartbeats 4000000 in
set_option maxRecDepth 100000 in
/-- Sums.keeps(v) -/
theorem c_X4_keeps (l : Launch) (G : GG) (h k1 k2 : Nat) (vl lm : Nat → Int32) (v : Int32) : Met l yX4_keeps wsX4_keeps (rmK 1) (va_Pc [.ref h, .int v] (PS G [(oX4 h k1 k2), (cI G k1 60 vl), (cI G k2 4 lm)])) (QcRead (bI (sumsB lm vl v))) 0 0 (fun _ => False) := by
  refine Met.ofW (cc := cX4_keeps) (maxL := 6) (ret := (some .boolean)) (by decide) rfl ?_
  intro p e s m args below meth c s₁ B hml hv
  obtain ⟨rfl, hP, hKK⟩ := hv
  have hx := B.exec
  have hb := B.bytes
  have hr := B.returns
  have hts := atoms_spec (ws := wsX4_keeps) B.pre
  have hown : s.vm.findClass RX4 = some m.cls := findClass_of_methodNamed B.named
  have hlocks := B.notSynchronized
  have hK := hKK.1
  have hl := lv_entry ([.ref h, .int v]) (n := 6) (Nat.le_of_ble_eq_true rfl)
  rw [lg_entry_eq]
  generalize (lg_sl ([.ref h, .int v]) ++ List.replicate (6 - (lg_sl ([.ref h, .int v])).length) Slot.unset).toArray = ls at hl ⊢
  have hl : lv_has ls 6 [(0, .ref h), (1, .int v)] := hl
  refine lv_iconst (v := 0) hx hb dX4_keeps_0 (by decide) ?_
  refine lv_istore_n (lv' := [(2, .int 0), (0, .ref h), (1, .int v)]) hx hb dX4_keeps_1 rfl hl (by decide) rfl (fun ls hl => ?_)
  refine loopJ (nL := 6) (I := fun (kx : Nat) => kx ≤ 4 ∧ allZ (capB lm vl v) kx = true) (μ := fun (kx : Nat) => 4 - kx) (lv := fun (kx : Nat) => [(0, .ref h), (1, .int v), (2, .int (nI kx))]) (pc' := 2) (fun x hI ih_2 ls hl => ?_) 0 (⟨by decide, rfl⟩) ls (lv_sub hl [1, 2, 0] rfl)
  obtain ⟨kx, rfl⟩ : ∃ y, y = x := ⟨_, rfl⟩
  have hI : kx ≤ 4 ∧ allZ (capB lm vl v) kx = true := hI
  have hl : lv_has ls 6 [(0, .ref h), (1, .int v), (2, .int (nI kx))] := hl
  refine lv_iload_n hx hb dX4_keeps_2 rfl (lv_at hl 2 rfl) ?_
  refine lv_iconst (v := 4) hx hb dX4_keeps_3 (by decide) ?_
  refine lv_icmp_ge (tgt := 89) hx hb dX4_keeps_4 (by decide) (fun c_4 => ?_) (fun c_4 => ?_)
  · skip
    have hk4 : kx = 4 := Nat.le_antisymm hI.1 ((nI_leI (a := 4) (by decide) (by omega)).mp c_4)
    refine lv_iconst (v := 1) hx hb dX4_keeps_89 (by decide) ?_
    exact pret hx hb hr hlocks rfl (by rw [show sumsB lm vl v = allZ (capB lm vl v) 4 from rfl, ← hk4, hI.2]; rfl) dX4_keeps_90
  · skip
    have hk4 : kx < 4 := Nat.lt_of_not_le (fun z => c_4 ((nI_leI (a := 4) (by decide) (by omega)).mpr z))
    refine lv_aload_n hx hb dX4_keeps_7 rfl (lv_at hl 0 rfl) ?_
    refine va_get (D := G.1) (ci := 6) (v := .ref k2) (C := RX4) (T := TX4) (N := 2) hx hb hts iX4_keeps_X4 hown hK hP 0 rfl rfl 1 (by decide) (hts _ fX4_keeps_1) (fun _ h9 => h9) rfl dX4_keeps_8 ?_
    refine lv_iload_n hx hb dX4_keeps_11 rfl (lv_at hl 2 rfl) ?_
    refine cpN (As := [.ref k2, .int (nI kx)]) (rest := []) ⟨hx, hb, hml, hown, hts⟩ (c_X7_atk l G k2 4 lm (nI kx) kx (rfl) (by omega) (by decide)) ⟨va_cnB (own := RX4) (host := RX7) (index := 22) (y := yX7_at) 2 hts gX4_keeps_X7_at_n22 rfl rfl rfl (hKK.2.nth 20 (q := (RX4, 22, yX7_at)) rfl) (hts _ fX4_keeps_2) hd_X7_at ⟨Nat.le_of_ble_eq_true rfl, Nat.le_of_ble_eq_true rfl⟩, (hts _ fX4_keeps_3), trivial⟩ hKK hP [2] rfl rfl hl.1 rfl (Nat.le_of_ble_eq_true rfl) dX4_keeps_12 ⟨Nat.zero_le _, Nat.zero_le _⟩ ?_
    refine lv_istore_n (lv' := [(3, .int (lm kx)), (0, .ref h), (1, .int v), (2, .int (nI kx))]) hx hb dX4_keeps_15 rfl hl (by decide) rfl (fun ls hl => ?_)
    refine lv_iconst (v := 0) hx hb dX4_keeps_16 (by decide) ?_
    refine lv_istore (lv' := [(4, .int 0), (3, .int (lm kx)), (0, .ref h), (1, .int v), (2, .int (nI kx))]) hx hb dX4_keeps_17 hl (by decide) rfl (fun ls hl => ?_)
    refine lv_iconst (v := 1) hx hb dX4_keeps_19 (by decide) ?_
    refine lv_istore (lv' := [(5, .int 1), (4, .int 0), (3, .int (lm kx)), (0, .ref h), (1, .int v), (2, .int (nI kx))]) hx hb dX4_keeps_20 hl (by decide) rfl (fun ls hl => ?_)
    have hI0 := hI
    refine loopJ (nL := 6) (I := fun (jx : Nat) => jx ≤ 14 ∧ (lm kx = 14000 → jx = 0)) (μ := fun (jx : Nat) => 14 - jx) (lv := fun (jx : Nat) => [(0, .ref h), (1, .int v), (2, .int (nI kx)), (3, .int (lm kx)), (4, .int (sumT (gtm vl v kx) jx)), (5, .int (nI (jx + 1)))]) (pc' := 22) (fun x hI ih_22 ls hl => ?_) 0 (⟨by decide, fun _ => rfl⟩) ls (lv_sub hl [3, 4, 5, 2, 1, 0] rfl)
    obtain ⟨jx, rfl⟩ : ∃ y, y = x := ⟨_, rfl⟩
    have hI : jx ≤ 14 ∧ (lm kx = 14000 → jx = 0) := hI
    have hl : lv_has ls 6 [(0, .ref h), (1, .int v), (2, .int (nI kx)), (3, .int (lm kx)), (4, .int (sumT (gtm vl v kx) jx)), (5, .int (nI (jx + 1)))] := hl
    refine lv_iload hx hb dX4_keeps_22 (lv_at hl 5 rfl) ?_
    refine lv_bipush (v := 14) hx hb dX4_keeps_24 (by decide) ?_
    refine lv_icmp_gt (tgt := 75) hx hb dX4_keeps_26 (by decide) (fun c_26 => ?_) (fun c_26 => ?_)
    · skip
      have hj : jx = 14 := by have := (nI_ltI (a := 14) (by decide) (by omega)).mp c_26; omega
      have hlm : ¬ lm kx = 14000 := fun z => by have := hI.2 z; omega
      have hI := hI0
      refine lv_iload hx hb dX4_keeps_75 (lv_at hl 4 rfl) ?_
      refine lv_iload_n hx hb dX4_keeps_77 rfl (lv_at hl 3 rfl) ?_
      refine lv_icmp_le (tgt := 83) hx hb dX4_keeps_78 (by decide) (fun c_78 => ?_) (fun c_78 => ?_)
      · skip
        refine lv_iinc (v := nI (kx + 1)) (lv' := [(2, .int (nI (kx + 1))), (0, .ref h), (1, .int v), (3, .int (lm kx)), (4, .int (sumT (gtm vl v kx) jx)), (5, .int (nI (jx + 1)))]) hx hb dX4_keeps_83 hl (k := 2) rfl (nI_1 kx) (by decide) rfl (fun ls hl => ?_)
        refine lv_goto (tgt := 2) hx hb dX4_keeps_86 (by decide) ?_
        exact ih_2 (kx + 1) (⟨hk4, allZ_s hI.2 (by unfold capB; rw [if_neg hlm, ← hj]; exact decide_eq_true c_78)⟩) (by show 4 - (kx + 1) < 4 - kx; omega) ls (lv_sub hl [1, 2, 0] rfl)
      · skip
        refine lv_iconst (v := 0) hx hb dX4_keeps_81 (by decide) ?_
        exact pret hx hb hr hlocks rfl (by rw [show sumsB lm vl v = allZ (capB lm vl v) 4 from rfl, allZ_no (k := kx) (by unfold capB; rw [if_neg hlm, ← hj]; exact decide_eq_false c_78) 4 hk4]; rfl) dX4_keeps_82
    · skip
      have hj : jx < 14 := by have := mt (nI_ltI (a := 14) (b := jx + 1) (by decide) (by omega)).mpr c_26; omega
      refine lv_iload_n hx hb dX4_keeps_29 rfl (lv_at hl 3 rfl) ?_
      refine lv_sipush (v := 14000) hx hb dX4_keeps_30 (by decide) ?_
      refine lv_icmp_eq (tgt := 75) hx hb dX4_keeps_33 (by decide) (fun c_33 => ?_) (fun c_33 => ?_)
      · skip
        have hj0 := hI.2 c_33
        have hI := hI0
        refine lv_iload hx hb dX4_keeps_75 (lv_at hl 4 rfl) ?_
        refine lv_iload_n hx hb dX4_keeps_77 rfl (lv_at hl 3 rfl) ?_
        refine lv_icmp_le (tgt := 83) hx hb dX4_keeps_78 (by decide) (fun c_78 => ?_) (fun c_78 => ?_)
        · skip
          refine lv_iinc (v := nI (kx + 1)) (lv' := [(2, .int (nI (kx + 1))), (0, .ref h), (1, .int v), (3, .int (lm kx)), (4, .int (sumT (gtm vl v kx) jx)), (5, .int (nI (jx + 1)))]) hx hb dX4_keeps_83 hl (k := 2) rfl (nI_1 kx) (by decide) rfl (fun ls hl => ?_)
          refine lv_goto (tgt := 2) hx hb dX4_keeps_86 (by decide) ?_
          exact ih_2 (kx + 1) (⟨hk4, allZ_s hI.2 (by unfold capB; rw [if_pos c_33])⟩) (by show 4 - (kx + 1) < 4 - kx; omega) ls (lv_sub hl [1, 2, 0] rfl)
        · exact absurd (show sumT (gtm vl v kx) jx ≤ lm kx by rw [hj0, c_33]; exact (by decide : (0 : Int32) ≤ 14000)) c_78
      · skip
        refine cutJ (nL := 6) (lv := [(0, .ref h), (1, .int v), (2, .int (nI kx)), (3, .int (lm kx)), (4, .int (sumT (gtm vl v kx) jx)), (5, .int (nI (jx + 1)))]) (pc' := 66) (st' := [.int (gtm vl v kx (jx + 1)), .int (sumT (gtm vl v kx) jx)]) (fun ls hl => ?_) (fun hJ_66 => ?_)
        · skip
          refine lv_iadd hx hb dX4_keeps_66 ?_
          refine stI (y := sumT (gtm vl v kx) (jx + 1)) (rfl) ?_
          refine lv_istore (lv' := [(4, .int (sumT (gtm vl v kx) (jx + 1))), (0, .ref h), (1, .int v), (2, .int (nI kx)), (3, .int (lm kx)), (5, .int (nI (jx + 1)))]) hx hb dX4_keeps_67 hl (by decide) rfl (fun ls hl => ?_)
          refine lv_iinc (v := nI (jx + 1 + 1)) (lv' := [(5, .int (nI (jx + 1 + 1))), (4, .int (sumT (gtm vl v kx) (jx + 1))), (0, .ref h), (1, .int v), (2, .int (nI kx)), (3, .int (lm kx))]) hx hb dX4_keeps_69 hl (k := 5) rfl (nI_1 (jx + 1)) (by decide) rfl (fun ls hl => ?_)
          refine lv_goto (tgt := 22) hx hb dX4_keeps_72 (by decide) ?_
          exact ih_22 (jx + 1) (⟨by omega, fun z => absurd z c_33⟩) (by show 14 - (jx + 1) < 14 - jx; omega) ls (lv_sub hl [2, 3, 4, 5, 1, 0] rfl)
        · skip
          refine lv_iload hx hb dX4_keeps_36 (lv_at hl 4 rfl) ?_
          refine lv_iload_n hx hb dX4_keeps_38 rfl (lv_at hl 1 rfl) ?_
          refine lv_iload hx hb dX4_keeps_39 (lv_at hl 5 rfl) ?_
          refine cpN (As := [.int (nI (jx + 1))]) (rest := [.int v, .int (sumT (gtm vl v kx) jx)]) ⟨hx, hb, hml, hown, hts⟩ (c_X7_bit l G (nI (jx + 1))) ⟨va_cnB (own := RX4) (host := RX7) (index := 26) (y := yX7_bit) 1 hts gX4_keeps_X7_bit_n26 rfl rfl rfl (hKK.2.nth 21 (q := (RX4, 26, yX7_bit)) rfl) (hts _ fX4_keeps_2) hd_X7_bit ⟨Nat.le_of_ble_eq_true rfl, Nat.le_of_ble_eq_true rfl⟩, (hts _ fX4_keeps_4), trivial⟩ hKK hP [] rfl rfl hl.1 rfl (Nat.le_of_ble_eq_true rfl) dX4_keeps_41 ⟨Nat.zero_le _, Nat.zero_le _⟩ ?_
          refine lv_iand hx hb dX4_keeps_44 ?_
          refine lv_if_eq (tgt := 65) hx hb dX4_keeps_45 (by decide) (fun c_45 => ?_) (fun c_45 => ?_)
          · skip
            refine lv_iconst (v := 0) hx hb dX4_keeps_65 (by decide) ?_
            refine stI (y := (gtm vl v kx (jx + 1))) (by unfold gtm; rw [if_pos c_45]) ?_
            exact hJ_66 ls (lv_sub hl [0, 1, 2, 3, 4, 5] rfl)
          · skip
            refine lv_aload_n hx hb dX4_keeps_48 rfl (lv_at hl 0 rfl) ?_
            refine va_get (D := G.1) (ci := 6) (v := .ref k1) (C := RX4) (T := TX4) (N := 2) hx hb hts iX4_keeps_X4 hown hK hP 0 rfl rfl 0 (by decide) (hts _ fX4_keeps_5) (fun _ h9 => h9) rfl dX4_keeps_49 ?_
            refine lv_iload_n hx hb dX4_keeps_52 rfl (lv_at hl 2 rfl) ?_
            refine lv_bipush (v := 15) hx hb dX4_keeps_53 (by decide) ?_
            refine lv_imul hx hb dX4_keeps_55 ?_
            refine lv_iload hx hb dX4_keeps_56 (lv_at hl 5 rfl) ?_
            refine lv_iadd hx hb dX4_keeps_58 ?_
            refine cpN (As := [.ref k1, .int (((nI kx) * 15) + (nI (jx + 1)))]) (rest := [.int (sumT (gtm vl v kx) jx)]) ⟨hx, hb, hml, hown, hts⟩ (c_X7_atk l G k1 60 vl (((nI kx) * 15) + (nI (jx + 1))) (kx * 15 + (jx + 1)) (by rw [show (15 : Int32) = nI 15 from rfl, pk_mul, nI_add]) (by omega) (by decide)) ⟨va_cnB (own := RX4) (host := RX7) (index := 22) (y := yX7_at) 2 hts gX4_keeps_X7_at_n22 rfl rfl rfl (hKK.2.nth 20 (q := (RX4, 22, yX7_at)) rfl) (hts _ fX4_keeps_2) hd_X7_at ⟨Nat.le_of_ble_eq_true rfl, Nat.le_of_ble_eq_true rfl⟩, (hts _ fX4_keeps_3), trivial⟩ hKK hP [1] rfl rfl hl.1 rfl (Nat.le_of_ble_eq_true rfl) dX4_keeps_59 ⟨Nat.zero_le _, Nat.zero_le _⟩ ?_
            refine lv_goto (tgt := 66) hx hb dX4_keeps_62 (by decide) ?_
            refine stI (y := (gtm vl v kx (jx + 1))) (by unfold gtm; rw [if_neg c_45]) ?_
            exact hJ_66 ls (lv_sub hl [0, 1, 2, 3, 4, 5] rfl)

theorem iX5_keepsGroups_X5 : ∀ w ∈ u_ws RX5 TX5 8, w ∈ wsX5_keepsGroups := by decide +kernel
theorem fX5_keepsGroups_1 : Cond.fieldLink RX5 30 "FeatureSolve$Tree" "size" "I" ∈ wsX5_keepsGroups := by decide +kernel
theorem fX5_keepsGroups_2 : Cond.fieldLink RX5 21 "FeatureSolve$Tree" "groupedBits" "[I" ∈ wsX5_keepsGroups := by decide +kernel
theorem fX5_keepsGroups_3 : Cond.initialized RX7 ∈ wsX5_keepsGroups := by decide +kernel
theorem fX5_keepsGroups_4 : Cond.static yX7_at ∈ wsX5_keepsGroups := by decide +kernel
theorem hd_J6_bitCount_0f7a4 : yJ6_bitCount_0f7a4.cls ≠ "java/lang/invoke/MethodHandle" ∧ yJ6_bitCount_0f7a4.cls ≠ "java/lang/invoke/VarHandle" ∧ (parseMethodDescriptor yJ6_bitCount_0f7a4.desc).map (fun d => d.parameters.length) = some 1 := by decide +kernel
theorem fX5_keepsGroups_5 : Cond.fieldLink RX5 50 "FeatureSolve$Tree" "bounded" "I" ∈ wsX5_keepsGroups := by decide +kernel
theorem fX5_keepsGroups_6 : Cond.static yX7_bit ∈ wsX5_keepsGroups := by decide +kernel
theorem fX5_keepsGroups_7 : Cond.fieldLink RX5 24 "FeatureSolve$Tree" "least" "[I" ∈ wsX5_keepsGroups := by decide +kernel
theorem fX5_keepsGroups_8 : Cond.fieldLink RX5 27 "FeatureSolve$Tree" "most" "[I" ∈ wsX5_keepsGroups := by decide +kernel
set_option maxHeartbeats 4000000 in
set_option maxRecDepth 100000 in
/-- Tree.keepsGroups(v) -/
theorem c_X5_keepsGroups (l : Launch) (G : GG) (h n : Nat) (k1 k2 k3 k4 k5 k6 : Nat) (bd : Int32) (gb le mo : Nat → Int32) (v : Int32) (hn : n ≤ 14) : Met l yX5_keepsGroups wsX5_keepsGroups (rmK 1) (va_Pc [.ref h, .int v] (PS G [(oX5 h (nI n) k1 k2 k3 k4 k5 k6 bd), (cI G k4 15 gb), (cI G k5 15 le), (cI G k6 15 mo)])) (QcRead (bI (allU (grpB gb le mo bd v) n))) 0 0 (fun _ => False) := by
  refine Met.ofW (cc := cX5_keepsGroups) (maxL := 5) (ret := (some .boolean)) (by decide) rfl ?_
  intro p e s m args below meth c s₁ B hml hv
  obtain ⟨rfl, hP, hKK⟩ := hv
  have hx := B.exec
  have hb := B.bytes
  have hr := B.returns
  have hts := atoms_spec (ws := wsX5_keepsGroups) B.pre
  have hown : s.vm.findClass RX5 = some m.cls := findClass_of_methodNamed B.named
  have hlocks := B.notSynchronized
  have hK := hKK.1
  have hl := lv_entry ([.ref h, .int v]) (n := 5) (Nat.le_of_ble_eq_true rfl)
  rw [lg_entry_eq]
  generalize (lg_sl ([.ref h, .int v]) ++ List.replicate (5 - (lg_sl ([.ref h, .int v])).length) Slot.unset).toArray = ls at hl ⊢
  have hl : lv_has ls 5 [(0, .ref h), (1, .int v)] := hl
  refine lv_iconst (v := 1) hx hb dX5_keepsGroups_0 (by decide) ?_
  refine lv_istore_n (lv' := [(2, .int 1), (0, .ref h), (1, .int v)]) hx hb dX5_keepsGroups_1 rfl hl (by decide) rfl (fun ls hl => ?_)
  refine loopJ (nL := 5) (I := fun (jx : Nat) => jx ≤ n ∧ allU (grpB gb le mo bd v) jx = true) (μ := fun (jx : Nat) => n - jx) (lv := fun (jx : Nat) => [(0, .ref h), (1, .int v), (2, .int (nI (jx + 1)))]) (pc' := 2) (fun x hI ih_2 ls hl => ?_) 0 (⟨Nat.zero_le _, rfl⟩) ls (lv_sub hl [1, 2, 0] rfl)
  obtain ⟨jx, rfl⟩ : ∃ y, y = x := ⟨_, rfl⟩
  have hI : jx ≤ n ∧ allU (grpB gb le mo bd v) jx = true := hI
  have hl : lv_has ls 5 [(0, .ref h), (1, .int v), (2, .int (nI (jx + 1)))] := hl
  refine lv_iload_n hx hb dX5_keepsGroups_2 rfl (lv_at hl 2 rfl) ?_
  refine lv_aload_n hx hb dX5_keepsGroups_3 rfl (lv_at hl 0 rfl) ?_
  refine va_get (D := G.1) (ci := 7) (v := .int (nI n)) (C := RX5) (T := TX5) (N := 8) hx hb hts iX5_keepsGroups_X5 hown hK hP 0 rfl rfl 0 (by decide) (hts _ fX5_keepsGroups_1) (fun _ h9 => h9) rfl dX5_keepsGroups_4 ?_
  refine lv_icmp_gt (tgt := 82) hx hb dX5_keepsGroups_7 (by decide) (fun c_7 => ?_) (fun c_7 => ?_)
  · skip
    have hj : jx = n := by have := (nI_ltI (a := n) (b := jx + 1) (by omega) (by omega)).mp c_7; omega
    refine lv_iconst (v := 1) hx hb dX5_keepsGroups_82 (by decide) ?_
    exact pret hx hb hr hlocks rfl (by rw [← hj, hI.2]; rfl) dX5_keepsGroups_83
  · skip
    have hj : jx < n := by have := mt (nI_ltI (a := n) (b := jx + 1) (by omega) (by omega)).mpr c_7; omega
    refine lv_iload_n hx hb dX5_keepsGroups_10 rfl (lv_at hl 1 rfl) ?_
    refine lv_aload_n hx hb dX5_keepsGroups_11 rfl (lv_at hl 0 rfl) ?_
    refine va_get (D := G.1) (ci := 7) (v := .ref k4) (C := RX5) (T := TX5) (N := 8) hx hb hts iX5_keepsGroups_X5 hown hK hP 0 rfl rfl 4 (by decide) (hts _ fX5_keepsGroups_2) (fun _ h9 => h9) rfl dX5_keepsGroups_12 ?_
    refine lv_iload_n hx hb dX5_keepsGroups_15 rfl (lv_at hl 2 rfl) ?_
    refine cpN (As := [.ref k4, .int (nI (jx + 1))]) (rest := [.int v]) ⟨hx, hb, hml, hown, hts⟩ (c_X7_atk l G k4 15 gb (nI (jx + 1)) (jx + 1) (rfl) (by omega) (by decide)) ⟨va_cnB (own := RX5) (host := RX7) (index := 42) (y := yX7_at) 2 hts gX5_keepsGroups_X7_at_n42 rfl rfl rfl (hKK.2.nth 8 (q := (RX5, 42, yX7_at)) rfl) (hts _ fX5_keepsGroups_3) hd_X7_at ⟨Nat.le_of_ble_eq_true rfl, Nat.le_of_ble_eq_true rfl⟩, (hts _ fX5_keepsGroups_4), trivial⟩ hKK hP [1] rfl rfl hl.1 rfl (Nat.le_of_ble_eq_true rfl) dX5_keepsGroups_16 ⟨Nat.zero_le _, Nat.zero_le _⟩ ?_
    refine lv_iand hx hb dX5_keepsGroups_19 ?_
    refine cpS (As := [.int (v &&& (gb (jx + 1)))]) (rest := []) ⟨hx, hb, hml, hown, hts⟩ (c_J6_bitCount_0f7a4 l G (v &&& (gb (jx + 1)))) (va_cwS 1 hts gX5_keepsGroups_J6_bitCount_0f7a4 rfl rfl rfl hd_J6_bitCount_0f7a4 ⟨Nat.le_of_ble_eq_true rfl, Nat.le_of_ble_eq_true rfl⟩) hKK hP [] rfl rfl hl.1 rfl (Nat.le_of_ble_eq_true rfl) dX5_keepsGroups_20 ⟨Nat.zero_le _, Nat.zero_le _⟩ ?_
    refine lv_istore_n (lv' := [(3, .int (bcI (v &&& (gb (jx + 1))))), (0, .ref h), (1, .int v), (2, .int (nI (jx + 1)))]) hx hb dX5_keepsGroups_23 rfl hl (by decide) rfl (fun ls hl => ?_)
    refine lv_iload_n hx hb dX5_keepsGroups_24 rfl (lv_at hl 2 rfl) ?_
    refine lv_aload_n hx hb dX5_keepsGroups_25 rfl (lv_at hl 1 rfl) ?_
    refine va_get (D := G.1) (ci := 7) (v := .int bd) (C := RX5) (T := TX5) (N := 8) hx hb hts iX5_keepsGroups_X5 hown hK hP 0 rfl rfl 7 (by decide) (hts _ fX5_keepsGroups_5) (fun _ h9 => h9) rfl dX5_keepsGroups_26 ?_
    refine lv_iand hx hb dX5_keepsGroups_29 ?_
    refine lv_iload_n hx hb dX5_keepsGroups_30 rfl (lv_at hl 3 rfl) ?_
    refine cpN (As := [.int (nI (jx + 1))]) (rest := [.int (v &&& bd)]) ⟨hx, hb, hml, hown, hts⟩ (c_X7_bit l G (nI (jx + 1))) ⟨va_cnB (own := RX5) (host := RX7) (index := 46) (y := yX7_bit) 1 hts gX5_keepsGroups_X7_bit_n46 rfl rfl rfl (hKK.2.nth 9 (q := (RX5, 46, yX7_bit)) rfl) (hts _ fX5_keepsGroups_3) hd_X7_bit ⟨Nat.le_of_ble_eq_true rfl, Nat.le_of_ble_eq_true rfl⟩, (hts _ fX5_keepsGroups_6), trivial⟩ hKK hP [] rfl rfl hl.1 rfl (Nat.le_of_ble_eq_true rfl) dX5_keepsGroups_31 ⟨Nat.zero_le _, Nat.zero_le _⟩ ?_
    refine lv_iand hx hb dX5_keepsGroups_34 ?_
    refine lv_if_eq (tgt := 42) hx hb dX5_keepsGroups_35 (by decide) (fun c_35 => ?_) (fun c_35 => ?_)
    · skip
      refine lv_iconst (v := 0) hx hb dX5_keepsGroups_42 (by decide) ?_
      refine lv_istore (lv' := [(4, .int 0), (3, .int (bcI (v &&& (gb (jx + 1))))), (0, .ref h), (1, .int v), (2, .int (nI (jx + 1)))]) hx hb dX5_keepsGroups_43 hl (by decide) rfl (fun ls hl => ?_)
      refine lv_iload hx hb dX5_keepsGroups_45 (lv_at hl 0 rfl) ?_
      refine lv_if_eq (tgt := 76) hx hb dX5_keepsGroups_47 (by decide) (fun c_47 => ?_) (fun c_47 => ?_)
      · skip
        refine lv_iinc (v := nI (jx + 1 + 1)) (lv' := [(2, .int (nI (jx + 1 + 1))), (4, .int 0), (3, .int (bcI (v &&& (gb (jx + 1))))), (0, .ref h), (1, .int v)]) hx hb dX5_keepsGroups_76 hl (k := 4) rfl (nI_1 (jx + 1)) (by decide) rfl (fun ls hl => ?_)
        refine lv_goto (tgt := 2) hx hb dX5_keepsGroups_79 (by decide) ?_
        exact ih_2 (jx + 1) (⟨hj, allU_s hI.2 (by unfold grpB; rw [if_pos c_35])⟩) (by show n - (jx + 1) < n - jx; omega) ls (lv_sub hl [3, 4, 0] rfl)
      · exact absurd rfl c_47
    · skip
      refine lv_iconst (v := 1) hx hb dX5_keepsGroups_38 (by decide) ?_
      refine lv_goto (tgt := 43) hx hb dX5_keepsGroups_39 (by decide) ?_
      refine lv_istore (lv' := [(4, .int 1), (3, .int (bcI (v &&& (gb (jx + 1))))), (0, .ref h), (1, .int v), (2, .int (nI (jx + 1)))]) hx hb dX5_keepsGroups_43 hl (by decide) rfl (fun ls hl => ?_)
      refine lv_iload hx hb dX5_keepsGroups_45 (lv_at hl 0 rfl) ?_
      refine lv_if_eq (tgt := 76) hx hb dX5_keepsGroups_47 (by decide) (fun c_47 => ?_) (fun c_47 => ?_)
      · exact absurd c_47 (by decide)
      · skip
        refine lv_iload_n hx hb dX5_keepsGroups_50 rfl (lv_at hl 1 rfl) ?_
        refine lv_aload_n hx hb dX5_keepsGroups_51 rfl (lv_at hl 2 rfl) ?_
        refine va_get (D := G.1) (ci := 7) (v := .ref k5) (C := RX5) (T := TX5) (N := 8) hx hb hts iX5_keepsGroups_X5 hown hK hP 0 rfl rfl 5 (by decide) (hts _ fX5_keepsGroups_7) (fun _ h9 => h9) rfl dX5_keepsGroups_52 ?_
        refine lv_iload_n hx hb dX5_keepsGroups_55 rfl (lv_at hl 4 rfl) ?_
        refine cpN (As := [.ref k5, .int (nI (jx + 1))]) (rest := [.int (bcI (v &&& (gb (jx + 1))))]) ⟨hx, hb, hml, hown, hts⟩ (c_X7_atk l G k5 15 le (nI (jx + 1)) (jx + 1) (rfl) (by omega) (by decide)) ⟨va_cnB (own := RX5) (host := RX7) (index := 42) (y := yX7_at) 2 hts gX5_keepsGroups_X7_at_n42 rfl rfl rfl (hKK.2.nth 8 (q := (RX5, 42, yX7_at)) rfl) (hts _ fX5_keepsGroups_3) hd_X7_at ⟨Nat.le_of_ble_eq_true rfl, Nat.le_of_ble_eq_true rfl⟩, (hts _ fX5_keepsGroups_4), trivial⟩ hKK hP [2] rfl rfl hl.1 rfl (Nat.le_of_ble_eq_true rfl) dX5_keepsGroups_56 ⟨Nat.zero_le _, Nat.zero_le _⟩ ?_
        refine lv_icmp_lt (tgt := 74) hx hb dX5_keepsGroups_59 (by decide) (fun c_59 => ?_) (fun c_59 => ?_)
        · skip
          refine lv_iconst (v := 0) hx hb dX5_keepsGroups_74 (by decide) ?_
          exact pret hx hb hr hlocks rfl (by rw [allU_no (k := jx) (by unfold grpB; rw [if_neg c_35, if_pos c_59]) n hj]; rfl) dX5_keepsGroups_75
        · skip
          refine lv_iload_n hx hb dX5_keepsGroups_62 rfl (lv_at hl 1 rfl) ?_
          refine lv_aload_n hx hb dX5_keepsGroups_63 rfl (lv_at hl 2 rfl) ?_
          refine va_get (D := G.1) (ci := 7) (v := .ref k6) (C := RX5) (T := TX5) (N := 8) hx hb hts iX5_keepsGroups_X5 hown hK hP 0 rfl rfl 6 (by decide) (hts _ fX5_keepsGroups_8) (fun _ h9 => h9) rfl dX5_keepsGroups_64 ?_
          refine lv_iload_n hx hb dX5_keepsGroups_67 rfl (lv_at hl 4 rfl) ?_
          refine cpN (As := [.ref k6, .int (nI (jx + 1))]) (rest := [.int (bcI (v &&& (gb (jx + 1))))]) ⟨hx, hb, hml, hown, hts⟩ (c_X7_atk l G k6 15 mo (nI (jx + 1)) (jx + 1) (rfl) (by omega) (by decide)) ⟨va_cnB (own := RX5) (host := RX7) (index := 42) (y := yX7_at) 2 hts gX5_keepsGroups_X7_at_n42 rfl rfl rfl (hKK.2.nth 8 (q := (RX5, 42, yX7_at)) rfl) (hts _ fX5_keepsGroups_3) hd_X7_at ⟨Nat.le_of_ble_eq_true rfl, Nat.le_of_ble_eq_true rfl⟩, (hts _ fX5_keepsGroups_4), trivial⟩ hKK hP [3] rfl rfl hl.1 rfl (Nat.le_of_ble_eq_true rfl) dX5_keepsGroups_68 ⟨Nat.zero_le _, Nat.zero_le _⟩ ?_
          refine lv_icmp_le (tgt := 76) hx hb dX5_keepsGroups_71 (by decide) (fun c_71 => ?_) (fun c_71 => ?_)
          · skip
            refine lv_iinc (v := nI (jx + 1 + 1)) (lv' := [(2, .int (nI (jx + 1 + 1))), (4, .int 1), (3, .int (bcI (v &&& (gb (jx + 1))))), (0, .ref h), (1, .int v)]) hx hb dX5_keepsGroups_76 hl (k := 4) rfl (nI_1 (jx + 1)) (by decide) rfl (fun ls hl => ?_)
            refine lv_goto (tgt := 2) hx hb dX5_keepsGroups_79 (by decide) ?_
            exact ih_2 (jx + 1) (⟨hj, allU_s hI.2 (by unfold grpB; rw [if_neg c_35, if_neg c_59]; exact decide_eq_true c_71)⟩) (by show n - (jx + 1) < n - jx; omega) ls (lv_sub hl [3, 4, 0] rfl)
          · skip
            refine lv_iconst (v := 0) hx hb dX5_keepsGroups_74 (by decide) ?_
            exact pret hx hb hr hlocks rfl (by rw [allU_no (k := jx) (by unfold grpB; rw [if_neg c_35, if_neg c_59]; exact decide_eq_false c_71) n hj]; rfl) dX5_keepsGroups_75

theorem iX1_keeps_X1 : ∀ w ∈ u_ws RX1 TX1 6, w ∈ wsX1_keeps := by decide +kernel
theorem fX1_keeps_1 : Cond.fieldLink RX1 27 "FeatureSolve$Formulas" "size" "I" ∈ wsX1_keeps := by decide +kernel
theorem fX1_keeps_2 : Cond.fieldLink RX1 9 "FeatureSolve$Formulas" "ops" "[I" ∈ wsX1_keeps := by decide +kernel
theorem fX1_keeps_3 : Cond.initialized RX7 ∈ wsX1_keeps := by decide +kernel
theorem fX1_keeps_4 : Cond.static yX7_at ∈ wsX1_keeps := by decide +kernel
theorem fX1_keeps_5 : Cond.fieldLink RX1 21 "FeatureSolve$Formulas" "rightBits" "[I" ∈ wsX1_keeps := by decide +kernel
theorem fX1_keeps_6 : Cond.fieldLink RX1 24 "FeatureSolve$Formulas" "rightWants" "[I" ∈ wsX1_keeps := by decide +kernel
theorem fX1_keeps_7 : Cond.fieldLink RX1 15 "FeatureSolve$Formulas" "leftBits" "[I" ∈ wsX1_keeps := by decide +kernel
theorem fX1_keeps_8 : Cond.fieldLink RX1 18 "FeatureSolve$Formulas" "leftWants" "[I" ∈ wsX1_keeps := by decide +kernel
set_option maxHeartbeats 4000000 in
set_option maxRecDepth 100000 in
/-- Formulas.keeps(v) -/
theorem c_X1_keeps (l : Launch) (G : GG) (h q k1 k2 k3 k4 k5 : Nat) (op lb lw rb rw : Nat → Int32) (v : Int32) (hq : q ≤ 40) : Met l yX1_keeps wsX1_keeps (rmK 1) (va_Pc [.ref h, .int v] (PS G [(oX1 h (nI q) k1 k2 k3 k4 k5), (cI G k1 40 op), (cI G k2 40 lb), (cI G k3 40 lw), (cI G k4 40 rb), (cI G k5 40 rw)])) (QcRead (bI (allZ (frmB op lb lw rb rw v) q))) 0 0 (fun _ => False) := by
  refine Met.ofW (cc := cX1_keeps) (maxL := 5) (ret := (some .boolean)) (by decide) rfl ?_
  intro p e s m args below meth c s₁ B hml hv
  obtain ⟨rfl, hP, hKK⟩ := hv
  have hx := B.exec
  have hb := B.bytes
  have hr := B.returns
  have hts := atoms_spec (ws := wsX1_keeps) B.pre
  have hown : s.vm.findClass RX1 = some m.cls := findClass_of_methodNamed B.named
  have hlocks := B.notSynchronized
  have hK := hKK.1
  have hl := lv_entry ([.ref h, .int v]) (n := 5) (Nat.le_of_ble_eq_true rfl)
  rw [lg_entry_eq]
  generalize (lg_sl ([.ref h, .int v]) ++ List.replicate (5 - (lg_sl ([.ref h, .int v])).length) Slot.unset).toArray = ls at hl ⊢
  have hl : lv_has ls 5 [(0, .ref h), (1, .int v)] := hl
  refine lv_iconst (v := 0) hx hb dX1_keeps_0 (by decide) ?_
  refine lv_istore_n (lv' := [(2, .int 0), (0, .ref h), (1, .int v)]) hx hb dX1_keeps_1 rfl hl (by decide) rfl (fun ls hl => ?_)
  refine loopJ (nL := 5) (I := fun (jx : Nat) => jx ≤ q ∧ allZ (frmB op lb lw rb rw v) jx = true) (μ := fun (jx : Nat) => q - jx) (lv := fun (jx : Nat) => [(0, .ref h), (1, .int v), (2, .int (nI jx))]) (pc' := 2) (fun x hI ih_2 ls hl => ?_) 0 (⟨Nat.zero_le _, rfl⟩) ls (lv_sub hl [1, 2, 0] rfl)
  obtain ⟨jx, rfl⟩ : ∃ y, y = x := ⟨_, rfl⟩
  have hI : jx ≤ q ∧ allZ (frmB op lb lw rb rw v) jx = true := hI
  have hl : lv_has ls 5 [(0, .ref h), (1, .int v), (2, .int (nI jx))] := hl
  refine lv_iload_n hx hb dX1_keeps_2 rfl (lv_at hl 2 rfl) ?_
  refine lv_aload_n hx hb dX1_keeps_3 rfl (lv_at hl 0 rfl) ?_
  refine va_get (D := G.1) (ci := 3) (v := .int (nI q)) (C := RX1) (T := TX1) (N := 6) hx hb hts iX1_keeps_X1 hown hK hP 0 rfl rfl 0 (by decide) (hts _ fX1_keeps_1) (fun _ h9 => h9) rfl dX1_keeps_4 ?_
  refine lv_icmp_ge (tgt := 90) hx hb dX1_keeps_7 (by decide) (fun c_7 => ?_) (fun c_7 => ?_)
  · skip
    have hj : jx = q := by have := (nI_leI (a := q) (b := jx) (by omega) (by omega)).mp c_7; omega
    refine lv_iconst (v := 1) hx hb dX1_keeps_90 (by decide) ?_
    exact pret hx hb hr hlocks rfl (by rw [← hj, hI.2]; rfl) dX1_keeps_91
  · skip
    have hj : jx < q := by have := mt (nI_leI (a := q) (b := jx) (by omega) (by omega)).mpr c_7; omega
    refine cutJ (nL := 5) (lv := [(0, .ref h), (1, .int v), (2, .int (nI jx))]) (pc' := 36) (st' := [.int (bI (decide (v &&& lb jx = lw jx)))]) (fun ls hl => ?_) (fun hJ_36 => ?_)
    · skip
      refine lv_istore_n (lv' := [(3, .int (bI (decide (v &&& lb jx = lw jx)))), (0, .ref h), (1, .int v), (2, .int (nI jx))]) hx hb dX1_keeps_36 rfl hl (by decide) rfl (fun ls hl => ?_)
      refine cutJ (nL := 5) (lv := [(3, .int (bI (decide (v &&& lb jx = lw jx)))), (0, .ref h), (1, .int v), (2, .int (nI jx))]) (pc' := 63) (st' := [.int (bI (decide (v &&& rb jx = rw jx)))]) (fun ls hl => ?_) (fun hJ_63 => ?_)
      · skip
        refine lv_istore (lv' := [(4, .int (bI (decide (v &&& rb jx = rw jx)))), (3, .int (bI (decide (v &&& lb jx = lw jx)))), (0, .ref h), (1, .int v), (2, .int (nI jx))]) hx hb dX1_keeps_63 hl (by decide) rfl (fun ls hl => ?_)
        refine lv_aload_n hx hb dX1_keeps_65 rfl (lv_at hl 2 rfl) ?_
        refine va_get (D := G.1) (ci := 3) (v := .ref k1) (C := RX1) (T := TX1) (N := 6) hx hb hts iX1_keeps_X1 hown hK hP 0 rfl rfl 1 (by decide) (hts _ fX1_keeps_2) (fun _ h9 => h9) rfl dX1_keeps_66 ?_
        refine lv_iload_n hx hb dX1_keeps_69 rfl (lv_at hl 4 rfl) ?_
        refine cpN (As := [.ref k1, .int (nI jx)]) (rest := []) ⟨hx, hb, hml, hown, hts⟩ (c_X7_atk l G k1 40 op (nI jx) jx (rfl) (by omega) (by decide)) ⟨va_cnB (own := RX1) (host := RX7) (index := 42) (y := yX7_at) 2 hts gX1_keeps_X7_at_n42 rfl rfl rfl (hKK.2.nth 19 (q := (RX1, 42, yX7_at)) rfl) (hts _ fX1_keeps_3) hd_X7_at ⟨Nat.le_of_ble_eq_true rfl, Nat.le_of_ble_eq_true rfl⟩, (hts _ fX1_keeps_4), trivial⟩ hKK hP [1] rfl rfl hl.1 rfl (Nat.le_of_ble_eq_true rfl) dX1_keeps_70 ⟨Nat.zero_le _, Nat.zero_le _⟩ ?_
        refine lv_iload_n hx hb dX1_keeps_73 rfl (lv_at hl 1 rfl) ?_
        refine lv_iload hx hb dX1_keeps_74 (lv_at hl 0 rfl) ?_
        refine cpS (As := [.int (op jx), .int (bI (decide (v &&& lb jx = lw jx))), .int (bI (decide (v &&& rb jx = rw jx)))]) (rest := []) ⟨hx, hb, hml, hown, hts⟩ (c_X1_holds l G (op jx) (decide (v &&& lb jx = lw jx)) (decide (v &&& rb jx = rw jx))) (va_cwS 3 hts gX1_keeps_X1_holds rfl rfl rfl hd_X1_holds ⟨Nat.le_of_ble_eq_true rfl, Nat.le_of_ble_eq_true rfl⟩) hKK hP [] rfl rfl hl.1 rfl (Nat.le_of_ble_eq_true rfl) dX1_keeps_76 ⟨Nat.zero_le _, Nat.zero_le _⟩ ?_
        refine lv_if_ne (tgt := 84) hx hb dX1_keeps_79 (by decide) (fun c_79 => ?_) (fun c_79 => ?_)
        · skip
          refine lv_iinc (v := nI (jx + 1)) (lv' := [(2, .int (nI (jx + 1))), (4, .int (bI (decide (v &&& rb jx = rw jx)))), (3, .int (bI (decide (v &&& lb jx = lw jx)))), (0, .ref h), (1, .int v)]) hx hb dX1_keeps_84 hl (k := 4) rfl (nI_1 jx) (by decide) rfl (fun ls hl => ?_)
          refine lv_goto (tgt := 2) hx hb dX1_keeps_87 (by decide) ?_
          exact ih_2 (jx + 1) (⟨hj, allZ_s hI.2 (bI_n0 c_79)⟩) (by show q - (jx + 1) < q - jx; omega) ls (lv_sub hl [3, 4, 0] rfl)
        · skip
          refine lv_iconst (v := 0) hx hb dX1_keeps_82 (by decide) ?_
          exact pret hx hb hr hlocks rfl (by rw [allZ_no (k := jx) (bI_0.mp c_79) q hj]; rfl) dX1_keeps_83
      · skip
        refine lv_iload_n hx hb dX1_keeps_37 rfl (lv_at hl 2 rfl) ?_
        refine lv_aload_n hx hb dX1_keeps_38 rfl (lv_at hl 1 rfl) ?_
        refine va_get (D := G.1) (ci := 3) (v := .ref k4) (C := RX1) (T := TX1) (N := 6) hx hb hts iX1_keeps_X1 hown hK hP 0 rfl rfl 4 (by decide) (hts _ fX1_keeps_5) (fun _ h9 => h9) rfl dX1_keeps_39 ?_
        refine lv_iload_n hx hb dX1_keeps_42 rfl (lv_at hl 3 rfl) ?_
        refine cpN (As := [.ref k4, .int (nI jx)]) (rest := [.int v]) ⟨hx, hb, hml, hown, hts⟩ (c_X7_atk l G k4 40 rb (nI jx) jx (rfl) (by omega) (by decide)) ⟨va_cnB (own := RX1) (host := RX7) (index := 42) (y := yX7_at) 2 hts gX1_keeps_X7_at_n42 rfl rfl rfl (hKK.2.nth 19 (q := (RX1, 42, yX7_at)) rfl) (hts _ fX1_keeps_3) hd_X7_at ⟨Nat.le_of_ble_eq_true rfl, Nat.le_of_ble_eq_true rfl⟩, (hts _ fX1_keeps_4), trivial⟩ hKK hP [4] rfl rfl hl.1 rfl (Nat.le_of_ble_eq_true rfl) dX1_keeps_43 ⟨Nat.zero_le _, Nat.zero_le _⟩ ?_
        refine lv_iand hx hb dX1_keeps_46 ?_
        refine lv_aload_n hx hb dX1_keeps_47 rfl (lv_at hl 1 rfl) ?_
        refine va_get (D := G.1) (ci := 3) (v := .ref k5) (C := RX1) (T := TX1) (N := 6) hx hb hts iX1_keeps_X1 hown hK hP 0 rfl rfl 5 (by decide) (hts _ fX1_keeps_6) (fun _ h9 => h9) rfl dX1_keeps_48 ?_
        refine lv_iload_n hx hb dX1_keeps_51 rfl (lv_at hl 3 rfl) ?_
        refine cpN (As := [.ref k5, .int (nI jx)]) (rest := [.int (v &&& (rb jx))]) ⟨hx, hb, hml, hown, hts⟩ (c_X7_atk l G k5 40 rw (nI jx) jx (rfl) (by omega) (by decide)) ⟨va_cnB (own := RX1) (host := RX7) (index := 42) (y := yX7_at) 2 hts gX1_keeps_X7_at_n42 rfl rfl rfl (hKK.2.nth 19 (q := (RX1, 42, yX7_at)) rfl) (hts _ fX1_keeps_3) hd_X7_at ⟨Nat.le_of_ble_eq_true rfl, Nat.le_of_ble_eq_true rfl⟩, (hts _ fX1_keeps_4), trivial⟩ hKK hP [5] rfl rfl hl.1 rfl (Nat.le_of_ble_eq_true rfl) dX1_keeps_52 ⟨Nat.zero_le _, Nat.zero_le _⟩ ?_
        refine lv_icmp_ne (tgt := 62) hx hb dX1_keeps_55 (by decide) (fun c_55 => ?_) (fun c_55 => ?_)
        · skip
          refine lv_iconst (v := 0) hx hb dX1_keeps_62 (by decide) ?_
          refine stI (y := (bI (decide (v &&& rb jx = rw jx)))) (bI_no _ decide_eq_true_iff c_55) ?_
          exact hJ_63 ls (lv_sub hl [0, 1, 2, 3] rfl)
        · skip
          refine lv_iconst (v := 1) hx hb dX1_keeps_58 (by decide) ?_
          refine lv_goto (tgt := 63) hx hb dX1_keeps_59 (by decide) ?_
          refine stI (y := (bI (decide (v &&& rb jx = rw jx)))) (bI_of _ decide_eq_true_iff c_55) ?_
          exact hJ_63 ls (lv_sub hl [0, 1, 2, 3] rfl)
    · skip
      refine lv_iload_n hx hb dX1_keeps_10 rfl (lv_at hl 1 rfl) ?_
      refine lv_aload_n hx hb dX1_keeps_11 rfl (lv_at hl 0 rfl) ?_
      refine va_get (D := G.1) (ci := 3) (v := .ref k2) (C := RX1) (T := TX1) (N := 6) hx hb hts iX1_keeps_X1 hown hK hP 0 rfl rfl 2 (by decide) (hts _ fX1_keeps_7) (fun _ h9 => h9) rfl dX1_keeps_12 ?_
      refine lv_iload_n hx hb dX1_keeps_15 rfl (lv_at hl 2 rfl) ?_
      refine cpN (As := [.ref k2, .int (nI jx)]) (rest := [.int v]) ⟨hx, hb, hml, hown, hts⟩ (c_X7_atk l G k2 40 lb (nI jx) jx (rfl) (by omega) (by decide)) ⟨va_cnB (own := RX1) (host := RX7) (index := 42) (y := yX7_at) 2 hts gX1_keeps_X7_at_n42 rfl rfl rfl (hKK.2.nth 19 (q := (RX1, 42, yX7_at)) rfl) (hts _ fX1_keeps_3) hd_X7_at ⟨Nat.le_of_ble_eq_true rfl, Nat.le_of_ble_eq_true rfl⟩, (hts _ fX1_keeps_4), trivial⟩ hKK hP [2] rfl rfl hl.1 rfl (Nat.le_of_ble_eq_true rfl) dX1_keeps_16 ⟨Nat.zero_le _, Nat.zero_le _⟩ ?_
      refine lv_iand hx hb dX1_keeps_19 ?_
      refine lv_aload_n hx hb dX1_keeps_20 rfl (lv_at hl 0 rfl) ?_
      refine va_get (D := G.1) (ci := 3) (v := .ref k3) (C := RX1) (T := TX1) (N := 6) hx hb hts iX1_keeps_X1 hown hK hP 0 rfl rfl 3 (by decide) (hts _ fX1_keeps_8) (fun _ h9 => h9) rfl dX1_keeps_21 ?_
      refine lv_iload_n hx hb dX1_keeps_24 rfl (lv_at hl 2 rfl) ?_
      refine cpN (As := [.ref k3, .int (nI jx)]) (rest := [.int (v &&& (lb jx))]) ⟨hx, hb, hml, hown, hts⟩ (c_X7_atk l G k3 40 lw (nI jx) jx (rfl) (by omega) (by decide)) ⟨va_cnB (own := RX1) (host := RX7) (index := 42) (y := yX7_at) 2 hts gX1_keeps_X7_at_n42 rfl rfl rfl (hKK.2.nth 19 (q := (RX1, 42, yX7_at)) rfl) (hts _ fX1_keeps_3) hd_X7_at ⟨Nat.le_of_ble_eq_true rfl, Nat.le_of_ble_eq_true rfl⟩, (hts _ fX1_keeps_4), trivial⟩ hKK hP [3] rfl rfl hl.1 rfl (Nat.le_of_ble_eq_true rfl) dX1_keeps_25 ⟨Nat.zero_le _, Nat.zero_le _⟩ ?_
      refine lv_icmp_ne (tgt := 35) hx hb dX1_keeps_28 (by decide) (fun c_28 => ?_) (fun c_28 => ?_)
      · skip
        refine lv_iconst (v := 0) hx hb dX1_keeps_35 (by decide) ?_
        refine stI (y := (bI (decide (v &&& lb jx = lw jx)))) (bI_no _ decide_eq_true_iff c_28) ?_
        exact hJ_36 ls (lv_sub hl [0, 1, 2] rfl)
      · skip
        refine lv_iconst (v := 1) hx hb dX1_keeps_31 (by decide) ?_
        refine lv_goto (tgt := 36) hx hb dX1_keeps_32 (by decide) ?_
        refine stI (y := (bI (decide (v &&& lb jx = lw jx)))) (bI_of _ decide_eq_true_iff c_28) ?_
        exact hJ_36 ls (lv_sub hl [0, 1, 2] rfl)

theorem iX1_add_X1 : ∀ w ∈ u_ws RX1 TX1 6, w ∈ wsX1_add := by decide +kernel
theorem fX1_add_1 : Cond.fieldLink RX1 9 "FeatureSolve$Formulas" "ops" "[I" ∈ wsX1_add := by decide +kernel
theorem fX1_add_2 : Cond.fieldLink RX1 27 "FeatureSolve$Formulas" "size" "I" ∈ wsX1_add := by decide +kernel
theorem fX1_add_3 : Cond.initialized RX7 ∈ wsX1_add := by decide +kernel
theorem fX1_add_4 : Cond.static yX7_put ∈ wsX1_add := by decide +kernel
theorem fX1_add_5 : Cond.fieldLink RX1 15 "FeatureSolve$Formulas" "leftBits" "[I" ∈ wsX1_add := by decide +kernel
theorem fX1_add_6 : Cond.fieldLink RX1 18 "FeatureSolve$Formulas" "leftWants" "[I" ∈ wsX1_add := by decide +kernel
theorem fX1_add_7 : Cond.static yX7_bit ∈ wsX1_add := by decide +kernel
theorem fX1_add_8 : Cond.fieldLink RX1 21 "FeatureSolve$Formulas" "rightBits" "[I" ∈ wsX1_add := by decide +kernel
theorem fX1_add_9 : Cond.fieldLink RX1 24 "FeatureSolve$Formulas" "rightWants" "[I" ∈ wsX1_add := by decide +kernel
set_option maxHeartbeats 4000000 in
set_option maxRecDepth 100000 in
/-- Formulas.add(op, a, b) -/
theorem c_X1_add (l : Launch) (G : GG) (h q k1 k2 k3 k4 k5 : Nat) (op lb lw rb rw : Nat → Int32) (o x y : Int32) (hq : q < 40) : Met l yX1_add wsX1_add (rmK 2) (va_Pc [.ref h, .int o, .int x, .int y] (PM G [(oX1 h (nI q) k1 k2 k3 k4 k5), (cI G k1 40 op), (cI G k2 40 lb), (cI G k3 40 lw), (cI G k4 40 rb), (cI G k5 40 rw)])) (QG (S := Unit) G [(oX1 h (nI q) k1 k2 k3 k4 k5), (cI G k1 40 op), (cI G k2 40 lb), (cI G k3 40 lw), (cI G k4 40 rb), (cI G k5 40 rw)] (fun u => True) (fun u => some (.int (nI (q + 1)))) (fun u => [(oX1 h (nI (q + 1)) k1 k2 k3 k4 k5), (cI G k1 40 (upd op q o)), (cI G k2 40 (upd lb q (bitOfI x))), (cI G k3 40 (upd lw q (bitI x))), (cI G k4 40 (upd rb q (bitOfI y))), (cI G k5 40 (upd rw q (bitI y)))])) 0 0 (adr [(oX1 h (nI q) k1 k2 k3 k4 k5), (cI G k1 40 op), (cI G k2 40 lb), (cI G k3 40 lw), (cI G k4 40 rb), (cI G k5 40 rw)]) := by
  refine Met.ofW (cc := cX1_add) (maxL := 4) (ret := (some .int)) (by decide) rfl ?_
  intro p e s m args below meth c s₁ B hml hv
  obtain ⟨rfl, hP, hD0, hKK⟩ := hv
  have hx := B.exec
  have hb := B.bytes
  have hr := B.returns
  have hts := atoms_spec (ws := wsX1_add) B.pre
  have hown : s.vm.findClass RX1 = some m.cls := findClass_of_methodNamed B.named
  have hlocks := B.notSynchronized
  have hK := hKK.1
  generalize hAe : adr [(oX1 h (nI q) k1 k2 k3 k4 k5), (cI G k1 40 op), (cI G k2 40 lb), (cI G k3 40 lw), (cI G k4 40 rb), (cI G k5 40 rw)] = A
  have hD : va_D A [(oX1 h (nI q) k1 k2 k3 k4 k5), (cI G k1 40 op), (cI G k2 40 lb), (cI G k3 40 lw), (cI G k4 40 rb), (cI G k5 40 rw)] := by rw [← hAe]; exact hD0.own
  have hS : va_S A s.heap s.heap [] := va_S.rf
  have hP : va_P G.1 vwCl [(oX1 h (nI q) k1 k2 k3 k4 k5), (cI G k1 40 op), (cI G k2 40 lb), (cI G k3 40 lw), (cI G k4 40 rb), (cI G k5 40 rw)] s.heap := hP
  have hl := lv_entry ([.ref h, .int o, .int x, .int y]) (n := 4) (Nat.le_of_ble_eq_true rfl)
  rw [lg_entry_eq]
  generalize (lg_sl ([.ref h, .int o, .int x, .int y]) ++ List.replicate (4 - (lg_sl ([.ref h, .int o, .int x, .int y])).length) Slot.unset).toArray = ls at hl ⊢
  have hl : lv_has ls 4 [(0, .ref h), (1, .int o), (2, .int x), (3, .int y)] := hl
  refine lv_aload_n hx hb dX1_add_0 rfl (lv_at hl 0 rfl) ?_
  refine va_get (D := G.1) (ci := 3) (v := .ref k1) (C := RX1) (T := TX1) (N := 6) hx hb hts iX1_add_X1 hown hK hP 0 rfl rfl 1 (by decide) (hts _ fX1_add_1) (fun _ h9 => h9) rfl dX1_add_1 ?_
  refine lv_aload_n hx hb dX1_add_4 rfl (lv_at hl 0 rfl) ?_
  refine va_get (D := G.1) (ci := 3) (v := .int (nI q)) (C := RX1) (T := TX1) (N := 6) hx hb hts iX1_add_X1 hown hK hP 0 rfl rfl 0 (by decide) (hts _ fX1_add_2) (fun _ h9 => h9) rfl dX1_add_5 ?_
  refine lv_iload_n hx hb dX1_add_8 rfl (lv_at hl 1 rfl) ?_
  refine cgN (As := [.ref k1, .int (nI q), .int o]) (rest := []) ⟨hx, hb, hml, hown, hts⟩ (c_X7_putk l G k1 40 op (nI q) o q (rfl) (by omega) (by decide)) ⟨va_cnB (own := RX1) (host := RX7) (index := 31) (y := yX7_put) 3 hts gX1_add_X7_put_n31 rfl rfl rfl (hKK.2.nth 11 (q := (RX1, 31, yX7_put)) rfl) (hts _ fX1_add_3) hd_X7_put ⟨Nat.le_of_ble_eq_true rfl, Nat.le_of_ble_eq_true rfl⟩, (hts _ fX1_add_4), trivial⟩ hKK hP hD hS [1] rfl (by decide) rfl hl.1 rfl (Nat.le_of_ble_eq_true rfl) dX1_add_9 ⟨Nat.zero_le _, Nat.zero_le _⟩ (fun _ => rfl) (fun _ => rfl) (fun _ H locs _ hP hD hS => ?_)
  have hPD : PD G A [(oX1 h (nI q) k1 k2 k3 k4 k5), (cI G k1 40 (upd op q o)), (cI G k2 40 lb), (cI G k3 40 lw), (cI G k4 40 rb), (cI G k5 40 rw)] H := ⟨hP, hD⟩
  have hP := hPD.1
  have hD := hPD.2
  clear hPD
  refine lv_aload_n hx hb dX1_add_12 rfl (lv_at hl 0 rfl) ?_
  refine va_get (D := G.1) (ci := 3) (v := .ref k2) (C := RX1) (T := TX1) (N := 6) hx hb hts iX1_add_X1 hown hK hP 0 rfl rfl 2 (by decide) (hts _ fX1_add_5) (fun _ h9 => h9) rfl dX1_add_13 ?_
  refine lv_aload_n hx hb dX1_add_16 rfl (lv_at hl 0 rfl) ?_
  refine va_get (D := G.1) (ci := 3) (v := .int (nI q)) (C := RX1) (T := TX1) (N := 6) hx hb hts iX1_add_X1 hown hK hP 0 rfl rfl 0 (by decide) (hts _ fX1_add_2) (fun _ h9 => h9) rfl dX1_add_17 ?_
  refine lv_iload_n hx hb dX1_add_20 rfl (lv_at hl 2 rfl) ?_
  refine cpS (As := [.int x]) (rest := [.int (nI q), .ref k2]) ⟨hx, hb, hml, hown, hts⟩ (c_X1_bitOf l G x) (va_cwS 1 hts gX1_add_X1_bitOf rfl rfl rfl hd_X1_bitOf ⟨Nat.le_of_ble_eq_true rfl, Nat.le_of_ble_eq_true rfl⟩) hKK hP [] rfl rfl hl.1 rfl (Nat.le_of_ble_eq_true rfl) dX1_add_21 ⟨Nat.zero_le _, Nat.zero_le _⟩ ?_
  refine cgN (As := [.ref k2, .int (nI q), .int (bitOfI x)]) (rest := []) ⟨hx, hb, hml, hown, hts⟩ (c_X7_putk l G k2 40 lb (nI q) (bitOfI x) q (rfl) (by omega) (by decide)) ⟨va_cnB (own := RX1) (host := RX7) (index := 31) (y := yX7_put) 3 hts gX1_add_X7_put_n31 rfl rfl rfl (hKK.2.nth 11 (q := (RX1, 31, yX7_put)) rfl) (hts _ fX1_add_3) hd_X7_put ⟨Nat.le_of_ble_eq_true rfl, Nat.le_of_ble_eq_true rfl⟩, (hts _ fX1_add_4), trivial⟩ hKK hP hD hS [2] rfl (by decide) rfl hl.1 rfl (Nat.le_of_ble_eq_true rfl) dX1_add_24 ⟨Nat.zero_le _, Nat.zero_le _⟩ (fun _ => rfl) (fun _ => rfl) (fun _ H locs _ hP hD hS => ?_)
  have hPD : PD G A [(oX1 h (nI q) k1 k2 k3 k4 k5), (cI G k1 40 (upd op q o)), (cI G k2 40 (upd lb q (bitOfI x))), (cI G k3 40 lw), (cI G k4 40 rb), (cI G k5 40 rw)] H := ⟨hP, hD⟩
  have hP := hPD.1
  have hD := hPD.2
  clear hPD
  refine lv_aload_n hx hb dX1_add_27 rfl (lv_at hl 0 rfl) ?_
  refine va_get (D := G.1) (ci := 3) (v := .ref k3) (C := RX1) (T := TX1) (N := 6) hx hb hts iX1_add_X1 hown hK hP 0 rfl rfl 3 (by decide) (hts _ fX1_add_6) (fun _ h9 => h9) rfl dX1_add_28 ?_
  refine lv_aload_n hx hb dX1_add_31 rfl (lv_at hl 0 rfl) ?_
  refine va_get (D := G.1) (ci := 3) (v := .int (nI q)) (C := RX1) (T := TX1) (N := 6) hx hb hts iX1_add_X1 hown hK hP 0 rfl rfl 0 (by decide) (hts _ fX1_add_2) (fun _ h9 => h9) rfl dX1_add_32 ?_
  refine lv_iload_n hx hb dX1_add_35 rfl (lv_at hl 2 rfl) ?_
  refine cpN (As := [.int x]) (rest := [.int (nI q), .ref k3]) ⟨hx, hb, hml, hown, hts⟩ (c_X7_bit l G x) ⟨va_cnB (own := RX1) (host := RX7) (index := 39) (y := yX7_bit) 1 hts gX1_add_X7_bit_n39 rfl rfl rfl (hKK.2.nth 10 (q := (RX1, 39, yX7_bit)) rfl) (hts _ fX1_add_3) hd_X7_bit ⟨Nat.le_of_ble_eq_true rfl, Nat.le_of_ble_eq_true rfl⟩, (hts _ fX1_add_7), trivial⟩ hKK hP [] rfl rfl hl.1 rfl (Nat.le_of_ble_eq_true rfl) dX1_add_36 ⟨Nat.zero_le _, Nat.zero_le _⟩ ?_
  refine cgN (As := [.ref k3, .int (nI q), .int (bitI x)]) (rest := []) ⟨hx, hb, hml, hown, hts⟩ (c_X7_putk l G k3 40 lw (nI q) (bitI x) q (rfl) (by omega) (by decide)) ⟨va_cnB (own := RX1) (host := RX7) (index := 31) (y := yX7_put) 3 hts gX1_add_X7_put_n31 rfl rfl rfl (hKK.2.nth 11 (q := (RX1, 31, yX7_put)) rfl) (hts _ fX1_add_3) hd_X7_put ⟨Nat.le_of_ble_eq_true rfl, Nat.le_of_ble_eq_true rfl⟩, (hts _ fX1_add_4), trivial⟩ hKK hP hD hS [3] rfl (by decide) rfl hl.1 rfl (Nat.le_of_ble_eq_true rfl) dX1_add_39 ⟨Nat.zero_le _, Nat.zero_le _⟩ (fun _ => rfl) (fun _ => rfl) (fun _ H locs _ hP hD hS => ?_)
  have hPD : PD G A [(oX1 h (nI q) k1 k2 k3 k4 k5), (cI G k1 40 (upd op q o)), (cI G k2 40 (upd lb q (bitOfI x))), (cI G k3 40 (upd lw q (bitI x))), (cI G k4 40 rb), (cI G k5 40 rw)] H := ⟨hP, hD⟩
  have hP := hPD.1
  have hD := hPD.2
  clear hPD
  refine lv_aload_n hx hb dX1_add_42 rfl (lv_at hl 0 rfl) ?_
  refine va_get (D := G.1) (ci := 3) (v := .ref k4) (C := RX1) (T := TX1) (N := 6) hx hb hts iX1_add_X1 hown hK hP 0 rfl rfl 4 (by decide) (hts _ fX1_add_8) (fun _ h9 => h9) rfl dX1_add_43 ?_
  refine lv_aload_n hx hb dX1_add_46 rfl (lv_at hl 0 rfl) ?_
  refine va_get (D := G.1) (ci := 3) (v := .int (nI q)) (C := RX1) (T := TX1) (N := 6) hx hb hts iX1_add_X1 hown hK hP 0 rfl rfl 0 (by decide) (hts _ fX1_add_2) (fun _ h9 => h9) rfl dX1_add_47 ?_
  refine lv_iload_n hx hb dX1_add_50 rfl (lv_at hl 3 rfl) ?_
  refine cpS (As := [.int y]) (rest := [.int (nI q), .ref k4]) ⟨hx, hb, hml, hown, hts⟩ (c_X1_bitOf l G y) (va_cwS 1 hts gX1_add_X1_bitOf rfl rfl rfl hd_X1_bitOf ⟨Nat.le_of_ble_eq_true rfl, Nat.le_of_ble_eq_true rfl⟩) hKK hP [] rfl rfl hl.1 rfl (Nat.le_of_ble_eq_true rfl) dX1_add_51 ⟨Nat.zero_le _, Nat.zero_le _⟩ ?_
  refine cgN (As := [.ref k4, .int (nI q), .int (bitOfI y)]) (rest := []) ⟨hx, hb, hml, hown, hts⟩ (c_X7_putk l G k4 40 rb (nI q) (bitOfI y) q (rfl) (by omega) (by decide)) ⟨va_cnB (own := RX1) (host := RX7) (index := 31) (y := yX7_put) 3 hts gX1_add_X7_put_n31 rfl rfl rfl (hKK.2.nth 11 (q := (RX1, 31, yX7_put)) rfl) (hts _ fX1_add_3) hd_X7_put ⟨Nat.le_of_ble_eq_true rfl, Nat.le_of_ble_eq_true rfl⟩, (hts _ fX1_add_4), trivial⟩ hKK hP hD hS [4] rfl (by decide) rfl hl.1 rfl (Nat.le_of_ble_eq_true rfl) dX1_add_54 ⟨Nat.zero_le _, Nat.zero_le _⟩ (fun _ => rfl) (fun _ => rfl) (fun _ H locs _ hP hD hS => ?_)
  have hPD : PD G A [(oX1 h (nI q) k1 k2 k3 k4 k5), (cI G k1 40 (upd op q o)), (cI G k2 40 (upd lb q (bitOfI x))), (cI G k3 40 (upd lw q (bitI x))), (cI G k4 40 (upd rb q (bitOfI y))), (cI G k5 40 rw)] H := ⟨hP, hD⟩
  have hP := hPD.1
  have hD := hPD.2
  clear hPD
  refine lv_aload_n hx hb dX1_add_57 rfl (lv_at hl 0 rfl) ?_
  refine va_get (D := G.1) (ci := 3) (v := .ref k5) (C := RX1) (T := TX1) (N := 6) hx hb hts iX1_add_X1 hown hK hP 0 rfl rfl 5 (by decide) (hts _ fX1_add_9) (fun _ h9 => h9) rfl dX1_add_58 ?_
  refine lv_aload_n hx hb dX1_add_61 rfl (lv_at hl 0 rfl) ?_
  refine va_get (D := G.1) (ci := 3) (v := .int (nI q)) (C := RX1) (T := TX1) (N := 6) hx hb hts iX1_add_X1 hown hK hP 0 rfl rfl 0 (by decide) (hts _ fX1_add_2) (fun _ h9 => h9) rfl dX1_add_62 ?_
  refine lv_iload_n hx hb dX1_add_65 rfl (lv_at hl 3 rfl) ?_
  refine cpN (As := [.int y]) (rest := [.int (nI q), .ref k5]) ⟨hx, hb, hml, hown, hts⟩ (c_X7_bit l G y) ⟨va_cnB (own := RX1) (host := RX7) (index := 39) (y := yX7_bit) 1 hts gX1_add_X7_bit_n39 rfl rfl rfl (hKK.2.nth 10 (q := (RX1, 39, yX7_bit)) rfl) (hts _ fX1_add_3) hd_X7_bit ⟨Nat.le_of_ble_eq_true rfl, Nat.le_of_ble_eq_true rfl⟩, (hts _ fX1_add_7), trivial⟩ hKK hP [] rfl rfl hl.1 rfl (Nat.le_of_ble_eq_true rfl) dX1_add_66 ⟨Nat.zero_le _, Nat.zero_le _⟩ ?_
  refine cgN (As := [.ref k5, .int (nI q), .int (bitI y)]) (rest := []) ⟨hx, hb, hml, hown, hts⟩ (c_X7_putk l G k5 40 rw (nI q) (bitI y) q (rfl) (by omega) (by decide)) ⟨va_cnB (own := RX1) (host := RX7) (index := 31) (y := yX7_put) 3 hts gX1_add_X7_put_n31 rfl rfl rfl (hKK.2.nth 11 (q := (RX1, 31, yX7_put)) rfl) (hts _ fX1_add_3) hd_X7_put ⟨Nat.le_of_ble_eq_true rfl, Nat.le_of_ble_eq_true rfl⟩, (hts _ fX1_add_4), trivial⟩ hKK hP hD hS [5] rfl (by decide) rfl hl.1 rfl (Nat.le_of_ble_eq_true rfl) dX1_add_69 ⟨Nat.zero_le _, Nat.zero_le _⟩ (fun _ => rfl) (fun _ => rfl) (fun _ H locs _ hP hD hS => ?_)
  have hPD : PD G A [(oX1 h (nI q) k1 k2 k3 k4 k5), (cI G k1 40 (upd op q o)), (cI G k2 40 (upd lb q (bitOfI x))), (cI G k3 40 (upd lw q (bitI x))), (cI G k4 40 (upd rb q (bitOfI y))), (cI G k5 40 (upd rw q (bitI y)))] H := ⟨hP, hD⟩
  have hP := hPD.1
  have hD := hPD.2
  clear hPD
  refine lv_aload_n hx hb dX1_add_72 rfl (lv_at hl 0 rfl) ?_
  refine lv_dup hx hb dX1_add_73 rfl ?_
  refine va_get (D := G.1) (ci := 3) (v := .int (nI q)) (C := RX1) (T := TX1) (N := 6) hx hb hts iX1_add_X1 hown hK hP 0 rfl rfl 0 (by decide) (hts _ fX1_add_2) (fun _ h9 => h9) rfl dX1_add_74 ?_
  refine lv_iconst (v := 1) hx hb dX1_add_77 (by decide) ?_
  refine lv_iadd hx hb dX1_add_78 ?_
  refine stI (y := nI (q + 1)) (nI_1 q) ?_
  refine va_put (D := G.1) (ci := 3) (v := .int (nI (q + 1))) (ty := .int) (C := RX1) (T := TX1) (N := 6) hx hb hts iX1_add_X1 tyX1 tyX1_ok nmX1 hown hK hP hD hS 0 rfl rfl 0 (by decide) (hts _ fX1_add_2) (fun _ h9 => h9) rfl (by decide +kernel) rfl rfl (Nat.le_of_ble_eq_true rfl) dX1_add_79 (fun H locs hP hD hS => ?_)
  have hPD : PD G A [(oX1 h (nI (q + 1)) k1 k2 k3 k4 k5), (cI G k1 40 (upd op q o)), (cI G k2 40 (upd lb q (bitOfI x))), (cI G k3 40 (upd lw q (bitI x))), (cI G k4 40 (upd rb q (bitOfI y))), (cI G k5 40 (upd rw q (bitI y)))] H := ⟨hP, hD⟩
  have hP := hPD.1
  have hD := hPD.2
  clear hPD
  refine lv_aload_n hx hb dX1_add_82 rfl (lv_at hl 0 rfl) ?_
  refine va_get (D := G.1) (ci := 3) (v := .int (nI (q + 1))) (C := RX1) (T := TX1) (N := 6) hx hb hts iX1_add_X1 hown hK hP 0 rfl rfl 0 (by decide) (hts _ fX1_add_2) (fun _ h9 => h9) rfl dX1_add_83 ?_
  exact greti hx hb hr hlocks rfl hAe hS (()) (rfl) (trivial) (hP) dX1_add_86

theorem iX5_add_X5 : ∀ w ∈ u_ws RX5 TX5 8, w ∈ wsX5_add := by decide +kernel
theorem fX5_add_1 : Cond.fieldLink RX5 30 "FeatureSolve$Tree" "size" "I" ∈ wsX5_add := by decide +kernel
theorem fX5_add_2 : Cond.fieldLink RX5 9 "FeatureSolve$Tree" "kinds" "[I" ∈ wsX5_add := by decide +kernel
theorem fX5_add_3 : Cond.initialized RX7 ∈ wsX5_add := by decide +kernel
theorem fX5_add_4 : Cond.static yX7_put ∈ wsX5_add := by decide +kernel
theorem fX5_add_5 : Cond.fieldLink RX5 15 "FeatureSolve$Tree" "depths" "[I" ∈ wsX5_add := by decide +kernel
theorem fX5_add_6 : Cond.static yX7_at ∈ wsX5_add := by decide +kernel
theorem fX5_add_7 : Cond.fieldLink RX5 18 "FeatureSolve$Tree" "parentBits" "[I" ∈ wsX5_add := by decide +kernel
theorem fX5_add_8 : Cond.static yX7_bit ∈ wsX5_add := by decide +kernel
theorem fX5_add_9 : Cond.fieldLink RX5 21 "FeatureSolve$Tree" "groupedBits" "[I" ∈ wsX5_add := by decide +kernel
set_option maxHeartbeats 4000000 in
set_option maxRecDepth 100000 in
/-- Tree.add(parent, kind) -/
theorem c_X5_add (l : Launch) (G : GG) (h n : Nat) (k1 k2 k3 k4 k5 k6 : Nat) (bd : Int32) (kd dp pb gb : Nat → Int32) (p0 : Nat) (kn : Int32) (hn : n < 14) (hp : p0 < 15) : Met l yX5_add wsX5_add (rmK 1) (va_Pc [.ref h, .int (nI p0), .int kn] (PM G [(oX5 h (nI n) k1 k2 k3 k4 k5 k6 bd), (cI G k1 15 kd), (cI G k2 15 dp), (cI G k3 15 pb), (cI G k4 15 gb)])) (QG (S := Unit) G [(oX5 h (nI n) k1 k2 k3 k4 k5 k6 bd), (cI G k1 15 kd), (cI G k2 15 dp), (cI G k3 15 pb), (cI G k4 15 gb)] (fun u => True) (fun u => some (.int (nI (n + 1)))) (fun u => [(oX5 h (nI (n + 1)) k1 k2 k3 k4 k5 k6 bd), (cI G k1 15 (upd kd (n + 1) kn)), (cI G k2 15 (if n = 0 then upd dp (n + 1) 0 else upd dp (n + 1) (dp p0 + 1))), (cI G k3 15 (upd pb (n + 1) (bitI (nI p0)))), (cI G k4 15 (if kn = 2 then upd gb p0 (gb p0 ||| bitI (nI (n + 1))) else gb))])) 0 0 (adr [(oX5 h (nI n) k1 k2 k3 k4 k5 k6 bd), (cI G k1 15 kd), (cI G k2 15 dp), (cI G k3 15 pb), (cI G k4 15 gb)]) := by
  refine Met.ofW (cc := cX5_add) (maxL := 3) (ret := (some .int)) (by decide) rfl ?_
  intro p e s m args below meth c s₁ B hml hv
  obtain ⟨rfl, hP, hD0, hKK⟩ := hv
  have hx := B.exec
  have hb := B.bytes
  have hr := B.returns
  have hts := atoms_spec (ws := wsX5_add) B.pre
  have hown : s.vm.findClass RX5 = some m.cls := findClass_of_methodNamed B.named
  have hlocks := B.notSynchronized
  have hK := hKK.1
  generalize hAe : adr [(oX5 h (nI n) k1 k2 k3 k4 k5 k6 bd), (cI G k1 15 kd), (cI G k2 15 dp), (cI G k3 15 pb), (cI G k4 15 gb)] = A
  have hD : va_D A [(oX5 h (nI n) k1 k2 k3 k4 k5 k6 bd), (cI G k1 15 kd), (cI G k2 15 dp), (cI G k3 15 pb), (cI G k4 15 gb)] := by rw [← hAe]; exact hD0.own
  have hS : va_S A s.heap s.heap [] := va_S.rf
  have hP : va_P G.1 vwCl [(oX5 h (nI n) k1 k2 k3 k4 k5 k6 bd), (cI G k1 15 kd), (cI G k2 15 dp), (cI G k3 15 pb), (cI G k4 15 gb)] s.heap := hP
  have hl := lv_entry ([.ref h, .int (nI p0), .int kn]) (n := 3) (Nat.le_of_ble_eq_true rfl)
  rw [lg_entry_eq]
  generalize (lg_sl ([.ref h, .int (nI p0), .int kn]) ++ List.replicate (3 - (lg_sl ([.ref h, .int (nI p0), .int kn])).length) Slot.unset).toArray = ls at hl ⊢
  have hl : lv_has ls 3 [(0, .ref h), (1, .int (nI p0)), (2, .int kn)] := hl
  refine lv_aload_n hx hb dX5_add_0 rfl (lv_at hl 0 rfl) ?_
  refine lv_dup hx hb dX5_add_1 rfl ?_
  refine va_get (D := G.1) (ci := 7) (v := .int (nI n)) (C := RX5) (T := TX5) (N := 8) hx hb hts iX5_add_X5 hown hK hP 0 rfl rfl 0 (by decide) (hts _ fX5_add_1) (fun _ h9 => h9) rfl dX5_add_2 ?_
  refine lv_iconst (v := 1) hx hb dX5_add_5 (by decide) ?_
  refine lv_iadd hx hb dX5_add_6 ?_
  refine stI (y := nI (n + 1)) (nI_1 n) ?_
  refine va_put (D := G.1) (ci := 7) (v := .int (nI (n + 1))) (ty := .int) (C := RX5) (T := TX5) (N := 8) hx hb hts iX5_add_X5 tyX5 tyX5_ok nmX5 hown hK hP hD hS 0 rfl rfl 0 (by decide) (hts _ fX5_add_1) (fun _ h9 => h9) rfl (by decide +kernel) rfl rfl (Nat.le_of_ble_eq_true rfl) dX5_add_7 (fun H locs hP hD hS => ?_)
  have hPD : PD G A [(oX5 h (nI (n + 1)) k1 k2 k3 k4 k5 k6 bd), (cI G k1 15 kd), (cI G k2 15 dp), (cI G k3 15 pb), (cI G k4 15 gb)] H := ⟨hP, hD⟩
  have hP := hPD.1
  have hD := hPD.2
  clear hPD
  refine lv_aload_n hx hb dX5_add_10 rfl (lv_at hl 0 rfl) ?_
  refine va_get (D := G.1) (ci := 7) (v := .ref k1) (C := RX5) (T := TX5) (N := 8) hx hb hts iX5_add_X5 hown hK hP 0 rfl rfl 1 (by decide) (hts _ fX5_add_2) (fun _ h9 => h9) rfl dX5_add_11 ?_
  refine lv_aload_n hx hb dX5_add_14 rfl (lv_at hl 0 rfl) ?_
  refine va_get (D := G.1) (ci := 7) (v := .int (nI (n + 1))) (C := RX5) (T := TX5) (N := 8) hx hb hts iX5_add_X5 hown hK hP 0 rfl rfl 0 (by decide) (hts _ fX5_add_1) (fun _ h9 => h9) rfl dX5_add_15 ?_
  refine lv_iload_n hx hb dX5_add_18 rfl (lv_at hl 2 rfl) ?_
  refine cgN (As := [.ref k1, .int (nI (n + 1)), .int kn]) (rest := []) ⟨hx, hb, hml, hown, hts⟩ (c_X7_putk l G k1 15 kd (nI (n + 1)) kn (n + 1) (rfl) (by omega) (by decide)) ⟨va_cnB (own := RX5) (host := RX7) (index := 38) (y := yX7_put) 3 hts gX5_add_X7_put_n38 rfl rfl rfl (hKK.2.nth 7 (q := (RX5, 38, yX7_put)) rfl) (hts _ fX5_add_3) hd_X7_put ⟨Nat.le_of_ble_eq_true rfl, Nat.le_of_ble_eq_true rfl⟩, (hts _ fX5_add_4), trivial⟩ hKK hP hD hS [1] rfl (by decide) rfl hl.1 rfl (Nat.le_of_ble_eq_true rfl) dX5_add_19 ⟨Nat.zero_le _, Nat.zero_le _⟩ (fun _ => rfl) (fun _ => rfl) (fun _ H locs _ hP hD hS => ?_)
  have hPD : PD G A [(oX5 h (nI (n + 1)) k1 k2 k3 k4 k5 k6 bd), (cI G k1 15 (upd kd (n + 1) kn)), (cI G k2 15 dp), (cI G k3 15 pb), (cI G k4 15 gb)] H := ⟨hP, hD⟩
  have hP := hPD.1
  have hD := hPD.2
  clear hPD
  refine lv_aload_n hx hb dX5_add_22 rfl (lv_at hl 0 rfl) ?_
  refine va_get (D := G.1) (ci := 7) (v := .ref k2) (C := RX5) (T := TX5) (N := 8) hx hb hts iX5_add_X5 hown hK hP 0 rfl rfl 2 (by decide) (hts _ fX5_add_5) (fun _ h9 => h9) rfl dX5_add_23 ?_
  refine lv_aload_n hx hb dX5_add_26 rfl (lv_at hl 0 rfl) ?_
  refine va_get (D := G.1) (ci := 7) (v := .int (nI (n + 1))) (C := RX5) (T := TX5) (N := 8) hx hb hts iX5_add_X5 hown hK hP 0 rfl rfl 0 (by decide) (hts _ fX5_add_1) (fun _ h9 => h9) rfl dX5_add_27 ?_
  refine lv_aload_n hx hb dX5_add_30 rfl (lv_at hl 0 rfl) ?_
  refine va_get (D := G.1) (ci := 7) (v := .int (nI (n + 1))) (C := RX5) (T := TX5) (N := 8) hx hb hts iX5_add_X5 hown hK hP 0 rfl rfl 0 (by decide) (hts _ fX5_add_1) (fun _ h9 => h9) rfl dX5_add_31 ?_
  refine lv_iconst (v := 1) hx hb dX5_add_34 (by decide) ?_
  refine lv_icmp_ne (tgt := 42) hx hb dX5_add_35 (by decide) (fun c_35 => ?_) (fun c_35 => ?_)
  · skip
    have hn0 : ¬ n = 0 := fun z => c_35 (by rw [z]; rfl)
    refine lv_aload_n hx hb dX5_add_42 rfl (lv_at hl 0 rfl) ?_
    refine va_get (D := G.1) (ci := 7) (v := .ref k2) (C := RX5) (T := TX5) (N := 8) hx hb hts iX5_add_X5 hown hK hP 0 rfl rfl 2 (by decide) (hts _ fX5_add_5) (fun _ h9 => h9) rfl dX5_add_43 ?_
    refine lv_iload_n hx hb dX5_add_46 rfl (lv_at hl 1 rfl) ?_
    refine cpN (As := [.ref k2, .int (nI p0)]) (rest := [.int (nI (n + 1)), .ref k2]) ⟨hx, hb, hml, hown, hts⟩ (c_X7_atk l G k2 15 dp (nI p0) p0 (rfl) (by omega) (by decide)) ⟨va_cnB (own := RX5) (host := RX7) (index := 42) (y := yX7_at) 2 hts gX5_add_X7_at_n42 rfl rfl rfl (hKK.2.nth 8 (q := (RX5, 42, yX7_at)) rfl) (hts _ fX5_add_3) hd_X7_at ⟨Nat.le_of_ble_eq_true rfl, Nat.le_of_ble_eq_true rfl⟩, (hts _ fX5_add_6), trivial⟩ hKK hP [2] rfl rfl hl.1 rfl (Nat.le_of_ble_eq_true rfl) dX5_add_47 ⟨Nat.zero_le _, Nat.zero_le _⟩ ?_
    refine lv_iconst (v := 1) hx hb dX5_add_50 (by decide) ?_
    refine lv_iadd hx hb dX5_add_51 ?_
    refine cgN (As := [.ref k2, .int (nI (n + 1)), .int ((dp p0) + 1)]) (rest := []) ⟨hx, hb, hml, hown, hts⟩ (c_X7_putk l G k2 15 dp (nI (n + 1)) ((dp p0) + 1) (n + 1) (rfl) (by omega) (by decide)) ⟨va_cnB (own := RX5) (host := RX7) (index := 38) (y := yX7_put) 3 hts gX5_add_X7_put_n38 rfl rfl rfl (hKK.2.nth 7 (q := (RX5, 38, yX7_put)) rfl) (hts _ fX5_add_3) hd_X7_put ⟨Nat.le_of_ble_eq_true rfl, Nat.le_of_ble_eq_true rfl⟩, (hts _ fX5_add_4), trivial⟩ hKK hP hD hS [2] rfl (by decide) rfl hl.1 rfl (Nat.le_of_ble_eq_true rfl) dX5_add_52 ⟨Nat.zero_le _, Nat.zero_le _⟩ (fun _ => rfl) (fun _ => rfl) (fun _ H locs _ hP hD hS => ?_)
    have hPD : PD G A [(oX5 h (nI (n + 1)) k1 k2 k3 k4 k5 k6 bd), (cI G k1 15 (upd kd (n + 1) kn)), (cI G k2 15 (upd dp (n + 1) ((dp p0) + 1))), (cI G k3 15 pb), (cI G k4 15 gb)] H := ⟨hP, hD⟩
    have hP := hPD.1
    have hD := hPD.2
    clear hPD
    refine lv_aload_n hx hb dX5_add_55 rfl (lv_at hl 0 rfl) ?_
    refine va_get (D := G.1) (ci := 7) (v := .ref k3) (C := RX5) (T := TX5) (N := 8) hx hb hts iX5_add_X5 hown hK hP 0 rfl rfl 3 (by decide) (hts _ fX5_add_7) (fun _ h9 => h9) rfl dX5_add_56 ?_
    refine lv_aload_n hx hb dX5_add_59 rfl (lv_at hl 0 rfl) ?_
    refine va_get (D := G.1) (ci := 7) (v := .int (nI (n + 1))) (C := RX5) (T := TX5) (N := 8) hx hb hts iX5_add_X5 hown hK hP 0 rfl rfl 0 (by decide) (hts _ fX5_add_1) (fun _ h9 => h9) rfl dX5_add_60 ?_
    refine lv_iload_n hx hb dX5_add_63 rfl (lv_at hl 1 rfl) ?_
    refine cpN (As := [.int (nI p0)]) (rest := [.int (nI (n + 1)), .ref k3]) ⟨hx, hb, hml, hown, hts⟩ (c_X7_bit l G (nI p0)) ⟨va_cnB (own := RX5) (host := RX7) (index := 46) (y := yX7_bit) 1 hts gX5_add_X7_bit_n46 rfl rfl rfl (hKK.2.nth 9 (q := (RX5, 46, yX7_bit)) rfl) (hts _ fX5_add_3) hd_X7_bit ⟨Nat.le_of_ble_eq_true rfl, Nat.le_of_ble_eq_true rfl⟩, (hts _ fX5_add_8), trivial⟩ hKK hP [] rfl rfl hl.1 rfl (Nat.le_of_ble_eq_true rfl) dX5_add_64 ⟨Nat.zero_le _, Nat.zero_le _⟩ ?_
    refine cgN (As := [.ref k3, .int (nI (n + 1)), .int (bitI (nI p0))]) (rest := []) ⟨hx, hb, hml, hown, hts⟩ (c_X7_putk l G k3 15 pb (nI (n + 1)) (bitI (nI p0)) (n + 1) (rfl) (by omega) (by decide)) ⟨va_cnB (own := RX5) (host := RX7) (index := 38) (y := yX7_put) 3 hts gX5_add_X7_put_n38 rfl rfl rfl (hKK.2.nth 7 (q := (RX5, 38, yX7_put)) rfl) (hts _ fX5_add_3) hd_X7_put ⟨Nat.le_of_ble_eq_true rfl, Nat.le_of_ble_eq_true rfl⟩, (hts _ fX5_add_4), trivial⟩ hKK hP hD hS [3] rfl (by decide) rfl hl.1 rfl (Nat.le_of_ble_eq_true rfl) dX5_add_67 ⟨Nat.zero_le _, Nat.zero_le _⟩ (fun _ => rfl) (fun _ => rfl) (fun _ H locs _ hP hD hS => ?_)
    have hPD : PD G A [(oX5 h (nI (n + 1)) k1 k2 k3 k4 k5 k6 bd), (cI G k1 15 (upd kd (n + 1) kn)), (cI G k2 15 (upd dp (n + 1) ((dp p0) + 1))), (cI G k3 15 (upd pb (n + 1) (bitI (nI p0)))), (cI G k4 15 gb)] H := ⟨hP, hD⟩
    have hP := hPD.1
    have hD := hPD.2
    clear hPD
    refine lv_iload_n hx hb dX5_add_70 rfl (lv_at hl 2 rfl) ?_
    refine lv_iconst (v := 2) hx hb dX5_add_71 (by decide) ?_
    refine lv_icmp_ne (tgt := 99) hx hb dX5_add_72 (by decide) (fun c_72 => ?_) (fun c_72 => ?_)
    · skip
      refine lv_aload_n hx hb dX5_add_99 rfl (lv_at hl 0 rfl) ?_
      refine va_get (D := G.1) (ci := 7) (v := .int (nI (n + 1))) (C := RX5) (T := TX5) (N := 8) hx hb hts iX5_add_X5 hown hK hP 0 rfl rfl 0 (by decide) (hts _ fX5_add_1) (fun _ h9 => h9) rfl dX5_add_100 ?_
      exact greti hx hb hr hlocks rfl hAe hS (()) (rfl) (trivial) (by simp only [if_neg hn0, if_neg c_72]; exact hP) dX5_add_103
    · skip
      refine lv_aload_n hx hb dX5_add_75 rfl (lv_at hl 0 rfl) ?_
      refine va_get (D := G.1) (ci := 7) (v := .ref k4) (C := RX5) (T := TX5) (N := 8) hx hb hts iX5_add_X5 hown hK hP 0 rfl rfl 4 (by decide) (hts _ fX5_add_9) (fun _ h9 => h9) rfl dX5_add_76 ?_
      refine lv_iload_n hx hb dX5_add_79 rfl (lv_at hl 1 rfl) ?_
      refine lv_aload_n hx hb dX5_add_80 rfl (lv_at hl 0 rfl) ?_
      refine va_get (D := G.1) (ci := 7) (v := .ref k4) (C := RX5) (T := TX5) (N := 8) hx hb hts iX5_add_X5 hown hK hP 0 rfl rfl 4 (by decide) (hts _ fX5_add_9) (fun _ h9 => h9) rfl dX5_add_81 ?_
      refine lv_iload_n hx hb dX5_add_84 rfl (lv_at hl 1 rfl) ?_
      refine cpN (As := [.ref k4, .int (nI p0)]) (rest := [.int (nI p0), .ref k4]) ⟨hx, hb, hml, hown, hts⟩ (c_X7_atk l G k4 15 gb (nI p0) p0 (rfl) (by omega) (by decide)) ⟨va_cnB (own := RX5) (host := RX7) (index := 42) (y := yX7_at) 2 hts gX5_add_X7_at_n42 rfl rfl rfl (hKK.2.nth 8 (q := (RX5, 42, yX7_at)) rfl) (hts _ fX5_add_3) hd_X7_at ⟨Nat.le_of_ble_eq_true rfl, Nat.le_of_ble_eq_true rfl⟩, (hts _ fX5_add_6), trivial⟩ hKK hP [4] rfl rfl hl.1 rfl (Nat.le_of_ble_eq_true rfl) dX5_add_85 ⟨Nat.zero_le _, Nat.zero_le _⟩ ?_
      refine lv_aload_n hx hb dX5_add_88 rfl (lv_at hl 0 rfl) ?_
      refine va_get (D := G.1) (ci := 7) (v := .int (nI (n + 1))) (C := RX5) (T := TX5) (N := 8) hx hb hts iX5_add_X5 hown hK hP 0 rfl rfl 0 (by decide) (hts _ fX5_add_1) (fun _ h9 => h9) rfl dX5_add_89 ?_
      refine cpN (As := [.int (nI (n + 1))]) (rest := [.int (gb p0), .int (nI p0), .ref k4]) ⟨hx, hb, hml, hown, hts⟩ (c_X7_bit l G (nI (n + 1))) ⟨va_cnB (own := RX5) (host := RX7) (index := 46) (y := yX7_bit) 1 hts gX5_add_X7_bit_n46 rfl rfl rfl (hKK.2.nth 9 (q := (RX5, 46, yX7_bit)) rfl) (hts _ fX5_add_3) hd_X7_bit ⟨Nat.le_of_ble_eq_true rfl, Nat.le_of_ble_eq_true rfl⟩, (hts _ fX5_add_8), trivial⟩ hKK hP [] rfl rfl hl.1 rfl (Nat.le_of_ble_eq_true rfl) dX5_add_92 ⟨Nat.zero_le _, Nat.zero_le _⟩ ?_
      refine lv_ior hx hb dX5_add_95 ?_
      refine cgN (As := [.ref k4, .int (nI p0), .int ((gb p0) ||| (bitI (nI (n + 1))))]) (rest := []) ⟨hx, hb, hml, hown, hts⟩ (c_X7_putk l G k4 15 gb (nI p0) ((gb p0) ||| (bitI (nI (n + 1)))) p0 (rfl) (by omega) (by decide)) ⟨va_cnB (own := RX5) (host := RX7) (index := 38) (y := yX7_put) 3 hts gX5_add_X7_put_n38 rfl rfl rfl (hKK.2.nth 7 (q := (RX5, 38, yX7_put)) rfl) (hts _ fX5_add_3) hd_X7_put ⟨Nat.le_of_ble_eq_true rfl, Nat.le_of_ble_eq_true rfl⟩, (hts _ fX5_add_4), trivial⟩ hKK hP hD hS [4] rfl (by decide) rfl hl.1 rfl (Nat.le_of_ble_eq_true rfl) dX5_add_96 ⟨Nat.zero_le _, Nat.zero_le _⟩ (fun _ => rfl) (fun _ => rfl) (fun _ H locs _ hP hD hS => ?_)
      have hPD : PD G A [(oX5 h (nI (n + 1)) k1 k2 k3 k4 k5 k6 bd), (cI G k1 15 (upd kd (n + 1) kn)), (cI G k2 15 (upd dp (n + 1) ((dp p0) + 1))), (cI G k3 15 (upd pb (n + 1) (bitI (nI p0)))), (cI G k4 15 (upd gb p0 ((gb p0) ||| (bitI (nI (n + 1))))))] H := ⟨hP, hD⟩
      have hP := hPD.1
      have hD := hPD.2
      clear hPD
      refine lv_aload_n hx hb dX5_add_99 rfl (lv_at hl 0 rfl) ?_
      refine va_get (D := G.1) (ci := 7) (v := .int (nI (n + 1))) (C := RX5) (T := TX5) (N := 8) hx hb hts iX5_add_X5 hown hK hP 0 rfl rfl 0 (by decide) (hts _ fX5_add_1) (fun _ h9 => h9) rfl dX5_add_100 ?_
      exact greti hx hb hr hlocks rfl hAe hS (()) (rfl) (trivial) (by simp only [if_neg hn0, if_pos c_72]; exact hP) dX5_add_103
  · skip
    have hn0 : n = 0 := by have := (nI_eq1 (by omega)).mp c_35; omega
    refine lv_iconst (v := 0) hx hb dX5_add_38 (by decide) ?_
    refine lv_goto (tgt := 52) hx hb dX5_add_39 (by decide) ?_
    refine cgN (As := [.ref k2, .int (nI (n + 1)), .int 0]) (rest := []) ⟨hx, hb, hml, hown, hts⟩ (c_X7_putk l G k2 15 dp (nI (n + 1)) 0 (n + 1) (rfl) (by omega) (by decide)) ⟨va_cnB (own := RX5) (host := RX7) (index := 38) (y := yX7_put) 3 hts gX5_add_X7_put_n38 rfl rfl rfl (hKK.2.nth 7 (q := (RX5, 38, yX7_put)) rfl) (hts _ fX5_add_3) hd_X7_put ⟨Nat.le_of_ble_eq_true rfl, Nat.le_of_ble_eq_true rfl⟩, (hts _ fX5_add_4), trivial⟩ hKK hP hD hS [2] rfl (by decide) rfl hl.1 rfl (Nat.le_of_ble_eq_true rfl) dX5_add_52 ⟨Nat.zero_le _, Nat.zero_le _⟩ (fun _ => rfl) (fun _ => rfl) (fun _ H locs _ hP hD hS => ?_)
    have hPD : PD G A [(oX5 h (nI (n + 1)) k1 k2 k3 k4 k5 k6 bd), (cI G k1 15 (upd kd (n + 1) kn)), (cI G k2 15 (upd dp (n + 1) 0)), (cI G k3 15 pb), (cI G k4 15 gb)] H := ⟨hP, hD⟩
    have hP := hPD.1
    have hD := hPD.2
    clear hPD
    refine lv_aload_n hx hb dX5_add_55 rfl (lv_at hl 0 rfl) ?_
    refine va_get (D := G.1) (ci := 7) (v := .ref k3) (C := RX5) (T := TX5) (N := 8) hx hb hts iX5_add_X5 hown hK hP 0 rfl rfl 3 (by decide) (hts _ fX5_add_7) (fun _ h9 => h9) rfl dX5_add_56 ?_
    refine lv_aload_n hx hb dX5_add_59 rfl (lv_at hl 0 rfl) ?_
    refine va_get (D := G.1) (ci := 7) (v := .int (nI (n + 1))) (C := RX5) (T := TX5) (N := 8) hx hb hts iX5_add_X5 hown hK hP 0 rfl rfl 0 (by decide) (hts _ fX5_add_1) (fun _ h9 => h9) rfl dX5_add_60 ?_
    refine lv_iload_n hx hb dX5_add_63 rfl (lv_at hl 1 rfl) ?_
    refine cpN (As := [.int (nI p0)]) (rest := [.int (nI (n + 1)), .ref k3]) ⟨hx, hb, hml, hown, hts⟩ (c_X7_bit l G (nI p0)) ⟨va_cnB (own := RX5) (host := RX7) (index := 46) (y := yX7_bit) 1 hts gX5_add_X7_bit_n46 rfl rfl rfl (hKK.2.nth 9 (q := (RX5, 46, yX7_bit)) rfl) (hts _ fX5_add_3) hd_X7_bit ⟨Nat.le_of_ble_eq_true rfl, Nat.le_of_ble_eq_true rfl⟩, (hts _ fX5_add_8), trivial⟩ hKK hP [] rfl rfl hl.1 rfl (Nat.le_of_ble_eq_true rfl) dX5_add_64 ⟨Nat.zero_le _, Nat.zero_le _⟩ ?_
    refine cgN (As := [.ref k3, .int (nI (n + 1)), .int (bitI (nI p0))]) (rest := []) ⟨hx, hb, hml, hown, hts⟩ (c_X7_putk l G k3 15 pb (nI (n + 1)) (bitI (nI p0)) (n + 1) (rfl) (by omega) (by decide)) ⟨va_cnB (own := RX5) (host := RX7) (index := 38) (y := yX7_put) 3 hts gX5_add_X7_put_n38 rfl rfl rfl (hKK.2.nth 7 (q := (RX5, 38, yX7_put)) rfl) (hts _ fX5_add_3) hd_X7_put ⟨Nat.le_of_ble_eq_true rfl, Nat.le_of_ble_eq_true rfl⟩, (hts _ fX5_add_4), trivial⟩ hKK hP hD hS [3] rfl (by decide) rfl hl.1 rfl (Nat.le_of_ble_eq_true rfl) dX5_add_67 ⟨Nat.zero_le _, Nat.zero_le _⟩ (fun _ => rfl) (fun _ => rfl) (fun _ H locs _ hP hD hS => ?_)
    have hPD : PD G A [(oX5 h (nI (n + 1)) k1 k2 k3 k4 k5 k6 bd), (cI G k1 15 (upd kd (n + 1) kn)), (cI G k2 15 (upd dp (n + 1) 0)), (cI G k3 15 (upd pb (n + 1) (bitI (nI p0)))), (cI G k4 15 gb)] H := ⟨hP, hD⟩
    have hP := hPD.1
    have hD := hPD.2
    clear hPD
    refine lv_iload_n hx hb dX5_add_70 rfl (lv_at hl 2 rfl) ?_
    refine lv_iconst (v := 2) hx hb dX5_add_71 (by decide) ?_
    refine lv_icmp_ne (tgt := 99) hx hb dX5_add_72 (by decide) (fun c_72 => ?_) (fun c_72 => ?_)
    · skip
      refine lv_aload_n hx hb dX5_add_99 rfl (lv_at hl 0 rfl) ?_
      refine va_get (D := G.1) (ci := 7) (v := .int (nI (n + 1))) (C := RX5) (T := TX5) (N := 8) hx hb hts iX5_add_X5 hown hK hP 0 rfl rfl 0 (by decide) (hts _ fX5_add_1) (fun _ h9 => h9) rfl dX5_add_100 ?_
      exact greti hx hb hr hlocks rfl hAe hS (()) (rfl) (trivial) (by simp only [if_pos hn0, if_neg c_72]; exact hP) dX5_add_103
    · skip
      refine lv_aload_n hx hb dX5_add_75 rfl (lv_at hl 0 rfl) ?_
      refine va_get (D := G.1) (ci := 7) (v := .ref k4) (C := RX5) (T := TX5) (N := 8) hx hb hts iX5_add_X5 hown hK hP 0 rfl rfl 4 (by decide) (hts _ fX5_add_9) (fun _ h9 => h9) rfl dX5_add_76 ?_
      refine lv_iload_n hx hb dX5_add_79 rfl (lv_at hl 1 rfl) ?_
      refine lv_aload_n hx hb dX5_add_80 rfl (lv_at hl 0 rfl) ?_
      refine va_get (D := G.1) (ci := 7) (v := .ref k4) (C := RX5) (T := TX5) (N := 8) hx hb hts iX5_add_X5 hown hK hP 0 rfl rfl 4 (by decide) (hts _ fX5_add_9) (fun _ h9 => h9) rfl dX5_add_81 ?_
      refine lv_iload_n hx hb dX5_add_84 rfl (lv_at hl 1 rfl) ?_
      refine cpN (As := [.ref k4, .int (nI p0)]) (rest := [.int (nI p0), .ref k4]) ⟨hx, hb, hml, hown, hts⟩ (c_X7_atk l G k4 15 gb (nI p0) p0 (rfl) (by omega) (by decide)) ⟨va_cnB (own := RX5) (host := RX7) (index := 42) (y := yX7_at) 2 hts gX5_add_X7_at_n42 rfl rfl rfl (hKK.2.nth 8 (q := (RX5, 42, yX7_at)) rfl) (hts _ fX5_add_3) hd_X7_at ⟨Nat.le_of_ble_eq_true rfl, Nat.le_of_ble_eq_true rfl⟩, (hts _ fX5_add_6), trivial⟩ hKK hP [4] rfl rfl hl.1 rfl (Nat.le_of_ble_eq_true rfl) dX5_add_85 ⟨Nat.zero_le _, Nat.zero_le _⟩ ?_
      refine lv_aload_n hx hb dX5_add_88 rfl (lv_at hl 0 rfl) ?_
      refine va_get (D := G.1) (ci := 7) (v := .int (nI (n + 1))) (C := RX5) (T := TX5) (N := 8) hx hb hts iX5_add_X5 hown hK hP 0 rfl rfl 0 (by decide) (hts _ fX5_add_1) (fun _ h9 => h9) rfl dX5_add_89 ?_
      refine cpN (As := [.int (nI (n + 1))]) (rest := [.int (gb p0), .int (nI p0), .ref k4]) ⟨hx, hb, hml, hown, hts⟩ (c_X7_bit l G (nI (n + 1))) ⟨va_cnB (own := RX5) (host := RX7) (index := 46) (y := yX7_bit) 1 hts gX5_add_X7_bit_n46 rfl rfl rfl (hKK.2.nth 9 (q := (RX5, 46, yX7_bit)) rfl) (hts _ fX5_add_3) hd_X7_bit ⟨Nat.le_of_ble_eq_true rfl, Nat.le_of_ble_eq_true rfl⟩, (hts _ fX5_add_8), trivial⟩ hKK hP [] rfl rfl hl.1 rfl (Nat.le_of_ble_eq_true rfl) dX5_add_92 ⟨Nat.zero_le _, Nat.zero_le _⟩ ?_
      refine lv_ior hx hb dX5_add_95 ?_
      refine cgN (As := [.ref k4, .int (nI p0), .int ((gb p0) ||| (bitI (nI (n + 1))))]) (rest := []) ⟨hx, hb, hml, hown, hts⟩ (c_X7_putk l G k4 15 gb (nI p0) ((gb p0) ||| (bitI (nI (n + 1)))) p0 (rfl) (by omega) (by decide)) ⟨va_cnB (own := RX5) (host := RX7) (index := 38) (y := yX7_put) 3 hts gX5_add_X7_put_n38 rfl rfl rfl (hKK.2.nth 7 (q := (RX5, 38, yX7_put)) rfl) (hts _ fX5_add_3) hd_X7_put ⟨Nat.le_of_ble_eq_true rfl, Nat.le_of_ble_eq_true rfl⟩, (hts _ fX5_add_4), trivial⟩ hKK hP hD hS [4] rfl (by decide) rfl hl.1 rfl (Nat.le_of_ble_eq_true rfl) dX5_add_96 ⟨Nat.zero_le _, Nat.zero_le _⟩ (fun _ => rfl) (fun _ => rfl) (fun _ H locs _ hP hD hS => ?_)
      have hPD : PD G A [(oX5 h (nI (n + 1)) k1 k2 k3 k4 k5 k6 bd), (cI G k1 15 (upd kd (n + 1) kn)), (cI G k2 15 (upd dp (n + 1) 0)), (cI G k3 15 (upd pb (n + 1) (bitI (nI p0)))), (cI G k4 15 (upd gb p0 ((gb p0) ||| (bitI (nI (n + 1))))))] H := ⟨hP, hD⟩
      have hP := hPD.1
      have hD := hPD.2
      clear hPD
      refine lv_aload_n hx hb dX5_add_99 rfl (lv_at hl 0 rfl) ?_
      refine va_get (D := G.1) (ci := 7) (v := .int (nI (n + 1))) (C := RX5) (T := TX5) (N := 8) hx hb hts iX5_add_X5 hown hK hP 0 rfl rfl 0 (by decide) (hts _ fX5_add_1) (fun _ h9 => h9) rfl dX5_add_100 ?_
      exact greti hx hb hr hlocks rfl hAe hS (()) (rfl) (trivial) (by simp only [if_pos hn0, if_pos c_72]; exact hP) dX5_add_103

theorem iX5_bound_X5 : ∀ w ∈ u_ws RX5 TX5 8, w ∈ wsX5_bound := by decide +kernel
theorem fX5_bound_1 : Cond.fieldLink RX5 24 "FeatureSolve$Tree" "least" "[I" ∈ wsX5_bound := by decide +kernel
theorem fX5_bound_2 : Cond.initialized RX7 ∈ wsX5_bound := by decide +kernel
theorem fX5_bound_3 : Cond.static yX7_put ∈ wsX5_bound := by decide +kernel
theorem fX5_bound_4 : Cond.fieldLink RX5 27 "FeatureSolve$Tree" "most" "[I" ∈ wsX5_bound := by decide +kernel
theorem fX5_bound_5 : Cond.fieldLink RX5 50 "FeatureSolve$Tree" "bounded" "I" ∈ wsX5_bound := by decide +kernel
theorem fX5_bound_6 : Cond.static yX7_bit ∈ wsX5_bound := by decide +kernel
theorem fX5_bound_7 : Cond.fieldLink RX5 21 "FeatureSolve$Tree" "groupedBits" "[I" ∈ wsX5_bound := by decide +kernel
theorem fX5_bound_8 : Cond.static yX7_at ∈ wsX5_bound := by decide +kernel
set_option maxHeartbeats 4000000 in
set_option maxRecDepth 100000 in
/-- Tree.bound(f, least, most) -/
theorem c_X5_bound (l : Launch) (G : GG) (h : Nat) (z : Int32) (k1 k2 k3 k4 k5 k6 : Nat) (bd : Int32) (gb le mo : Nat → Int32) (f : Nat) (x y : Int32) (hf : f < 15) : Met l yX5_bound wsX5_bound (rmK 1) (va_Pc [.ref h, .int (nI f), .int x, .int y] (PM G [(oX5 h z k1 k2 k3 k4 k5 k6 bd), (cI G k4 15 gb), (cI G k5 15 le), (cI G k6 15 mo)])) (QG (S := Unit) G [(oX5 h z k1 k2 k3 k4 k5 k6 bd), (cI G k4 15 gb), (cI G k5 15 le), (cI G k6 15 mo)] (fun u => True) (fun u => some (.int (bcI (gb f)))) (fun u => [(oX5 h z k1 k2 k3 k4 k5 k6 (bd ||| bitI (nI f))), (cI G k4 15 gb), (cI G k5 15 (upd le f x)), (cI G k6 15 (upd mo f y))])) 0 0 (adr [(oX5 h z k1 k2 k3 k4 k5 k6 bd), (cI G k4 15 gb), (cI G k5 15 le), (cI G k6 15 mo)]) := by
  refine Met.ofW (cc := cX5_bound) (maxL := 4) (ret := (some .int)) (by decide) rfl ?_
  intro p e s m args below meth c s₁ B hml hv
  obtain ⟨rfl, hP, hD0, hKK⟩ := hv
  have hx := B.exec
  have hb := B.bytes
  have hr := B.returns
  have hts := atoms_spec (ws := wsX5_bound) B.pre
  have hown : s.vm.findClass RX5 = some m.cls := findClass_of_methodNamed B.named
  have hlocks := B.notSynchronized
  have hK := hKK.1
  generalize hAe : adr [(oX5 h z k1 k2 k3 k4 k5 k6 bd), (cI G k4 15 gb), (cI G k5 15 le), (cI G k6 15 mo)] = A
  have hD : va_D A [(oX5 h z k1 k2 k3 k4 k5 k6 bd), (cI G k4 15 gb), (cI G k5 15 le), (cI G k6 15 mo)] := by rw [← hAe]; exact hD0.own
  have hS : va_S A s.heap s.heap [] := va_S.rf
  have hP : va_P G.1 vwCl [(oX5 h z k1 k2 k3 k4 k5 k6 bd), (cI G k4 15 gb), (cI G k5 15 le), (cI G k6 15 mo)] s.heap := hP
  have hl := lv_entry ([.ref h, .int (nI f), .int x, .int y]) (n := 4) (Nat.le_of_ble_eq_true rfl)
  rw [lg_entry_eq]
  generalize (lg_sl ([.ref h, .int (nI f), .int x, .int y]) ++ List.replicate (4 - (lg_sl ([.ref h, .int (nI f), .int x, .int y])).length) Slot.unset).toArray = ls at hl ⊢
  have hl : lv_has ls 4 [(0, .ref h), (1, .int (nI f)), (2, .int x), (3, .int y)] := hl
  refine lv_aload_n hx hb dX5_bound_0 rfl (lv_at hl 0 rfl) ?_
  refine va_get (D := G.1) (ci := 7) (v := .ref k5) (C := RX5) (T := TX5) (N := 8) hx hb hts iX5_bound_X5 hown hK hP 0 rfl rfl 5 (by decide) (hts _ fX5_bound_1) (fun _ h9 => h9) rfl dX5_bound_1 ?_
  refine lv_iload_n hx hb dX5_bound_4 rfl (lv_at hl 1 rfl) ?_
  refine lv_iload_n hx hb dX5_bound_5 rfl (lv_at hl 2 rfl) ?_
  refine cgN (As := [.ref k5, .int (nI f), .int x]) (rest := []) ⟨hx, hb, hml, hown, hts⟩ (c_X7_putk l G k5 15 le (nI f) x f (rfl) (by omega) (by decide)) ⟨va_cnB (own := RX5) (host := RX7) (index := 38) (y := yX7_put) 3 hts gX5_bound_X7_put_n38 rfl rfl rfl (hKK.2.nth 7 (q := (RX5, 38, yX7_put)) rfl) (hts _ fX5_bound_2) hd_X7_put ⟨Nat.le_of_ble_eq_true rfl, Nat.le_of_ble_eq_true rfl⟩, (hts _ fX5_bound_3), trivial⟩ hKK hP hD hS [2] rfl (by decide) rfl hl.1 rfl (Nat.le_of_ble_eq_true rfl) dX5_bound_6 ⟨Nat.zero_le _, Nat.zero_le _⟩ (fun _ => rfl) (fun _ => rfl) (fun _ H locs _ hP hD hS => ?_)
  have hPD : PD G A [(oX5 h z k1 k2 k3 k4 k5 k6 bd), (cI G k4 15 gb), (cI G k5 15 (upd le f x)), (cI G k6 15 mo)] H := ⟨hP, hD⟩
  have hP := hPD.1
  have hD := hPD.2
  clear hPD
  refine lv_aload_n hx hb dX5_bound_9 rfl (lv_at hl 0 rfl) ?_
  refine va_get (D := G.1) (ci := 7) (v := .ref k6) (C := RX5) (T := TX5) (N := 8) hx hb hts iX5_bound_X5 hown hK hP 0 rfl rfl 6 (by decide) (hts _ fX5_bound_4) (fun _ h9 => h9) rfl dX5_bound_10 ?_
  refine lv_iload_n hx hb dX5_bound_13 rfl (lv_at hl 1 rfl) ?_
  refine lv_iload_n hx hb dX5_bound_14 rfl (lv_at hl 3 rfl) ?_
  refine cgN (As := [.ref k6, .int (nI f), .int y]) (rest := []) ⟨hx, hb, hml, hown, hts⟩ (c_X7_putk l G k6 15 mo (nI f) y f (rfl) (by omega) (by decide)) ⟨va_cnB (own := RX5) (host := RX7) (index := 38) (y := yX7_put) 3 hts gX5_bound_X7_put_n38 rfl rfl rfl (hKK.2.nth 7 (q := (RX5, 38, yX7_put)) rfl) (hts _ fX5_bound_2) hd_X7_put ⟨Nat.le_of_ble_eq_true rfl, Nat.le_of_ble_eq_true rfl⟩, (hts _ fX5_bound_3), trivial⟩ hKK hP hD hS [3] rfl (by decide) rfl hl.1 rfl (Nat.le_of_ble_eq_true rfl) dX5_bound_15 ⟨Nat.zero_le _, Nat.zero_le _⟩ (fun _ => rfl) (fun _ => rfl) (fun _ H locs _ hP hD hS => ?_)
  have hPD : PD G A [(oX5 h z k1 k2 k3 k4 k5 k6 bd), (cI G k4 15 gb), (cI G k5 15 (upd le f x)), (cI G k6 15 (upd mo f y))] H := ⟨hP, hD⟩
  have hP := hPD.1
  have hD := hPD.2
  clear hPD
  refine lv_aload_n hx hb dX5_bound_18 rfl (lv_at hl 0 rfl) ?_
  refine lv_dup hx hb dX5_bound_19 rfl ?_
  refine va_get (D := G.1) (ci := 7) (v := .int bd) (C := RX5) (T := TX5) (N := 8) hx hb hts iX5_bound_X5 hown hK hP 0 rfl rfl 7 (by decide) (hts _ fX5_bound_5) (fun _ h9 => h9) rfl dX5_bound_20 ?_
  refine lv_iload_n hx hb dX5_bound_23 rfl (lv_at hl 1 rfl) ?_
  refine cpN (As := [.int (nI f)]) (rest := [.int bd, .ref h]) ⟨hx, hb, hml, hown, hts⟩ (c_X7_bit l G (nI f)) ⟨va_cnB (own := RX5) (host := RX7) (index := 46) (y := yX7_bit) 1 hts gX5_bound_X7_bit_n46 rfl rfl rfl (hKK.2.nth 9 (q := (RX5, 46, yX7_bit)) rfl) (hts _ fX5_bound_2) hd_X7_bit ⟨Nat.le_of_ble_eq_true rfl, Nat.le_of_ble_eq_true rfl⟩, (hts _ fX5_bound_6), trivial⟩ hKK hP [] rfl rfl hl.1 rfl (Nat.le_of_ble_eq_true rfl) dX5_bound_24 ⟨Nat.zero_le _, Nat.zero_le _⟩ ?_
  refine lv_ior hx hb dX5_bound_27 ?_
  refine va_put (D := G.1) (ci := 7) (v := .int (bd ||| (bitI (nI f)))) (ty := .int) (C := RX5) (T := TX5) (N := 8) hx hb hts iX5_bound_X5 tyX5 tyX5_ok nmX5 hown hK hP hD hS 0 rfl rfl 7 (by decide) (hts _ fX5_bound_5) (fun _ h9 => h9) rfl (by decide +kernel) rfl rfl (Nat.le_of_ble_eq_true rfl) dX5_bound_28 (fun H locs hP hD hS => ?_)
  have hPD : PD G A [(oX5 h z k1 k2 k3 k4 k5 k6 (bd ||| (bitI (nI f)))), (cI G k4 15 gb), (cI G k5 15 (upd le f x)), (cI G k6 15 (upd mo f y))] H := ⟨hP, hD⟩
  have hP := hPD.1
  have hD := hPD.2
  clear hPD
  refine lv_aload_n hx hb dX5_bound_31 rfl (lv_at hl 0 rfl) ?_
  refine va_get (D := G.1) (ci := 7) (v := .ref k4) (C := RX5) (T := TX5) (N := 8) hx hb hts iX5_bound_X5 hown hK hP 0 rfl rfl 4 (by decide) (hts _ fX5_bound_7) (fun _ h9 => h9) rfl dX5_bound_32 ?_
  refine lv_iload_n hx hb dX5_bound_35 rfl (lv_at hl 1 rfl) ?_
  refine cpN (As := [.ref k4, .int (nI f)]) (rest := []) ⟨hx, hb, hml, hown, hts⟩ (c_X7_atk l G k4 15 gb (nI f) f (rfl) (by omega) (by decide)) ⟨va_cnB (own := RX5) (host := RX7) (index := 42) (y := yX7_at) 2 hts gX5_bound_X7_at_n42 rfl rfl rfl (hKK.2.nth 8 (q := (RX5, 42, yX7_at)) rfl) (hts _ fX5_bound_2) hd_X7_at ⟨Nat.le_of_ble_eq_true rfl, Nat.le_of_ble_eq_true rfl⟩, (hts _ fX5_bound_8), trivial⟩ hKK hP [1] rfl rfl hl.1 rfl (Nat.le_of_ble_eq_true rfl) dX5_bound_36 ⟨Nat.zero_le _, Nat.zero_le _⟩ ?_
  refine cpS (As := [.int (gb f)]) (rest := []) ⟨hx, hb, hml, hown, hts⟩ (c_J6_bitCount_0f7a4 l G (gb f)) (va_cwS 1 hts gX5_bound_J6_bitCount_0f7a4 rfl rfl rfl hd_J6_bitCount_0f7a4 ⟨Nat.le_of_ble_eq_true rfl, Nat.le_of_ble_eq_true rfl⟩) hKK hP [] rfl rfl hl.1 rfl (Nat.le_of_ble_eq_true rfl) dX5_bound_39 ⟨Nat.zero_le _, Nat.zero_le _⟩ ?_
  exact greti hx hb hr hlocks rfl hAe hS (()) (rfl) (trivial) (hP) dX5_bound_42

theorem iX6_outdate_X6 : ∀ w ∈ u_ws RX6 TX6 6, w ∈ wsX6_outdate := by decide +kernel
theorem fX6_outdate_1 : Cond.fieldLink RX6 36 "FeatureSolve$Variants" "upToDate" "Z" ∈ wsX6_outdate := by decide +kernel
set_option maxHeartbeats 4000000 in
set_option maxRecDepth 100000 in
/-- Variants.outdate() -/
theorem c_X6_outdate (l : Launch) (G : GG) (h k0 k1 k2 k3 : Nat) (z u : Int32) : Met l yX6_outdate wsX6_outdate (rmK 0) (va_Pc [.ref h] (PM G [(oX6 h k0 k1 k2 k3 z u)])) (QG (S := Unit) G [(oX6 h k0 k1 k2 k3 z u)] (fun u => True) (fun u => none) (fun u => [(oX6 h k0 k1 k2 k3 z 0)])) 0 0 (adr [(oX6 h k0 k1 k2 k3 z u)]) := by
  refine Met.ofW (cc := cX6_outdate) (maxL := 1) (ret := none) (by decide) rfl ?_
  intro p e s m args below meth c s₁ B hml hv
  obtain ⟨rfl, hP, hD0, hKK⟩ := hv
  have hx := B.exec
  have hb := B.bytes
  have hr := B.returns
  have hts := atoms_spec (ws := wsX6_outdate) B.pre
  have hown : s.vm.findClass RX6 = some m.cls := findClass_of_methodNamed B.named
  have hlocks := B.notSynchronized
  have hK := hKK.1
  generalize hAe : adr [(oX6 h k0 k1 k2 k3 z u)] = A
  have hD : va_D A [(oX6 h k0 k1 k2 k3 z u)] := by rw [← hAe]; exact hD0.own
  have hS : va_S A s.heap s.heap [] := va_S.rf
  have hP : va_P G.1 vwCl [(oX6 h k0 k1 k2 k3 z u)] s.heap := hP
  have hl := lv_entry ([.ref h]) (n := 1) (Nat.le_of_ble_eq_true rfl)
  rw [lg_entry_eq]
  generalize (lg_sl ([.ref h]) ++ List.replicate (1 - (lg_sl ([.ref h])).length) Slot.unset).toArray = ls at hl ⊢
  have hl : lv_has ls 1 [(0, .ref h)] := hl
  refine lv_aload_n hx hb dX6_outdate_0 rfl (lv_at hl 0 rfl) ?_
  refine lv_iconst (v := 0) hx hb dX6_outdate_1 (by decide) ?_
  refine va_put (D := G.1) (ci := 8) (v := .int 0) (ty := .boolean) (C := RX6) (T := TX6) (N := 6) hx hb hts iX6_outdate_X6 tyX6 tyX6_ok nmX6 hown hK hP hD hS 0 rfl rfl 5 (by decide) (hts _ fX6_outdate_1) (fun _ h9 => h9) rfl (by decide +kernel) rfl rfl (Nat.le_of_ble_eq_true rfl) dX6_outdate_2 (fun H locs hP hD hS => ?_)
  have hPD : PD G A [(oX6 h k0 k1 k2 k3 z 0)] H := ⟨hP, hD⟩
  have hP := hPD.1
  have hD := hPD.2
  clear hPD
  exact gretv hx hb hr hlocks hAe hS (()) (rfl) (trivial) (hP) dX6_outdate_5

theorem iX0_drop_X0 : ∀ w ∈ u_ws RX0 TX0 4, w ∈ wsX0_drop := by decide +kernel
theorem fX0_drop_1 : Cond.fieldLink RX0 23 "FeatureSolve$Choices" "size" "I" ∈ wsX0_drop := by decide +kernel
theorem fX0_drop_2 : Cond.fieldLink RX0 31 "FeatureSolve$Choices" "must" "I" ∈ wsX0_drop := by decide +kernel
theorem fX0_drop_3 : Cond.initialized RX7 ∈ wsX0_drop := by decide +kernel
theorem fX0_drop_4 : Cond.static yX7_bit ∈ wsX0_drop := by decide +kernel
theorem fX0_drop_5 : Cond.fieldLink RX0 38 "FeatureSolve$Choices" "mustNot" "I" ∈ wsX0_drop := by decide +kernel
theorem fX0_drop_6 : Cond.fieldLink RX0 9 "FeatureSolve$Choices" "told" "[I" ∈ wsX0_drop := by decide +kernel
theorem fX0_drop_7 : Cond.static yX7_at ∈ wsX0_drop := by decide +kernel
theorem fX0_drop_8 : Cond.static yX7_put ∈ wsX0_drop := by decide +kernel
set_option maxHeartbeats 4000000 in
set_option maxRecDepth 100000 in
/-- Choices.drop(f) -/
theorem c_X0_drop (l : Launch) (G : GG) (h : Nat) (mu mn : Int32) (k1 : Nat) (td : Nat → Int32) (L : List Int32) (f : Int32) (hL : L.length ≤ 14) (hr0 : rowIs td L) : Met l yX0_drop wsX0_drop (rmK 1) (va_Pc [.ref h, .int f] (PM G [(oX0 h (nI L.length) mu mn k1), (cI G k1 14 td)])) (QG (S := Nat → Int32) G [(oX0 h (nI L.length) mu mn k1), (cI G k1 14 td)] (fun u => rowIs u (L.filter (dropB f))) (fun u => none) (fun u => [(oX0 h (nI (L.filter (dropB f)).length) (mu &&& (bitI f ^^^ -1)) (mn &&& (bitI f ^^^ -1)) k1), (cI G k1 14 u)])) 0 0 (adr [(oX0 h (nI L.length) mu mn k1), (cI G k1 14 td)]) := by
  refine Met.ofW (cc := cX0_drop) (maxL := 5) (ret := none) (by decide) rfl ?_
  intro p e s m args below meth c s₁ B hml hv
  obtain ⟨rfl, hP, hD0, hKK⟩ := hv
  have hx := B.exec
  have hb := B.bytes
  have hr := B.returns
  have hts := atoms_spec (ws := wsX0_drop) B.pre
  have hown : s.vm.findClass RX0 = some m.cls := findClass_of_methodNamed B.named
  have hlocks := B.notSynchronized
  have hK := hKK.1
  generalize hAe : adr [(oX0 h (nI L.length) mu mn k1), (cI G k1 14 td)] = A
  have hD : va_D A [(oX0 h (nI L.length) mu mn k1), (cI G k1 14 td)] := by rw [← hAe]; exact hD0.own
  have hS : va_S A s.heap s.heap [] := va_S.rf
  have hP : va_P G.1 vwCl [(oX0 h (nI L.length) mu mn k1), (cI G k1 14 td)] s.heap := hP
  have hl := lv_entry ([.ref h, .int f]) (n := 5) (Nat.le_of_ble_eq_true rfl)
  rw [lg_entry_eq]
  generalize (lg_sl ([.ref h, .int f]) ++ List.replicate (5 - (lg_sl ([.ref h, .int f])).length) Slot.unset).toArray = ls at hl ⊢
  have hl : lv_has ls 5 [(0, .ref h), (1, .int f)] := hl
  refine lv_iconst (v := 0) hx hb dX0_drop_0 (by decide) ?_
  refine lv_istore_n (lv' := [(2, .int 0), (0, .ref h), (1, .int f)]) hx hb dX0_drop_1 rfl hl (by decide) rfl (fun ls hl => ?_)
  refine lv_iconst (v := 0) hx hb dX0_drop_2 (by decide) ?_
  refine lv_istore_n (lv' := [(3, .int 0), (2, .int 0), (0, .ref h), (1, .int f)]) hx hb dX0_drop_3 rfl hl (by decide) rfl (fun ls hl => ?_)
  refine loopH (nL := 5) (I := fun (x : Nat × (Nat → Int32)) => (fun (jx : Nat) (gx : Nat → Int32) => cmpI L (dropB f) jx gx) x.1 x.2) (μ := fun (x : Nat × (Nat → Int32)) => (fun (jx : Nat) (gx : Nat → Int32) => L.length - jx) x.1 x.2) (lv := fun (x : Nat × (Nat → Int32)) => (fun (jx : Nat) (gx : Nat → Int32) => [(0, .ref h), (1, .int f), (2, .int (nI (cmpN L (dropB f) jx))), (3, .int (nI jx))]) x.1 x.2) (wj := fun (x : Nat × (Nat → Int32)) => (fun (jx : Nat) (gx : Nat → Int32) => [(oX0 h (nI L.length) mu mn k1), (cI G k1 14 gx)]) x.1 x.2) (pc' := 4) (fun x hI ih_4 H locs ls hP hD hS hl => ?_) (⟨0, td⟩) (cmpI_0 hr0) _ _ ls (hP) (hD) hS (lv_sub hl [2, 3, 1, 0] rfl)
  obtain ⟨jx, gx⟩ := x
  have hI : cmpI L (dropB f) jx gx := hI
  have hl : lv_has ls 5 [(0, .ref h), (1, .int f), (2, .int (nI (cmpN L (dropB f) jx))), (3, .int (nI jx))] := hl
  have hPD : PD G A [(oX0 h (nI L.length) mu mn k1), (cI G k1 14 gx)] H := ⟨hP, hD⟩
  have hP := hPD.1
  have hD := hPD.2
  clear hPD
  have hjl : jx ≤ L.length := hI.1
  refine lv_iload_n hx hb dX0_drop_4 rfl (lv_at hl 3 rfl) ?_
  refine lv_aload_n hx hb dX0_drop_5 rfl (lv_at hl 0 rfl) ?_
  refine va_get (D := G.1) (ci := 2) (v := .int (nI L.length)) (C := RX0) (T := TX0) (N := 4) hx hb hts iX0_drop_X0 hown hK hP 0 rfl rfl 0 (by decide) (hts _ fX0_drop_1) (fun _ h9 => h9) rfl dX0_drop_6 ?_
  refine lv_icmp_ge (tgt := 54) hx hb dX0_drop_9 (by decide) (fun c_9 => ?_) (fun c_9 => ?_)
  · skip
    have hj : jx = L.length := Nat.le_antisymm hI.1 ((nI_leI (a := L.length) (b := jx) (by omega) (by omega)).mp c_9)
    refine lv_aload_n hx hb dX0_drop_54 rfl (lv_at hl 0 rfl) ?_
    refine lv_iload_n hx hb dX0_drop_55 rfl (lv_at hl 2 rfl) ?_
    refine va_put (D := G.1) (ci := 2) (v := .int (nI (cmpN L (dropB f) jx))) (ty := .int) (C := RX0) (T := TX0) (N := 4) hx hb hts iX0_drop_X0 tyX0 tyX0_ok nmX0 hown hK hP hD hS 0 rfl rfl 0 (by decide) (hts _ fX0_drop_1) (fun _ h9 => h9) rfl (by decide +kernel) rfl rfl (Nat.le_of_ble_eq_true rfl) dX0_drop_56 (fun H locs hP hD hS => ?_)
    have hPD : PD G A [(oX0 h (nI (cmpN L (dropB f) jx)) mu mn k1), (cI G k1 14 gx)] H := ⟨hP, hD⟩
    have hP := hPD.1
    have hD := hPD.2
    clear hPD
    refine lv_aload_n hx hb dX0_drop_59 rfl (lv_at hl 0 rfl) ?_
    refine lv_dup hx hb dX0_drop_60 rfl ?_
    refine va_get (D := G.1) (ci := 2) (v := .int mu) (C := RX0) (T := TX0) (N := 4) hx hb hts iX0_drop_X0 hown hK hP 0 rfl rfl 1 (by decide) (hts _ fX0_drop_2) (fun _ h9 => h9) rfl dX0_drop_61 ?_
    refine lv_iload_n hx hb dX0_drop_64 rfl (lv_at hl 1 rfl) ?_
    refine cpN (As := [.int f]) (rest := [.int mu, .ref h]) ⟨hx, hb, hml, hown, hts⟩ (c_X7_bit l G f) ⟨va_cnB (own := RX0) (host := RX7) (index := 34) (y := yX7_bit) 1 hts gX0_drop_X7_bit_n34 rfl rfl rfl (hKK.2.nth 15 (q := (RX0, 34, yX7_bit)) rfl) (hts _ fX0_drop_3) hd_X7_bit ⟨Nat.le_of_ble_eq_true rfl, Nat.le_of_ble_eq_true rfl⟩, (hts _ fX0_drop_4), trivial⟩ hKK hP [] rfl rfl hl.1 rfl (Nat.le_of_ble_eq_true rfl) dX0_drop_65 ⟨Nat.zero_le _, Nat.zero_le _⟩ ?_
    refine lv_iconst (v := -1) hx hb dX0_drop_68 (by decide) ?_
    refine lv_ixor hx hb dX0_drop_69 ?_
    refine lv_iand hx hb dX0_drop_70 ?_
    refine va_put (D := G.1) (ci := 2) (v := .int (mu &&& ((bitI f) ^^^ (-1)))) (ty := .int) (C := RX0) (T := TX0) (N := 4) hx hb hts iX0_drop_X0 tyX0 tyX0_ok nmX0 hown hK hP hD hS 0 rfl rfl 1 (by decide) (hts _ fX0_drop_2) (fun _ h9 => h9) rfl (by decide +kernel) rfl rfl (Nat.le_of_ble_eq_true rfl) dX0_drop_71 (fun H locs hP hD hS => ?_)
    have hPD : PD G A [(oX0 h (nI (cmpN L (dropB f) jx)) (mu &&& ((bitI f) ^^^ (-1))) mn k1), (cI G k1 14 gx)] H := ⟨hP, hD⟩
    have hP := hPD.1
    have hD := hPD.2
    clear hPD
    refine lv_aload_n hx hb dX0_drop_74 rfl (lv_at hl 0 rfl) ?_
    refine lv_dup hx hb dX0_drop_75 rfl ?_
    refine va_get (D := G.1) (ci := 2) (v := .int mn) (C := RX0) (T := TX0) (N := 4) hx hb hts iX0_drop_X0 hown hK hP 0 rfl rfl 2 (by decide) (hts _ fX0_drop_5) (fun _ h9 => h9) rfl dX0_drop_76 ?_
    refine lv_iload_n hx hb dX0_drop_79 rfl (lv_at hl 1 rfl) ?_
    refine cpN (As := [.int f]) (rest := [.int mn, .ref h]) ⟨hx, hb, hml, hown, hts⟩ (c_X7_bit l G f) ⟨va_cnB (own := RX0) (host := RX7) (index := 34) (y := yX7_bit) 1 hts gX0_drop_X7_bit_n34 rfl rfl rfl (hKK.2.nth 15 (q := (RX0, 34, yX7_bit)) rfl) (hts _ fX0_drop_3) hd_X7_bit ⟨Nat.le_of_ble_eq_true rfl, Nat.le_of_ble_eq_true rfl⟩, (hts _ fX0_drop_4), trivial⟩ hKK hP [] rfl rfl hl.1 rfl (Nat.le_of_ble_eq_true rfl) dX0_drop_80 ⟨Nat.zero_le _, Nat.zero_le _⟩ ?_
    refine lv_iconst (v := -1) hx hb dX0_drop_83 (by decide) ?_
    refine lv_ixor hx hb dX0_drop_84 ?_
    refine lv_iand hx hb dX0_drop_85 ?_
    refine va_put (D := G.1) (ci := 2) (v := .int (mn &&& ((bitI f) ^^^ (-1)))) (ty := .int) (C := RX0) (T := TX0) (N := 4) hx hb hts iX0_drop_X0 tyX0 tyX0_ok nmX0 hown hK hP hD hS 0 rfl rfl 2 (by decide) (hts _ fX0_drop_5) (fun _ h9 => h9) rfl (by decide +kernel) rfl rfl (Nat.le_of_ble_eq_true rfl) dX0_drop_86 (fun H locs hP hD hS => ?_)
    have hPD : PD G A [(oX0 h (nI (cmpN L (dropB f) jx)) (mu &&& ((bitI f) ^^^ (-1))) (mn &&& ((bitI f) ^^^ (-1))) k1), (cI G k1 14 gx)] H := ⟨hP, hD⟩
    have hP := hPD.1
    have hD := hPD.2
    clear hPD
    exact gretv hx hb hr hlocks hAe hS (gx) (rfl) (by have h9 := hI; rw [hj] at h9; exact cmpI_end h9) (by rw [← cmpN_end, ← hj]; exact hP) dX0_drop_89
  · skip
    have hj : jx < L.length := Nat.lt_of_not_le (fun z => c_9 ((nI_leI (a := L.length) (b := jx) (by omega) (by omega)).mpr z))
    have hcn := cmpN_le L (dropB f) jx
    refine lv_aload_n hx hb dX0_drop_12 rfl (lv_at hl 0 rfl) ?_
    refine va_get (D := G.1) (ci := 2) (v := .ref k1) (C := RX0) (T := TX0) (N := 4) hx hb hts iX0_drop_X0 hown hK hP 0 rfl rfl 3 (by decide) (hts _ fX0_drop_6) (fun _ h9 => h9) rfl dX0_drop_13 ?_
    refine lv_iload_n hx hb dX0_drop_16 rfl (lv_at hl 3 rfl) ?_
    refine cpN (As := [.ref k1, .int (nI jx)]) (rest := []) ⟨hx, hb, hml, hown, hts⟩ (c_X7_atk l G k1 14 gx (nI jx) jx (rfl) (by omega) (by decide)) ⟨va_cnB (own := RX0) (host := RX7) (index := 15) (y := yX7_at) 2 hts gX0_drop_X7_at_n15 rfl rfl rfl (hKK.2.nth 13 (q := (RX0, 15, yX7_at)) rfl) (hts _ fX0_drop_3) hd_X7_at ⟨Nat.le_of_ble_eq_true rfl, Nat.le_of_ble_eq_true rfl⟩, (hts _ fX0_drop_7), trivial⟩ hKK hP [1] rfl rfl hl.1 rfl (Nat.le_of_ble_eq_true rfl) dX0_drop_17 ⟨Nat.zero_le _, Nat.zero_le _⟩ ?_
    refine stI (y := L.getD jx 0) (cmpI_read hI hj) ?_
    refine lv_istore (lv' := [(4, .int (L.getD jx 0)), (0, .ref h), (1, .int f), (2, .int (nI (cmpN L (dropB f) jx))), (3, .int (nI jx))]) hx hb dX0_drop_20 hl (by decide) rfl (fun ls hl => ?_)
    refine lv_iload hx hb dX0_drop_22 (lv_at hl 0 rfl) ?_
    refine lv_iload_n hx hb dX0_drop_24 rfl (lv_at hl 2 rfl) ?_
    refine lv_icmp_eq (tgt := 48) hx hb dX0_drop_25 (by decide) (fun c_25 => ?_) (fun c_25 => ?_)
    · skip
      have hd : dropB f (L.getD jx 0) = false := decide_eq_false (fun z => z.1 c_25)
      refine lv_iinc (v := nI (jx + 1)) (lv' := [(3, .int (nI (jx + 1))), (4, .int (L.getD jx 0)), (0, .ref h), (1, .int f), (2, .int (nI (cmpN L (dropB f) jx)))]) hx hb dX0_drop_48 hl (k := 4) rfl (nI_1 jx) (by decide) rfl (fun ls hl => ?_)
      refine lv_goto (tgt := 4) hx hb dX0_drop_51 (by decide) ?_
      exact ih_4 (⟨jx + 1, gx⟩) (cmpI_drop hI hj hd) (by show L.length - (jx + 1) < L.length - jx; omega) _ _ ls (hP) (hD) hS (lv_sub hl [2, 3, 4, 0] (by show ([(0, .ref h), (1, .int f), (2, .int (nI (cmpN L (dropB f) jx))), (3, .int (nI (jx + 1)))] : List (Nat × Value)) = [(0, .ref h), (1, .int f), (2, .int (nI (cmpN L (dropB f) (jx + 1)))), (3, .int (nI (jx + 1)))]; rw [cmpN_drop hj hd]))
    · skip
      refine lv_iload hx hb dX0_drop_28 (lv_at hl 0 rfl) ?_
      refine lv_iload_n hx hb dX0_drop_30 rfl (lv_at hl 2 rfl) ?_
      refine lv_ineg hx hb dX0_drop_31 ?_
      refine lv_icmp_eq (tgt := 48) hx hb dX0_drop_32 (by decide) (fun c_32 => ?_) (fun c_32 => ?_)
      · skip
        have hd : dropB f (L.getD jx 0) = false := decide_eq_false (fun z => z.2 c_32)
        refine lv_iinc (v := nI (jx + 1)) (lv' := [(3, .int (nI (jx + 1))), (4, .int (L.getD jx 0)), (0, .ref h), (1, .int f), (2, .int (nI (cmpN L (dropB f) jx)))]) hx hb dX0_drop_48 hl (k := 4) rfl (nI_1 jx) (by decide) rfl (fun ls hl => ?_)
        refine lv_goto (tgt := 4) hx hb dX0_drop_51 (by decide) ?_
        exact ih_4 (⟨jx + 1, gx⟩) (cmpI_drop hI hj hd) (by show L.length - (jx + 1) < L.length - jx; omega) _ _ ls (hP) (hD) hS (lv_sub hl [2, 3, 4, 0] (by show ([(0, .ref h), (1, .int f), (2, .int (nI (cmpN L (dropB f) jx))), (3, .int (nI (jx + 1)))] : List (Nat × Value)) = [(0, .ref h), (1, .int f), (2, .int (nI (cmpN L (dropB f) (jx + 1)))), (3, .int (nI (jx + 1)))]; rw [cmpN_drop hj hd]))
      · skip
        have hd : dropB f (L.getD jx 0) = true := decide_eq_true ⟨c_25, c_32⟩
        refine lv_aload_n hx hb dX0_drop_35 rfl (lv_at hl 1 rfl) ?_
        refine va_get (D := G.1) (ci := 2) (v := .ref k1) (C := RX0) (T := TX0) (N := 4) hx hb hts iX0_drop_X0 hown hK hP 0 rfl rfl 3 (by decide) (hts _ fX0_drop_6) (fun _ h9 => h9) rfl dX0_drop_36 ?_
        refine lv_iload_n hx hb dX0_drop_39 rfl (lv_at hl 3 rfl) ?_
        refine lv_iload hx hb dX0_drop_40 (lv_at hl 0 rfl) ?_
        refine cgN (As := [.ref k1, .int (nI (cmpN L (dropB f) jx)), .int (L.getD jx 0)]) (rest := []) ⟨hx, hb, hml, hown, hts⟩ (c_X7_putk l G k1 14 gx (nI (cmpN L (dropB f) jx)) (L.getD jx 0) (cmpN L (dropB f) jx) (rfl) (by omega) (by decide)) ⟨va_cnB (own := RX0) (host := RX7) (index := 27) (y := yX7_put) 3 hts gX0_drop_X7_put_n27 rfl rfl rfl (hKK.2.nth 14 (q := (RX0, 27, yX7_put)) rfl) (hts _ fX0_drop_3) hd_X7_put ⟨Nat.le_of_ble_eq_true rfl, Nat.le_of_ble_eq_true rfl⟩, (hts _ fX0_drop_8), trivial⟩ hKK hP hD hS [1] rfl (by decide) rfl hl.1 rfl (Nat.le_of_ble_eq_true rfl) dX0_drop_42 ⟨Nat.zero_le _, Nat.zero_le _⟩ (fun _ => rfl) (fun _ => rfl) (fun _ H locs _ hP hD hS => ?_)
        have hPD : PD G A [(oX0 h (nI L.length) mu mn k1), (cI G k1 14 (upd gx (cmpN L (dropB f) jx) (L.getD jx 0)))] H := ⟨hP, hD⟩
        have hP := hPD.1
        have hD := hPD.2
        clear hPD
        refine lv_iinc (v := nI (cmpN L (dropB f) jx + 1)) (lv' := [(2, .int (nI (cmpN L (dropB f) jx + 1))), (4, .int (L.getD jx 0)), (0, .ref h), (1, .int f), (3, .int (nI jx))]) hx hb dX0_drop_45 hl (k := 3) rfl (nI_1 _) (by decide) rfl (fun ls hl => ?_)
        refine lv_iinc (v := nI (jx + 1)) (lv' := [(3, .int (nI (jx + 1))), (2, .int (nI (cmpN L (dropB f) jx + 1))), (4, .int (L.getD jx 0)), (0, .ref h), (1, .int f)]) hx hb dX0_drop_48 hl (k := 4) rfl (nI_1 jx) (by decide) rfl (fun ls hl => ?_)
        refine lv_goto (tgt := 4) hx hb dX0_drop_51 (by decide) ?_
        exact ih_4 (⟨jx + 1, upd gx (cmpN L (dropB f) jx) (L.getD jx 0)⟩) (cmpI_keep hI hj hd) (by show L.length - (jx + 1) < L.length - jx; omega) _ _ ls (hP) (hD) hS (lv_sub hl [3, 4, 1, 0] (by show ([(0, .ref h), (1, .int f), (2, .int (nI (cmpN L (dropB f) jx + 1))), (3, .int (nI (jx + 1)))] : List (Nat × Value)) = [(0, .ref h), (1, .int f), (2, .int (nI (cmpN L (dropB f) (jx + 1)))), (3, .int (nI (jx + 1)))]; rw [cmpN_keep hj hd]))
end
section
/-! lists that are searched, counted, joined -/
def fnd (P : Int32 → Bool) : List Int32 → Int32
  | [] => -1
  | v :: l => if P v then v else fnd P l
theorem drop_s {L : List Int32} {j : Nat} (h : j < L.length) : L.drop j = L.getD j 0 :: L.drop (j + 1) := by
  rw [List.drop_eq_getElem_cons h, List.getD_eq_getElem?_getD, List.getElem?_eq_getElem h]
  rfl
theorem fnd_t {P : Int32 → Bool} {L : List Int32} {j : Nat} (h : j < L.length) (hp : P (L.getD j 0) = true) : fnd P (L.drop j) = L.getD j 0 := by
  rw [drop_s h]
  simp only [fnd, hp, if_true]
theorem fnd_f {P : Int32 → Bool} {L : List Int32} {j : Nat} (h : j < L.length) (hp : P (L.getD j 0) = false) : fnd P (L.drop j) = fnd P (L.drop (j + 1)) := by
  rw [drop_s h]
  simp only [fnd, hp, Bool.false_eq_true, if_false]
theorem fnd_e (P : Int32 → Bool) (L : List Int32) : fnd P (L.drop L.length) = -1 := by
  rw [List.drop_length]; rfl
def foldP (P : Int32 → Bool) (o : Int32 → Int32 → Int32) (a : Int32) (L : List Int32) (j : Nat) : Int32 := (L.take j).foldl (fun a v => if P v then o a v else a) a
theorem foldP_t {P : Int32 → Bool} {o : Int32 → Int32 → Int32} {a : Int32} {L : List Int32} {j : Nat} (h : j < L.length) (hp : P (L.getD j 0) = true) : foldP P o a L (j + 1) = o (foldP P o a L j) (L.getD j 0) := by
  unfold foldP
  rw [take_s h, List.foldl_append]
  simp only [List.foldl_cons, List.foldl_nil, hp, if_true]
theorem foldP_f {P : Int32 → Bool} {o : Int32 → Int32 → Int32} {a : Int32} {L : List Int32} {j : Nat} (h : j < L.length) (hp : P (L.getD j 0) = false) : foldP P o a L (j + 1) = foldP P o a L j := by
  unfold foldP
  rw [take_s h, List.foldl_append]
  simp only [List.foldl_cons, List.foldl_nil, hp, Bool.false_eq_true, if_false]
theorem foldP_e (P : Int32 → Bool) (o : Int32 → Int32 → Int32) (a : Int32) (L : List Int32) : foldP P o a L L.length = L.foldl (fun a v => if P v then o a v else a) a := by
  unfold foldP; rw [List.take_length]
/-! branching, a step of each kind -/
def brB (kd pb : Nat → Int32) (f : Nat) (v : Int32) : Nat := if mayInB pb v f && mayOutB kd pb v f then 1 else 0
theorem brV_len {kd pb : Nat → Int32} {f : Nat} {v : Int32} (h : mayInB pb v f = true ∨ mayOutB kd pb v f = true) : (brV kd pb f v).length = 1 + brB kd pb f v := by
  unfold brV brB
  cases h1 : mayInB pb v f <;> cases h2 : mayOutB kd pb v f <;> simp [h1, h2] at h ⊢
theorem brN_0 (kd pb : Nat → Int32) (f : Nat) (L : List Int32) : brN kd pb f L 0 = 0 := by simp [brN, brL]
theorem brN_len (kd pb : Nat → Int32) (f : Nat) (L : List Int32) : brN kd pb f L L.length = (brL kd pb f L).length := by unfold brN; rw [List.take_length]
theorem brN_cnt {kd pb : Nat → Int32} {f : Nat} {L : List Int32} {j : Nat} (h : j < L.length) (hok : brOk kd pb f L) : L.length - (j + 1) + brN kd pb f L (j + 1) = L.length - j + brN kd pb f L j + brB kd pb f (L.getD j 0) := by
  rw [brN_s h, brV_len (hok _ (getD_mem h))]
  omega
theorem brI_step {kd pb : Nat → Int32} {f : Nat} {L : List Int32} {t : Nat} {g g' : Nat → Int32} (hI : brI kd pb f L (t + 1) g) (hok : brOk kd pb f L)
    (h1 : ∀ k, k < t → g' k = g k) (h2 : ∀ i, i < (brV kd pb f (L.getD t 0)).length → g' (brN kd pb f L t + i) = (brV kd pb f (L.getD t 0)).getD i 0) (h3 : ∀ k, brN kd pb f L (t + 1) ≤ k → g' k = g k) : brI kd pb f L t g' := by
  have ht : t < L.length := hI.1
  refine ⟨by omega, fun k hk => by rw [h1 k hk]; exact hI.2.1 k (by omega), fun k hk1 hk2 => ?_⟩
  by_cases hk3 : brN kd pb f L (t + 1) ≤ k
  · rw [h3 k hk3]; exact hI.2.2 k hk3 hk2
  · rw [brN_s ht] at hk3
    obtain ⟨i, rfl⟩ : ∃ i, k = brN kd pb f L t + i := ⟨k - brN kd pb f L t, by omega⟩
    rw [h2 i (by omega)]
    obtain ⟨R, hR⟩ := brL_split (kd := kd) (pb := pb) (f := f) ht
    rw [hR, List.append_assoc, getD_app2 (show (brL kd pb f (L.take t)).length ≤ _ by unfold brN; omega), getD_app1 (by unfold brN; omega)]
    congr 1
    unfold brN
    omega
theorem brN_ge {kd pb : Nat → Int32} {f : Nat} {L : List Int32} (h : brOk kd pb f L) {t : Nat} (ht : t ≤ L.length) : t ≤ brN kd pb f L t := brL_ge h t ht
theorem brI_one {kd pb : Nat → Int32} {f : Nat} {L : List Int32} {t : Nat} {g : Nat → Int32} {x : Int32} (hI : brI kd pb f L (t + 1) g) (hok : brOk kd pb f L) (hv : brV kd pb f (L.getD t 0) = [x]) : brN kd pb f L (t + 1) - 1 = brN kd pb f L t ∧ brI kd pb f L t (upd g (brN kd pb f L (t + 1) - 1) x) := by
  have ht : t < L.length := hI.1
  have e := brN_s (kd := kd) (pb := pb) (f := f) ht
  rw [hv] at e
  have e1 : brN kd pb f L (t + 1) = brN kd pb f L t + 1 := e
  have hge := brN_ge hok (t := t) (by omega)
  refine ⟨by omega, brI_step hI hok (fun k hk => ?_) (fun i hi => ?_) (fun k hk => ?_)⟩
  · simp only [upd, if_neg (show k ≠ brN kd pb f L (t + 1) - 1 by omega)]
  · rw [hv] at hi ⊢
    have hi0 : i = 0 := by have : i < 1 := hi; omega
    subst hi0
    simp only [upd, if_pos (show brN kd pb f L t + 0 = brN kd pb f L (t + 1) - 1 by omega)]
    rfl
  · simp only [upd, if_neg (show k ≠ brN kd pb f L (t + 1) - 1 by omega)]
theorem brI_two {kd pb : Nat → Int32} {f : Nat} {L : List Int32} {t : Nat} {g : Nat → Int32} {x y : Int32} (hI : brI kd pb f L (t + 1) g) (hok : brOk kd pb f L) (hv : brV kd pb f (L.getD t 0) = [x, y]) : brN kd pb f L (t + 1) - 1 - 1 = brN kd pb f L t ∧ brI kd pb f L t (upd (upd g (brN kd pb f L (t + 1) - 1) y) (brN kd pb f L (t + 1) - 1 - 1) x) := by
  have ht : t < L.length := hI.1
  have e := brN_s (kd := kd) (pb := pb) (f := f) ht
  rw [hv] at e
  have e1 : brN kd pb f L (t + 1) = brN kd pb f L t + 2 := e
  have hge := brN_ge hok (t := t) (by omega)
  refine ⟨by omega, brI_step hI hok (fun k hk => ?_) (fun i hi => ?_) (fun k hk => ?_)⟩
  · simp only [upd, if_neg (show k ≠ brN kd pb f L (t + 1) - 1 by omega), if_neg (show k ≠ brN kd pb f L (t + 1) - 1 - 1 by omega)]
  · rw [hv] at hi ⊢
    have hi2 : i < 2 := hi
    rcases (show i = 0 ∨ i = 1 by omega) with rfl | rfl
    · simp only [upd, if_pos (show brN kd pb f L t + 0 = brN kd pb f L (t + 1) - 1 - 1 by omega)]
      rfl
    · simp only [upd, if_neg (show brN kd pb f L t + 1 ≠ brN kd pb f L (t + 1) - 1 - 1 by omega), if_pos (show brN kd pb f L t + 1 = brN kd pb f L (t + 1) - 1 by omega)]
      rfl
  · simp only [upd, if_neg (show k ≠ brN kd pb f L (t + 1) - 1 by omega), if_neg (show k ≠ brN kd pb f L (t + 1) - 1 - 1 by omega)]
theorem brV_in {kd pb : Nat → Int32} {f : Nat} {v : Int32} (h1 : mayInB pb v f = true) (h2 : mayOutB kd pb v f = false) : brV kd pb f v = [v ||| bitI (nI f)] := by simp [brV, h1, h2]
theorem brV_out {kd pb : Nat → Int32} {f : Nat} {v : Int32} (h1 : mayInB pb v f = false) (h2 : mayOutB kd pb v f = true) : brV kd pb f v = [v] := by simp [brV, h1, h2]
theorem brV_two {kd pb : Nat → Int32} {f : Nat} {v : Int32} (h1 : mayInB pb v f = true) (h2 : mayOutB kd pb v f = true) : brV kd pb f v = [v ||| bitI (nI f), v] := by simp [brV, h1, h2]
theorem i_dec2 (t : Nat) : nI (t + 1) - 1 + (-1) = nI t - 1 := by rw [nI_pred, Int32.sub_eq_add_neg]
theorem i_neg_iff {t : Nat} (h : t < 2 ^ 30) : nI t - 1 < 0 ↔ t = 0 := by
  cases t with
  | zero => exact ⟨fun _ => rfl, fun _ => by decide⟩
  | succ q => rw [nI_pred]; exact ⟨fun z => absurd z (nI_pos (by omega)), fun z => by omega⟩
theorem iinc_m1 {t : Nat} (h : 0 < t) : nI t + Int32.ofInt (-1) = nI (t - 1) := sb_m1 h
/-! the variants, as the class has them -/
def updL (kd pb : Nat → Int32) : Nat → List Int32
  | 0 => [0]
  | j + 1 => brL kd pb (j + 1) (updL kd pb j)
def vKeep (r : Nat → Nat → Int32) (bd : Int32) (n m : Nat) (v : Int32) : Bool := allU (grpB (r 6) (r 7) (r 8) bd v) n && (allZ (frmB (r 10) (r 11) (r 12) (r 13) (r 14) v) m && sumsB (r 17) (r 16) v)
def vLL (r : Nat → Nat → Int32) (bd : Int32) (n m : Nat) : List Int32 := (updL (r 3) (r 5) n).filter (vKeep r bd n m)
def upOk (r : Nat → Nat → Int32) (bd : Int32) (n m z : Nat) (ub : Bool) (ro : Nat → Int32) : Prop := n ≤ 14 ∧ m ≤ 40 ∧ (∀ j, j < n → brOk (r 3) (r 5) (j + 1) (updL (r 3) (r 5) j)) ∧ (∀ j, j ≤ n → (updL (r 3) (r 5) j).length ≤ 8192) ∧ (ub = true → rowIs ro (vLL r bd n m) ∧ z = (vLL r bd n m).length)
theorem upOk_le {r : Nat → Nat → Int32} {bd : Int32} {n m z : Nat} {ub : Bool} {ro : Nat → Int32} (h : upOk r bd n m z ub ro) : (vLL r bd n m).length ≤ 8192 := Nat.le_trans (List.length_filter_le _ _) (h.2.2.2.1 n (Nat.le_refl _))
theorem upOk_aft {r : Nat → Nat → Int32} {bd : Int32} {n m z : Nat} {ub : Bool} {ro ro' : Nat → Int32} (h : upOk r bd n m z ub ro) (h' : rowIs ro' (vLL r bd n m)) : upOk r bd n m (vLL r bd n m).length true ro' := ⟨h.1, h.2.1, h.2.2.1, h.2.2.2.1, fun _ => ⟨h', rfl⟩⟩
theorem rowIs_1 (f : Nat → Int32) : rowIs (upd f 0 0) [0] := fun k hk => by
  have : k = 0 := by have : k < 1 := hk; omega
  subst this
  rfl
end
section
theorem zz_end : True := trivial
end
