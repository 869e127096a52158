section
-- ===== PART A: goes FIRST, ahead of the names: the tables' words, and 'selects' of the private methods out of them =====
/-- a private method of a class that the tables say can be made, by its rows of tables_1 -/
def lw_okq (q : MethodName × Nat) : Prop := (q.1.cls ≠ "java/lang/invoke/MethodHandle" ∧ q.1.cls ≠ "java/lang/invoke/VarHandle") ∧ Cond.instantiable q.1.cls q.2 ∈ tables_1 ∧ Cond.privateMethod q.1 ∈ tables_1 ∧ Cond.instanceMethod q.1 ∈ tables_1
theorem lw_p0 : lw_okq (⟨"BackMirror", "undoBrokenRun", "()I"⟩, 6) := ⟨⟨by decide +kernel, by decide +kernel⟩, List.mem_of_getElem? (i := 11) (by decide +kernel), List.mem_of_getElem? (i := 63) (by decide +kernel), List.mem_of_getElem? (i := 64) (by decide +kernel)⟩
theorem lw_p1 : lw_okq (⟨"java/lang/Throwable", "fillInStackTrace", "(I)Ljava/lang/Throwable;"⟩, 6) := ⟨⟨by decide +kernel, by decide +kernel⟩, List.mem_of_getElem? (i := 123) (by decide +kernel), List.mem_of_getElem? (i := 121) (by decide +kernel), List.mem_of_getElem? (i := 122) (by decide +kernel)⟩
theorem lw_p2 : lw_okq (⟨"BackMirror", "exchange", "(ILBackMirror$Thing;)I"⟩, 6) := ⟨⟨by decide +kernel, by decide +kernel⟩, List.mem_of_getElem? (i := 11) (by decide +kernel), List.mem_of_getElem? (i := 153) (by decide +kernel), List.mem_of_getElem? (i := 154) (by decide +kernel)⟩
theorem lw_p3 : lw_okq (⟨"BackMirror", "stepsNeeded", "()I"⟩, 6) := ⟨⟨by decide +kernel, by decide +kernel⟩, List.mem_of_getElem? (i := 11) (by decide +kernel), List.mem_of_getElem? (i := 225) (by decide +kernel), List.mem_of_getElem? (i := 226) (by decide +kernel)⟩
theorem lw_p4 : lw_okq (⟨"BackMirror", "checkKept", "(I)V"⟩, 6) := ⟨⟨by decide +kernel, by decide +kernel⟩, List.mem_of_getElem? (i := 11) (by decide +kernel), List.mem_of_getElem? (i := 252) (by decide +kernel), List.mem_of_getElem? (i := 253) (by decide +kernel)⟩
theorem lw_p5 : lw_okq (⟨"BackMirror", "thingOn", "(II)LBackMirror$Thing;"⟩, 6) := ⟨⟨by decide +kernel, by decide +kernel⟩, List.mem_of_getElem? (i := 11) (by decide +kernel), List.mem_of_getElem? (i := 264) (by decide +kernel), List.mem_of_getElem? (i := 265) (by decide +kernel)⟩
theorem lw_p6 : lw_okq (⟨"BackMirror", "differenceTakes", "(II)I"⟩, 6) := ⟨⟨by decide +kernel, by decide +kernel⟩, List.mem_of_getElem? (i := 11) (by decide +kernel), List.mem_of_getElem? (i := 310) (by decide +kernel), List.mem_of_getElem? (i := 311) (by decide +kernel)⟩
def lw_privs_1 : List (MethodName × Nat) := [(⟨"BackMirror", "undoBrokenRun", "()I"⟩, 6), (⟨"java/lang/Throwable", "fillInStackTrace", "(I)Ljava/lang/Throwable;"⟩, 6), (⟨"BackMirror", "exchange", "(ILBackMirror$Thing;)I"⟩, 6), (⟨"BackMirror", "stepsNeeded", "()I"⟩, 6), (⟨"BackMirror", "checkKept", "(I)V"⟩, 6), (⟨"BackMirror", "thingOn", "(II)LBackMirror$Thing;"⟩, 6), (⟨"BackMirror", "differenceTakes", "(II)I"⟩, 6)]
theorem lw_r1 : ∀ q ∈ lw_privs_1, lw_okq q := List.forall_mem_cons.mpr ⟨lw_p0, List.forall_mem_cons.mpr ⟨lw_p1, List.forall_mem_cons.mpr ⟨lw_p2, List.forall_mem_cons.mpr ⟨lw_p3, List.forall_mem_cons.mpr ⟨lw_p4, List.forall_mem_cons.mpr ⟨lw_p5, List.forall_mem_cons.mpr ⟨lw_p6, fun _ h => absurd h List.not_mem_nil⟩⟩⟩⟩⟩⟩⟩
def lw_privs : List (MethodName × Nat) := lw_privs_1
def lw_tbl : List Cond := k2_sels lw_privs ++ tables_1
theorem lw_privs_ok : ∀ q ∈ lw_privs, lw_okq q := lw_r1
end
section
/-! ===== BEGIN words of one list among another's, by their places ===== -/
theorem goodIn_r {big : List Cond} (ws : List Cond) (ps : List Nat) (hp : ws = ps.filterMap (fun i => big[i]?)) (h : ws.all goodWord = true) : GoodIn big ws := by
  intro w hw
  have h1 := List.all_eq_true.mp h w hw
  rw [hp] at hw
  obtain ⟨i, -, hi⟩ := List.mem_filterMap.mp hw
  have hm : w ∈ big := by first | exact List.mem_of_getElem? hi | exact List.getElem?_mem hi
  exact ⟨hm, good_of_word h1⟩
theorem goodIn_app {big a b : List Cond} (ha : GoodIn big a) (hb : GoodIn big b) : GoodIn big (a ++ b) := fun w h => (List.mem_append.mp h).elim (ha w) (hb w)
theorem goodIn_ca {big a b : List Cond} {c : Cond} (ha : GoodIn big (c :: a)) (hb : GoodIn big b) : GoodIn big (c :: (a ++ b)) := fun w h => (List.mem_cons.mp h).elim (fun e => ha w (List.mem_cons.mpr (Or.inl e))) (fun h => (List.mem_append.mp h).elim (fun h => ha w (List.mem_cons.mpr (Or.inr h))) (hb w))
theorem goodIn_sub {big ws : List Cond} (hm : ∀ w ∈ ws, w ∈ big) (h : ws.all goodWord = true) : GoodIn big ws := fun w hw => ⟨hm w hw, good_of_word (List.all_eq_true.mp h w hw)⟩
/-! ===== END ===== -/

/-! ===== BEGIN exceptions that leave a method, and their catching by the caller (launches without stack traces) ===== -/
section VXA
/-! The laws vx_back, vx_callV, vx_callS, vx_callSW, vx_throw0, vx_throwS follow proofs of the library, with one case more: JvmDerived/Free/Laws.lean (Back.of_free), Shelf42/LK1.lean (callV, callS), Shelf/KitTraced.lean (throwNew0V, throwNewS). -/
/-- where a method has thrown q: the class by its name, the cell, what was written, the world -/
def vx_T (XC : String → State → State → Prop) (st : State) (q : Addr) (t : State) (mc ms : Nat) (free : Addr → Prop) : Prop :=
  ∃ (E : String) (ce : Cell) (L : List Loc), XC E st t ∧ t.heap[q]? = some ce ∧ ce.vm = .none ∧ st.vm.findClass E = some ce.cls ∧ st.WarmedH t.vm ∧ st.sameButNew ({ t with vm := st.vm } : State) L mc ms ∧ ∀ z ∈ L, free z.base
def vx_Q (Qc : Array Value → State → Outcome → State → Prop) (XC : String → State → State → Prop) (mc ms : Nat) (free : Addr → Prop) : Array Value → State → Outcome → State → Prop := fun a st o t =>
  (Qc a st o t ∧ ∃ L, FrameEnd st o t L mc ms ∧ ∀ q ∈ L, free q.base) ∨ ∃ q, o = .threw q ∧ vx_T XC st q t mc ms free
/-- a callee that returns or throws -/
def vx_Met (l : Launch) (y : MethodName) (ws : List Cond) (rm : Room) (Pc : Array Value → State → Prop) (Qc : Array Value → State → Outcome → State → Prop) (XC : String → State → State → Prop) (mc ms : Nat) (free : Addr → Prop) : Prop :=
  MetFree l y (headSpec ws rm) Pc (fun _ _ _ _ _ => True) (vx_Q Qc XC mc ms free)
def vx_Post (XC : String → State → State → Prop) (mc ms : Nat) (free : Addr → Prop) : Pt → Array Value → Addr → Pt → Prop := fun A a q B =>
  ∃ (g : JFrame) (mk : MethodId) (t : State) (L : List Loc) (E : String) (ce : Cell), B.U.heap = t.heap ∧ B.U.vm = t.vm ∧ XC E (A.U.calling g mk a) t ∧ t.heap[q]? = some ce ∧ ce.vm = .none ∧ A.U.vm.findClass E = some ce.cls ∧ B.locs = A.locs ++ L ∧ (∀ z ∈ L, free z.base) ∧ B.cells = A.cells + mc ∧ B.slots = A.slots + ms
def vx_Back (l : Launch) (R : Room) (p : Program) (e : Env) (below : List Frame) (s : State) (sargs : Array Value) (y : MethodName) (len W9 : Nat)
    (Pre : Pt → Array Value → Prop) (Post : Pt → Array Value → Option Value → Pt → Prop) (PostX : Pt → Array Value → Addr → Pt → Prop) : Prop :=
  ∀ (m : MethodId) (meth : Method) (c : Code) (A : Pt) (g : JFrame) (ig : Instr) (mk : MethodId) (a : Array Value),
    Stand p l e R s m sargs below meth c A.U A.locs A.cells A.slots → g.method = m → g.locals.size = c.maxLocals → decode c.code g.pc = .ok (ig, len) →
    2 * g.monitorRoom + (g.stack.map fun v => v.category).sum ≤ W9 → A.U.methodNamed? y = some mk → Pre A a →
    (∃ (v : Option Value) (B : Pt), Stand p l e R s m sargs below meth c B.U B.locs B.cells B.slots ∧ Post A a v B ∧
      Steps p.tables e below (doInvoke e (A.U.setTop g) [] mk a).1 (B.U.setTop { g with pc := g.pc + len, stack := v.toList ++ g.stack })) ∨
    (∃ (q : Addr) (B : Pt), Stand p l e R s m sargs below meth c B.U B.locs B.cells B.slots ∧ PostX A a q B ∧
      Steps p.tables e below (doInvoke e (A.U.setTop g) [] mk a).1 ((B.U.setTop g).pushFrame (.throwing q)))
section Payer
variable {l : Launch} {R : Room} {p : Program} {e : Env} {below : List Frame} {s : State} {sargs : Array Value} {y : MethodName} {len W9 : Nat}
theorem vx_back {ws : List Cond} {rm : Room} {Pc : Array Value → State → Prop} {Qc : Array Value → State → Outcome → State → Prop} {XC : String → State → State → Prop} {mc ms : Nat} {free : Addr → Prop} {bytes : ByteArray} {maxL : Nat} {ret : Option FieldType}
    (hM : vx_Met l y ws rm Pc Qc XC mc ms free) (hblind : FrameBlind Pc) (hrc : rm.cells = mc) (hrs : rm.slots = ms)
    (hframes : rm.frames + 1 ≤ R.frames) (hlocals : W9 + (maxL + 11) + rm.locals ≤ R.locals)
    (hws : ∀ w ∈ ws, ∀ a' U, s.WarmedH U.vm → w.before a' U = true) (hcode : Cond.code y bytes maxL ret ∈ ws) (hinit : ∀ a' U, s.WarmedH U.vm → (Cond.initialized y.cls).before a' U = true) :
    vx_Back l R p e below s sargs y len W9 (PreOf R mc ms Pc) (PostOf Qc mc ms free) (vx_Post XC mc ms free) := by
  intro m meth c A g ig mk a X hg hsize hdg hW hn hp
  have h1 : (headSpec ws rm).pre.before a A.U = true := atoms_intro fun w hw => hws w hw _ _ X.warmed
  have h2 : (Cond.code y bytes maxL ret).before a A.U = true := hws _ hcode _ _ X.warmed
  have h3 : (Cond.initialized y.cls).before a A.U = true := hinit _ _ X.warmed
  have h4 : A.cells + (headSpec ws rm).room.cells ≤ R.cells := by rw [show (headSpec ws rm).room.cells = mc from hrc]; exact hp.1
  have h5 : A.slots + (headSpec ws rm).room.slots ≤ R.slots := by rw [show (headSpec ws rm).room.slots = ms from hrs]; exact hp.2.1
  have hPc : Pc a (A.U.calling g mk a) := hblind _ _ _ _ hp.2.2
  obtain ⟨U, Ls, c0, s0⟩ := A
  dsimp only [Pt.U, Pt.locs, Pt.cells, Pt.slots] at h1 h2 h3 h4 h5 X hn hPc ⊢
  obtain ⟨methY, cY, hmY, hcY, -, hlY, -, -, -, -⟩ := Cond.code_spec hn h2
  obtain ⟨kY, hkY, -⟩ := className_of_methodNamed hn
  have hinitY : kY.init = .initialized := Cond.initialized_spec (findClass_of_methodNamed hn) hkY h3
  have h : At U g.method c below := by rw [hg]; exact X.here
  have hlocals9 : W9 + (maxL + 11) + (headSpec ws rm).room.locals ≤ R.locals := hlocals
  have happ : (headSpec ws rm).appliesLoose y e.platform (U.calling g mk a) = true :=
    Spec.appliesLoose_calling (g := g) h hdg hn hkY hinitY
      (X.room_calling (g := g) (R' := (headSpec ws rm).room) hsize hmY hcY hframes (by rw [hlY]; omega) h4 h5) h1
  obtain ⟨mid, hmid⟩ := h.above
  have hfr : (U.setTop g).frames = (.java g :: mid) ++ below := by rw [State.frames_setTop' g h.top, hmid]; rfl
  obtain ⟨o, s₂, hsteps, -, hend, hq⟩ := Steps.callFree hM p X.admits X.cas X.clock (acts := []) hfr happ hPc trivial
  have hq' : vx_Q Qc XC mc ms free a (U.calling g mk a) o s₂ := hq
  rw [State.frames_setTop' g h.top] at hend
  obtain ⟨g₀, hg0⟩ := Option.isSome_iff_exists.mp h.top
  obtain ⟨r, hr⟩ := State.topJava?_eq_some.mp hg0
  have hr' : (({ U with heap := s₂.heap, slotsUsed := s₂.slotsUsed } : State).setVm s₂.vm).frames = .java g₀ :: r := hr
  rcases hq' with ⟨hqc, L, hfe, hL⟩ | ⟨q, rfl, E, ce, L, hx, hce, hcv, hcl, hW₂, hsm, hL⟩
  · obtain ⟨⟨v, rfl⟩, hW₂, e2, q2, q3, q4, q5, q6⟩ := id hfe
    have e3 : s₂ = ({ (U.calling g mk a).setFrames s₂.frames with heap := s₂.heap, slotsUsed := s₂.slotsUsed } : State).setVm s₂.vm := by
      have : s₂ = ({ s₂ with vm := (U.calling g mk a).vm } : State).setVm s₂.vm := rfl
      rw [e2] at this
      exact this
    obtain ⟨c₂, i₂, len₂, hc₂, hd₂, hf₂⟩ := hend
    have hW' : U.WarmedH s₂.vm := hW₂
    have hcc : c₂ = c := by
      have h1 : s₂.code? g.method = U.code? g.method := by
        rw [State.code?_eq, State.code?_eq, hW'.alike.method?]
      exact Option.some.inj (hc₂.symm.trans (h1.trans h.code))
    subst hcc
    have hlen : len₂ = len := by rw [hdg] at hd₂; cases hd₂; rfl
    subst hlen
    have hs₂ : s₂ = (({ U with heap := s₂.heap, slotsUsed := s₂.slotsUsed } : State).setVm s₂.vm).setTop { g with pc := g.pc + len₂, stack := v.toList ++ g.stack } := by
      refine e3.trans ?_
      rw [hf₂, State.calling_eq h.top, State.setFrames_setFrames, State.setTop_of_frames _ hr', hr]
      rfl
    have hsame : U.sameButNew ({ U with heap := s₂.heap, slotsUsed := s₂.slotsUsed } : State) L mc ms := by
      refine ⟨?_, q2, q3, q4, q5, q6⟩
      obtain ⟨t, ht, -⟩ := State.frames_cons hr
      show ({ U with heap := s₂.heap, slotsUsed := s₂.slotsUsed } : State) = { U.setFrames U.frames with heap := s₂.heap, slotsUsed := s₂.slotsUsed }
      rw [State.setFrames_self ht]
    subst hg
    refine Or.inl ⟨v, ⟨(({ U with heap := s₂.heap, slotsUsed := s₂.slotsUsed } : State).setVm s₂.vm), Ls ++ L, c0 + mc, s0 + ms⟩,
      ⟨X.admits, X.cas, X.clock, X.frames, X.room, X.hears, X.method, X.code, (X.here.setHeapUsed s₂.heap s₂.slotsUsed).setVm hW'.alike, X.tail, State.WarmedH.trans X.warmed hW', X.limits, X.bytes, X.same.trans (hsame.setVm s.vm)⟩,
      ⟨g, mk, s₂, L, rfl, rfl, hqc, rfl, hL, rfl, rfl⟩, ?_⟩
    show Steps p.tables e below _ ((({ U with heap := s₂.heap, slotsUsed := s₂.slotsUsed } : State).setVm s₂.vm).setTop { g with pc := g.pc + len₂, stack := v.toList ++ g.stack })
    rw [← hs₂]
    exact hsteps
  · obtain ⟨e2, q2, q3, q4, q5, q6⟩ := id hsm
    have e3 : s₂ = ({ (U.calling g mk a).setFrames s₂.frames with heap := s₂.heap, slotsUsed := s₂.slotsUsed } : State).setVm s₂.vm := by
      have : s₂ = ({ s₂ with vm := (U.calling g mk a).vm } : State).setVm s₂.vm := rfl
      rw [e2] at this
      exact this
    have hf₂ : s₂.frames = .throwing q :: .java g :: U.frames.tail := hend
    have hW' : U.WarmedH s₂.vm := hW₂
    have hs₂ : s₂ = ((({ U with heap := s₂.heap, slotsUsed := s₂.slotsUsed } : State).setVm s₂.vm).setTop g).pushFrame (.throwing q) := by
      refine e3.trans ?_
      rw [hf₂, State.calling_eq h.top, State.setFrames_setFrames, State.pushFrame, State.frames_setTop _ hr', State.setTop_of_frames _ hr', State.setFrames_setFrames, hr]
      rfl
    have hsame : U.sameButNew ({ U with heap := s₂.heap, slotsUsed := s₂.slotsUsed } : State) L mc ms := by
      refine ⟨?_, q2, q3, q4, q5, q6⟩
      obtain ⟨t, ht, -⟩ := State.frames_cons hr
      show ({ U with heap := s₂.heap, slotsUsed := s₂.slotsUsed } : State) = { U.setFrames U.frames with heap := s₂.heap, slotsUsed := s₂.slotsUsed }
      rw [State.setFrames_self ht]
    subst hg
    refine Or.inr ⟨q, ⟨(({ U with heap := s₂.heap, slotsUsed := s₂.slotsUsed } : State).setVm s₂.vm), Ls ++ L, c0 + mc, s0 + ms⟩,
      ⟨X.admits, X.cas, X.clock, X.frames, X.room, X.hears, X.method, X.code, (X.here.setHeapUsed s₂.heap s₂.slotsUsed).setVm hW'.alike, X.tail, State.WarmedH.trans X.warmed hW', X.limits, X.bytes, X.same.trans (hsame.setVm s.vm)⟩,
      ⟨g, mk, s₂, L, E, ce, rfl, rfl, hx, hce, hcv, hcl, rfl, hL, rfl, rfl⟩, ?_⟩
    show Steps p.tables e below _ (((({ U with heap := s₂.heap, slotsUsed := s₂.slotsUsed } : State).setVm s₂.vm).setTop g).pushFrame (.throwing q))
    rw [← hs₂]
    exact hsteps
end Payer
section Calls
variable {p : Program} {l : Launch} {e : Env} {R : Room} {s : State} {m : MethodId} {args : Array Value} {below : List Frame} {meth : Method} {c : Code} {T : State} {locs : List Loc} {cells slots : Nat}
theorem vx_callV (X : Stand p l e R s m args below meth c T locs cells slots) (hexec : p.tables.exec = Jvm.exec) {own C : String} {index : Nat} {y : MethodName} {bytes : ByteArray} {maxL : Nat} {ret : Option FieldType}
    (hown : s.vm.findClass own = some m.cls) (hlink : (Cond.methodLink own index y).before args s = true) (hinst : (Cond.instanceMethod y).before args s = true) (hsel : (Cond.selects C y y).before args s = true)
    (hcode : (Cond.code y bytes maxL ret).before args s = true) (hy : y.cls ≠ "java/lang/invoke/MethodHandle" ∧ y.cls ≠ "java/lang/invoke/VarHandle")
    {W9 : Nat} {Pre : Pt → Array Value → Prop} {Post : Pt → Array Value → Option Value → Pt → Prop} {PostX : Pt → Array Value → Addr → Pt → Prop} (hK : vx_Back l R p e below s args y 3 W9 Pre Post PostX)
    {b : Addr} {cellB : Cell} (hcell : T.heap[b]? = some cellB) (hobj : cellB.vm.isStatics = false) (hcls : s.vm.findClass C = some cellB.cls)
    {g : JFrame} (hg : g.method = m) (hsize : g.locals.size = c.maxLocals) {argsL rest : List Value} (hlen : ∀ sig, parseMethodDescriptor y.desc = some sig → argsL.length = sig.parameters.length)
    (hstack : g.stack = argsL.reverse ++ .ref b :: rest) (hW : 2 * g.monitorRoom + (rest.map fun v => v.category).sum ≤ W9) (hdg : decode c.code g.pc = .ok (.invokevirtual index, 3))
    (hpre : ∀ vm₁, s.WarmedH vm₁ → Pre ⟨T.setVm vm₁, locs, cells, slots⟩ (Value.ref b :: argsL).toArray) :
    (∃ (v : Option Value) (vm₁ : Vm) (B : Pt), s.WarmedH vm₁ ∧ Stand p l e R s m args below meth c B.U B.locs B.cells B.slots ∧ Post ⟨T.setVm vm₁, locs, cells, slots⟩ (Value.ref b :: argsL).toArray v B ∧
      ∀ target, Steps p.tables e below (B.U.setTop { g with pc := g.pc + 3, stack := v.toList ++ rest }) target → Steps p.tables e below (T.setTop g) target) ∨
    (∃ (q : Addr) (vm₁ : Vm) (B : Pt), s.WarmedH vm₁ ∧ Stand p l e R s m args below meth c B.U B.locs B.cells B.slots ∧ PostX ⟨T.setVm vm₁, locs, cells, slots⟩ (Value.ref b :: argsL).toArray q B ∧
      Steps p.tables e below (T.setTop g) ((B.U.setTop { g with stack := rest }).pushFrame (.throwing q))) := by
  obtain ⟨mk, methM, hnamed, hmethM, hstM, habM⟩ := Cond.instanceMethod_spec hinst
  obtain ⟨methM', cM, hmethM', -, -, -, -, -, -, hsigM⟩ := Cond.code_spec hnamed hcode
  cases hmethM.symm.trans hmethM'
  obtain ⟨c2, r2, m2, q1, q2, q3, q4, kP, hkP, hkPi⟩ := Cond.selects_spec hsel
  cases hcls.symm.trans q1
  cases (State.methodFound?_of_named hnamed hy).symm.trans q2
  cases hnamed.symm.trans q3
  have hselP : selectMethod e.platform s.vm cellB.cls mk = .method mk := by rw [Launch.admits_selectMethod X.admits]; exact q4
  obtain ⟨vm₁, X₁, hstep₁⟩ := X.invokevirtual hexec hown hlink hnamed hmethM hstM hkP hkPi hy (a := b) (cell := cellB) hcell
    (fun z h => by rw [h] at hobj; cases hobj) hselP hmethM habM hkP hkPi (g := g) hg (argsL := argsL) (rest := rest) (hlen _ hsigM) hstack hdg
  rcases hK m meth c ⟨T.setVm vm₁, locs, cells, slots⟩ { g with stack := rest } (.invokevirtual index) mk (Value.ref b :: argsL).toArray X₁ hg hsize hdg hW (X₁.named hnamed) (hpre vm₁ X₁.warmed) with ⟨v, B, X', hpost, hsteps⟩ | ⟨q, B, X', hpost, hsteps⟩
  · exact Or.inl ⟨v, vm₁, B, X₁.warmed, X', hpost, fun target h => hstep₁ _ fun acts => by rw [doInvoke_state]; exact hsteps.trans h⟩
  · exact Or.inr ⟨q, vm₁, B, X₁.warmed, X', hpost, hstep₁ _ fun acts => by rw [doInvoke_state]; exact hsteps⟩
theorem vx_callS (X : Stand p l e R s m args below meth c T locs cells slots) (hexec : p.tables.exec = Jvm.exec) {own : String} {index : Nat} {y : MethodName} {bytes : ByteArray} {maxL : Nat} {ret : Option FieldType}
    (hown : s.vm.findClass own = some m.cls) (hlink : (Cond.methodLink own index y).before args s = true) (hstat : (Cond.static y).before args s = true) (hinit : (Cond.initialized y.cls).before args s = true)
    (hcode : (Cond.code y bytes maxL ret).before args s = true) (hy : y.cls ≠ "java/lang/invoke/MethodHandle" ∧ y.cls ≠ "java/lang/invoke/VarHandle")
    {W9 : Nat} {Pre : Pt → Array Value → Prop} {Post : Pt → Array Value → Option Value → Pt → Prop} {PostX : Pt → Array Value → Addr → Pt → Prop} (hK : vx_Back l R p e below s args y 3 W9 Pre Post PostX)
    {g : JFrame} (hg : g.method = m) (hsize : g.locals.size = c.maxLocals) {argsL rest : List Value} (hlen : ∀ sig, parseMethodDescriptor y.desc = some sig → argsL.length = sig.parameters.length)
    (hstack : g.stack = argsL.reverse ++ rest) (hW : 2 * g.monitorRoom + (rest.map fun v => v.category).sum ≤ W9) (hdg : decode c.code g.pc = .ok (.invokestatic index, 3))
    (hpre : ∀ vm₁, s.WarmedH vm₁ → Pre ⟨T.setVm vm₁, locs, cells, slots⟩ argsL.toArray) :
    (∃ (v : Option Value) (vm₁ : Vm) (B : Pt), s.WarmedH vm₁ ∧ Stand p l e R s m args below meth c B.U B.locs B.cells B.slots ∧ Post ⟨T.setVm vm₁, locs, cells, slots⟩ argsL.toArray v B ∧
      ∀ target, Steps p.tables e below (B.U.setTop { g with pc := g.pc + 3, stack := v.toList ++ rest }) target → Steps p.tables e below (T.setTop g) target) ∨
    (∃ (q : Addr) (vm₁ : Vm) (B : Pt), s.WarmedH vm₁ ∧ Stand p l e R s m args below meth c B.U B.locs B.cells B.slots ∧ PostX ⟨T.setVm vm₁, locs, cells, slots⟩ argsL.toArray q B ∧
      Steps p.tables e below (T.setTop g) ((B.U.setTop { g with stack := rest }).pushFrame (.throwing q))) := by
  obtain ⟨mk, hnamed⟩ := Cond.code_named hcode
  obtain ⟨methM, cM, hmethM, -, -, -, -, -, -, hsigM⟩ := Cond.code_spec hnamed hcode
  have hstatic : methM.isStatic = true := Cond.static_spec hnamed hmethM hstat
  obtain ⟨kP, hkP, -⟩ := className_of_methodNamed hnamed
  have hinitP : kP.init = .initialized := Cond.initialized_spec (findClass_of_methodNamed hnamed) hkP hinit
  obtain ⟨vm₁, X₁, hstep₁⟩ := X.invokestatic hexec hown hlink hnamed hmethM hstatic hkP hinitP hy (g := g) hg (argsL := argsL) (rest := rest) (hlen _ hsigM) hstack hdg
  rcases hK m meth c ⟨T.setVm vm₁, locs, cells, slots⟩ { g with stack := rest } (.invokestatic index) mk argsL.toArray X₁ hg hsize hdg hW (X₁.named hnamed) (hpre vm₁ X₁.warmed) with ⟨v, B, X', hpost, hsteps⟩ | ⟨q, B, X', hpost, hsteps⟩
  · exact Or.inl ⟨v, vm₁, B, X₁.warmed, X', hpost, fun target h => hstep₁ _ fun acts => by rw [doInvoke_state]; exact hsteps.trans h⟩
  · exact Or.inr ⟨q, vm₁, B, X₁.warmed, X', hpost, hstep₁ _ fun acts => by rw [doInvoke_state]; exact hsteps⟩
end Calls
theorem vx_cls {s : State} {T : State} {vm₁ : Vm} {E : String} {k : ClassId} (hW : s.WarmedH vm₁) (h : (T.setVm vm₁).vm.findClass E = some k) : s.vm.findClass E = some k := by
  have h1 : vm₁.findClass E = some k := h
  rw [hW.alike.findClass] at h1
  exact h1
/-- the method's frame g, with q thrown over it -/
def vx_W (p : Program) (l : Launch) (e : Env) (R : Room) (s : State) (m : MethodId) (args : Array Value) (below : List Frame) (meth : Method) (c : Code) (H : Heap) (locs : List Loc) (cells slots : Nat) (Q : State → Prop) (g : JFrame) (q : Addr) : Prop :=
  ∀ T : State, T.heap = H → Stand p l e R s m args below meth c T locs cells slots → ∃ t, Steps p.tables e below ((T.setTop g).pushFrame (.throwing q)) t ∧ Q t
def vx_Run (p : Program) (l : Launch) (e : Env) (R : Room) (s : State) (m : MethodId) (args : Array Value) (below : List Frame) (meth : Method) (c : Code) (H : Heap) (locs : List Loc) (cells slots mc ms : Nat) (g : JFrame) (rest : List Value) (Qa : State → Outcome → State → Prop) (XC : String → State → State → Prop) (free : Addr → Prop) : Prop :=
  ∀ T : State, T.heap = H → Stand p l e R s m args below meth c T locs cells slots →
    (∃ (v : Option Value) (st₀ t T' : State) (L : List Loc), st₀.heap = H ∧ Stand p l e R s m args below meth c T' (locs ++ L) (cells + mc) (slots + ms) ∧ (∀ q ∈ L, free q.base) ∧ T'.heap = t.heap ∧ T'.vm = t.vm ∧ Qa st₀ (.returned v) t ∧
      Goes p e below T g T' { g with pc := g.pc + 3, stack := v.toList ++ rest }) ∨
    (∃ (q : Addr) (st₀ t T' : State) (L : List Loc) (E : String) (ce : Cell), st₀.heap = H ∧ Stand p l e R s m args below meth c T' (locs ++ L) (cells + mc) (slots + ms) ∧ (∀ z ∈ L, free z.base) ∧ T'.heap = t.heap ∧ T'.vm = t.vm ∧ XC E st₀ t ∧ t.heap[q]? = some ce ∧ ce.vm = .none ∧ s.vm.findClass E = some ce.cls ∧
      Steps p.tables e below (T.setTop g) ((T'.setTop { g with stack := rest }).pushFrame (.throwing q)))
def vx_X {S : Type} (px : S → Prop) (B : String → S → State → Prop) (A : Nat → Prop) : String → State → State → Prop := fun E st t => ∃ u : S, px u ∧ B E u t ∧ va_F A st t
section Runs
variable {p : Program} {l : Launch} {e : Env} {R : Room} {s : State} {m : MethodId} {args : Array Value} {below : List Frame} {meth : Method} {c : Code} {H : Heap} {locs : List Loc} {cells slots : Nat}
variable {y : MethodName} {bytes cc : ByteArray} {maxL nL mc ms n index : Nat} {ret : Option FieldType} {ws : List Cond} {rm : Room} {Pc : Array Value → State → Prop} {Qc : Array Value → State → Outcome → State → Prop} {XC : String → State → State → Prop} {free : Addr → Prop} {Ts : List Cond} {own C : String} {b : Addr} {As rest : List Value} {g : JFrame}
theorem vx_callBack (cb : CallB R s args own index y bytes maxL ret ws rm mc ms n) (hM : vx_Met l y ws rm Pc Qc XC mc ms free) (hbl : FrameBlind Pc) : vx_Back l R p e below s args y 3 8 (PreOf R mc ms Pc) (PostOf Qc mc ms free) (vx_Post XC mc ms free) := by
  obtain ⟨hrc, hrs, hfr, hlo, hws, hcw, -, hini, -⟩ := cb
  exact vx_back (bytes := bytes) (maxL := maxL) (ret := ret) hM hbl hrc hrs hfr hlo hws hcw (fun a' U hW => word_at hW (Or.inl (by first | rfl | simp [Cond.onTables, Cond.keeps, Cond.steady])) hini)
theorem vx_runV (S : CallFix p m c cc nL s args Ts own) (hM : vx_Met l y ws rm Pc Qc XC mc ms free) (cw : CallW R s args own C index y bytes maxL ret ws rm mc ms n) (hp : PreV s H C b Pc As)
    (hg : g.method = m) (hn : As.length = n) (hsize : g.locals.size = nL) (hstack : g.stack = As.reverse ++ .ref b :: rest) (hW : 2 * g.monitorRoom + (rest.map fun v => v.category).sum ≤ 8) (hdg : decode cc g.pc = .ok (.invokevirtual index, 3)) (hf : cells + mc ≤ R.cells ∧ slots + ms ≤ R.slots) :
    vx_Run p l e R s m args below meth c H locs cells slots mc ms g rest (Qc (Value.ref b :: As).toArray) XC free := by
  have hK : vx_Back l R p e below s args y 3 8 (PreOf R mc ms Pc) (PostOf Qc mc ms free) (vx_Post XC mc ms free) := vx_callBack cw.1 hM hp.1
  obtain ⟨⟨-, -, -, -, -, -, hcode, -, hy, hlen, hl⟩, hin, hse⟩ := cw
  obtain ⟨hx, hb, hml, ho, -⟩ := S
  obtain ⟨-, ⟨cellB, hcB, hoB, hclB⟩, hPc⟩ := hp
  intro T hT X
  rcases vx_callV X hx (C := C) (bytes := bytes) (maxL := maxL) (ret := ret) ho hl hin hse hcode hy hK (by rw [hT]; exact hcB) hoB hclB hg (hsize.trans hml.symm) (argsL := As) (rest := rest) (fun sig h => hn.trans (hlen sig h)) hstack hW (by rw [hb]; exact hdg)
    (fun vm₁ hW₁ => ⟨hf.1, hf.2, hPc (T.setVm vm₁) hT hW₁⟩) with ⟨v, vm₁, ⟨U', l2, c2, s2⟩, hW₁, X', ⟨g', mk, t, L, e1, e2, hq, h1, hL, h2, h3⟩, st⟩ | ⟨q, vm₁, ⟨U', l2, c2, s2⟩, hW₁, X', ⟨g', mk, t, L, E, ce, e1, e2, hq, hce, hcv, hcl, h1, hL, h2, h3⟩, st⟩
  · dsimp only [Pt.U, Pt.locs, Pt.cells, Pt.slots] at X' e1 e2 h1 h2 h3 st
    subst h1; subst h2; subst h3
    exact Or.inl ⟨v, (T.setVm vm₁).calling g' mk (Value.ref b :: As).toArray, t, U', L, hT, X', hL, e1, e2, hq, st⟩
  · dsimp only [Pt.U, Pt.locs, Pt.cells, Pt.slots] at X' e1 e2 h1 h2 h3 st hcl
    subst h1; subst h2; subst h3
    exact Or.inr ⟨q, (T.setVm vm₁).calling g' mk (Value.ref b :: As).toArray, t, U', L, E, ce, hT, X', hL, e1, e2, hq, hce, hcv, vx_cls hW₁ hcl, st⟩
theorem vx_runS (S : CallFix p m c cc nL s args Ts own) (hM : vx_Met l y ws rm Pc Qc XC mc ms free) (cw : CallB R s args own index y bytes maxL ret ws rm mc ms n ∧ (Cond.static y).before args s = true) (hp : PreS s H Pc As)
    (hg : g.method = m) (hn : As.length = n) (hsize : g.locals.size = nL) (hstack : g.stack = As.reverse ++ rest) (hW : 2 * g.monitorRoom + (rest.map fun v => v.category).sum ≤ 8) (hdg : decode cc g.pc = .ok (.invokestatic index, 3)) (hf : cells + mc ≤ R.cells ∧ slots + ms ≤ R.slots) :
    vx_Run p l e R s m args below meth c H locs cells slots mc ms g rest (Qc As.toArray) XC free := by
  have hK : vx_Back l R p e below s args y 3 8 (PreOf R mc ms Pc) (PostOf Qc mc ms free) (vx_Post XC mc ms free) := vx_callBack cw.1 hM hp.1
  obtain ⟨⟨-, -, -, -, -, -, hcode, hini, hy, hlen, hl⟩, hstt⟩ := cw
  obtain ⟨hx, hb, hml, ho, -⟩ := S
  intro T hT X
  rcases vx_callS X hx (bytes := bytes) (maxL := maxL) (ret := ret) ho hl hstt hini hcode hy hK hg (hsize.trans hml.symm) (argsL := As) (rest := rest) (fun sig h => hn.trans (hlen sig h)) hstack hW (by rw [hb]; exact hdg)
    (fun vm₁ hW₁ => ⟨hf.1, hf.2, hp.2 (T.setVm vm₁) hT hW₁⟩) with ⟨v, vm₁, ⟨U', l2, c2, s2⟩, hW₁, X', ⟨g', mk, t, L, e1, e2, hq, h1, hL, h2, h3⟩, st⟩ | ⟨q, vm₁, ⟨U', l2, c2, s2⟩, hW₁, X', ⟨g', mk, t, L, E, ce, e1, e2, hq, hce, hcv, hcl, h1, hL, h2, h3⟩, st⟩
  · dsimp only [Pt.U, Pt.locs, Pt.cells, Pt.slots] at X' e1 e2 h1 h2 h3 st
    subst h1; subst h2; subst h3
    exact Or.inl ⟨v, (T.setVm vm₁).calling g' mk As.toArray, t, U', L, hT, X', hL, e1, e2, hq, st⟩
  · dsimp only [Pt.U, Pt.locs, Pt.cells, Pt.slots] at X' e1 e2 h1 h2 h3 st hcl
    subst h1; subst h2; subst h3
    exact Or.inr ⟨q, (T.setVm vm₁).calling g' mk As.toArray, t, U', L, E, ce, hT, X', hL, e1, e2, hq, hce, hcv, vx_cls hW₁ hcl, st⟩
end Runs
section Rows
variable {p : Program} {l : Launch} {e : Env} {R : Room} {s : State} {m : MethodId} {args : Array Value} {below : List Frame} {meth : Method} {c : Code} {H : Heap} {locs : List Loc} {cells slots : Nat} {Q : State → Prop}
variable {mc ms : Nat} {free : Addr → Prop} {A0 A1 : Nat → Prop} {H0 : Heap} {a : Array Value} {pc : Nat} {ls : Array Slot} {st0 rest : List Value}
theorem vx_keep {st₀ t T' : State} {L : List Loc} (h0 : st₀.heap = H) (e1 : T'.heap = t.heap) (hS : va_S A0 H0 H locs) (hA : ∀ q, q < H.size → A1 q → A0 q) (hf : ∀ q, free q → A0 q) (hL : ∀ q ∈ L, free q.base) (hF : va_F A1 st₀ t) :
    H.size ≤ T'.heap.size ∧ (∀ q : Nat, q < H.size → ¬ A1 q → T'.heap[q]? = H[q]?) ∧ va_S A0 H0 T'.heap (locs ++ L) := by
  obtain ⟨hz, hk⟩ := hF
  rw [h0] at hz hk
  exact ⟨by rw [e1]; exact hz, fun q h1 h2 => by rw [e1]; exact hk q h1 h2,
    ⟨Nat.le_trans hS.1 (by rw [e1]; exact hz), fun q h1 h2 => by rw [e1, hk q (Nat.lt_of_lt_of_le h1 hS.1) (fun z => h2 (hA q (Nat.lt_of_lt_of_le h1 hS.1) z))]; exact hS.2.1 q h1 h2, fun q hq => by
      rcases List.mem_append.mp hq with h | h
      · exact hS.2.2 q h
      · exact hf _ (hL q h)⟩⟩
theorem vx_calli {S SX : Type} {post : Int32 → S → Prop} {px : SX → Prop} {B : S → State → Prop} {BX : String → SX → State → Prop} {AX : Nat → Prop} (hr : vx_Run p l e R s m args below meth c H locs cells slots mc ms (F0 m pc ls st0) rest (va_Qi post B A1 a) (vx_X px BX AX) free) (hS : va_S A0 H0 H locs) (hA : ∀ q, q < H.size → A1 q → A0 q) (hf : ∀ q, free q → A0 q) (hAX : ∀ q, q < H.size → AX q → A0 q)
    (kx : ∀ (E : String) (ce : Cell) (q9 : Addr) (u : SX) (t : State) (H1 : Heap) (locs1 : List Loc), t.heap = H1 → s.vm.Alike t.vm → px u → BX E u t → H.size ≤ H1.size → (∀ q : Nat, q < H.size → ¬ AX q → H1[q]? = H[q]?) → va_S A0 H0 H1 locs1 → H1[q9]? = some ce → ce.vm = .none → s.vm.findClass E = some ce.cls → vx_W p l e R s m args below meth c H1 locs1 (cells + mc) (slots + ms) Q (F0 m pc ls rest) q9)
    (kk : ∀ (r : Int32) (u : S) (t : State) (H1 : Heap) (locs1 : List Loc), t.heap = H1 → s.vm.Alike t.vm → post r u → B u t → H.size ≤ H1.size → (∀ q : Nat, q < H.size → ¬ A1 q → H1[q]? = H[q]?) → va_S A0 H0 H1 locs1 → W p l e R s m args below meth c H1 locs1 (cells + mc) (slots + ms) Q (F0 m (pc + 3) ls (.int r :: rest))) : W p l e R s m args below meth c H locs cells slots Q (F0 m pc ls st0) := by
  intro T hT X
  rcases hr T hT X with ⟨v, st₀, t, T', L, h0, X', hL, e1, e2, ⟨⟨r, u, hv, hp, hb⟩, hF⟩, st⟩ | ⟨q, st₀, t, T', L, E, ce, h0, X', hL, e1, e2, ⟨u, hp, hb, hF⟩, hce, hcv, hcl, st⟩
  · cases hv
    obtain ⟨k1, k2, k3⟩ := vx_keep h0 e1 hS hA hf hL hF
    obtain ⟨t2, a1, b1⟩ := kk r u t T'.heap (locs ++ L) e1.symm (by rw [← e2]; exact X'.warmed.alike) hp hb k1 k2 k3 T' rfl X'
    exact ⟨t2, st t2 a1, b1⟩
  · obtain ⟨k1, k2, k3⟩ := vx_keep h0 e1 hS hAX hf hL hF
    obtain ⟨t2, a1, b1⟩ := kx E ce q u t T'.heap (locs ++ L) e1.symm (by rw [← e2]; exact X'.warmed.alike) hp hb k1 k2 k3 (by rw [e1]; exact hce) hcv hcl T' rfl X'
    exact ⟨t2, st.trans a1, b1⟩
theorem vx_calll {S SX : Type} {post : Int64 → S → Prop} {px : SX → Prop} {B : S → State → Prop} {BX : String → SX → State → Prop} {AX : Nat → Prop} (hr : vx_Run p l e R s m args below meth c H locs cells slots mc ms (F0 m pc ls st0) rest (va_Ql post B A1 a) (vx_X px BX AX) free) (hS : va_S A0 H0 H locs) (hA : ∀ q, q < H.size → A1 q → A0 q) (hf : ∀ q, free q → A0 q) (hAX : ∀ q, q < H.size → AX q → A0 q)
    (kx : ∀ (E : String) (ce : Cell) (q9 : Addr) (u : SX) (t : State) (H1 : Heap) (locs1 : List Loc), t.heap = H1 → s.vm.Alike t.vm → px u → BX E u t → H.size ≤ H1.size → (∀ q : Nat, q < H.size → ¬ AX q → H1[q]? = H[q]?) → va_S A0 H0 H1 locs1 → H1[q9]? = some ce → ce.vm = .none → s.vm.findClass E = some ce.cls → vx_W p l e R s m args below meth c H1 locs1 (cells + mc) (slots + ms) Q (F0 m pc ls rest) q9)
    (kk : ∀ (r : Int64) (u : S) (t : State) (H1 : Heap) (locs1 : List Loc), t.heap = H1 → s.vm.Alike t.vm → post r u → B u t → H.size ≤ H1.size → (∀ q : Nat, q < H.size → ¬ A1 q → H1[q]? = H[q]?) → va_S A0 H0 H1 locs1 → W p l e R s m args below meth c H1 locs1 (cells + mc) (slots + ms) Q (F0 m (pc + 3) ls (.long r :: rest))) : W p l e R s m args below meth c H locs cells slots Q (F0 m pc ls st0) := by
  intro T hT X
  rcases hr T hT X with ⟨v, st₀, t, T', L, h0, X', hL, e1, e2, ⟨⟨r, u, hv, hp, hb⟩, hF⟩, st⟩ | ⟨q, st₀, t, T', L, E, ce, h0, X', hL, e1, e2, ⟨u, hp, hb, hF⟩, hce, hcv, hcl, st⟩
  · cases hv
    obtain ⟨k1, k2, k3⟩ := vx_keep h0 e1 hS hA hf hL hF
    obtain ⟨t2, a1, b1⟩ := kk r u t T'.heap (locs ++ L) e1.symm (by rw [← e2]; exact X'.warmed.alike) hp hb k1 k2 k3 T' rfl X'
    exact ⟨t2, st t2 a1, b1⟩
  · obtain ⟨k1, k2, k3⟩ := vx_keep h0 e1 hS hAX hf hL hF
    obtain ⟨t2, a1, b1⟩ := kx E ce q u t T'.heap (locs ++ L) e1.symm (by rw [← e2]; exact X'.warmed.alike) hp hb k1 k2 k3 (by rw [e1]; exact hce) hcv hcl T' rfl X'
    exact ⟨t2, st.trans a1, b1⟩
theorem vx_callf {S SX : Type} {post : UInt32 → S → Prop} {px : SX → Prop} {B : S → State → Prop} {BX : String → SX → State → Prop} {AX : Nat → Prop} (hr : vx_Run p l e R s m args below meth c H locs cells slots mc ms (F0 m pc ls st0) rest (va_Qf post B A1 a) (vx_X px BX AX) free) (hS : va_S A0 H0 H locs) (hA : ∀ q, q < H.size → A1 q → A0 q) (hf : ∀ q, free q → A0 q) (hAX : ∀ q, q < H.size → AX q → A0 q)
    (kx : ∀ (E : String) (ce : Cell) (q9 : Addr) (u : SX) (t : State) (H1 : Heap) (locs1 : List Loc), t.heap = H1 → s.vm.Alike t.vm → px u → BX E u t → H.size ≤ H1.size → (∀ q : Nat, q < H.size → ¬ AX q → H1[q]? = H[q]?) → va_S A0 H0 H1 locs1 → H1[q9]? = some ce → ce.vm = .none → s.vm.findClass E = some ce.cls → vx_W p l e R s m args below meth c H1 locs1 (cells + mc) (slots + ms) Q (F0 m pc ls rest) q9)
    (kk : ∀ (r : UInt32) (u : S) (t : State) (H1 : Heap) (locs1 : List Loc), t.heap = H1 → s.vm.Alike t.vm → post r u → B u t → H.size ≤ H1.size → (∀ q : Nat, q < H.size → ¬ A1 q → H1[q]? = H[q]?) → va_S A0 H0 H1 locs1 → W p l e R s m args below meth c H1 locs1 (cells + mc) (slots + ms) Q (F0 m (pc + 3) ls (.float r :: rest))) : W p l e R s m args below meth c H locs cells slots Q (F0 m pc ls st0) := by
  intro T hT X
  rcases hr T hT X with ⟨v, st₀, t, T', L, h0, X', hL, e1, e2, ⟨⟨r, u, hv, hp, hb⟩, hF⟩, st⟩ | ⟨q, st₀, t, T', L, E, ce, h0, X', hL, e1, e2, ⟨u, hp, hb, hF⟩, hce, hcv, hcl, st⟩
  · cases hv
    obtain ⟨k1, k2, k3⟩ := vx_keep h0 e1 hS hA hf hL hF
    obtain ⟨t2, a1, b1⟩ := kk r u t T'.heap (locs ++ L) e1.symm (by rw [← e2]; exact X'.warmed.alike) hp hb k1 k2 k3 T' rfl X'
    exact ⟨t2, st t2 a1, b1⟩
  · obtain ⟨k1, k2, k3⟩ := vx_keep h0 e1 hS hAX hf hL hF
    obtain ⟨t2, a1, b1⟩ := kx E ce q u t T'.heap (locs ++ L) e1.symm (by rw [← e2]; exact X'.warmed.alike) hp hb k1 k2 k3 (by rw [e1]; exact hce) hcv hcl T' rfl X'
    exact ⟨t2, st.trans a1, b1⟩
theorem vx_calld {S SX : Type} {post : UInt64 → S → Prop} {px : SX → Prop} {B : S → State → Prop} {BX : String → SX → State → Prop} {AX : Nat → Prop} (hr : vx_Run p l e R s m args below meth c H locs cells slots mc ms (F0 m pc ls st0) rest (va_Qd post B A1 a) (vx_X px BX AX) free) (hS : va_S A0 H0 H locs) (hA : ∀ q, q < H.size → A1 q → A0 q) (hf : ∀ q, free q → A0 q) (hAX : ∀ q, q < H.size → AX q → A0 q)
    (kx : ∀ (E : String) (ce : Cell) (q9 : Addr) (u : SX) (t : State) (H1 : Heap) (locs1 : List Loc), t.heap = H1 → s.vm.Alike t.vm → px u → BX E u t → H.size ≤ H1.size → (∀ q : Nat, q < H.size → ¬ AX q → H1[q]? = H[q]?) → va_S A0 H0 H1 locs1 → H1[q9]? = some ce → ce.vm = .none → s.vm.findClass E = some ce.cls → vx_W p l e R s m args below meth c H1 locs1 (cells + mc) (slots + ms) Q (F0 m pc ls rest) q9)
    (kk : ∀ (r : UInt64) (u : S) (t : State) (H1 : Heap) (locs1 : List Loc), t.heap = H1 → s.vm.Alike t.vm → post r u → B u t → H.size ≤ H1.size → (∀ q : Nat, q < H.size → ¬ A1 q → H1[q]? = H[q]?) → va_S A0 H0 H1 locs1 → W p l e R s m args below meth c H1 locs1 (cells + mc) (slots + ms) Q (F0 m (pc + 3) ls (.double r :: rest))) : W p l e R s m args below meth c H locs cells slots Q (F0 m pc ls st0) := by
  intro T hT X
  rcases hr T hT X with ⟨v, st₀, t, T', L, h0, X', hL, e1, e2, ⟨⟨r, u, hv, hp, hb⟩, hF⟩, st⟩ | ⟨q, st₀, t, T', L, E, ce, h0, X', hL, e1, e2, ⟨u, hp, hb, hF⟩, hce, hcv, hcl, st⟩
  · cases hv
    obtain ⟨k1, k2, k3⟩ := vx_keep h0 e1 hS hA hf hL hF
    obtain ⟨t2, a1, b1⟩ := kk r u t T'.heap (locs ++ L) e1.symm (by rw [← e2]; exact X'.warmed.alike) hp hb k1 k2 k3 T' rfl X'
    exact ⟨t2, st t2 a1, b1⟩
  · obtain ⟨k1, k2, k3⟩ := vx_keep h0 e1 hS hAX hf hL hF
    obtain ⟨t2, a1, b1⟩ := kx E ce q u t T'.heap (locs ++ L) e1.symm (by rw [← e2]; exact X'.warmed.alike) hp hb k1 k2 k3 (by rw [e1]; exact hce) hcv hcl T' rfl X'
    exact ⟨t2, st.trans a1, b1⟩
theorem vx_callv {S SX : Type} {post : S → Prop} {px : SX → Prop} {B : S → State → Prop} {BX : String → SX → State → Prop} {AX : Nat → Prop} (hr : vx_Run p l e R s m args below meth c H locs cells slots mc ms (F0 m pc ls st0) rest (va_Qv post B A1 a) (vx_X px BX AX) free) (hS : va_S A0 H0 H locs) (hA : ∀ q, q < H.size → A1 q → A0 q) (hf : ∀ q, free q → A0 q) (hAX : ∀ q, q < H.size → AX q → A0 q)
    (kx : ∀ (E : String) (ce : Cell) (q9 : Addr) (u : SX) (t : State) (H1 : Heap) (locs1 : List Loc), t.heap = H1 → s.vm.Alike t.vm → px u → BX E u t → H.size ≤ H1.size → (∀ q : Nat, q < H.size → ¬ AX q → H1[q]? = H[q]?) → va_S A0 H0 H1 locs1 → H1[q9]? = some ce → ce.vm = .none → s.vm.findClass E = some ce.cls → vx_W p l e R s m args below meth c H1 locs1 (cells + mc) (slots + ms) Q (F0 m pc ls rest) q9)
    (kk : ∀ (u : S) (t : State) (H1 : Heap) (locs1 : List Loc), t.heap = H1 → s.vm.Alike t.vm → post u → B u t → H.size ≤ H1.size → (∀ q : Nat, q < H.size → ¬ A1 q → H1[q]? = H[q]?) → va_S A0 H0 H1 locs1 → W p l e R s m args below meth c H1 locs1 (cells + mc) (slots + ms) Q (F0 m (pc + 3) ls (rest))) : W p l e R s m args below meth c H locs cells slots Q (F0 m pc ls st0) := by
  intro T hT X
  rcases hr T hT X with ⟨v, st₀, t, T', L, h0, X', hL, e1, e2, ⟨⟨u, hv, hp, hb⟩, hF⟩, st⟩ | ⟨q, st₀, t, T', L, E, ce, h0, X', hL, e1, e2, ⟨u, hp, hb, hF⟩, hce, hcv, hcl, st⟩
  · cases hv
    obtain ⟨k1, k2, k3⟩ := vx_keep h0 e1 hS hA hf hL hF
    obtain ⟨t2, a1, b1⟩ := kk u t T'.heap (locs ++ L) e1.symm (by rw [← e2]; exact X'.warmed.alike) hp hb k1 k2 k3 T' rfl X'
    exact ⟨t2, st t2 a1, b1⟩
  · obtain ⟨k1, k2, k3⟩ := vx_keep h0 e1 hS hAX hf hL hF
    obtain ⟨t2, a1, b1⟩ := kx E ce q u t T'.heap (locs ++ L) e1.symm (by rw [← e2]; exact X'.warmed.alike) hp hb k1 k2 k3 (by rw [e1]; exact hce) hcv hcl T' rfl X'
    exact ⟨t2, st.trans a1, b1⟩
/-- caught by the row x of this method's table; the rows ahead don't take it -/
theorem vx_catch {own name : String} {E : String} {ce : Cell} {q : Addr} (hown : s.vm.findClass own = some m.cls) (pre : List ExceptionTableEntry) (x : ExceptionTableEntry) (suf : List ExceptionTableEntry) (hsplit : c.exceptionTable.toList = pre ++ x :: suf)
    (hpass : ∀ z ∈ pre, covers z pc = false ∨ (z.catchType ≠ 0 ∧ ∃ nm : String, (Cond.classLink own z.catchType nm).before args s = true ∧ va_Nc E nm s)) (hx : covers x pc = true) (h0 : x.catchType ≠ 0)
    (hlink : (Cond.classLink own x.catchType name).before args s = true) (hcast : (Cond.castable E name).before args s = true) (hcell : H[q]? = some ce) (hv : ce.vm = .none) (hcl : s.vm.findClass E = some ce.cls)
    (kk : W p l e R s m args below meth c H locs cells slots Q (F0 m x.handlerPc ls [.ref q])) : vx_W p l e R s m args below meth c H locs cells slots Q (F0 m pc ls rest) q := by
  intro T hT X
  have hpl : e.platform.magicAccessors = ({} : Platform).magicAccessors := by rw [X.admits.platform]
  obtain ⟨c3, c4, hc3, hc4, hasg⟩ := Cond.castable_spec hcast
  cases Option.some.inj (hc3.symm.trans hcl)
  obtain ⟨c5, hc5, hcl5⟩ := Cond.classLink_spec hown hlink e.platform hpl
  cases Option.some.inj (hc4.symm.trans hc5)
  obtain ⟨vm', X', st⟩ := X.thenCaughtThrough q (g := F0 m pc ls rest) rfl (Steps.refl _) (by rw [hT]; exact hcell) (by rw [hv]; rfl) (by obtain ⟨k9, h9, -⟩ := Vm.findClass_spec hcl; exact ⟨k9, h9⟩) pre x suf hsplit
    (fun z hz => by
      rcases hpass z hz with h | ⟨hz0, nm, hl1, hn1⟩
      · exact Or.inl h
      · obtain ⟨c6, hc6, hcl6⟩ := Cond.classLink_spec hown hl1 e.platform hpl
        obtain ⟨a8, b8, h1, h2, h3⟩ := hn1
        cases Option.some.inj (h1.symm.trans hcl)
        cases Option.some.inj (h2.symm.trans hc6)
        exact Or.inr ⟨hz0, _, hcl6, h3⟩) hx (Or.inr ⟨h0, c4, hcl5, hasg⟩)
  obtain ⟨t, a1, b1⟩ := kk (T.setVm vm') hT X'
  exact ⟨t, st.trans a1, b1⟩
end Rows
section Ends
variable {p : Program} {l : Launch} {e : Env} {R : Room} {s : State} {m : MethodId} {args : Array Value} {below : List Frame} {meth : Method} {c : Code} {H : Heap} {locs : List Loc} {cells slots : Nat} {Q : State → Prop}
variable {mc ms : Nat} {free : Addr → Prop} {A0 A1 : Nat → Prop} {H0 : Heap} {a : Array Value} {ls : Array Slot} {st0 rest : List Value}
variable {Qc : Array Value → State → Outcome → State → Prop} {XC : String → State → State → Prop}
/-- what a body that may throw owes at its end -/
def vx_MQ (below : List Frame) (Qc : Array Value → State → Outcome → State → Prop) (XC : String → State → State → Prop) (a : Array Value) (s : State) (mc ms : Nat) (free : Addr → Prop) : State → Prop := fun t =>
  ∃ o, t.status = .running ∧ Ended t below o ∧ vx_Q Qc XC mc ms free a s o t
theorem vx_ret {g : JFrame} {mc ms : Nat} (k : W p l e R s m args below meth c H locs cells slots (MQ below Qc args s mc ms free) g) : W p l e R s m args below meth c H locs cells slots (vx_MQ below Qc XC args s mc ms free) g := by
  intro T hT X
  obtain ⟨t, a1, o, b1, b2, b3, b4⟩ := k T hT X
  exact ⟨t, a1, o, b1, b2, Or.inl ⟨b3, b4⟩⟩
/-- not caught here: it goes on to the caller -/
theorem vx_widen {g : JFrame} {q : Addr} {k n : Nat} (h1 : cells ≤ k) (h2 : slots ≤ n) (kk : vx_W p l e R s m args below meth c H locs k n Q g q) : vx_W p l e R s m args below meth c H locs cells slots Q g q := fun T hT X => kk T hT (stand_widen X h1 h2)
theorem vx_out {pc : Nat} {E : String} {ce : Cell} {q : Addr} {mc ms : Nat} (hout : ∀ x ∈ c.exceptionTable.toList, covers x pc = false) (hlocks : meth.locks = false) (hcell : H[q]? = some ce) (hv : ce.vm = .none) (hcl : s.vm.findClass E = some ce.cls)
    (hx : ∀ t : State, t.heap = H → s.vm.Alike t.vm → XC E s t) (hf : ∀ z ∈ locs, free z.base) (hc : cells ≤ mc) (hs : slots ≤ ms) :
    vx_W p l e R s m args below meth c H locs cells slots (vx_MQ below Qc XC args s mc ms free) (F0 m pc ls rest) q := by
  intro T hT X
  obtain ⟨st1, hrun, hend, hW, hsm⟩ := X.leaveThrown q (g := F0 m pc ls rest) rfl rfl rfl hout hlocks
  have hcell9 : (T.setFrames (.throwing q :: below)).heap[q]? = some ce := by
    show T.heap[q]? = some ce
    rw [hT]; exact hcell
  exact ⟨_, st1, .threw q, hrun, hend, Or.inr ⟨q, rfl, E, ce, locs, hx _ hT hW.alike, hcell9, hv, hcl, hW, hsm.mono hc hs, hf⟩⟩
theorem vx_frame {U : State} {k n : Nat} (h : s.sameButNew ({ U with vm := s.vm } : State) locs k n) : s.heap.size ≤ U.heap.size ∧ ∀ q : Nat, q < s.heap.size → (∀ z ∈ locs, z.base ≠ q) → U.heap[q]? = s.heap[q]? := by
  obtain ⟨-, h2, -, -, -, h6⟩ := h
  refine ⟨h2, fun q hq hz => ?_⟩
  obtain ⟨c9, e1, e2, e3, e4⟩ := h6 q _ (Array.getElem?_eq_getElem hq)
  have hs : c9.slots = (s.heap[q]).slots := Array.ext_getElem? fun i => e4 i fun hm => hz _ hm rfl
  have h9 : c9 = s.heap[q] := by
    rw [hs] at e2
    exact e2
  have e5 : U.heap[q]? = some c9 := e1
  rw [e5, h9, Array.getElem?_eq_getElem hq]
/-- the words of a throw but the four that speak of the heap -/
def vx_no (w : Cond) : Bool := decide (w ≠ .isRef (.static Bundle.tN "UNASSIGNED_STACK" Bundle.steD)) && decide (w ≠ .isRef (.static Bundle.tN "SUPPRESSED_SENTINEL" Bundle.listD)) && decide (w ≠ .laysStatic Bundle.tN "UNASSIGNED_STACK" Bundle.steD) && decide (w ≠ .laysStatic Bundle.tN "SUPPRESSED_SENTINEL" Bundle.listD)
def vx_at0 (own : String) (ic : Nat) (X : String) (names : List String) : List Cond := (Bundle.ownAtoms0 own ic X names).filter vx_no
def vx_atS (own : String) (ic : Nat) (X : String) (names : List String) : List Cond := (Bundle.ownAtoms own ic X names).filter vx_no
/-- a word that the tables alone decide, or a good one -/
def vx_ot (w : Cond) : Bool := w.onTables || goodWord w
theorem vx_ot_at {args a' : Array Value} {s U : State} {w : Cond} (hW : s.WarmedH U.vm) (hvm : s.vm = U.vm) (hg : vx_ot w = true) (h : w.before args s = true) : w.before a' U = true := by
  simp only [vx_ot, Bool.or_eq_true] at hg
  rcases hg with hg | hg
  · exact va_tabs hg hvm h
  · exact word_at hW (good_of_word hg) h
/-- a list's words: the good ones out of the method's own list, the others by premises of their own -/
theorem vx_hat {args : Array Value} {s : State} {L B : List Cond} (h1 : ∀ w ∈ L.filter goodWord, w.before args s = true) (h2 : ∀ w ∈ L.filter (fun w => !goodWord w), w ∈ B) (h3 : ∀ w ∈ B, w.before args s = true) : ∀ w ∈ L, w.before args s = true := by
  intro w hw
  by_cases g : goodWord w = true
  · exact h1 w (List.mem_filter.mpr ⟨hw, g⟩)
  · refine h3 w (h2 w (List.mem_filter.mpr ⟨hw, ?_⟩))
    show (!goodWord w) = true
    cases hgw : goodWord w
    · rfl
    · exact absurd hgw g
theorem vx_c {args : Array Value} {s : State} {w : Cond} {B : List Cond} (h : w.before args s = true) (t : ∀ w ∈ B, w.before args s = true) : ∀ w' ∈ w :: B, w'.before args s = true := fun w' h' => (List.mem_cons.mp h').elim (fun e => by rw [e]; exact h) (t w')
theorem vx_n {args : Array Value} {s : State} : ∀ w ∈ ([] : List Cond), w.before args s = true := fun _ h => nomatch h
theorem vx_own {args : Array Value} {s : State} {L : List Cond} (h1 : ∀ w ∈ L.filter vx_no, w.before args s = true)
    (hU : (Cond.isRef (.static Bundle.tN "UNASSIGNED_STACK" Bundle.steD)).before args s = true) (hN : (Cond.isRef (.static Bundle.tN "SUPPRESSED_SENTINEL" Bundle.listD)).before args s = true)
    (lU : (Cond.laysStatic Bundle.tN "UNASSIGNED_STACK" Bundle.steD).before args s = true) (lN : (Cond.laysStatic Bundle.tN "SUPPRESSED_SENTINEL" Bundle.listD).before args s = true) : ∀ w ∈ L, w.before args s = true := by
  intro w hw
  by_cases e1 : w = .isRef (.static Bundle.tN "UNASSIGNED_STACK" Bundle.steD)
  · rw [e1]; exact hU
  · by_cases e2 : w = .isRef (.static Bundle.tN "SUPPRESSED_SENTINEL" Bundle.listD)
    · rw [e2]; exact hN
    · by_cases e3 : w = .laysStatic Bundle.tN "UNASSIGNED_STACK" Bundle.steD
      · rw [e3]; exact lU
      · by_cases e4 : w = .laysStatic Bundle.tN "SUPPRESSED_SENTINEL" Bundle.listD
        · rw [e4]; exact lN
        · exact h1 w (List.mem_filter.mpr ⟨hw, by unfold vx_no; rw [decide_eq_true e1, decide_eq_true e2, decide_eq_true e3, decide_eq_true e4]; rfl⟩)
/-- where a static field lies, its class's statics cell in H -/
def vx_L (C n d : String) (A : Nat → Prop) (U : State) (H : Heap) : Prop := ∃ (c : ClassId) (k : Class) (i : Nat) (f : Field) (a : Nat) (cell : Cell), U.vm.findClass C = some c ∧ U.fieldFound? C n d = some (c, k, i, f) ∧ f.isStatic = true ∧ k.statics = some a ∧ H[a]? = some cell ∧ cell.vm.isStatics = true ∧ cell.cls = c ∧ f.slot < cell.slots.size ∧ k.staticTypes[f.slot]? = some f.type ∧ ¬ A a
theorem vx_L.moved {C n d : String} {A : Nat → Prop} {u U : State} {H : Heap} (hvm : u.vm.Alike U.vm) (h : vx_L C n d A u H) : vx_L C n d A U H := by
  obtain ⟨c, k, i, f, a, cell, h1, h2, h3, h4, h5, h6, h7, h8, h9, h10⟩ := h
  obtain ⟨k', hi', he⟩ := State.fieldFound?_setVm hvm h2
  exact ⟨c, k', i, f, a, cell, by rw [hvm.findClass]; exact h1, hi', h3, by rw [he]; exact h4, h5, h6, h7, h8, by rw [he]; exact h9, h10⟩
theorem vx_L.kept {C n d : String} {A : Nat → Prop} {U : State} {H H1 : Heap} (h : vx_L C n d A U H) (hq : ∀ a : Nat, a < H.size → ¬ A a → H1[a]? = H[a]?) : vx_L C n d A U H1 := by
  obtain ⟨c, k, i, f, a, cell, h1, h2, h3, h4, h5, h6, h7, h8, h9, h10⟩ := h
  exact ⟨c, k, i, f, a, cell, h1, h2, h3, h4, by rw [hq a (Array.getElem?_eq_some_iff.mp h5).1 h10]; exact h5, h6, h7, h8, h9, h10⟩
theorem vx_L.narrow {C n d : String} {A B : Nat → Prop} {U : State} {H : Heap} (h : vx_L C n d A U H) (hAB : ∀ q, B q → A q) : vx_L C n d B U H := by
  obtain ⟨c, k, i, f, a, cell, h1, h2, h3, h4, h5, h6, h7, h8, h9, h10⟩ := h
  exact ⟨c, k, i, f, a, cell, h1, h2, h3, h4, h5, h6, h7, h8, h9, fun z => h10 (hAB _ z)⟩
theorem vx_L.word {C n d : String} {A : Nat → Prop} {s : State} {args : Array Value} (h : vx_L C n d A s s.heap) : (Cond.laysStatic C n d).before args s = true := by
  obtain ⟨c, k, i, f, a, cell, h1, h2, h3, h4, h5, h6, h7, h8, h9, -⟩ := h
  show (Cond.laysStatic C n d).holds args s none s [] = true
  exact Cond.laysStatic_of h1 h2 h3 h4 h5 h6 h7 h8 h9
/-- .. and what it holds: null or some reference -/
def vx_Zq (C n d : String) (A : Nat → Prop) (U : State) (H : Heap) : Prop := va_Zq C n d A U H ∧ vx_L C n d A U H
theorem vx_Zq.moved {C n d : String} {A : Nat → Prop} {u U : State} {H : Heap} (hvm : u.vm.Alike U.vm) (h : vx_Zq C n d A u H) : vx_Zq C n d A U H := ⟨va_Zq.moved hvm h.1, vx_L.moved hvm h.2⟩
theorem vx_Zq.kept {C n d : String} {A : Nat → Prop} {U : State} {H H1 : Heap} (h : vx_Zq C n d A U H) (hq : ∀ a : Nat, a < H.size → ¬ A a → H1[a]? = H[a]?) : vx_Zq C n d A U H1 := ⟨va_Zq.kept h.1 hq, vx_L.kept h.2 hq⟩
theorem vx_Zq.narrow {C n d : String} {A B : Nat → Prop} {U : State} {H : Heap} (h : vx_Zq C n d A U H) (hAB : ∀ q, B q → A q) : vx_Zq C n d B U H := ⟨va_Zq.narrow h.1 hAB, vx_L.narrow h.2 hAB⟩
theorem vx_Zqof {args : Array Value} {s : State} {C n d : String} {A : Nat → Prop} (hl : (Cond.laysStatic C n d).before args s = true) (hini : (Cond.initialized C).before args s = true) (h : (Cond.isRef (.static C n d)).before args s = true) (hA : ∀ a : Nat, a < s.heap.size → ¬ A a) : vx_Zq C n d A s s.heap := by
  refine ⟨va_Zqof hl hini h hA, ?_⟩
  obtain ⟨c, k, i, f, a, cell, h1, h2, h3, h4, h5, h6, h7, h8, h9⟩ := Cond.laysStatic_spec hl
  exact ⟨c, k, i, f, a, cell, h1, h2, h3, h4, h5, h6, h7, h8, h9, hA a (Array.getElem?_eq_some_iff.mp h5).1⟩
theorem vx_isRef {C n d : String} {v : Value} {A : Nat → Prop} {s : State} {args : Array Value} (h : va_Z C n d v A s s.heap) (hv : v.isRef = true) : (Cond.isRef (.static C n d)).before args s = true := by
  obtain ⟨cf, kf, fi, f, a, cell, h1, h2, h3, h4, h5, h6, h7, -⟩ := h
  have he : (Term.static C n d).eval args s none [] s = some v := by
    simp [Term.eval, State.fieldNamed?, h1, h2, h4, h5, h6, h7]
  simp only [Cond.before, Cond.holds, Cond.value, he]
  cases v <;> simp_all [Value.isRef]
theorem vx_isRefq {C n d : String} {A : Nat → Prop} {s : State} {args : Array Value} (h : va_Zq C n d A s s.heap) : (Cond.isRef (.static C n d)).before args s = true := by
  rcases h with h | ⟨t, h⟩
  · exact vx_isRef h rfl
  · exact vx_isRef h rfl
/-- the same frame, seen from here: as if the method were called anew in this heap -/
theorem vx_rebase {T : State} (X : Stand p l e R s m args below meth c T locs cells slots) {R' : Room} (hf : R'.frames ≤ R.frames) (hl : R'.locals ≤ R.locals) (hc : cells + R'.cells ≤ R.cells) (hs : slots + R'.slots ≤ R.slots) :
    Stand p l e R' ((T.setVm s.vm).setFrames (.invoking m args :: below)) m args below meth c T [] 0 0 := by
  have htop : (T.setVm s.vm).topJava?.isSome := X.here.top
  have hF : ((T.setVm s.vm).setFrames (.invoking m args :: below)).frames = .invoking m args :: below := State.frames_setFrames _ (State.cur_lt_of_top htop)
  obtain ⟨g₀, hg0⟩ := Option.isSome_iff_exists.mp htop
  obtain ⟨r, hr⟩ := State.topJava?_eq_some.mp hg0
  have hl9 : e.platform.stackLimits (T.setVm s.vm).me = e.platform.stackLimits s.me := X.limits
  have hb9 : (T.setVm s.vm).me.stackBytes = s.me.stackBytes := X.bytes
  refine ⟨X.admits, X.cas, X.clock, hF, ?_, X.hears, X.method, X.code, X.here, X.tail, X.warmed, ?_, ?_, ?_⟩
  · have h := X.room
    have hU : ((T.setVm s.vm).setFrames (.invoking m args :: below)).localsInUse = s.localsInUse := by
      rw [State.localsInUse_invoking hF (meth := meth) (c := c) X.method X.code, State.localsInUse_invoking X.frames X.method X.code]
    simp only [State.hasRoom, Bool.and_eq_true, decide_eq_true_eq] at h ⊢
    obtain ⟨⟨⟨⟨h1, h2, h3, h4, h5, h6⟩, h7⟩, h8⟩, h9⟩ := h
    rw [X.frames, List.length_cons] at h2 h3
    have q1 := X.heapSize
    have q2 := X.used
    simp only [hF, hU, List.length_cons, State.stackLimits_setFrames, State.stackBytes_setFrames, hl9, hb9]
    refine ⟨⟨⟨⟨by omega, by omega, by omega, by omega, by omega, h6⟩, ?_⟩, ?_⟩, X.book⟩
    · show T.heap.size + R'.cells ≤ e.platform.maxCells
      omega
    · show T.slotsUsed + R'.slots ≤ e.platform.maxSlots
      omega
  · rw [State.stackLimits_setFrames]; rfl
  · rw [State.stackBytes_setFrames]; rfl
  · refine ⟨?_, Nat.le_refl _, Nat.le_refl _, ?_, ?_, fun a c9 h9 => ⟨c9, h9, rfl, rfl, fun _ _ => rfl⟩⟩
    · obtain ⟨t, ht, -⟩ := State.frames_cons hr
      show T.setVm s.vm = { ((T.setVm s.vm).setFrames (.invoking m args :: below)).setFrames (T.setVm s.vm).frames with heap := T.heap, slotsUsed := T.slotsUsed }
      rw [State.setFrames_setFrames, State.setFrames_self ht]
      rfl
    · show T.slotsUsed = T.slotsUsed + ((T.heap.toList.drop T.heap.size).map (·.slots.size)).sum
      rw [List.drop_eq_nil_of_le (Nat.le_of_eq Array.length_toList)]
      rfl
    · show ((T.heap.toList.drop T.heap.size).map (·.slots.size)).sum ≤ 0
      rw [List.drop_eq_nil_of_le (Nat.le_of_eq Array.length_toList)]
      exact Nat.le_refl _
/-- 'throw new E()': new; dup; invokespecial; athrow -/
theorem vx_throw0 {cc : ByteArray} {pc : Nat} (hexec : p.tables.exec = Jvm.exec) (hb : c.code = cc) (hl : l.stackTraces = false) {own cls : String} {names : List String} {ik ic mc ms : Nat} {A : Nat → Prop}
    (hown : s.vm.findClass own = some m.cls) (hcls : Bundle.fit cls = true) (hnames : ∀ n ∈ names, Bundle.fit n = true)
    (hk : (Cond.classLink own ik cls).before args s = true) (hini : (Cond.initialized cls).before args s = true) (hat : ∀ w ∈ vx_at0 own ic cls names, w.before args s = true)
    (hgood : ∀ w ∈ Cond.classLink own ik cls :: Cond.initialized cls :: vx_at0 own ic cls names, vx_ot w = true)
    (hU : vx_Zq Bundle.tN "UNASSIGNED_STACK" Bundle.steD A s s.heap) (hN : vx_Zq Bundle.tN "SUPPRESSED_SENTINEL" Bundle.listD A s s.heap) (hS : va_S A s.heap H locs) (hsize : ls.size = c.maxLocals)
    (d0 : decode cc pc = .ok (.new ik, 3)) (d3 : decode cc (pc + 3) = .ok (.dup, 1)) (d4 : decode cc (pc + 4) = .ok (.invokespecial ic, 3)) (d7 : decode cc (pc + 7) = .ok (.athrow, 1))
    (hout : ∀ x ∈ c.exceptionTable.toList, covers x (pc + 7) = false)
    (hRframes : names.length + 3 < R.frames) (hRlocals : (rest.map fun v => v.category).sum + (13 * (names.length + 1) + 42) ≤ R.locals) (hRcells : cells + 1 ≤ R.cells) (hRslots : slots + 6 ≤ R.slots) (hlocks : meth.locks = false)
    (hx : ∀ t : State, s.vm.Alike t.vm → H.size ≤ t.heap.size → (∀ q : Nat, q < H.size → t.heap[q]? = H[q]?) → XC cls s t)
    (hf : ∀ z ∈ locs, free z.base) (hc : cells + 1 ≤ mc) (hs : slots + 6 ≤ ms) :
    W p l e R s m args below meth c H locs cells slots (vx_MQ below Qc XC args s mc ms free) (F0 m pc ls rest) := by
  intro T hT X
  have htr : e.platform.stackTraces = false := (show e.platform.stackTraces = l.stackTraces by rw [X.admits.platform]).trans hl
  have Y := vx_rebase X (R' := { frames := R.frames, locals := R.locals, cells := 1, slots := 6 }) (Nat.le_refl _) (Nat.le_refl _) hRcells hRslots
  obtain ⟨s', hA⟩ : ∃ z, z = (T.setVm s.vm).setFrames (.invoking m args :: below) := ⟨_, rfl⟩
  rw [← hA] at Y
  have hvm : s'.vm = s.vm := by rw [hA]; rfl
  have hhp : s'.heap = H := by rw [hA]; exact hT
  have hW0 : s.WarmedH s'.vm := by rw [hvm]; exact State.WarmedH.refl s
  have hat' : ∀ w ∈ vx_at0 own ic cls names, w.before args s' = true := fun w hw => vx_ot_at hW0 hvm.symm (hgood w (List.mem_cons_of_mem _ (List.mem_cons_of_mem _ hw))) (hat w hw)
  have hk' : (Cond.classLink own ik cls).before args s' = true := vx_ot_at hW0 hvm.symm (hgood _ List.mem_cons_self) hk
  have hini' : (Cond.initialized cls).before args s' = true := vx_ot_at hW0 hvm.symm (hgood _ (List.mem_cons_of_mem _ List.mem_cons_self)) hini
  have hU' : vx_Zq Bundle.tN "UNASSIGNED_STACK" Bundle.steD A s' s'.heap := by rw [hhp]; exact vx_Zq.moved hW0.alike (hU.kept hS.2.1)
  have hN' : vx_Zq Bundle.tN "SUPPRESSED_SENTINEL" Bundle.listD A s' s'.heap := by rw [hhp]; exact vx_Zq.moved hW0.alike (hN.kept hS.2.1)
  have h : ∀ w ∈ Bundle.ownAtoms0 own ic cls names, w.before args s' = true := vx_own hat' (vx_isRefq hU'.1) (vx_isRefq hN'.1) hU'.2.word hN'.2.word
  have hown' : s'.vm.findClass own = some m.cls := by rw [hvm]; exact hown
  have hins : (Cond.instantiable cls 6).before args s' = true := h _ (by simp [Bundle.ownAtoms0])
  obtain ⟨vm₁, cX, kX, hfX, hkX, -, -, X₁, st1⟩ := Y.newCold hexec (own := own) (C := cls) (index := ik) (n := 6) hown' hk' hins hini'
    (g := F0 m pc ls rest) rfl (by rw [hb]; exact d0) (Nat.le_refl _) (Nat.le_refl _)
  generalize hT1 : (T.setVm vm₁).pushCell { cls := cX, slots := kX.instanceTypes.map defaultValue, vm := .none } = T1 at X₁ st1
  have hcat : (Value.ref T.heap.size).category = 1 := rfl
  have hcellA : T1.heap[T.heap.size]? = some (freshCell cX kX) := by rw [← hT1]; exact State.heap_pushCell_size _ _
  have d3' : decode c.code (pc + 3) = .ok (.dup, 1) := by rw [hb]; exact d3
  obtain ⟨U, hsteps, hrun, hend, hW, hsame, ce, hce, hO⟩ := X₁.ctorThrow0 hexec htr (own := own) (cls := cls) (names := names) (ic := ic) hown' hcls hnames h (fun x hx => nomatch hx) hfX hkX hcellA (by rw [hhp, hT]; exact Nat.le_refl _)
    (g := { method := m, pc := pc + 4, locals := ls, stack := .ref T.heap.size :: .ref T.heap.size :: rest, locked := none }) rfl hsize rfl rfl (rest := rest) rfl
    (by rw [hb]; exact d4) (by rw [hb]; exact d7) hout hRframes (by simp only [List.map_cons, List.sum_cons, hcat]; omega) hlocks
  obtain ⟨f1, f2⟩ := vx_frame hsame
  rw [hhp] at f1 f2
  have hWs : s.WarmedH U.vm := State.WarmedH.trans hW0 hW
  have hcl : s.vm.findClass cls = some ce.cls := by
    have h9 := hO.cls
    rw [hvm] at h9
    exact h9
  have hall : s.sameButNew ({ U with vm := s.vm } : State) locs mc ms := by
    subst hA
    obtain ⟨e1, e2⟩ := hsame
    rw [State.setFrames_setFrames] at e1
    have h2 : (T.setVm s.vm).sameButNew ({ U with vm := s.vm } : State) [] (0 + 1) (0 + 6) := ⟨e1, e2⟩
    have h3 := X.same.trans h2
    rw [List.append_nil] at h3
    exact h3.mono hc hs
  refine ⟨U, ?_, .threw T.heap.size, hrun, hend, Or.inr ⟨T.heap.size, rfl, cls, ce, locs, hx U hWs.alike f1 (fun q hq => f2 q hq (fun z hz => nomatch hz)), hce, hO.vm, hcl, hWs, hall, hf⟩⟩
  refine st1 _ ?_
  show Steps p.tables e below (T1.setTop { method := m, pc := pc + 3, locals := ls, stack := .ref T.heap.size :: rest, locked := none }) _
  jvm_step X₁.here [X₁.here.top, hexec, d3', Value.category]
  exact hsteps
/-- 'throw new E("text")': new; dup; ldc; invokespecial; athrow -/
theorem vx_throwS {cc : ByteArray} {pc : Nat} (hexec : p.tables.exec = Jvm.exec) (hb : c.code = cc) (hl : l.stackTraces = false) {own cls text : String} {names : List String} {ik is ic mc ms sa : Nat} {A : Nat → Prop}
    (hown : s.vm.findClass own = some m.cls) (hcls : Bundle.fit cls = true) (hnames : ∀ n ∈ names, Bundle.fit n = true)
    (hk : (Cond.classLink own ik cls).before args s = true) (hini : (Cond.initialized cls).before args s = true) (hstr : vk_R own is text sa s) (hat : ∀ w ∈ vx_atS own ic cls names, w.before args s = true)
    (hgood : ∀ w ∈ Cond.classLink own ik cls :: Cond.initialized cls :: vx_atS own ic cls names, vx_ot w = true)
    (hU : vx_Zq Bundle.tN "UNASSIGNED_STACK" Bundle.steD A s s.heap) (hN : vx_Zq Bundle.tN "SUPPRESSED_SENTINEL" Bundle.listD A s s.heap) (hS : va_S A s.heap H locs) (hsize : ls.size = c.maxLocals)
    (d0 : decode cc pc = .ok (.new ik, 3)) (d3 : decode cc (pc + 3) = .ok (.dup, 1)) (d4 : decode cc (pc + 4) = .ok (.ldc is, 2)) (d6 : decode cc (pc + 6) = .ok (.invokespecial ic, 3)) (d9 : decode cc (pc + 9) = .ok (.athrow, 1))
    (hout : ∀ x ∈ c.exceptionTable.toList, covers x (pc + 9) = false)
    (hRframes : names.length + 3 < R.frames) (hRlocals : (rest.map fun v => v.category).sum + (13 * (names.length + 1) + 43) ≤ R.locals) (hRcells : cells + 1 ≤ R.cells) (hRslots : slots + 6 ≤ R.slots) (hlocks : meth.locks = false)
    (hx : ∀ t : State, s.vm.Alike t.vm → H.size ≤ t.heap.size → (∀ q : Nat, q < H.size → t.heap[q]? = H[q]?) → XC cls s t)
    (hf : ∀ z ∈ locs, free z.base) (hc : cells + 1 ≤ mc) (hs : slots + 6 ≤ ms) :
    W p l e R s m args below meth c H locs cells slots (vx_MQ below Qc XC args s mc ms free) (F0 m pc ls rest) := by
  intro T hT X
  have htr : e.platform.stackTraces = false := (show e.platform.stackTraces = l.stackTraces by rw [X.admits.platform]).trans hl
  have Y := vx_rebase X (R' := { frames := R.frames, locals := R.locals, cells := 1, slots := 6 }) (Nat.le_refl _) (Nat.le_refl _) hRcells hRslots
  obtain ⟨s', hA⟩ : ∃ z, z = (T.setVm s.vm).setFrames (.invoking m args :: below) := ⟨_, rfl⟩
  rw [← hA] at Y
  have hvm : s'.vm = s.vm := by rw [hA]; rfl
  have hhp : s'.heap = H := by rw [hA]; exact hT
  have hW0 : s.WarmedH s'.vm := by rw [hvm]; exact State.WarmedH.refl s
  have hat' : ∀ w ∈ vx_atS own ic cls names, w.before args s' = true := fun w hw => vx_ot_at hW0 hvm.symm (hgood w (List.mem_cons_of_mem _ (List.mem_cons_of_mem _ hw))) (hat w hw)
  have hk' : (Cond.classLink own ik cls).before args s' = true := vx_ot_at hW0 hvm.symm (hgood _ List.mem_cons_self) hk
  have hini' : (Cond.initialized cls).before args s' = true := vx_ot_at hW0 hvm.symm (hgood _ (List.mem_cons_of_mem _ List.mem_cons_self)) hini
  have hU' : vx_Zq Bundle.tN "UNASSIGNED_STACK" Bundle.steD A s' s'.heap := by rw [hhp]; exact vx_Zq.moved hW0.alike (hU.kept hS.2.1)
  have hN' : vx_Zq Bundle.tN "SUPPRESSED_SENTINEL" Bundle.listD A s' s'.heap := by rw [hhp]; exact vx_Zq.moved hW0.alike (hN.kept hS.2.1)
  have h : ∀ w ∈ Bundle.ownAtoms own ic cls names, w.before args s' = true := vx_own hat' (vx_isRefq hU'.1) (vx_isRefq hN'.1) hU'.2.word hN'.2.word
  have hown' : s'.vm.findClass own = some m.cls := by rw [hvm]; exact hown
  have hins : (Cond.instantiable cls 6).before args s' = true := h _ (by simp [Bundle.ownAtoms])
  obtain ⟨vm₁, cX, kX, hfX, hkX, -, -, X₁, st1⟩ := Y.newCold hexec (own := own) (C := cls) (index := ik) (n := 6) hown' hk' hins hini'
    (g := F0 m pc ls rest) rfl (by rw [hb]; exact d0) (Nat.le_refl _) (Nat.le_refl _)
  generalize hT1 : (T.setVm vm₁).pushCell { cls := cX, slots := kX.instanceTypes.map defaultValue, vm := .none } = T1 at X₁ st1
  have hcat : (Value.ref T.heap.size).category = 1 := rfl
  have hcellA : T1.heap[T.heap.size]? = some (freshCell cX kX) := by rw [← hT1]; exact State.heap_pushCell_size _ _
  have d3' : decode c.code (pc + 3) = .ok (.dup, 1) := by rw [hb]; exact d3
  have d4' : decode c.code (pc + 4) = .ok (.ldc is, 2) := by rw [hb]; exact d4
  have hstr' : vk_R own is text sa s' := vk_R.warm hW0 hstr
  obtain ⟨U, hsteps, hrun, hend, hW, hsame, ce, hce, hO⟩ := X₁.ctorThrowS hexec htr (own := own) (cls := cls) (names := names) (ic := ic) hown' hcls hnames h (fun x hx => nomatch hx) hfX hkX hcellA (by rw [hhp, hT]; exact Nat.le_refl _) (msg := .ref sa) rfl
    (g := { method := m, pc := pc + 6, locals := ls, stack := .ref sa :: .ref T.heap.size :: .ref T.heap.size :: rest, locked := none }) rfl hsize rfl rfl (rest := rest) rfl
    (by rw [hb]; exact d6) (by rw [hb]; exact d9) hout hRframes (by simp only [List.map_cons, List.sum_cons, hcat]; omega) hlocks
  obtain ⟨f1, f2⟩ := vx_frame hsame
  rw [hhp] at f1 f2
  have hWs : s.WarmedH U.vm := State.WarmedH.trans hW0 hW
  have hcl : s.vm.findClass cls = some ce.cls := by
    have h9 := hO.cls
    rw [hvm] at h9
    exact h9
  have hall : s.sameButNew ({ U with vm := s.vm } : State) locs mc ms := by
    subst hA
    obtain ⟨e1, e2⟩ := hsame
    rw [State.setFrames_setFrames] at e1
    have h2 : (T.setVm s.vm).sameButNew ({ U with vm := s.vm } : State) [] (0 + 1) (0 + 6) := ⟨e1, e2⟩
    have h3 := X.same.trans h2
    rw [List.append_nil] at h3
    exact h3.mono hc hs
  refine ⟨U, ?_, .threw T.heap.size, hrun, hend, Or.inr ⟨T.heap.size, rfl, cls, ce, locs, hx U hWs.alike f1 (fun q hq => f2 q hq (fun z hz => nomatch hz)), hce, hO.vm, hcl, hWs, hall, hf⟩⟩
  refine st1 _ ?_
  show Steps p.tables e below (T1.setTop { method := m, pc := pc + 3, locals := ls, stack := .ref T.heap.size :: rest, locked := none }) _
  jvm_step X₁.here [X₁.here.top, hexec, d3', Value.category]
  exact X₁.ldcString hexec (own := own) (text := text) (index := is) (a := sa) hown' hstr'.1 hstr'.2
    (g := { method := m, pc := pc + 4, locals := ls, stack := .ref T.heap.size :: .ref T.heap.size :: rest, locked := none }) rfl d4' _ hsteps
/-- 'throw new E("text")', the text by a wide index -/
theorem vx_throwSW {cc : ByteArray} {pc : Nat} (hexec : p.tables.exec = Jvm.exec) (hb : c.code = cc) (hl : l.stackTraces = false) {own cls text : String} {names : List String} {ik is ic mc ms sa : Nat} {A : Nat → Prop}
    (hown : s.vm.findClass own = some m.cls) (hcls : Bundle.fit cls = true) (hnames : ∀ n ∈ names, Bundle.fit n = true)
    (hk : (Cond.classLink own ik cls).before args s = true) (hini : (Cond.initialized cls).before args s = true) (hstr : vk_R own is text sa s) (hat : ∀ w ∈ vx_atS own ic cls names, w.before args s = true)
    (hgood : ∀ w ∈ Cond.classLink own ik cls :: Cond.initialized cls :: vx_atS own ic cls names, vx_ot w = true)
    (hU : vx_Zq Bundle.tN "UNASSIGNED_STACK" Bundle.steD A s s.heap) (hN : vx_Zq Bundle.tN "SUPPRESSED_SENTINEL" Bundle.listD A s s.heap) (hS : va_S A s.heap H locs) (hsize : ls.size = c.maxLocals)
    (d0 : decode cc pc = .ok (.new ik, 3)) (d3 : decode cc (pc + 3) = .ok (.dup, 1)) (d4 : decode cc (pc + 4) = .ok (.ldc_w is, 3)) (d7 : decode cc (pc + 7) = .ok (.invokespecial ic, 3)) (d10 : decode cc (pc + 10) = .ok (.athrow, 1))
    (hout : ∀ x ∈ c.exceptionTable.toList, covers x (pc + 10) = false)
    (hRframes : names.length + 3 < R.frames) (hRlocals : (rest.map fun v => v.category).sum + (13 * (names.length + 1) + 43) ≤ R.locals) (hRcells : cells + 1 ≤ R.cells) (hRslots : slots + 6 ≤ R.slots) (hlocks : meth.locks = false)
    (hx : ∀ t : State, s.vm.Alike t.vm → H.size ≤ t.heap.size → (∀ q : Nat, q < H.size → t.heap[q]? = H[q]?) → XC cls s t)
    (hf : ∀ z ∈ locs, free z.base) (hc : cells + 1 ≤ mc) (hs : slots + 6 ≤ ms) :
    W p l e R s m args below meth c H locs cells slots (vx_MQ below Qc XC args s mc ms free) (F0 m pc ls rest) := by
  intro T hT X
  have htr : e.platform.stackTraces = false := (show e.platform.stackTraces = l.stackTraces by rw [X.admits.platform]).trans hl
  have Y := vx_rebase X (R' := { frames := R.frames, locals := R.locals, cells := 1, slots := 6 }) (Nat.le_refl _) (Nat.le_refl _) hRcells hRslots
  obtain ⟨s', hA⟩ : ∃ z, z = (T.setVm s.vm).setFrames (.invoking m args :: below) := ⟨_, rfl⟩
  rw [← hA] at Y
  have hvm : s'.vm = s.vm := by rw [hA]; rfl
  have hhp : s'.heap = H := by rw [hA]; exact hT
  have hW0 : s.WarmedH s'.vm := by rw [hvm]; exact State.WarmedH.refl s
  have hat' : ∀ w ∈ vx_atS own ic cls names, w.before args s' = true := fun w hw => vx_ot_at hW0 hvm.symm (hgood w (List.mem_cons_of_mem _ (List.mem_cons_of_mem _ hw))) (hat w hw)
  have hk' : (Cond.classLink own ik cls).before args s' = true := vx_ot_at hW0 hvm.symm (hgood _ List.mem_cons_self) hk
  have hini' : (Cond.initialized cls).before args s' = true := vx_ot_at hW0 hvm.symm (hgood _ (List.mem_cons_of_mem _ List.mem_cons_self)) hini
  have hU' : vx_Zq Bundle.tN "UNASSIGNED_STACK" Bundle.steD A s' s'.heap := by rw [hhp]; exact vx_Zq.moved hW0.alike (hU.kept hS.2.1)
  have hN' : vx_Zq Bundle.tN "SUPPRESSED_SENTINEL" Bundle.listD A s' s'.heap := by rw [hhp]; exact vx_Zq.moved hW0.alike (hN.kept hS.2.1)
  have h : ∀ w ∈ Bundle.ownAtoms own ic cls names, w.before args s' = true := vx_own hat' (vx_isRefq hU'.1) (vx_isRefq hN'.1) hU'.2.word hN'.2.word
  have hown' : s'.vm.findClass own = some m.cls := by rw [hvm]; exact hown
  have hins : (Cond.instantiable cls 6).before args s' = true := h _ (by simp [Bundle.ownAtoms])
  obtain ⟨vm₁, cX, kX, hfX, hkX, -, -, X₁, st1⟩ := Y.newCold hexec (own := own) (C := cls) (index := ik) (n := 6) hown' hk' hins hini'
    (g := F0 m pc ls rest) rfl (by rw [hb]; exact d0) (Nat.le_refl _) (Nat.le_refl _)
  generalize hT1 : (T.setVm vm₁).pushCell { cls := cX, slots := kX.instanceTypes.map defaultValue, vm := .none } = T1 at X₁ st1
  have hcat : (Value.ref T.heap.size).category = 1 := rfl
  have hcellA : T1.heap[T.heap.size]? = some (freshCell cX kX) := by rw [← hT1]; exact State.heap_pushCell_size _ _
  have d3' : decode c.code (pc + 3) = .ok (.dup, 1) := by rw [hb]; exact d3
  have d4' : decode c.code (pc + 4) = .ok (.ldc_w is, 3) := by rw [hb]; exact d4
  have hstr' : vk_R own is text sa s' := vk_R.warm hW0 hstr
  obtain ⟨U, hsteps, hrun, hend, hW, hsame, ce, hce, hO⟩ := X₁.ctorThrowS hexec htr (own := own) (cls := cls) (names := names) (ic := ic) hown' hcls hnames h (fun x hx => nomatch hx) hfX hkX hcellA (by rw [hhp, hT]; exact Nat.le_refl _) (msg := .ref sa) rfl
    (g := { method := m, pc := pc + 7, locals := ls, stack := .ref sa :: .ref T.heap.size :: .ref T.heap.size :: rest, locked := none }) rfl hsize rfl rfl (rest := rest) rfl
    (by rw [hb]; exact d7) (by rw [hb]; exact d10) hout hRframes (by simp only [List.map_cons, List.sum_cons, hcat]; omega) hlocks
  obtain ⟨f1, f2⟩ := vx_frame hsame
  rw [hhp] at f1 f2
  have hWs : s.WarmedH U.vm := State.WarmedH.trans hW0 hW
  have hcl : s.vm.findClass cls = some ce.cls := by
    have h9 := hO.cls
    rw [hvm] at h9
    exact h9
  have hall : s.sameButNew ({ U with vm := s.vm } : State) locs mc ms := by
    subst hA
    obtain ⟨e1, e2⟩ := hsame
    rw [State.setFrames_setFrames] at e1
    have h2 : (T.setVm s.vm).sameButNew ({ U with vm := s.vm } : State) [] (0 + 1) (0 + 6) := ⟨e1, e2⟩
    have h3 := X.same.trans h2
    rw [List.append_nil] at h3
    exact h3.mono hc hs
  refine ⟨U, ?_, .threw T.heap.size, hrun, hend, Or.inr ⟨T.heap.size, rfl, cls, ce, locs, hx U hWs.alike f1 (fun q hq => f2 q hq (fun z hz => nomatch hz)), hce, hO.vm, hcl, hWs, hall, hf⟩⟩
  refine st1 _ ?_
  show Steps p.tables e below (T1.setTop { method := m, pc := pc + 3, locals := ls, stack := .ref T.heap.size :: rest, locked := none }) _
  jvm_step X₁.here [X₁.here.top, hexec, d3', Value.category]
  exact X₁.ldcStringW hexec (own := own) (text := text) (index := is) (a := sa) hown' hstr'.1 hstr'.2
    (g := { method := m, pc := pc + 4, locals := ls, stack := .ref T.heap.size :: .ref T.heap.size :: rest, locked := none }) rfl d4' _ hsteps
end Ends
section Bodies
variable {l : Launch}
theorem vx_ofW {y : MethodName} {ws ws' : List Cond} {rm : Room} {Pc : Array Value → State → Prop} {Qc : Array Value → State → Outcome → State → Prop} {XC : String → State → State → Prop} {mc ms : Nat} {free : Addr → Prop} {cc : ByteArray} {maxL : Nat} {ret : Option FieldType}
    (hy : plainName y.cls = true) (hw : ws = Cond.code y cc maxL ret :: ws')
    (body : ∀ p e s m args below meth c s₁, BodyLoose p l y (headSpec ws rm) cc maxL ret e s m args below meth c s₁ → c.maxLocals = maxL → (∀ x ∈ c.exceptionTable.toList, False) → Pc args s →
      W p l e (headSpec ws rm).room s m args below meth c s.heap [] 0 0 (vx_MQ below Qc XC args s mc ms free) (entryFrame m args maxL)) : vx_Met l y ws rm Pc Qc XC mc ms free := by
  refine MetFree.of_bodyS (code := cc) (maxLocals := maxL) (ret := ret) hy ?_ ?_
  · intro args s m h hn
    obtain ⟨meth, c, h1, h2, h3, h4, h5, h6, -, -⟩ := Cond.code_spec hn (atoms_spec (ws := ws) h _ (by rw [hw]; exact List.mem_cons_self))
    exact ⟨meth, c, h1, h2, h3, h4, h5, h6⟩
  · intro p e s m args below meth c s₁ B hml hP _
    have hh0 : s₁.heap = s.heap := by rw [B.state]; rfl
    have ht : ∀ x ∈ c.exceptionTable.toList, False := by
      obtain ⟨meth9, c9, h1, h2, -, -, -, -, h7, -⟩ := Cond.code_spec B.named (atoms_spec (ws := ws) B.pre _ (by rw [hw]; exact List.mem_cons_self))
      cases Option.some.inj (h1.symm.trans B.method)
      cases Option.some.inj (h2.symm.trans (Stand.of_body B).code)
      intro x hx
      rw [Array.isEmpty_iff.mp h7] at hx
      cases hx
    obtain ⟨t, a1, o, b1, b2, b3⟩ := body p e s m args below meth c s₁ B hml ht hP s₁ hh0 (Stand.of_body B)
    exact ⟨t, o, a1, b1, b2, b3⟩
/-- the table of a body with handlers -/
theorem vx_table {p : Program} {x y : MethodName} {S : Spec} {cc bytes : ByteArray} {maxL maxL' : Nat} {ret ret' : Option FieldType} {e : Env} {s s₁ : State} {m : MethodId} {args : Array Value} {below : List Frame} {meth : Method} {c : Code} {hh : List (Nat × Nat × Nat × Nat)}
    (B : BodyLoose p l y S cc maxL ret e s m args below meth c s₁) (h : (Cond.codeWith y bytes maxL' ret' hh).before args s = true) : c.exceptionTable.toList = tableOf hh := by
  obtain ⟨m9, meth9, c9, hn9, h1, h2, -, -, h6, -⟩ := Cond.codeWith_spec h
  cases Option.some.inj (hn9.symm.trans B.named)
  cases Option.some.inj (h1.symm.trans B.method)
  cases Option.some.inj (h2.symm.trans (Stand.of_body B).code)
  rw [← h6, table_eq]
end Bodies
end VXA
/-! ===== END ===== -/
/-! ===== BEGIN a static call of a method with an exception table ===== -/
section VXS
variable {p : Program} {l : Launch} {e : Env} {R : Room} {s : State} {m : MethodId} {args : Array Value} {below : List Frame} {meth : Method} {c : Code} {T : State} {H : Heap} {locs : List Loc} {cells slots : Nat}
abbrev vx_CSW (R : Room) (s : State) (args : Array Value) (own : String) (index : Nat) (y : MethodName) (bytes : ByteArray) (maxL : Nat) (ret : Option FieldType) (hh : List (Nat × Nat × Nat × Nat)) (ws : List Cond) (rm : Room) (mc ms n : Nat) : Prop :=
  (rm.cells = mc ∧ rm.slots = ms ∧ rm.frames + 1 ≤ R.frames ∧ 8 + (maxL + 11) + rm.locals ≤ R.locals ∧ (∀ w ∈ ws, ∀ (a' : Array Value) (U : State), s.WarmedH U.vm → w.before a' U = true) ∧ Cond.codeWith y bytes maxL ret hh ∈ ws) ∧
  (Cond.codeWith y bytes maxL ret hh).before args s = true ∧ (Cond.initialized y.cls).before args s = true ∧ (y.cls ≠ "java/lang/invoke/MethodHandle" ∧ y.cls ≠ "java/lang/invoke/VarHandle") ∧
  (∀ sig, parseMethodDescriptor y.desc = some sig → n = sig.parameters.length) ∧ (Cond.methodLink own index y).before args s = true ∧ (Cond.static y).before args s = true
theorem vx_cwSW {own : String} {index maxL mc ms : Nat} {y : MethodName} {bytes : ByteArray} {ret : Option FieldType} {hh : List (Nat × Nat × Nat × Nat)} {Ts ws ws' : List Cond} {rm : Room} (n : Nat) (ht : ∀ w ∈ Ts, w.before args s = true) (hT : GoodIn Ts (va_wsS own index y ws)) (hw : ws = Cond.codeWith y bytes maxL ret hh :: ws') (hrc : rm.cells = mc) (hrs : rm.slots = ms)
    (hd : y.cls ≠ "java/lang/invoke/MethodHandle" ∧ y.cls ≠ "java/lang/invoke/VarHandle" ∧ (parseMethodDescriptor y.desc).map (fun d => d.parameters.length) = some n) (hR : rm.frames + 1 ≤ R.frames ∧ 8 + (maxL + 11) + rm.locals ≤ R.locals) :
    vx_CSW R s args own index y bytes maxL ret hh ws rm mc ms n := by
  have ok : ∀ w ∈ va_wsS own index y ws, w.before args s = true := fun w h => ht w (hT w h).1
  have hG : GoodIn Ts ws := fun w h => hT w (by unfold va_wsS; exact List.mem_append_right _ h)
  have hc : Cond.codeWith y bytes maxL ret hh ∈ ws := by rw [hw]; exact List.mem_cons_self
  refine ⟨⟨hrc, hrs, hR.1, hR.2, pay_in ht hG, hc⟩, ht _ (hG _ hc).1, ok _ (by simp [va_wsS]), ⟨hd.1, hd.2.1⟩, fun sig h => ?_, ok _ (by simp [va_wsS]), ok _ (by simp [va_wsS])⟩
  have h2 := hd.2.2
  rw [h] at h2
  exact (Option.some.inj h2).symm
theorem vx_callSW (X : Stand p l e R s m args below meth c T locs cells slots) (hexec : p.tables.exec = Jvm.exec) {own : String} {index : Nat} {y : MethodName} {bytes : ByteArray} {maxL : Nat} {ret : Option FieldType} {hh : List (Nat × Nat × Nat × Nat)}
    (hown : s.vm.findClass own = some m.cls) (hlink : (Cond.methodLink own index y).before args s = true) (hstat : (Cond.static y).before args s = true) (hinit : (Cond.initialized y.cls).before args s = true)
    (hcode : (Cond.codeWith y bytes maxL ret hh).before args s = true) (hy : y.cls ≠ "java/lang/invoke/MethodHandle" ∧ y.cls ≠ "java/lang/invoke/VarHandle")
    {W9 : Nat} {Pre : Pt → Array Value → Prop} {Post : Pt → Array Value → Option Value → Pt → Prop} (hK : Back l R p e below s args y 3 W9 Pre Post)
    {g : JFrame} (hg : g.method = m) (hsize : g.locals.size = c.maxLocals) {argsL rest : List Value} (hlen : ∀ sig, parseMethodDescriptor y.desc = some sig → argsL.length = sig.parameters.length)
    (hstack : g.stack = argsL.reverse ++ rest) (hW : 2 * g.monitorRoom + (rest.map fun v => v.category).sum ≤ W9) (hdg : decode c.code g.pc = .ok (.invokestatic index, 3))
    (hpre : ∀ vm₁, s.WarmedH vm₁ → Pre ⟨T.setVm vm₁, locs, cells, slots⟩ argsL.toArray) :
    ∃ (v : Option Value) (vm₁ : Vm) (B : Pt), s.WarmedH vm₁ ∧ Stand p l e R s m args below meth c B.U B.locs B.cells B.slots ∧ Post ⟨T.setVm vm₁, locs, cells, slots⟩ argsL.toArray v B ∧
      ∀ target, Steps p.tables e below (B.U.setTop { g with pc := g.pc + 3, stack := v.toList ++ rest }) target → Steps p.tables e below (T.setTop g) target := by
  obtain ⟨mk, methM, cM, hnamed, hmethM, -, -, -, -, -, -, hsigM⟩ := Cond.codeWith_spec hcode
  have hstatic : methM.isStatic = true := Cond.static_spec hnamed hmethM hstat
  obtain ⟨kP, hkP, -⟩ := className_of_methodNamed hnamed
  have hinitP : kP.init = .initialized := Cond.initialized_spec (findClass_of_methodNamed hnamed) hkP hinit
  obtain ⟨vm₁, X₁, hstep₁⟩ := X.invokestatic hexec hown hlink hnamed hmethM hstatic hkP hinitP hy (g := g) hg (argsL := argsL) (rest := rest) (hlen _ hsigM) hstack hdg
  obtain ⟨v, B, X', hpost, hsteps⟩ := hK m meth c ⟨T.setVm vm₁, locs, cells, slots⟩ { g with stack := rest } (.invokestatic index) mk argsL.toArray X₁ hg hsize hdg hW (X₁.named hnamed) (hpre vm₁ X₁.warmed)
  exact ⟨v, vm₁, B, X₁.warmed, X', hpost, fun target h => hstep₁ _ fun acts => by rw [doInvoke_state]; exact hsteps.trans h⟩
theorem vx_runSW {y : MethodName} {bytes cc : ByteArray} {maxL nL mc ms n index : Nat} {ret : Option FieldType} {hh : List (Nat × Nat × Nat × Nat)} {ws : List Cond} {rm : Room} {Pc : Array Value → State → Prop} {Qc : Array Value → State → Outcome → State → Prop} {free : Addr → Prop} {Ts : List Cond} {own : String} {As rest : List Value} {g : JFrame}
    (S : CallFix p m c cc nL s args Ts own) (hM : Met l y ws rm Pc Qc mc ms free) (cw : vx_CSW R s args own index y bytes maxL ret hh ws rm mc ms n) (hp : PreS s H Pc As)
    (hg : g.method = m) (hn : As.length = n) (hsize : g.locals.size = nL) (hstack : g.stack = As.reverse ++ rest) (hW : 2 * g.monitorRoom + (rest.map fun v => v.category).sum ≤ 8) (hdg : decode cc g.pc = .ok (.invokestatic index, 3)) (hf : cells + mc ≤ R.cells ∧ slots + ms ≤ R.slots) :
    va_Run p l e R s m args below meth c H locs cells slots mc ms g rest (Qc As.toArray) (free) := by
  obtain ⟨⟨hrc, hrs, hfr, hlo, hws, hcw⟩, hcode, hini, hy, hlen, hl, hstt⟩ := cw
  have hK : Back l R p e below s args y 3 8 (PreOf R mc ms Pc) (PostOf Qc mc ms free) := va_backW (hh := hh) (bytes := bytes) (maxL := maxL) (ret := ret) hM hp.1 hrc hrs hfr hlo hws hcw (fun a' U hW => word_at hW (Or.inl (by first | rfl | simp [Cond.onTables, Cond.keeps, Cond.steady])) hini)
  obtain ⟨hx, hb, hml, ho, -⟩ := S
  intro T hT X
  obtain ⟨v, vm₁, ⟨U', l2, c2, s2⟩, hW₁, X', ⟨g', mk, t, L, e1, e2, hq, h1, hL, h2, h3⟩, st⟩ := vx_callSW X hx (hh := hh) (bytes := bytes) (maxL := maxL) (ret := ret) ho hl hstt hini hcode hy hK hg (hsize.trans hml.symm) (argsL := As) (rest := rest) (fun sig h => hn.trans (hlen sig h)) hstack hW (by rw [hb]; exact hdg)
    (fun vm₁ hW₁ => ⟨hf.1, hf.2, hp.2 (T.setVm vm₁) hT hW₁⟩)
  dsimp only [Pt.U, Pt.locs, Pt.cells, Pt.slots] at X' e1 e2 h1 h2 h3 st
  subst h1; subst h2; subst h3
  exact ⟨v, (T.setVm vm₁).calling g' mk As.toArray, t, U', L, hT, X', hL, e1, e2, hq, st⟩
/-- not caught here, past rows that name other classes: it goes on to the caller -/
theorem vx_outP {p : Program} {l : Launch} {e : Env} {R : Room} {s : State} {m : MethodId} {args : Array Value} {below : List Frame} {meth : Method} {c : Code} {H : Heap} {locs : List Loc} {cells slots : Nat} {free : Addr → Prop} {ls : Array Slot} {rest : List Value} {Qc : Array Value → State → Outcome → State → Prop} {XC : String → State → State → Prop}
    {pc : Nat} {own E : String} {ce : Cell} {q : Addr} {mc ms : Nat} (hown : s.vm.findClass own = some m.cls) (hlocks : meth.locks = false)
    (hpass : ∀ z ∈ c.exceptionTable.toList, covers z pc = false ∨ (z.catchType ≠ 0 ∧ ∃ nm : String, (Cond.classLink own z.catchType nm).before args s = true ∧ va_Nc E nm s)) (hcell : H[q]? = some ce) (hv : ce.vm = .none) (hcl : s.vm.findClass E = some ce.cls)
    (hx : ∀ t : State, t.heap = H → s.vm.Alike t.vm → XC E s t) (hf : ∀ z ∈ locs, free z.base) (hc : cells ≤ mc) (hs : slots ≤ ms) :
    vx_W p l e R s m args below meth c H locs cells slots (vx_MQ below Qc XC args s mc ms free) (F0 m pc ls rest) q := by
  intro T hT X
  have hpl : e.platform.magicAccessors = ({} : Platform).magicAccessors := by rw [X.admits.platform]
  obtain ⟨vm', hW', X', st⟩ := X.outThrough hlocks q (g := F0 m pc ls rest) rfl rfl rfl (cell := ce) (by rw [hT]; exact hcell) (by rw [hv]; rfl)
    (by obtain ⟨k9, h9, -⟩ := Vm.findClass_spec hcl; exact ⟨k9, h9⟩) (fun z hz => by
      rcases hpass z hz with h | ⟨hz0, nm, hl1, hn1⟩
      · exact Or.inl h
      · obtain ⟨c6, hc6, hcl6⟩ := Cond.classLink_spec hown hl1 e.platform hpl
        obtain ⟨a8, b8, h1, h2, h3⟩ := hn1
        cases Option.some.inj (h1.symm.trans hcl)
        cases Option.some.inj (h2.symm.trans hc6)
        exact Or.inr ⟨hz0, _, hcl6, h3⟩)
  obtain ⟨g₀, hfr⟩ := X'.frames_eq
  have hcell9 : ((T.setVm vm').setFrames (.throwing q :: below)).heap[q]? = some ce := by
    show T.heap[q]? = some ce
    rw [hT]; exact hcell
  have hend : Ended ((T.setVm vm').setFrames (.throwing q :: below)) below (.threw q) := State.frames_setFrames _ (State.cur_lt_of_frames hfr)
  refine ⟨(T.setVm vm').setFrames (.throwing q :: below), ?_, .threw q, X'.here.running, hend, Or.inr ⟨q, rfl, E, ce, locs, hx _ hT (X'.ends _).1.alike, hcell9, hv, hcl, (X'.ends _).1, (X'.ends _).2.mono hc hs, hf⟩⟩
  rw [X.pushThrowing_eq]
  exact st
/-- a thing of a world lies in the heap -/
theorem vx_lt {D : va_G} {cl : List vw_C} {ws : va_W} {H1 : Heap} (h : va_P D cl ws H1) {k : Nat} {q : Nat × va_E} (hk : ws[k]? = some q) : q.1 < H1.size := (h k q hk).lt
end VXS
/-! ===== END ===== -/
/-! ===== BEGIN methods with a table of their own: called by a name, returning or throwing ===== -/
section VXH
/-! vx_backW, vx_callVX, vx_callSX, vx_callVW, vx_runVW, vx_runVX, vx_runSX, vx_ofWH follow the same proofs as their sisters above (Free/Laws.lean, Shelf42/LK1.lean); vx_outP calls Shelf42/NT130.lean (outThrough). -/
section
variable {l : Launch} {R : Room} {p : Program} {e : Env} {below : List Frame} {s : State} {sargs : Array Value} {y : MethodName} {len W9 : Nat}
theorem vx_backW {ws : List Cond} {rm : Room} {Pc : Array Value → State → Prop} {Qc : Array Value → State → Outcome → State → Prop} {XC : String → State → State → Prop} {mc ms : Nat} {free : Addr → Prop} {bytes : ByteArray} {maxL : Nat} {ret : Option FieldType} {hh : List (Nat × Nat × Nat × Nat)}
    (hM : vx_Met l y ws rm Pc Qc XC mc ms free) (hblind : FrameBlind Pc) (hrc : rm.cells = mc) (hrs : rm.slots = ms)
    (hframes : rm.frames + 1 ≤ R.frames) (hlocals : W9 + (maxL + 11) + rm.locals ≤ R.locals)
    (hws : ∀ w ∈ ws, ∀ a' U, s.WarmedH U.vm → w.before a' U = true) (hcode : Cond.codeWith y bytes maxL ret hh ∈ ws) (hinit : ∀ a' U, s.WarmedH U.vm → (Cond.initialized y.cls).before a' U = true) :
    vx_Back l R p e below s sargs y len W9 (PreOf R mc ms Pc) (PostOf Qc mc ms free) (vx_Post XC mc ms free) := by
  intro m meth c A g ig mk a X hg hsize hdg hW hn hp
  have h1 : (headSpec ws rm).pre.before a A.U = true := atoms_intro fun w hw => hws w hw _ _ X.warmed
  have h2 : (Cond.codeWith y bytes maxL ret hh).before a A.U = true := hws _ hcode _ _ X.warmed
  have h3 : (Cond.initialized y.cls).before a A.U = true := hinit _ _ X.warmed
  have h4 : A.cells + (headSpec ws rm).room.cells ≤ R.cells := by rw [show (headSpec ws rm).room.cells = mc from hrc]; exact hp.1
  have h5 : A.slots + (headSpec ws rm).room.slots ≤ R.slots := by rw [show (headSpec ws rm).room.slots = ms from hrs]; exact hp.2.1
  have hPc : Pc a (A.U.calling g mk a) := hblind _ _ _ _ hp.2.2
  obtain ⟨U, Ls, c0, s0⟩ := A
  dsimp only [Pt.U, Pt.locs, Pt.cells, Pt.slots] at h1 h2 h3 h4 h5 X hn hPc ⊢
  obtain ⟨m9, methY, cY, hn9, hmY, hcY, -, hlY, -⟩ := Cond.codeWith_spec h2
  cases Option.some.inj (hn9.symm.trans hn)
  obtain ⟨kY, hkY, -⟩ := className_of_methodNamed hn
  have hinitY : kY.init = .initialized := Cond.initialized_spec (findClass_of_methodNamed hn) hkY h3
  have h : At U g.method c below := by rw [hg]; exact X.here
  have hlocals9 : W9 + (maxL + 11) + (headSpec ws rm).room.locals ≤ R.locals := hlocals
  have happ : (headSpec ws rm).appliesLoose y e.platform (U.calling g mk a) = true :=
    Spec.appliesLoose_calling (g := g) h hdg hn hkY hinitY
      (X.room_calling (g := g) (R' := (headSpec ws rm).room) hsize hmY hcY hframes (by rw [hlY]; omega) h4 h5) h1
  obtain ⟨mid, hmid⟩ := h.above
  have hfr : (U.setTop g).frames = (.java g :: mid) ++ below := by rw [State.frames_setTop' g h.top, hmid]; rfl
  obtain ⟨o, s₂, hsteps, -, hend, hq⟩ := Steps.callFree hM p X.admits X.cas X.clock (acts := []) hfr happ hPc trivial
  have hq' : vx_Q Qc XC mc ms free a (U.calling g mk a) o s₂ := hq
  rw [State.frames_setTop' g h.top] at hend
  obtain ⟨g₀, hg0⟩ := Option.isSome_iff_exists.mp h.top
  obtain ⟨r, hr⟩ := State.topJava?_eq_some.mp hg0
  have hr' : (({ U with heap := s₂.heap, slotsUsed := s₂.slotsUsed } : State).setVm s₂.vm).frames = .java g₀ :: r := hr
  rcases hq' with ⟨hqc, L, hfe, hL⟩ | ⟨q, rfl, E, ce, L, hx, hce, hcv, hcl, hW₂, hsm, hL⟩
  · obtain ⟨⟨v, rfl⟩, hW₂, e2, q2, q3, q4, q5, q6⟩ := id hfe
    have e3 : s₂ = ({ (U.calling g mk a).setFrames s₂.frames with heap := s₂.heap, slotsUsed := s₂.slotsUsed } : State).setVm s₂.vm := by
      have : s₂ = ({ s₂ with vm := (U.calling g mk a).vm } : State).setVm s₂.vm := rfl
      rw [e2] at this
      exact this
    obtain ⟨c₂, i₂, len₂, hc₂, hd₂, hf₂⟩ := hend
    have hW' : U.WarmedH s₂.vm := hW₂
    have hcc : c₂ = c := by
      have h1 : s₂.code? g.method = U.code? g.method := by
        rw [State.code?_eq, State.code?_eq, hW'.alike.method?]
      exact Option.some.inj (hc₂.symm.trans (h1.trans h.code))
    subst hcc
    have hlen : len₂ = len := by rw [hdg] at hd₂; cases hd₂; rfl
    subst hlen
    have hs₂ : s₂ = (({ U with heap := s₂.heap, slotsUsed := s₂.slotsUsed } : State).setVm s₂.vm).setTop { g with pc := g.pc + len₂, stack := v.toList ++ g.stack } := by
      refine e3.trans ?_
      rw [hf₂, State.calling_eq h.top, State.setFrames_setFrames, State.setTop_of_frames _ hr', hr]
      rfl
    have hsame : U.sameButNew ({ U with heap := s₂.heap, slotsUsed := s₂.slotsUsed } : State) L mc ms := by
      refine ⟨?_, q2, q3, q4, q5, q6⟩
      obtain ⟨t, ht, -⟩ := State.frames_cons hr
      show ({ U with heap := s₂.heap, slotsUsed := s₂.slotsUsed } : State) = { U.setFrames U.frames with heap := s₂.heap, slotsUsed := s₂.slotsUsed }
      rw [State.setFrames_self ht]
    subst hg
    refine Or.inl ⟨v, ⟨(({ U with heap := s₂.heap, slotsUsed := s₂.slotsUsed } : State).setVm s₂.vm), Ls ++ L, c0 + mc, s0 + ms⟩,
      ⟨X.admits, X.cas, X.clock, X.frames, X.room, X.hears, X.method, X.code, (X.here.setHeapUsed s₂.heap s₂.slotsUsed).setVm hW'.alike, X.tail, State.WarmedH.trans X.warmed hW', X.limits, X.bytes, X.same.trans (hsame.setVm s.vm)⟩,
      ⟨g, mk, s₂, L, rfl, rfl, hqc, rfl, hL, rfl, rfl⟩, ?_⟩
    show Steps p.tables e below _ ((({ U with heap := s₂.heap, slotsUsed := s₂.slotsUsed } : State).setVm s₂.vm).setTop { g with pc := g.pc + len₂, stack := v.toList ++ g.stack })
    rw [← hs₂]
    exact hsteps
  · obtain ⟨e2, q2, q3, q4, q5, q6⟩ := id hsm
    have e3 : s₂ = ({ (U.calling g mk a).setFrames s₂.frames with heap := s₂.heap, slotsUsed := s₂.slotsUsed } : State).setVm s₂.vm := by
      have : s₂ = ({ s₂ with vm := (U.calling g mk a).vm } : State).setVm s₂.vm := rfl
      rw [e2] at this
      exact this
    have hf₂ : s₂.frames = .throwing q :: .java g :: U.frames.tail := hend
    have hW' : U.WarmedH s₂.vm := hW₂
    have hs₂ : s₂ = ((({ U with heap := s₂.heap, slotsUsed := s₂.slotsUsed } : State).setVm s₂.vm).setTop g).pushFrame (.throwing q) := by
      refine e3.trans ?_
      rw [hf₂, State.calling_eq h.top, State.setFrames_setFrames, State.pushFrame, State.frames_setTop _ hr', State.setTop_of_frames _ hr', State.setFrames_setFrames, hr]
      rfl
    have hsame : U.sameButNew ({ U with heap := s₂.heap, slotsUsed := s₂.slotsUsed } : State) L mc ms := by
      refine ⟨?_, q2, q3, q4, q5, q6⟩
      obtain ⟨t, ht, -⟩ := State.frames_cons hr
      show ({ U with heap := s₂.heap, slotsUsed := s₂.slotsUsed } : State) = { U.setFrames U.frames with heap := s₂.heap, slotsUsed := s₂.slotsUsed }
      rw [State.setFrames_self ht]
    subst hg
    refine Or.inr ⟨q, ⟨(({ U with heap := s₂.heap, slotsUsed := s₂.slotsUsed } : State).setVm s₂.vm), Ls ++ L, c0 + mc, s0 + ms⟩,
      ⟨X.admits, X.cas, X.clock, X.frames, X.room, X.hears, X.method, X.code, (X.here.setHeapUsed s₂.heap s₂.slotsUsed).setVm hW'.alike, X.tail, State.WarmedH.trans X.warmed hW', X.limits, X.bytes, X.same.trans (hsame.setVm s.vm)⟩,
      ⟨g, mk, s₂, L, E, ce, rfl, rfl, hx, hce, hcv, hcl, rfl, hL, rfl, rfl⟩, ?_⟩
    show Steps p.tables e below _ (((({ U with heap := s₂.heap, slotsUsed := s₂.slotsUsed } : State).setVm s₂.vm).setTop g).pushFrame (.throwing q))
    rw [← hs₂]
    exact hsteps
end
variable {p : Program} {l : Launch} {e : Env} {R : Room} {s : State} {m : MethodId} {args : Array Value} {below : List Frame} {meth : Method} {c : Code} {T : State} {H : Heap} {locs : List Loc} {cells slots : Nat}
theorem vx_callVX (X : Stand p l e R s m args below meth c T locs cells slots) (hexec : p.tables.exec = Jvm.exec) {own C : String} {index : Nat} {y : MethodName} {bytes : ByteArray} {maxL : Nat} {ret : Option FieldType} {hh : List (Nat × Nat × Nat × Nat)}
    (hown : s.vm.findClass own = some m.cls) (hlink : (Cond.methodLink own index y).before args s = true) (hinst : (Cond.instanceMethod y).before args s = true) (hsel : (Cond.selects C y y).before args s = true)
    (hcode : (Cond.codeWith y bytes maxL ret hh).before args s = true) (hy : y.cls ≠ "java/lang/invoke/MethodHandle" ∧ y.cls ≠ "java/lang/invoke/VarHandle")
    {W9 : Nat} {Pre : Pt → Array Value → Prop} {Post : Pt → Array Value → Option Value → Pt → Prop} {PostX : Pt → Array Value → Addr → Pt → Prop} (hK : vx_Back l R p e below s args y 3 W9 Pre Post PostX)
    {b : Addr} {cellB : Cell} (hcell : T.heap[b]? = some cellB) (hobj : cellB.vm.isStatics = false) (hcls : s.vm.findClass C = some cellB.cls)
    {g : JFrame} (hg : g.method = m) (hsize : g.locals.size = c.maxLocals) {argsL rest : List Value} (hlen : ∀ sig, parseMethodDescriptor y.desc = some sig → argsL.length = sig.parameters.length)
    (hstack : g.stack = argsL.reverse ++ .ref b :: rest) (hW : 2 * g.monitorRoom + (rest.map fun v => v.category).sum ≤ W9) (hdg : decode c.code g.pc = .ok (.invokevirtual index, 3))
    (hpre : ∀ vm₁, s.WarmedH vm₁ → Pre ⟨T.setVm vm₁, locs, cells, slots⟩ (Value.ref b :: argsL).toArray) :
    (∃ (v : Option Value) (vm₁ : Vm) (B : Pt), s.WarmedH vm₁ ∧ Stand p l e R s m args below meth c B.U B.locs B.cells B.slots ∧ Post ⟨T.setVm vm₁, locs, cells, slots⟩ (Value.ref b :: argsL).toArray v B ∧
      ∀ target, Steps p.tables e below (B.U.setTop { g with pc := g.pc + 3, stack := v.toList ++ rest }) target → Steps p.tables e below (T.setTop g) target) ∨
    (∃ (q : Addr) (vm₁ : Vm) (B : Pt), s.WarmedH vm₁ ∧ Stand p l e R s m args below meth c B.U B.locs B.cells B.slots ∧ PostX ⟨T.setVm vm₁, locs, cells, slots⟩ (Value.ref b :: argsL).toArray q B ∧
      Steps p.tables e below (T.setTop g) ((B.U.setTop { g with stack := rest }).pushFrame (.throwing q))) := by
  obtain ⟨mk, methM, hnamed, hmethM, hstM, habM⟩ := Cond.instanceMethod_spec hinst
  obtain ⟨m8, methM', cM, hn8, hmethM', -, -, -, -, -, -, hsigM⟩ := Cond.codeWith_spec hcode
  cases Option.some.inj (hn8.symm.trans hnamed)
  cases hmethM.symm.trans hmethM'
  obtain ⟨c2, r2, m2, q1, q2, q3, q4, kP, hkP, hkPi⟩ := Cond.selects_spec hsel
  cases hcls.symm.trans q1
  cases (State.methodFound?_of_named hnamed hy).symm.trans q2
  cases hnamed.symm.trans q3
  have hselP : selectMethod e.platform s.vm cellB.cls mk = .method mk := by rw [Launch.admits_selectMethod X.admits]; exact q4
  obtain ⟨vm₁, X₁, hstep₁⟩ := X.invokevirtual hexec hown hlink hnamed hmethM hstM hkP hkPi hy (a := b) (cell := cellB) hcell
    (fun z h => by rw [h] at hobj; cases hobj) hselP hmethM habM hkP hkPi (g := g) hg (argsL := argsL) (rest := rest) (hlen _ hsigM) hstack hdg
  rcases hK m meth c ⟨T.setVm vm₁, locs, cells, slots⟩ { g with stack := rest } (.invokevirtual index) mk (Value.ref b :: argsL).toArray X₁ hg hsize hdg hW (X₁.named hnamed) (hpre vm₁ X₁.warmed) with ⟨v, B, X', hpost, hsteps⟩ | ⟨q, B, X', hpost, hsteps⟩
  · exact Or.inl ⟨v, vm₁, B, X₁.warmed, X', hpost, fun target h => hstep₁ _ fun acts => by rw [doInvoke_state]; exact hsteps.trans h⟩
  · exact Or.inr ⟨q, vm₁, B, X₁.warmed, X', hpost, hstep₁ _ fun acts => by rw [doInvoke_state]; exact hsteps⟩
theorem vx_callSX (X : Stand p l e R s m args below meth c T locs cells slots) (hexec : p.tables.exec = Jvm.exec) {own : String} {index : Nat} {y : MethodName} {bytes : ByteArray} {maxL : Nat} {ret : Option FieldType} {hh : List (Nat × Nat × Nat × Nat)}
    (hown : s.vm.findClass own = some m.cls) (hlink : (Cond.methodLink own index y).before args s = true) (hstat : (Cond.static y).before args s = true) (hinit : (Cond.initialized y.cls).before args s = true)
    (hcode : (Cond.codeWith y bytes maxL ret hh).before args s = true) (hy : y.cls ≠ "java/lang/invoke/MethodHandle" ∧ y.cls ≠ "java/lang/invoke/VarHandle")
    {W9 : Nat} {Pre : Pt → Array Value → Prop} {Post : Pt → Array Value → Option Value → Pt → Prop} {PostX : Pt → Array Value → Addr → Pt → Prop} (hK : vx_Back l R p e below s args y 3 W9 Pre Post PostX)
    {g : JFrame} (hg : g.method = m) (hsize : g.locals.size = c.maxLocals) {argsL rest : List Value} (hlen : ∀ sig, parseMethodDescriptor y.desc = some sig → argsL.length = sig.parameters.length)
    (hstack : g.stack = argsL.reverse ++ rest) (hW : 2 * g.monitorRoom + (rest.map fun v => v.category).sum ≤ W9) (hdg : decode c.code g.pc = .ok (.invokestatic index, 3))
    (hpre : ∀ vm₁, s.WarmedH vm₁ → Pre ⟨T.setVm vm₁, locs, cells, slots⟩ argsL.toArray) :
    (∃ (v : Option Value) (vm₁ : Vm) (B : Pt), s.WarmedH vm₁ ∧ Stand p l e R s m args below meth c B.U B.locs B.cells B.slots ∧ Post ⟨T.setVm vm₁, locs, cells, slots⟩ argsL.toArray v B ∧
      ∀ target, Steps p.tables e below (B.U.setTop { g with pc := g.pc + 3, stack := v.toList ++ rest }) target → Steps p.tables e below (T.setTop g) target) ∨
    (∃ (q : Addr) (vm₁ : Vm) (B : Pt), s.WarmedH vm₁ ∧ Stand p l e R s m args below meth c B.U B.locs B.cells B.slots ∧ PostX ⟨T.setVm vm₁, locs, cells, slots⟩ argsL.toArray q B ∧
      Steps p.tables e below (T.setTop g) ((B.U.setTop { g with stack := rest }).pushFrame (.throwing q))) := by
  obtain ⟨mk, methM, cM, hnamed, hmethM, -, -, -, -, -, -, hsigM⟩ := Cond.codeWith_spec hcode
  have hstatic : methM.isStatic = true := Cond.static_spec hnamed hmethM hstat
  obtain ⟨kP, hkP, -⟩ := className_of_methodNamed hnamed
  have hinitP : kP.init = .initialized := Cond.initialized_spec (findClass_of_methodNamed hnamed) hkP hinit
  obtain ⟨vm₁, X₁, hstep₁⟩ := X.invokestatic hexec hown hlink hnamed hmethM hstatic hkP hinitP hy (g := g) hg (argsL := argsL) (rest := rest) (hlen _ hsigM) hstack hdg
  rcases hK m meth c ⟨T.setVm vm₁, locs, cells, slots⟩ { g with stack := rest } (.invokestatic index) mk argsL.toArray X₁ hg hsize hdg hW (X₁.named hnamed) (hpre vm₁ X₁.warmed) with ⟨v, B, X', hpost, hsteps⟩ | ⟨q, B, X', hpost, hsteps⟩
  · exact Or.inl ⟨v, vm₁, B, X₁.warmed, X', hpost, fun target h => hstep₁ _ fun acts => by rw [doInvoke_state]; exact hsteps.trans h⟩
  · exact Or.inr ⟨q, vm₁, B, X₁.warmed, X', hpost, hstep₁ _ fun acts => by rw [doInvoke_state]; exact hsteps⟩
theorem vx_callVW (X : Stand p l e R s m args below meth c T locs cells slots) (hexec : p.tables.exec = Jvm.exec) {own C : String} {index : Nat} {y : MethodName} {bytes : ByteArray} {maxL : Nat} {ret : Option FieldType} {hh : List (Nat × Nat × Nat × Nat)}
    (hown : s.vm.findClass own = some m.cls) (hlink : (Cond.methodLink own index y).before args s = true) (hinst : (Cond.instanceMethod y).before args s = true) (hsel : (Cond.selects C y y).before args s = true)
    (hcode : (Cond.codeWith y bytes maxL ret hh).before args s = true) (hy : y.cls ≠ "java/lang/invoke/MethodHandle" ∧ y.cls ≠ "java/lang/invoke/VarHandle")
    {W9 : Nat} {Pre : Pt → Array Value → Prop} {Post : Pt → Array Value → Option Value → Pt → Prop} (hK : Back l R p e below s args y 3 W9 Pre Post)
    {b : Addr} {cellB : Cell} (hcell : T.heap[b]? = some cellB) (hobj : cellB.vm.isStatics = false) (hcls : s.vm.findClass C = some cellB.cls)
    {g : JFrame} (hg : g.method = m) (hsize : g.locals.size = c.maxLocals) {argsL rest : List Value} (hlen : ∀ sig, parseMethodDescriptor y.desc = some sig → argsL.length = sig.parameters.length)
    (hstack : g.stack = argsL.reverse ++ .ref b :: rest) (hW : 2 * g.monitorRoom + (rest.map fun v => v.category).sum ≤ W9) (hdg : decode c.code g.pc = .ok (.invokevirtual index, 3))
    (hpre : ∀ vm₁, s.WarmedH vm₁ → Pre ⟨T.setVm vm₁, locs, cells, slots⟩ (Value.ref b :: argsL).toArray) :
    ∃ (v : Option Value) (vm₁ : Vm) (B : Pt), s.WarmedH vm₁ ∧ Stand p l e R s m args below meth c B.U B.locs B.cells B.slots ∧ Post ⟨T.setVm vm₁, locs, cells, slots⟩ (Value.ref b :: argsL).toArray v B ∧
      ∀ target, Steps p.tables e below (B.U.setTop { g with pc := g.pc + 3, stack := v.toList ++ rest }) target → Steps p.tables e below (T.setTop g) target := by
  obtain ⟨mk, methM, hnamed, hmethM, hstM, habM⟩ := Cond.instanceMethod_spec hinst
  obtain ⟨m8, methM', cM, hn8, hmethM', -, -, -, -, -, -, hsigM⟩ := Cond.codeWith_spec hcode
  cases Option.some.inj (hn8.symm.trans hnamed)
  cases hmethM.symm.trans hmethM'
  obtain ⟨c2, r2, m2, q1, q2, q3, q4, kP, hkP, hkPi⟩ := Cond.selects_spec hsel
  cases hcls.symm.trans q1
  cases (State.methodFound?_of_named hnamed hy).symm.trans q2
  cases hnamed.symm.trans q3
  have hselP : selectMethod e.platform s.vm cellB.cls mk = .method mk := by rw [Launch.admits_selectMethod X.admits]; exact q4
  obtain ⟨vm₁, X₁, hstep₁⟩ := X.invokevirtual hexec hown hlink hnamed hmethM hstM hkP hkPi hy (a := b) (cell := cellB) hcell
    (fun z h => by rw [h] at hobj; cases hobj) hselP hmethM habM hkP hkPi (g := g) hg (argsL := argsL) (rest := rest) (hlen _ hsigM) hstack hdg
  obtain ⟨v, B, X', hpost, hsteps⟩ := hK m meth c ⟨T.setVm vm₁, locs, cells, slots⟩ { g with stack := rest } (.invokevirtual index) mk (Value.ref b :: argsL).toArray X₁ hg hsize hdg hW (X₁.named hnamed) (hpre vm₁ X₁.warmed)
  exact ⟨v, vm₁, B, X₁.warmed, X', hpost, fun target h => hstep₁ _ fun acts => by rw [doInvoke_state]; exact hsteps.trans h⟩
abbrev vx_CVW (R : Room) (s : State) (args : Array Value) (own C : String) (index : Nat) (y : MethodName) (bytes : ByteArray) (maxL : Nat) (ret : Option FieldType) (hh : List (Nat × Nat × Nat × Nat)) (ws : List Cond) (rm : Room) (mc ms n : Nat) : Prop :=
  (rm.cells = mc ∧ rm.slots = ms ∧ rm.frames + 1 ≤ R.frames ∧ 8 + (maxL + 11) + rm.locals ≤ R.locals ∧ (∀ w ∈ ws, ∀ (a' : Array Value) (U : State), s.WarmedH U.vm → w.before a' U = true) ∧ Cond.codeWith y bytes maxL ret hh ∈ ws) ∧
  (Cond.codeWith y bytes maxL ret hh).before args s = true ∧ (Cond.initialized y.cls).before args s = true ∧ (y.cls ≠ "java/lang/invoke/MethodHandle" ∧ y.cls ≠ "java/lang/invoke/VarHandle") ∧
  (∀ sig, parseMethodDescriptor y.desc = some sig → n = sig.parameters.length) ∧ (Cond.methodLink own index y).before args s = true ∧ (Cond.instanceMethod y).before args s = true ∧ (Cond.selects C y y).before args s = true
theorem vx_cwVW {own C : String} {index maxL mc ms : Nat} {y : MethodName} {bytes : ByteArray} {ret : Option FieldType} {hh : List (Nat × Nat × Nat × Nat)} {Ts ws ws' : List Cond} {rm : Room} (n : Nat) (ht : ∀ w ∈ Ts, w.before args s = true) (hT : GoodIn Ts (wsV own index C y ws)) (hw : ws = Cond.codeWith y bytes maxL ret hh :: ws') (hrc : rm.cells = mc) (hrs : rm.slots = ms)
    (hd : y.cls = C ∧ y.cls ≠ "java/lang/invoke/MethodHandle" ∧ y.cls ≠ "java/lang/invoke/VarHandle" ∧ (parseMethodDescriptor y.desc).map (fun d => d.parameters.length) = some n) (hR : rm.frames + 1 ≤ R.frames ∧ 8 + (maxL + 11) + rm.locals ≤ R.locals) :
    vx_CVW R s args own C index y bytes maxL ret hh ws rm mc ms n := by
  obtain ⟨hC, hd⟩ := hd
  subst hC
  have ok : ∀ w ∈ wsV own index y.cls y ws, w.before args s = true := fun w h => ht w (hT w h).1
  have hG : GoodIn Ts ws := fun w h => hT w (by unfold wsV; exact List.mem_append_right _ h)
  have hc : Cond.codeWith y bytes maxL ret hh ∈ ws := by rw [hw]; exact List.mem_cons_self
  refine ⟨⟨hrc, hrs, hR.1, hR.2, pay_in ht hG, hc⟩, ht _ (hG _ hc).1, ok _ (by simp [wsV]), ⟨hd.1, hd.2.1⟩, fun sig h => ?_, ok _ (by simp [wsV]), ok _ (by simp [wsV]), ok _ (by simp [wsV])⟩
  have h2 := hd.2.2
  rw [h] at h2
  exact (Option.some.inj h2).symm
theorem vx_runVW {y : MethodName} {bytes cc : ByteArray} {maxL nL mc ms n index : Nat} {ret : Option FieldType} {hh : List (Nat × Nat × Nat × Nat)} {ws : List Cond} {rm : Room} {Pc : Array Value → State → Prop} {Qc : Array Value → State → Outcome → State → Prop} {free : Addr → Prop} {Ts : List Cond} {own C : String} {b : Addr} {As rest : List Value} {g : JFrame}
    (S : CallFix p m c cc nL s args Ts own) (hM : Met l y ws rm Pc Qc mc ms free) (cw : vx_CVW R s args own C index y bytes maxL ret hh ws rm mc ms n) (hp : PreV s H C b Pc As)
    (hg : g.method = m) (hn : As.length = n) (hsize : g.locals.size = nL) (hstack : g.stack = As.reverse ++ .ref b :: rest) (hW : 2 * g.monitorRoom + (rest.map fun v => v.category).sum ≤ 8) (hdg : decode cc g.pc = .ok (.invokevirtual index, 3)) (hf : cells + mc ≤ R.cells ∧ slots + ms ≤ R.slots) :
    va_Run p l e R s m args below meth c H locs cells slots mc ms g rest (Qc (Value.ref b :: As).toArray) free := by
  obtain ⟨⟨hrc, hrs, hfr, hlo, hws, hcw⟩, hcode, hini, hy, hlen, hl, hin, hse⟩ := cw
  have hK : Back l R p e below s args y 3 8 (PreOf R mc ms Pc) (PostOf Qc mc ms free) := va_backW (hh := hh) (bytes := bytes) (maxL := maxL) (ret := ret) hM hp.1 hrc hrs hfr hlo hws hcw (fun a' U hW => word_at hW (Or.inl (by first | rfl | simp [Cond.onTables, Cond.keeps, Cond.steady])) hini)
  obtain ⟨hx, hb, hml, ho, -⟩ := S
  obtain ⟨-, ⟨cellB, hcB, hoB, hclB⟩, hPc⟩ := hp
  intro T hT X
  obtain ⟨v, vm₁, ⟨U', l2, c2, s2⟩, hW₁, X', ⟨g', mk, t, L, e1, e2, hq, h1, hL, h2, h3⟩, st⟩ := vx_callVW X hx (C := C) (hh := hh) (bytes := bytes) (maxL := maxL) (ret := ret) ho hl hin hse hcode hy hK (by rw [hT]; exact hcB) hoB hclB hg (hsize.trans hml.symm) (argsL := As) (rest := rest) (fun sig h => hn.trans (hlen sig h)) hstack hW (by rw [hb]; exact hdg)
    (fun vm₁ hW₁ => ⟨hf.1, hf.2, hPc (T.setVm vm₁) hT hW₁⟩)
  dsimp only [Pt.U, Pt.locs, Pt.cells, Pt.slots] at X' e1 e2 h1 h2 h3 st
  subst h1; subst h2; subst h3
  exact ⟨v, (T.setVm vm₁).calling g' mk (Value.ref b :: As).toArray, t, U', L, hT, X', hL, e1, e2, hq, st⟩
section
variable {y : MethodName} {bytes cc : ByteArray} {maxL nL mc ms n index : Nat} {ret : Option FieldType} {ws : List Cond} {rm : Room} {Pc : Array Value → State → Prop} {Qc : Array Value → State → Outcome → State → Prop} {XC : String → State → State → Prop} {free : Addr → Prop} {Ts : List Cond} {own C : String} {b : Addr} {As rest : List Value} {g : JFrame}
theorem vx_runVX {hh : List (Nat × Nat × Nat × Nat)} (S : CallFix p m c cc nL s args Ts own) (hM : vx_Met l y ws rm Pc Qc XC mc ms free) (cw : vx_CVW R s args own C index y bytes maxL ret hh ws rm mc ms n) (hp : PreV s H C b Pc As)
    (hg : g.method = m) (hn : As.length = n) (hsize : g.locals.size = nL) (hstack : g.stack = As.reverse ++ .ref b :: rest) (hW : 2 * g.monitorRoom + (rest.map fun v => v.category).sum ≤ 8) (hdg : decode cc g.pc = .ok (.invokevirtual index, 3)) (hf : cells + mc ≤ R.cells ∧ slots + ms ≤ R.slots) :
    vx_Run p l e R s m args below meth c H locs cells slots mc ms g rest (Qc (Value.ref b :: As).toArray) XC free := by
  obtain ⟨⟨hrc, hrs, hfr, hlo, hws, hcw⟩, hcode, hini, hy, hlen, hl, hin, hse⟩ := cw
  have hK : vx_Back l R p e below s args y 3 8 (PreOf R mc ms Pc) (PostOf Qc mc ms free) (vx_Post XC mc ms free) := vx_backW (hh := hh) (bytes := bytes) (maxL := maxL) (ret := ret) hM hp.1 hrc hrs hfr hlo hws hcw (fun a' U hW => word_at hW (Or.inl (by first | rfl | simp [Cond.onTables, Cond.keeps, Cond.steady])) hini)
  obtain ⟨hx, hb, hml, ho, -⟩ := S
  obtain ⟨-, ⟨cellB, hcB, hoB, hclB⟩, hPc⟩ := hp
  intro T hT X
  rcases vx_callVX X hx (C := C) (hh := hh) (bytes := bytes) (maxL := maxL) (ret := ret) ho hl hin hse hcode hy hK (by rw [hT]; exact hcB) hoB hclB hg (hsize.trans hml.symm) (argsL := As) (rest := rest) (fun sig h => hn.trans (hlen sig h)) hstack hW (by rw [hb]; exact hdg)
    (fun vm₁ hW₁ => ⟨hf.1, hf.2, hPc (T.setVm vm₁) hT hW₁⟩) with ⟨v, vm₁, ⟨U', l2, c2, s2⟩, hW₁, X', ⟨g', mk, t, L, e1, e2, hq, h1, hL, h2, h3⟩, st⟩ | ⟨q, vm₁, ⟨U', l2, c2, s2⟩, hW₁, X', ⟨g', mk, t, L, E, ce, e1, e2, hq, hce, hcv, hcl, h1, hL, h2, h3⟩, st⟩
  · dsimp only [Pt.U, Pt.locs, Pt.cells, Pt.slots] at X' e1 e2 h1 h2 h3 st
    subst h1; subst h2; subst h3
    exact Or.inl ⟨v, (T.setVm vm₁).calling g' mk (Value.ref b :: As).toArray, t, U', L, hT, X', hL, e1, e2, hq, st⟩
  · dsimp only [Pt.U, Pt.locs, Pt.cells, Pt.slots] at X' e1 e2 h1 h2 h3 st hcl
    subst h1; subst h2; subst h3
    exact Or.inr ⟨q, (T.setVm vm₁).calling g' mk (Value.ref b :: As).toArray, t, U', L, E, ce, hT, X', hL, e1, e2, hq, hce, hcv, vx_cls hW₁ hcl, st⟩
theorem vx_runSX {hh : List (Nat × Nat × Nat × Nat)} (S : CallFix p m c cc nL s args Ts own) (hM : vx_Met l y ws rm Pc Qc XC mc ms free) (cw : vx_CSW R s args own index y bytes maxL ret hh ws rm mc ms n) (hp : PreS s H Pc As)
    (hg : g.method = m) (hn : As.length = n) (hsize : g.locals.size = nL) (hstack : g.stack = As.reverse ++ rest) (hW : 2 * g.monitorRoom + (rest.map fun v => v.category).sum ≤ 8) (hdg : decode cc g.pc = .ok (.invokestatic index, 3)) (hf : cells + mc ≤ R.cells ∧ slots + ms ≤ R.slots) :
    vx_Run p l e R s m args below meth c H locs cells slots mc ms g rest (Qc As.toArray) XC free := by
  obtain ⟨⟨hrc, hrs, hfr, hlo, hws, hcw⟩, hcode, hini, hy, hlen, hl, hstt⟩ := cw
  have hK : vx_Back l R p e below s args y 3 8 (PreOf R mc ms Pc) (PostOf Qc mc ms free) (vx_Post XC mc ms free) := vx_backW (hh := hh) (bytes := bytes) (maxL := maxL) (ret := ret) hM hp.1 hrc hrs hfr hlo hws hcw (fun a' U hW => word_at hW (Or.inl (by first | rfl | simp [Cond.onTables, Cond.keeps, Cond.steady])) hini)
  obtain ⟨hx, hb, hml, ho, -⟩ := S
  intro T hT X
  rcases vx_callSX X hx (hh := hh) (bytes := bytes) (maxL := maxL) (ret := ret) ho hl hstt hini hcode hy hK hg (hsize.trans hml.symm) (argsL := As) (rest := rest) (fun sig h => hn.trans (hlen sig h)) hstack hW (by rw [hb]; exact hdg)
    (fun vm₁ hW₁ => ⟨hf.1, hf.2, hp.2 (T.setVm vm₁) hT hW₁⟩) with ⟨v, vm₁, ⟨U', l2, c2, s2⟩, hW₁, X', ⟨g', mk, t, L, e1, e2, hq, h1, hL, h2, h3⟩, st⟩ | ⟨q, vm₁, ⟨U', l2, c2, s2⟩, hW₁, X', ⟨g', mk, t, L, E, ce, e1, e2, hq, hce, hcv, hcl, h1, hL, h2, h3⟩, st⟩
  · dsimp only [Pt.U, Pt.locs, Pt.cells, Pt.slots] at X' e1 e2 h1 h2 h3 st
    subst h1; subst h2; subst h3
    exact Or.inl ⟨v, (T.setVm vm₁).calling g' mk As.toArray, t, U', L, hT, X', hL, e1, e2, hq, st⟩
  · dsimp only [Pt.U, Pt.locs, Pt.cells, Pt.slots] at X' e1 e2 h1 h2 h3 st hcl
    subst h1; subst h2; subst h3
    exact Or.inr ⟨q, (T.setVm vm₁).calling g' mk As.toArray, t, U', L, E, ce, hT, X', hL, e1, e2, hq, hce, hcv, vx_cls hW₁ hcl, st⟩
end
end VXH
theorem vx_ofWH {l : Launch} {y : MethodName} {ws ws' : List Cond} {rm : Room} {Pc : Array Value → State → Prop} {Qc : Array Value → State → Outcome → State → Prop} {XC : String → State → State → Prop} {mc ms : Nat} {free : Addr → Prop} {cc : ByteArray} {maxL : Nat} {ret : Option FieldType} {hh : List (Nat × Nat × Nat × Nat)}
    (hy : plainName y.cls = true) (hw : ws = Cond.codeWith y cc maxL ret hh :: ws')
    (body : ∀ p e s m args below meth c s₁, BodyLoose p l y (headSpec ws rm) cc maxL ret e s m args below meth c s₁ → c.maxLocals = maxL → Pc args s →
      W p l e (headSpec ws rm).room s m args below meth c s.heap [] 0 0 (vx_MQ below Qc XC args s mc ms free) (entryFrame m args maxL)) : vx_Met l y ws rm Pc Qc XC mc ms free := by
  refine MetFree.of_bodyS (code := cc) (maxLocals := maxL) (ret := ret) hy ?_ ?_
  · intro args s m h hn
    obtain ⟨m9, meth, c, hn9, h1, h2, h3, h4, -, h5, h6, -⟩ := Cond.codeWith_spec (atoms_spec (ws := ws) h _ (by rw [hw]; exact List.mem_cons_self))
    cases hn.symm.trans hn9
    exact ⟨meth, c, h1, h2, h3, h4, h5, h6⟩
  · intro p e s m args below meth c s₁ B hml hP _
    have hh0 : s₁.heap = s.heap := by rw [B.state]; rfl
    obtain ⟨t, a1, o, b1, b2, b3⟩ := body p e s m args below meth c s₁ B hml hP s₁ hh0 (Stand.of_body B)
    exact ⟨t, o, a1, b1, b2, b3⟩
/-! ===== END ===== -/
end
section
/-! ===== BEGIN printed: names, fields, word lists, decode rows ===== -/
def RX0 : String := "BackMirror$Thing"
def TX0 : u_T := fun k => match k with
  | 0 => ("BackMirror$Thing", "kind", "I", true)
  | 1 => ("BackMirror$Thing", "rights", "I", true)
  | _ => ("BackMirror$Thing", "numbers", "[I", true)
def tyX0 : Nat → FieldType := fun k => match k with
  | 0 => .int
  | 1 => .int
  | _ => .array .int
abbrev wsX00 : List Cond := u_ws RX0 TX0 3
theorem nmX0 : ∀ a, a < 3 → ∀ b, b < 3 → a ≠ b → (TX0 a).2.1 ≠ (TX0 b).2.1 := by decide +kernel
theorem tyX0_ok : ∀ k, k < 3 → parseFieldDescriptor (TX0 k).2.2.1 = some (tyX0 k) := by decide +kernel
abbrev cX0_init : ByteArray := prog_2_method_1_code
def yX0_init : MethodName := ⟨RX0, "<init>", "(II[I)V"⟩
abbrev cX0_isLike : ByteArray := prog_2_method_2_code
def yX0_isLike : MethodName := ⟨RX0, "isLike", "(LBackMirror$Thing;)Z"⟩
def RX1 : String := "BackMirror"
def TX1 : u_T := fun k => match k with
  | 0 => ("BackMirror", "live", "[LBackMirror$Thing;", true)
  | 1 => ("BackMirror", "kept", "[LBackMirror$Thing;", true)
  | 2 => ("BackMirror", "oldestDate", "I", false)
  | 3 => ("BackMirror", "lastDate", "I", false)
  | 4 => ("BackMirror", "broken", "Z", false)
  | _ => ("BackMirror", "brokenSteps", "I", false)
def tyX1 : Nat → FieldType := fun k => match k with
  | 0 => .array (.object "BackMirror$Thing")
  | 1 => .array (.object "BackMirror$Thing")
  | 2 => .int
  | 3 => .int
  | 4 => .boolean
  | _ => .int
abbrev wsX10 : List Cond := u_ws RX1 TX1 6
theorem nmX1 : ∀ a, a < 6 → ∀ b, b < 6 → a ≠ b → (TX1 a).2.1 ≠ (TX1 b).2.1 := by decide +kernel
theorem tyX1_ok : ∀ k, k < 6 → parseFieldDescriptor (TX1 k).2.2.1 = some (tyX1 k) := by decide +kernel
abbrev cX1_init : ByteArray := prog_1_method_1_code
def yX1_init : MethodName := ⟨RX1, "<init>", "()V"⟩
abbrev cX1_makeFile : ByteArray := prog_1_method_2_code
def yX1_makeFile : MethodName := ⟨RX1, "makeFile", "(I)I"⟩
abbrev cX1_makeLink : ByteArray := prog_1_method_3_code
def yX1_makeLink : MethodName := ⟨RX1, "makeLink", "(II)I"⟩
abbrev cX1_remove : ByteArray := prog_1_method_4_code
def yX1_remove : MethodName := ⟨RX1, "remove", "(I)I"⟩
abbrev cX1_put : ByteArray := prog_1_method_5_code
def yX1_put : MethodName := ⟨RX1, "put", "(III)I"⟩
abbrev cX1_take : ByteArray := prog_1_method_6_code
def yX1_take : MethodName := ⟨RX1, "take", "(II)I"⟩
abbrev cX1_setRights : ByteArray := prog_1_method_7_code
def yX1_setRights : MethodName := ⟨RX1, "setRights", "(II)I"⟩
abbrev cX1_run : ByteArray := prog_1_method_8_code
def yX1_run : MethodName := ⟨RX1, "run", "(I)I"⟩
abbrev cX1_mend : ByteArray := prog_1_method_9_code
def yX1_mend : MethodName := ⟨RX1, "mend", "()I"⟩
abbrev cX1_thin : ByteArray := prog_1_method_10_code
def yX1_thin : MethodName := ⟨RX1, "thin", "(I)I"⟩
abbrev cX1_restore : ByteArray := prog_1_method_11_code
def yX1_restore : MethodName := ⟨RX1, "restore", "(I)I"⟩
abbrev cX1_last : ByteArray := prog_1_method_12_code
def yX1_last : MethodName := ⟨RX1, "last", "()I"⟩
abbrev cX1_oldest : ByteArray := prog_1_method_13_code
def yX1_oldest : MethodName := ⟨RX1, "oldest", "()I"⟩
abbrev cX1_isBroken : ByteArray := prog_1_method_14_code
def yX1_isBroken : MethodName := ⟨RX1, "isBroken", "()Z"⟩
abbrev cX1_needs : ByteArray := prog_1_method_15_code
def yX1_needs : MethodName := ⟨RX1, "needs", "()I"⟩
abbrev cX1_kindAt : ByteArray := prog_1_method_16_code
def yX1_kindAt : MethodName := ⟨RX1, "kindAt", "(II)I"⟩
abbrev cX1_numberAt : ByteArray := prog_1_method_17_code
def yX1_numberAt : MethodName := ⟨RX1, "numberAt", "(III)I"⟩
abbrev cX1_rightsAt : ByteArray := prog_1_method_18_code
def yX1_rightsAt : MethodName := ⟨RX1, "rightsAt", "(II)I"⟩
abbrev cX1_sizeAt : ByteArray := prog_1_method_19_code
def yX1_sizeAt : MethodName := ⟨RX1, "sizeAt", "(II)I"⟩
abbrev cX1_size : ByteArray := prog_1_method_20_code
def yX1_size : MethodName := ⟨RX1, "size", "()I"⟩
abbrev cX1_checkPlace : ByteArray := prog_1_method_21_code
def yX1_checkPlace : MethodName := ⟨RX1, "checkPlace", "(I)V"⟩
abbrev cX1_checkKept : ByteArray := prog_1_method_22_code
def yX1_checkKept : MethodName := ⟨RX1, "checkKept", "(I)V"⟩
abbrev cX1_keptIndex : ByteArray := prog_1_method_23_code
def yX1_keptIndex : MethodName := ⟨RX1, "keptIndex", "(II)I"⟩
abbrev cX1_thingOn : ByteArray := prog_1_method_24_code
def yX1_thingOn : MethodName := ⟨RX1, "thingOn", "(II)LBackMirror$Thing;"⟩
abbrev cX1_exchange : ByteArray := prog_1_method_25_code
def yX1_exchange : MethodName := ⟨RX1, "exchange", "(ILBackMirror$Thing;)I"⟩
abbrev cX1_stepsNeeded : ByteArray := prog_1_method_26_code
def yX1_stepsNeeded : MethodName := ⟨RX1, "stepsNeeded", "()I"⟩
abbrev cX1_undoBrokenRun : ByteArray := prog_1_method_27_code
def yX1_undoBrokenRun : MethodName := ⟨RX1, "undoBrokenRun", "()I"⟩
abbrev cX1_differenceTakes : ByteArray := prog_1_method_28_code
def yX1_differenceTakes : MethodName := ⟨RX1, "differenceTakes", "(II)I"⟩
abbrev cX1_rowTakes : ByteArray := prog_1_method_29_code
def yX1_rowTakes : MethodName := ⟨RX1, "rowTakes", "([I[I)I"⟩
abbrev cX1_longestCopy : ByteArray := prog_1_method_30_code
def yX1_longestCopy : MethodName := ⟨RX1, "longestCopy", "([II[I)I"⟩
abbrev cX1_sharedLength : ByteArray := prog_1_method_31_code
def yX1_sharedLength : MethodName := ⟨RX1, "sharedLength", "([II[II)I"⟩
abbrev cX1_isSameRow : ByteArray := prog_1_method_32_code
def yX1_isSameRow : MethodName := ⟨RX1, "isSameRow", "([I[I)Z"⟩
abbrev cX1_rowWith : ByteArray := prog_1_method_33_code
def yX1_rowWith : MethodName := ⟨RX1, "rowWith", "([III)[I"⟩
abbrev cX1_rowWithout : ByteArray := prog_1_method_34_code
def yX1_rowWithout : MethodName := ⟨RX1, "rowWithout", "([II)[I"⟩
def RX2 : String := "BackMirrorModel"
def TX2 : u_T := fun k => match k with
  | _ => ("", "", "", false)
def tyX2 : Nat → FieldType := fun k => match k with
  | _ => .int
abbrev wsX20 : List Cond := u_ws RX2 TX2 0
theorem nmX2 : ∀ a, a < 0 → ∀ b, b < 0 → a ≠ b → (TX2 a).2.1 ≠ (TX2 b).2.1 := by decide +kernel
theorem tyX2_ok : ∀ k, k < 0 → parseFieldDescriptor (TX2 k).2.2.1 = some (tyX2 k) := by decide +kernel
def RJ9 : String := "java/lang/Math"
def TJ9 : u_T := fun k => match k with
  | _ => ("", "", "", false)
def tyJ9 : Nat → FieldType := fun k => match k with
  | _ => .int
abbrev wsJ90 : List Cond := u_ws RJ9 TJ9 0
theorem nmJ9 : ∀ a, a < 0 → ∀ b, b < 0 → a ≠ b → (TJ9 a).2.1 ≠ (TJ9 b).2.1 := by decide +kernel
theorem tyJ9_ok : ∀ k, k < 0 → parseFieldDescriptor (TJ9 k).2.2.1 = some (tyJ9 k) := by decide +kernel
abbrev cJ9_max_7cf53 : ByteArray := prog_9_method_65_code
def yJ9_max_7cf53 : MethodName := ⟨RJ9, "max", "(II)I"⟩
def RJ0 : String := "java/lang/String"
def TJ0 : u_T := fun k => match k with
  | _ => ("", "", "", false)
def tyJ0 : Nat → FieldType := fun k => match k with
  | _ => .int
abbrev wsJ00 : List Cond := u_ws RJ0 TJ0 0
theorem nmJ0 : ∀ a, a < 0 → ∀ b, b < 0 → a ≠ b → (TJ0 a).2.1 ≠ (TJ0 b).2.1 := by decide +kernel
theorem tyJ0_ok : ∀ k, k < 0 → parseFieldDescriptor (TJ0 k).2.2.1 = some (tyJ0 k) := by decide +kernel
def RL : String := "BackMirrorLaw"
abbrev cL_dice : ByteArray := method_2_code
def yL_dice : MethodName := ⟨RL, "dice", "([II)I"⟩
abbrev cL_act : ByteArray := method_3_code
def yL_act : MethodName := ⟨RL, "act", "(LBackMirror;IIII)I"⟩
abbrev cL_of : ByteArray := method_4_code
def yL_of : MethodName := ⟨RL, "of", "(LBackMirror;IIII)I"⟩
abbrev cL_told : ByteArray := method_5_code
def yL_told : MethodName := ⟨RL, "told", "(LBackMirror;II)J"⟩
abbrev cL_length : ByteArray := method_6_code
def yL_length : MethodName := ⟨RL, "length", "(LBackMirror;II)I"⟩
abbrev cL_takes : ByteArray := method_7_code
def yL_takes : MethodName := ⟨RL, "takes", "(LBackMirror;[J)V"⟩
abbrev cL_isHead : ByteArray := method_8_code
def yL_isHead : MethodName := ⟨RL, "isHead", "(LBackMirror;[J[I)Z"⟩
abbrev cL_isDate : ByteArray := method_9_code
def yL_isDate : MethodName := ⟨RL, "isDate", "(LBackMirror;[J[II)Z"⟩
abbrev cL_isSize : ByteArray := method_10_code
def yL_isSize : MethodName := ⟨RL, "isSize", "(LBackMirror;[JII)Z"⟩
abbrev cL_isSum : ByteArray := method_11_code
def yL_isSum : MethodName := ⟨RL, "isSum", "(LBackMirror;)Z"⟩
abbrev cL_isOnly : ByteArray := method_12_code
def yL_isOnly : MethodName := ⟨RL, "isOnly", "(LBackMirror;[JI)Z"⟩
abbrev cL_all : ByteArray := method_13_code
def yL_all : MethodName := ⟨RL, "all", "(LBackMirror;)J"⟩
abbrev cL_isRefused : ByteArray := method_14_code
def yL_isRefused : MethodName := ⟨RL, "isRefused", "(LBackMirror;[II)Z"⟩
abbrev cL_isEdited : ByteArray := method_15_code
def yL_isEdited : MethodName := ⟨RL, "isEdited", "(LBackMirror;[JIII)Z"⟩
abbrev cL_isRun : ByteArray := method_16_code
def yL_isRun : MethodName := ⟨RL, "isRun", "(LBackMirror;[J[J[II)Z"⟩
abbrev cL_law : ByteArray := code
def yL_law : MethodName := ⟨RL, "law", "([I)Z"⟩
def wsX0_init : List Cond := .code yX0_init cX0_init 4 none :: ([.methodLink RX0 1 objectInit, .instanceMethod objectInit, .code objectInit ⟨#[0xb1]⟩ 1 none, .fieldLink RX0 7 "BackMirror$Thing" "kind" "I", .fieldLink RX0 13 "BackMirror$Thing" "rights" "I", .fieldLink RX0 16 "BackMirror$Thing" "numbers" "[I"] ++ wsX00)
def wsX1_sharedLength : List Cond := .code yX1_sharedLength cX1_sharedLength 5 (some .int) :: ([])
def wsX1_isSameRow : List Cond := .code yX1_isSameRow cX1_isSameRow 2 (some .boolean) :: ([.methodLink RX1 129 yX1_sharedLength, .static yX1_sharedLength, .initialized RX1, .code yX1_sharedLength cX1_sharedLength 5 (some .int)])
def wsX0_isLike : List Cond := .code yX0_isLike cX0_isLike 2 (some .boolean) :: ([.fieldLink RX0 7 "BackMirror$Thing" "kind" "I", .fieldLink RX0 13 "BackMirror$Thing" "rights" "I", .fieldLink RX0 16 "BackMirror$Thing" "numbers" "[I", .static yX1_isSameRow, .initialized RX1, .code yX1_isSameRow cX1_isSameRow 2 (some .boolean), .methodLink RX1 129 yX1_sharedLength, .static yX1_sharedLength, .code yX1_sharedLength cX1_sharedLength 5 (some .int)] ++ wsX00)
def wsX1_init : List Cond := .code yX1_init cX1_init 3 none :: ([.methodLink RX1 1 objectInit, .instanceMethod objectInit, .code objectInit ⟨#[0xb1]⟩ 1 none, .classLink RX1 7 RX0, .instantiable RX0 3, .initialized RX0, .arrayClass .int, .fieldLink RX1 14 "BackMirror" "live" "[LBackMirror$Thing;", .fieldLink RX1 18 "BackMirror" "kept" "[LBackMirror$Thing;", .fieldLink RX1 21 "BackMirror" "oldestDate" "I", .fieldLink RX1 25 "BackMirror" "lastDate" "I", .fieldLink RX1 28 "BackMirror" "broken" "Z", .fieldLink RX1 32 "BackMirror" "brokenSteps" "I", .methodLink RX1 11 yX0_init, .instanceMethod yX0_init, .code yX0_init cX0_init 4 none, .methodLink RX0 1 objectInit, .fieldLink RX0 7 "BackMirror$Thing" "kind" "I", .fieldLink RX0 13 "BackMirror$Thing" "rights" "I", .fieldLink RX0 16 "BackMirror$Thing" "numbers" "[I"] ++ wsX00 ++ wsX10)
def wsX1_checkPlace : List Cond := .code yX1_checkPlace cX1_checkPlace 1 none :: ([.classLink RX1 111 "java/lang/IndexOutOfBoundsException", .initialized "java/lang/IndexOutOfBoundsException"] ++ (vx_atS RX1 113 "java/lang/IndexOutOfBoundsException" ["java/lang/RuntimeException", "java/lang/Exception"]).filter goodWord)
def wsX1_exchange : List Cond := .code yX1_exchange cX1_exchange 4 (some .int) :: ([.fieldLink RX1 14 "BackMirror" "live" "[LBackMirror$Thing;", .fieldLink RX1 47 "BackMirror$Thing" "kind" "I"] ++ wsX10 ++ wsX00)
def wsX1_makeFile_r1 : List Cond := [Cond.classLink RX1 7 RX0, Cond.instantiable RX0 3, Cond.initialized RX0, Cond.arrayClass .int, Cond.methodLink RX1 35 yX1_checkPlace, Cond.static yX1_checkPlace, Cond.initialized RX1, Cond.code yX1_checkPlace cX1_checkPlace 1 none, Cond.classLink RX1 111 "java/lang/IndexOutOfBoundsException", Cond.initialized "java/lang/IndexOutOfBoundsException", Cond.methodLink RX1 11 yX0_init, Cond.instanceMethod yX0_init, Cond.code yX0_init cX0_init 4 none, Cond.methodLink RX0 1 objectInit, Cond.instanceMethod objectInit, Cond.code objectInit ⟨#[0xb1]⟩ 1 none, Cond.fieldLink RX0 7 "BackMirror$Thing" "kind" "I", Cond.fieldLink RX0 13 "BackMirror$Thing" "rights" "I", Cond.fieldLink RX0 16 "BackMirror$Thing" "numbers" "[I", Cond.methodLink RX1 39 yX1_exchange, Cond.instanceMethod yX1_exchange, Cond.selects RX1 yX1_exchange yX1_exchange, Cond.code yX1_exchange cX1_exchange 4 (some .int), Cond.fieldLink RX1 14 "BackMirror" "live" "[LBackMirror$Thing;"]
def wsX1_makeFile_r2 : List Cond := [Cond.fieldLink RX1 47 "BackMirror$Thing" "kind" "I"]
def wsX1_makeFile : List Cond := .code yX1_makeFile cX1_makeFile 2 (some .int) :: ((wsX1_makeFile_r1 ++ wsX1_makeFile_r2) ++ wsX00 ++ wsX10 ++ (vx_atS RX1 113 "java/lang/IndexOutOfBoundsException" ["java/lang/RuntimeException", "java/lang/Exception"]).filter goodWord)
def wsX1_makeLink_r1 : List Cond := [Cond.classLink RX1 7 RX0, Cond.instantiable RX0 3, Cond.initialized RX0, Cond.arrayClass .int, Cond.methodLink RX1 35 yX1_checkPlace, Cond.static yX1_checkPlace, Cond.initialized RX1, Cond.code yX1_checkPlace cX1_checkPlace 1 none, Cond.classLink RX1 111 "java/lang/IndexOutOfBoundsException", Cond.initialized "java/lang/IndexOutOfBoundsException", Cond.methodLink RX1 11 yX0_init, Cond.instanceMethod yX0_init, Cond.code yX0_init cX0_init 4 none, Cond.methodLink RX0 1 objectInit, Cond.instanceMethod objectInit, Cond.code objectInit ⟨#[0xb1]⟩ 1 none, Cond.fieldLink RX0 7 "BackMirror$Thing" "kind" "I", Cond.fieldLink RX0 13 "BackMirror$Thing" "rights" "I", Cond.fieldLink RX0 16 "BackMirror$Thing" "numbers" "[I", Cond.methodLink RX1 39 yX1_exchange, Cond.instanceMethod yX1_exchange, Cond.selects RX1 yX1_exchange yX1_exchange, Cond.code yX1_exchange cX1_exchange 4 (some .int), Cond.fieldLink RX1 14 "BackMirror" "live" "[LBackMirror$Thing;"]
def wsX1_makeLink_r2 : List Cond := [Cond.fieldLink RX1 47 "BackMirror$Thing" "kind" "I"]
def wsX1_makeLink : List Cond := .code yX1_makeLink cX1_makeLink 3 (some .int) :: ((wsX1_makeLink_r1 ++ wsX1_makeLink_r2) ++ wsX00 ++ wsX10 ++ (vx_atS RX1 113 "java/lang/IndexOutOfBoundsException" ["java/lang/RuntimeException", "java/lang/Exception"]).filter goodWord)
def wsX1_remove_r1 : List Cond := [Cond.classLink RX1 7 RX0, Cond.instantiable RX0 3, Cond.initialized RX0, Cond.arrayClass .int, Cond.methodLink RX1 35 yX1_checkPlace, Cond.static yX1_checkPlace, Cond.initialized RX1, Cond.code yX1_checkPlace cX1_checkPlace 1 none, Cond.classLink RX1 111 "java/lang/IndexOutOfBoundsException", Cond.initialized "java/lang/IndexOutOfBoundsException", Cond.methodLink RX1 11 yX0_init, Cond.instanceMethod yX0_init, Cond.code yX0_init cX0_init 4 none, Cond.methodLink RX0 1 objectInit, Cond.instanceMethod objectInit, Cond.code objectInit ⟨#[0xb1]⟩ 1 none, Cond.fieldLink RX0 7 "BackMirror$Thing" "kind" "I", Cond.fieldLink RX0 13 "BackMirror$Thing" "rights" "I", Cond.fieldLink RX0 16 "BackMirror$Thing" "numbers" "[I", Cond.methodLink RX1 39 yX1_exchange, Cond.instanceMethod yX1_exchange, Cond.selects RX1 yX1_exchange yX1_exchange, Cond.code yX1_exchange cX1_exchange 4 (some .int), Cond.fieldLink RX1 14 "BackMirror" "live" "[LBackMirror$Thing;"]
def wsX1_remove_r2 : List Cond := [Cond.fieldLink RX1 47 "BackMirror$Thing" "kind" "I"]
def wsX1_remove : List Cond := .code yX1_remove cX1_remove 2 (some .int) :: ((wsX1_remove_r1 ++ wsX1_remove_r2) ++ wsX00 ++ wsX10 ++ (vx_atS RX1 113 "java/lang/IndexOutOfBoundsException" ["java/lang/RuntimeException", "java/lang/Exception"]).filter goodWord)
def wsX1_rowWith : List Cond := .code yX1_rowWith cX1_rowWith 5 (some (.array .int)) :: ([.arrayClass .int])
def wsX1_put_r1 : List Cond := [Cond.classLink RX1 50 "java/lang/IllegalStateException", Cond.initialized "java/lang/IllegalStateException", Cond.classLink RX1 57 "java/lang/IllegalArgumentException", Cond.initialized "java/lang/IllegalArgumentException", Cond.fieldLink RX1 14 "BackMirror" "live" "[LBackMirror$Thing;", Cond.fieldLink RX1 43 "BackMirror$Thing" "numbers" "[I", Cond.fieldLink RX1 47 "BackMirror$Thing" "kind" "I", Cond.classLink RX1 7 RX0, Cond.instantiable RX0 3, Cond.initialized RX0, Cond.fieldLink RX1 62 "BackMirror$Thing" "rights" "I", Cond.methodLink RX1 35 yX1_checkPlace, Cond.static yX1_checkPlace, Cond.initialized RX1, Cond.code yX1_checkPlace cX1_checkPlace 1 none, Cond.classLink RX1 111 "java/lang/IndexOutOfBoundsException", Cond.initialized "java/lang/IndexOutOfBoundsException", Cond.methodLink RX1 65 yX1_rowWith, Cond.static yX1_rowWith, Cond.code yX1_rowWith cX1_rowWith 5 (some (.array .int)), Cond.arrayClass .int, Cond.methodLink RX1 11 yX0_init, Cond.instanceMethod yX0_init, Cond.code yX0_init cX0_init 4 none]
def wsX1_put_r2 : List Cond := [Cond.methodLink RX0 1 objectInit, Cond.instanceMethod objectInit, Cond.code objectInit ⟨#[0xb1]⟩ 1 none, Cond.fieldLink RX0 7 "BackMirror$Thing" "kind" "I", Cond.fieldLink RX0 13 "BackMirror$Thing" "rights" "I", Cond.fieldLink RX0 16 "BackMirror$Thing" "numbers" "[I"]
def wsX1_put : List Cond := .code yX1_put cX1_put 6 (some .int) :: ((wsX1_put_r1 ++ wsX1_put_r2) ++ wsX10 ++ wsX00 ++ (vx_atS RX1 54 "java/lang/IllegalStateException" ["java/lang/RuntimeException", "java/lang/Exception"]).filter goodWord ++ (vx_atS RX1 61 "java/lang/IllegalArgumentException" ["java/lang/RuntimeException", "java/lang/Exception"]).filter goodWord ++ (vx_atS RX1 113 "java/lang/IndexOutOfBoundsException" ["java/lang/RuntimeException", "java/lang/Exception"]).filter goodWord)
def wsX1_rowWithout : List Cond := .code yX1_rowWithout cX1_rowWithout 4 (some (.array .int)) :: ([.arrayClass .int])
def wsX1_take_r1 : List Cond := [Cond.classLink RX1 50 "java/lang/IllegalStateException", Cond.initialized "java/lang/IllegalStateException", Cond.classLink RX1 57 "java/lang/IllegalArgumentException", Cond.initialized "java/lang/IllegalArgumentException", Cond.fieldLink RX1 14 "BackMirror" "live" "[LBackMirror$Thing;", Cond.fieldLink RX1 47 "BackMirror$Thing" "kind" "I", Cond.fieldLink RX1 43 "BackMirror$Thing" "numbers" "[I", Cond.classLink RX1 7 RX0, Cond.instantiable RX0 3, Cond.initialized RX0, Cond.fieldLink RX1 62 "BackMirror$Thing" "rights" "I", Cond.methodLink RX1 35 yX1_checkPlace, Cond.static yX1_checkPlace, Cond.initialized RX1, Cond.code yX1_checkPlace cX1_checkPlace 1 none, Cond.classLink RX1 111 "java/lang/IndexOutOfBoundsException", Cond.initialized "java/lang/IndexOutOfBoundsException", Cond.methodLink RX1 73 yX1_rowWithout, Cond.static yX1_rowWithout, Cond.code yX1_rowWithout cX1_rowWithout 4 (some (.array .int)), Cond.arrayClass .int, Cond.methodLink RX1 11 yX0_init, Cond.instanceMethod yX0_init, Cond.code yX0_init cX0_init 4 none]
def wsX1_take_r2 : List Cond := [Cond.methodLink RX0 1 objectInit, Cond.instanceMethod objectInit, Cond.code objectInit ⟨#[0xb1]⟩ 1 none, Cond.fieldLink RX0 7 "BackMirror$Thing" "kind" "I", Cond.fieldLink RX0 13 "BackMirror$Thing" "rights" "I", Cond.fieldLink RX0 16 "BackMirror$Thing" "numbers" "[I"]
def wsX1_take : List Cond := .code yX1_take cX1_take 4 (some .int) :: ((wsX1_take_r1 ++ wsX1_take_r2) ++ wsX10 ++ wsX00 ++ (vx_atS RX1 54 "java/lang/IllegalStateException" ["java/lang/RuntimeException", "java/lang/Exception"]).filter goodWord ++ (vx_atS RX1 61 "java/lang/IllegalArgumentException" ["java/lang/RuntimeException", "java/lang/Exception"]).filter goodWord ++ (vx_atS RX1 113 "java/lang/IndexOutOfBoundsException" ["java/lang/RuntimeException", "java/lang/Exception"]).filter goodWord)
def wsX1_setRights_r1 : List Cond := [Cond.classLink RX1 50 "java/lang/IllegalStateException", Cond.initialized "java/lang/IllegalStateException", Cond.classLink RX1 57 "java/lang/IllegalArgumentException", Cond.initialized "java/lang/IllegalArgumentException", Cond.fieldLink RX1 14 "BackMirror" "live" "[LBackMirror$Thing;", Cond.fieldLink RX1 47 "BackMirror$Thing" "kind" "I", Cond.classLink RX1 7 RX0, Cond.instantiable RX0 3, Cond.initialized RX0, Cond.fieldLink RX1 43 "BackMirror$Thing" "numbers" "[I", Cond.fieldLink RX1 62 "BackMirror$Thing" "rights" "I", Cond.methodLink RX1 35 yX1_checkPlace, Cond.static yX1_checkPlace, Cond.initialized RX1, Cond.code yX1_checkPlace cX1_checkPlace 1 none, Cond.classLink RX1 111 "java/lang/IndexOutOfBoundsException", Cond.initialized "java/lang/IndexOutOfBoundsException", Cond.methodLink RX1 11 yX0_init, Cond.instanceMethod yX0_init, Cond.code yX0_init cX0_init 4 none, Cond.methodLink RX0 1 objectInit, Cond.instanceMethod objectInit, Cond.code objectInit ⟨#[0xb1]⟩ 1 none, Cond.fieldLink RX0 7 "BackMirror$Thing" "kind" "I"]
def wsX1_setRights_r2 : List Cond := [Cond.fieldLink RX0 13 "BackMirror$Thing" "rights" "I", Cond.fieldLink RX0 16 "BackMirror$Thing" "numbers" "[I"]
def wsX1_setRights : List Cond := .code yX1_setRights cX1_setRights 4 (some .int) :: ((wsX1_setRights_r1 ++ wsX1_setRights_r2) ++ wsX10 ++ wsX00 ++ (vx_atS RX1 54 "java/lang/IllegalStateException" ["java/lang/RuntimeException", "java/lang/Exception"]).filter goodWord ++ (vx_atS RX1 61 "java/lang/IllegalArgumentException" ["java/lang/RuntimeException", "java/lang/Exception"]).filter goodWord ++ (vx_atS RX1 113 "java/lang/IndexOutOfBoundsException" ["java/lang/RuntimeException", "java/lang/Exception"]).filter goodWord)
def wsX1_undoBrokenRun : List Cond := .code yX1_undoBrokenRun cX1_undoBrokenRun 2 (some .int) :: ([.fieldLink RX1 32 "BackMirror" "brokenSteps" "I", .fieldLink RX1 28 "BackMirror" "broken" "Z"] ++ wsX10)
def wsX1_keptIndex : List Cond := .code yX1_keptIndex cX1_keptIndex 2 (some .int) :: ([])
def wsX1_stepsNeeded : List Cond := .code yX1_stepsNeeded cX1_stepsNeeded 3 (some .int) :: ([.fieldLink RX1 14 "BackMirror" "live" "[LBackMirror$Thing;", .fieldLink RX1 18 "BackMirror" "kept" "[LBackMirror$Thing;", .fieldLink RX1 25 "BackMirror" "lastDate" "I", .methodLink RX1 92 yX1_keptIndex, .static yX1_keptIndex, .initialized RX1, .code yX1_keptIndex cX1_keptIndex 2 (some .int), .methodLink RX1 103 yX0_isLike, .instanceMethod yX0_isLike, .selects RX0 yX0_isLike yX0_isLike, .initialized RX0, .code yX0_isLike cX0_isLike 2 (some .boolean), .fieldLink RX0 7 "BackMirror$Thing" "kind" "I", .fieldLink RX0 13 "BackMirror$Thing" "rights" "I", .fieldLink RX0 16 "BackMirror$Thing" "numbers" "[I", .static yX1_isSameRow, .code yX1_isSameRow cX1_isSameRow 2 (some .boolean), .methodLink RX1 129 yX1_sharedLength, .static yX1_sharedLength, .code yX1_sharedLength cX1_sharedLength 5 (some .int)] ++ wsX10 ++ wsX00)
def wsX1_run_r1 : List Cond := [Cond.classLink RX1 57 "java/lang/IllegalArgumentException", Cond.initialized "java/lang/IllegalArgumentException", Cond.classLink RX1 50 "java/lang/IllegalStateException", Cond.initialized "java/lang/IllegalStateException", Cond.fieldLink RX1 25 "BackMirror" "lastDate" "I", Cond.fieldLink RX1 28 "BackMirror" "broken" "Z", Cond.fieldLink RX1 32 "BackMirror" "brokenSteps" "I", Cond.fieldLink RX1 18 "BackMirror" "kept" "[LBackMirror$Thing;", Cond.fieldLink RX1 14 "BackMirror" "live" "[LBackMirror$Thing;", Cond.methodLink RX1 85 yX1_undoBrokenRun, Cond.instanceMethod yX1_undoBrokenRun, Cond.selects RX1 yX1_undoBrokenRun yX1_undoBrokenRun, Cond.initialized RX1, Cond.code yX1_undoBrokenRun cX1_undoBrokenRun 2 (some .int), Cond.methodLink RX1 89 yX1_stepsNeeded, Cond.instanceMethod yX1_stepsNeeded, Cond.selects RX1 yX1_stepsNeeded yX1_stepsNeeded, Cond.code yX1_stepsNeeded cX1_stepsNeeded 3 (some .int), Cond.methodLink RX1 92 yX1_keptIndex, Cond.static yX1_keptIndex, Cond.code yX1_keptIndex cX1_keptIndex 2 (some .int), Cond.methodLink RX1 103 yX0_isLike, Cond.instanceMethod yX0_isLike, Cond.selects RX0 yX0_isLike yX0_isLike]
def wsX1_run_r2 : List Cond := [Cond.initialized RX0, Cond.code yX0_isLike cX0_isLike 2 (some .boolean), Cond.fieldLink RX0 7 "BackMirror$Thing" "kind" "I", Cond.fieldLink RX0 13 "BackMirror$Thing" "rights" "I", Cond.fieldLink RX0 16 "BackMirror$Thing" "numbers" "[I", Cond.static yX1_isSameRow, Cond.code yX1_isSameRow cX1_isSameRow 2 (some .boolean), Cond.methodLink RX1 129 yX1_sharedLength, Cond.static yX1_sharedLength, Cond.code yX1_sharedLength cX1_sharedLength 5 (some .int)]
def wsX1_run : List Cond := .code yX1_run cX1_run 3 (some .int) :: ((wsX1_run_r1 ++ wsX1_run_r2) ++ wsX10 ++ wsX00 ++ (vx_atS RX1 61 "java/lang/IllegalArgumentException" ["java/lang/RuntimeException", "java/lang/Exception"]).filter goodWord ++ (vx_atS RX1 54 "java/lang/IllegalStateException" ["java/lang/RuntimeException", "java/lang/Exception"]).filter goodWord)
def wsX1_mend : List Cond := .code yX1_mend cX1_mend 1 (some .int) :: ([.methodLink RX1 85 yX1_undoBrokenRun, .instanceMethod yX1_undoBrokenRun, .selects RX1 yX1_undoBrokenRun yX1_undoBrokenRun, .initialized RX1, .code yX1_undoBrokenRun cX1_undoBrokenRun 2 (some .int), .fieldLink RX1 32 "BackMirror" "brokenSteps" "I", .fieldLink RX1 28 "BackMirror" "broken" "Z"] ++ wsX10)
def wsX1_thin : List Cond := .code yX1_thin cX1_thin 2 (some .int) :: ([.classLink RX1 57 "java/lang/IllegalArgumentException", .initialized "java/lang/IllegalArgumentException", .classLink RX1 50 "java/lang/IllegalStateException", .initialized "java/lang/IllegalStateException", .fieldLink RX1 21 "BackMirror" "oldestDate" "I", .fieldLink RX1 25 "BackMirror" "lastDate" "I", .methodLink RX1 85 yX1_undoBrokenRun, .instanceMethod yX1_undoBrokenRun, .selects RX1 yX1_undoBrokenRun yX1_undoBrokenRun, .initialized RX1, .code yX1_undoBrokenRun cX1_undoBrokenRun 2 (some .int), .fieldLink RX1 32 "BackMirror" "brokenSteps" "I", .fieldLink RX1 28 "BackMirror" "broken" "Z"] ++ wsX10 ++ (vx_atS RX1 61 "java/lang/IllegalArgumentException" ["java/lang/RuntimeException", "java/lang/Exception"]).filter goodWord ++ (vx_atS RX1 54 "java/lang/IllegalStateException" ["java/lang/RuntimeException", "java/lang/Exception"]).filter goodWord)
def wsX1_checkKept : List Cond := .code yX1_checkKept cX1_checkKept 2 none :: ([.classLink RX1 111 "java/lang/IndexOutOfBoundsException", .initialized "java/lang/IndexOutOfBoundsException", .fieldLink RX1 21 "BackMirror" "oldestDate" "I", .fieldLink RX1 25 "BackMirror" "lastDate" "I"] ++ wsX10 ++ (vx_atS RX1 113 "java/lang/IndexOutOfBoundsException" ["java/lang/RuntimeException", "java/lang/Exception"]).filter goodWord)
def wsX1_restore_r1 : List Cond := [Cond.fieldLink RX1 18 "BackMirror" "kept" "[LBackMirror$Thing;", Cond.fieldLink RX1 14 "BackMirror" "live" "[LBackMirror$Thing;", Cond.methodLink RX1 100 yX1_checkKept, Cond.instanceMethod yX1_checkKept, Cond.selects RX1 yX1_checkKept yX1_checkKept, Cond.initialized RX1, Cond.code yX1_checkKept cX1_checkKept 2 none, Cond.classLink RX1 111 "java/lang/IndexOutOfBoundsException", Cond.initialized "java/lang/IndexOutOfBoundsException", Cond.fieldLink RX1 21 "BackMirror" "oldestDate" "I", Cond.fieldLink RX1 25 "BackMirror" "lastDate" "I", Cond.methodLink RX1 85 yX1_undoBrokenRun, Cond.instanceMethod yX1_undoBrokenRun, Cond.selects RX1 yX1_undoBrokenRun yX1_undoBrokenRun, Cond.code yX1_undoBrokenRun cX1_undoBrokenRun 2 (some .int), Cond.fieldLink RX1 32 "BackMirror" "brokenSteps" "I", Cond.fieldLink RX1 28 "BackMirror" "broken" "Z", Cond.methodLink RX1 92 yX1_keptIndex, Cond.static yX1_keptIndex, Cond.code yX1_keptIndex cX1_keptIndex 2 (some .int), Cond.methodLink RX1 103 yX0_isLike, Cond.instanceMethod yX0_isLike, Cond.selects RX0 yX0_isLike yX0_isLike, Cond.initialized RX0]
def wsX1_restore_r2 : List Cond := [Cond.code yX0_isLike cX0_isLike 2 (some .boolean), Cond.fieldLink RX0 7 "BackMirror$Thing" "kind" "I", Cond.fieldLink RX0 13 "BackMirror$Thing" "rights" "I", Cond.fieldLink RX0 16 "BackMirror$Thing" "numbers" "[I", Cond.static yX1_isSameRow, Cond.code yX1_isSameRow cX1_isSameRow 2 (some .boolean), Cond.methodLink RX1 129 yX1_sharedLength, Cond.static yX1_sharedLength, Cond.code yX1_sharedLength cX1_sharedLength 5 (some .int)]
def wsX1_restore : List Cond := .code yX1_restore cX1_restore 5 (some .int) :: ((wsX1_restore_r1 ++ wsX1_restore_r2) ++ wsX10 ++ wsX00 ++ (vx_atS RX1 113 "java/lang/IndexOutOfBoundsException" ["java/lang/RuntimeException", "java/lang/Exception"]).filter goodWord)
def wsX1_last : List Cond := .code yX1_last cX1_last 1 (some .int) :: ([.fieldLink RX1 25 "BackMirror" "lastDate" "I"] ++ wsX10)
def wsX1_oldest : List Cond := .code yX1_oldest cX1_oldest 1 (some .int) :: ([.fieldLink RX1 21 "BackMirror" "oldestDate" "I"] ++ wsX10)
def wsX1_isBroken : List Cond := .code yX1_isBroken cX1_isBroken 1 (some .boolean) :: ([.fieldLink RX1 28 "BackMirror" "broken" "Z"] ++ wsX10)
def wsX1_needs : List Cond := .code yX1_needs cX1_needs 1 (some .int) :: ([.methodLink RX1 89 yX1_stepsNeeded, .instanceMethod yX1_stepsNeeded, .selects RX1 yX1_stepsNeeded yX1_stepsNeeded, .initialized RX1, .code yX1_stepsNeeded cX1_stepsNeeded 3 (some .int), .fieldLink RX1 14 "BackMirror" "live" "[LBackMirror$Thing;", .fieldLink RX1 18 "BackMirror" "kept" "[LBackMirror$Thing;", .fieldLink RX1 25 "BackMirror" "lastDate" "I", .methodLink RX1 92 yX1_keptIndex, .static yX1_keptIndex, .code yX1_keptIndex cX1_keptIndex 2 (some .int), .methodLink RX1 103 yX0_isLike, .instanceMethod yX0_isLike, .selects RX0 yX0_isLike yX0_isLike, .initialized RX0, .code yX0_isLike cX0_isLike 2 (some .boolean), .fieldLink RX0 7 "BackMirror$Thing" "kind" "I", .fieldLink RX0 13 "BackMirror$Thing" "rights" "I", .fieldLink RX0 16 "BackMirror$Thing" "numbers" "[I", .static yX1_isSameRow, .code yX1_isSameRow cX1_isSameRow 2 (some .boolean), .methodLink RX1 129 yX1_sharedLength, .static yX1_sharedLength, .code yX1_sharedLength cX1_sharedLength 5 (some .int)] ++ wsX10 ++ wsX00)
def wsX1_thingOn : List Cond := .code yX1_thingOn cX1_thingOn 3 (some (.object "BackMirror$Thing")) :: ([.fieldLink RX1 14 "BackMirror" "live" "[LBackMirror$Thing;", .fieldLink RX1 18 "BackMirror" "kept" "[LBackMirror$Thing;", .methodLink RX1 100 yX1_checkKept, .instanceMethod yX1_checkKept, .selects RX1 yX1_checkKept yX1_checkKept, .initialized RX1, .code yX1_checkKept cX1_checkKept 2 none, .classLink RX1 111 "java/lang/IndexOutOfBoundsException", .initialized "java/lang/IndexOutOfBoundsException", .fieldLink RX1 21 "BackMirror" "oldestDate" "I", .fieldLink RX1 25 "BackMirror" "lastDate" "I", .methodLink RX1 35 yX1_checkPlace, .static yX1_checkPlace, .code yX1_checkPlace cX1_checkPlace 1 none, .methodLink RX1 92 yX1_keptIndex, .static yX1_keptIndex, .code yX1_keptIndex cX1_keptIndex 2 (some .int)] ++ wsX10 ++ (vx_atS RX1 113 "java/lang/IndexOutOfBoundsException" ["java/lang/RuntimeException", "java/lang/Exception"]).filter goodWord)
def wsX1_kindAt : List Cond := .code yX1_kindAt cX1_kindAt 3 (some .int) :: ([.fieldLink RX1 47 "BackMirror$Thing" "kind" "I", .methodLink RX1 107 yX1_thingOn, .instanceMethod yX1_thingOn, .selects RX1 yX1_thingOn yX1_thingOn, .initialized RX1, .code yX1_thingOn cX1_thingOn 3 (some (.object "BackMirror$Thing")), .fieldLink RX1 14 "BackMirror" "live" "[LBackMirror$Thing;", .fieldLink RX1 18 "BackMirror" "kept" "[LBackMirror$Thing;", .methodLink RX1 100 yX1_checkKept, .instanceMethod yX1_checkKept, .selects RX1 yX1_checkKept yX1_checkKept, .code yX1_checkKept cX1_checkKept 2 none, .classLink RX1 111 "java/lang/IndexOutOfBoundsException", .initialized "java/lang/IndexOutOfBoundsException", .fieldLink RX1 21 "BackMirror" "oldestDate" "I", .fieldLink RX1 25 "BackMirror" "lastDate" "I", .methodLink RX1 35 yX1_checkPlace, .static yX1_checkPlace, .code yX1_checkPlace cX1_checkPlace 1 none, .methodLink RX1 92 yX1_keptIndex, .static yX1_keptIndex, .code yX1_keptIndex cX1_keptIndex 2 (some .int)] ++ wsX00 ++ wsX10 ++ (vx_atS RX1 113 "java/lang/IndexOutOfBoundsException" ["java/lang/RuntimeException", "java/lang/Exception"]).filter goodWord)
def wsX1_numberAt : List Cond := .code yX1_numberAt cX1_numberAt 5 (some .int) :: ([.classLink RX1 111 "java/lang/IndexOutOfBoundsException", .initialized "java/lang/IndexOutOfBoundsException", .fieldLink RX1 43 "BackMirror$Thing" "numbers" "[I", .methodLink RX1 107 yX1_thingOn, .instanceMethod yX1_thingOn, .selects RX1 yX1_thingOn yX1_thingOn, .initialized RX1, .code yX1_thingOn cX1_thingOn 3 (some (.object "BackMirror$Thing")), .fieldLink RX1 14 "BackMirror" "live" "[LBackMirror$Thing;", .fieldLink RX1 18 "BackMirror" "kept" "[LBackMirror$Thing;", .methodLink RX1 100 yX1_checkKept, .instanceMethod yX1_checkKept, .selects RX1 yX1_checkKept yX1_checkKept, .code yX1_checkKept cX1_checkKept 2 none, .fieldLink RX1 21 "BackMirror" "oldestDate" "I", .fieldLink RX1 25 "BackMirror" "lastDate" "I", .methodLink RX1 35 yX1_checkPlace, .static yX1_checkPlace, .code yX1_checkPlace cX1_checkPlace 1 none, .methodLink RX1 92 yX1_keptIndex, .static yX1_keptIndex, .code yX1_keptIndex cX1_keptIndex 2 (some .int)] ++ wsX00 ++ wsX10 ++ (vx_atS RX1 113 "java/lang/IndexOutOfBoundsException" ["java/lang/RuntimeException", "java/lang/Exception"]).filter goodWord)
def wsX1_rightsAt : List Cond := .code yX1_rightsAt cX1_rightsAt 3 (some .int) :: ([.fieldLink RX1 62 "BackMirror$Thing" "rights" "I", .methodLink RX1 107 yX1_thingOn, .instanceMethod yX1_thingOn, .selects RX1 yX1_thingOn yX1_thingOn, .initialized RX1, .code yX1_thingOn cX1_thingOn 3 (some (.object "BackMirror$Thing")), .fieldLink RX1 14 "BackMirror" "live" "[LBackMirror$Thing;", .fieldLink RX1 18 "BackMirror" "kept" "[LBackMirror$Thing;", .methodLink RX1 100 yX1_checkKept, .instanceMethod yX1_checkKept, .selects RX1 yX1_checkKept yX1_checkKept, .code yX1_checkKept cX1_checkKept 2 none, .classLink RX1 111 "java/lang/IndexOutOfBoundsException", .initialized "java/lang/IndexOutOfBoundsException", .fieldLink RX1 21 "BackMirror" "oldestDate" "I", .fieldLink RX1 25 "BackMirror" "lastDate" "I", .methodLink RX1 35 yX1_checkPlace, .static yX1_checkPlace, .code yX1_checkPlace cX1_checkPlace 1 none, .methodLink RX1 92 yX1_keptIndex, .static yX1_keptIndex, .code yX1_keptIndex cX1_keptIndex 2 (some .int)] ++ wsX00 ++ wsX10 ++ (vx_atS RX1 113 "java/lang/IndexOutOfBoundsException" ["java/lang/RuntimeException", "java/lang/Exception"]).filter goodWord)
def wsX1_longestCopy : List Cond := .code yX1_longestCopy cX1_longestCopy 5 (some .int) :: ([.methodLink RX1 133 Lib.Math.max.name, .static Lib.Math.max.name, .initialized "java/lang/Math", .code Lib.Math.max.name Lib.Math.max.code 2 (some .int), .methodLink RX1 129 yX1_sharedLength, .static yX1_sharedLength, .initialized RX1, .code yX1_sharedLength cX1_sharedLength 5 (some .int)])
def wsX1_rowTakes : List Cond := .code yX1_rowTakes cX1_rowTakes 5 (some .int) :: ([.methodLink RX1 125 yX1_longestCopy, .static yX1_longestCopy, .initialized RX1, .code yX1_longestCopy cX1_longestCopy 5 (some .int), .methodLink RX1 133 Lib.Math.max.name, .static Lib.Math.max.name, .initialized "java/lang/Math", .code Lib.Math.max.name Lib.Math.max.code 2 (some .int), .methodLink RX1 129 yX1_sharedLength, .static yX1_sharedLength, .code yX1_sharedLength cX1_sharedLength 5 (some .int)])
def wsX1_differenceTakes_r1 : List Cond := [Cond.fieldLink RX1 25 "BackMirror" "lastDate" "I", Cond.fieldLink RX1 18 "BackMirror" "kept" "[LBackMirror$Thing;", Cond.fieldLink RX1 62 "BackMirror$Thing" "rights" "I", Cond.fieldLink RX1 47 "BackMirror$Thing" "kind" "I", Cond.fieldLink RX1 43 "BackMirror$Thing" "numbers" "[I", Cond.methodLink RX1 92 yX1_keptIndex, Cond.static yX1_keptIndex, Cond.initialized RX1, Cond.code yX1_keptIndex cX1_keptIndex 2 (some .int), Cond.methodLink RX1 103 yX0_isLike, Cond.instanceMethod yX0_isLike, Cond.selects RX0 yX0_isLike yX0_isLike, Cond.initialized RX0, Cond.code yX0_isLike cX0_isLike 2 (some .boolean), Cond.fieldLink RX0 7 "BackMirror$Thing" "kind" "I", Cond.fieldLink RX0 13 "BackMirror$Thing" "rights" "I", Cond.fieldLink RX0 16 "BackMirror$Thing" "numbers" "[I", Cond.static yX1_isSameRow, Cond.code yX1_isSameRow cX1_isSameRow 2 (some .boolean), Cond.methodLink RX1 129 yX1_sharedLength, Cond.static yX1_sharedLength, Cond.code yX1_sharedLength cX1_sharedLength 5 (some .int), Cond.methodLink RX1 121 yX1_rowTakes, Cond.static yX1_rowTakes]
def wsX1_differenceTakes_r2 : List Cond := [Cond.code yX1_rowTakes cX1_rowTakes 5 (some .int), Cond.methodLink RX1 125 yX1_longestCopy, Cond.static yX1_longestCopy, Cond.code yX1_longestCopy cX1_longestCopy 5 (some .int), Cond.methodLink RX1 133 Lib.Math.max.name, Cond.static Lib.Math.max.name, Cond.initialized "java/lang/Math", Cond.code Lib.Math.max.name Lib.Math.max.code 2 (some .int)]
def wsX1_differenceTakes : List Cond := .code yX1_differenceTakes cX1_differenceTakes 6 (some .int) :: ((wsX1_differenceTakes_r1 ++ wsX1_differenceTakes_r2) ++ wsX10 ++ wsX00)
def wsX1_sizeAt_r1 : List Cond := [Cond.methodLink RX1 100 yX1_checkKept, Cond.instanceMethod yX1_checkKept, Cond.selects RX1 yX1_checkKept yX1_checkKept, Cond.initialized RX1, Cond.code yX1_checkKept cX1_checkKept 2 none, Cond.classLink RX1 111 "java/lang/IndexOutOfBoundsException", Cond.initialized "java/lang/IndexOutOfBoundsException", Cond.fieldLink RX1 21 "BackMirror" "oldestDate" "I", Cond.fieldLink RX1 25 "BackMirror" "lastDate" "I", Cond.methodLink RX1 35 yX1_checkPlace, Cond.static yX1_checkPlace, Cond.code yX1_checkPlace cX1_checkPlace 1 none, Cond.methodLink RX1 114 yX1_differenceTakes, Cond.instanceMethod yX1_differenceTakes, Cond.selects RX1 yX1_differenceTakes yX1_differenceTakes, Cond.code yX1_differenceTakes cX1_differenceTakes 6 (some .int), Cond.fieldLink RX1 18 "BackMirror" "kept" "[LBackMirror$Thing;", Cond.fieldLink RX1 62 "BackMirror$Thing" "rights" "I", Cond.fieldLink RX1 47 "BackMirror$Thing" "kind" "I", Cond.fieldLink RX1 43 "BackMirror$Thing" "numbers" "[I", Cond.methodLink RX1 92 yX1_keptIndex, Cond.static yX1_keptIndex, Cond.code yX1_keptIndex cX1_keptIndex 2 (some .int), Cond.methodLink RX1 103 yX0_isLike]
def wsX1_sizeAt_r2 : List Cond := [Cond.instanceMethod yX0_isLike, Cond.selects RX0 yX0_isLike yX0_isLike, Cond.initialized RX0, Cond.code yX0_isLike cX0_isLike 2 (some .boolean), Cond.fieldLink RX0 7 "BackMirror$Thing" "kind" "I", Cond.fieldLink RX0 13 "BackMirror$Thing" "rights" "I", Cond.fieldLink RX0 16 "BackMirror$Thing" "numbers" "[I", Cond.static yX1_isSameRow, Cond.code yX1_isSameRow cX1_isSameRow 2 (some .boolean), Cond.methodLink RX1 129 yX1_sharedLength, Cond.static yX1_sharedLength, Cond.code yX1_sharedLength cX1_sharedLength 5 (some .int), Cond.methodLink RX1 121 yX1_rowTakes, Cond.static yX1_rowTakes, Cond.code yX1_rowTakes cX1_rowTakes 5 (some .int), Cond.methodLink RX1 125 yX1_longestCopy, Cond.static yX1_longestCopy, Cond.code yX1_longestCopy cX1_longestCopy 5 (some .int), Cond.methodLink RX1 133 Lib.Math.max.name, Cond.static Lib.Math.max.name, Cond.initialized "java/lang/Math", Cond.code Lib.Math.max.name Lib.Math.max.code 2 (some .int)]
def wsX1_sizeAt : List Cond := .code yX1_sizeAt cX1_sizeAt 3 (some .int) :: ((wsX1_sizeAt_r1 ++ wsX1_sizeAt_r2) ++ wsX10 ++ wsX00 ++ (vx_atS RX1 113 "java/lang/IndexOutOfBoundsException" ["java/lang/RuntimeException", "java/lang/Exception"]).filter goodWord)
def wsX1_size_r1 : List Cond := [Cond.fieldLink RX1 21 "BackMirror" "oldestDate" "I", Cond.fieldLink RX1 25 "BackMirror" "lastDate" "I", Cond.methodLink RX1 114 yX1_differenceTakes, Cond.instanceMethod yX1_differenceTakes, Cond.selects RX1 yX1_differenceTakes yX1_differenceTakes, Cond.initialized RX1, Cond.code yX1_differenceTakes cX1_differenceTakes 6 (some .int), Cond.fieldLink RX1 18 "BackMirror" "kept" "[LBackMirror$Thing;", Cond.fieldLink RX1 62 "BackMirror$Thing" "rights" "I", Cond.fieldLink RX1 47 "BackMirror$Thing" "kind" "I", Cond.fieldLink RX1 43 "BackMirror$Thing" "numbers" "[I", Cond.methodLink RX1 92 yX1_keptIndex, Cond.static yX1_keptIndex, Cond.code yX1_keptIndex cX1_keptIndex 2 (some .int), Cond.methodLink RX1 103 yX0_isLike, Cond.instanceMethod yX0_isLike, Cond.selects RX0 yX0_isLike yX0_isLike, Cond.initialized RX0, Cond.code yX0_isLike cX0_isLike 2 (some .boolean), Cond.fieldLink RX0 7 "BackMirror$Thing" "kind" "I", Cond.fieldLink RX0 13 "BackMirror$Thing" "rights" "I", Cond.fieldLink RX0 16 "BackMirror$Thing" "numbers" "[I", Cond.static yX1_isSameRow, Cond.code yX1_isSameRow cX1_isSameRow 2 (some .boolean)]
def wsX1_size_r2 : List Cond := [Cond.methodLink RX1 129 yX1_sharedLength, Cond.static yX1_sharedLength, Cond.code yX1_sharedLength cX1_sharedLength 5 (some .int), Cond.methodLink RX1 121 yX1_rowTakes, Cond.static yX1_rowTakes, Cond.code yX1_rowTakes cX1_rowTakes 5 (some .int), Cond.methodLink RX1 125 yX1_longestCopy, Cond.static yX1_longestCopy, Cond.code yX1_longestCopy cX1_longestCopy 5 (some .int), Cond.methodLink RX1 133 Lib.Math.max.name, Cond.static Lib.Math.max.name, Cond.initialized "java/lang/Math", Cond.code Lib.Math.max.name Lib.Math.max.code 2 (some .int)]
def wsX1_size : List Cond := .code yX1_size cX1_size 4 (some .int) :: ((wsX1_size_r1 ++ wsX1_size_r2) ++ wsX10 ++ wsX00)
def wsJ9_max_7cf53 : List Cond := .code yJ9_max_7cf53 cJ9_max_7cf53 2 (some .int) :: ([])
def wsL_dice : List Cond := .code yL_dice cL_dice 2 (some .int) :: ([.constant RL 7 (1799596469), .constant RL 8 (2147483647)])
def wsL_act_r1 : List Cond := [Cond.classLink RL 41 "java/lang/IndexOutOfBoundsException", Cond.classLink RL 43 "java/lang/IllegalArgumentException", Cond.classLink RL 45 "java/lang/IllegalStateException", Cond.methodLink RL 9 yX1_makeFile, Cond.instanceMethod yX1_makeFile, Cond.selects RX1 yX1_makeFile yX1_makeFile, Cond.initialized RX1, Cond.code yX1_makeFile cX1_makeFile 2 (some .int), Cond.classLink RX1 7 RX0, Cond.instantiable RX0 3, Cond.initialized RX0, Cond.arrayClass .int, Cond.methodLink RX1 35 yX1_checkPlace, Cond.static yX1_checkPlace, Cond.code yX1_checkPlace cX1_checkPlace 1 none, Cond.classLink RX1 111 "java/lang/IndexOutOfBoundsException", Cond.initialized "java/lang/IndexOutOfBoundsException", Cond.methodLink RX1 11 yX0_init, Cond.instanceMethod yX0_init, Cond.code yX0_init cX0_init 4 none, Cond.methodLink RX0 1 objectInit, Cond.instanceMethod objectInit, Cond.code objectInit ⟨#[0xb1]⟩ 1 none, Cond.fieldLink RX0 7 "BackMirror$Thing" "kind" "I"]
def wsL_act_r2 : List Cond := [Cond.fieldLink RX0 13 "BackMirror$Thing" "rights" "I", Cond.fieldLink RX0 16 "BackMirror$Thing" "numbers" "[I", Cond.methodLink RX1 39 yX1_exchange, Cond.instanceMethod yX1_exchange, Cond.selects RX1 yX1_exchange yX1_exchange, Cond.code yX1_exchange cX1_exchange 4 (some .int), Cond.fieldLink RX1 14 "BackMirror" "live" "[LBackMirror$Thing;", Cond.fieldLink RX1 47 "BackMirror$Thing" "kind" "I", Cond.methodLink RL 15 yX1_makeLink, Cond.instanceMethod yX1_makeLink, Cond.selects RX1 yX1_makeLink yX1_makeLink, Cond.code yX1_makeLink cX1_makeLink 3 (some .int), Cond.methodLink RL 19 yX1_remove, Cond.instanceMethod yX1_remove, Cond.selects RX1 yX1_remove yX1_remove, Cond.code yX1_remove cX1_remove 2 (some .int), Cond.methodLink RL 22 yX1_put, Cond.instanceMethod yX1_put, Cond.selects RX1 yX1_put yX1_put, Cond.code yX1_put cX1_put 6 (some .int), Cond.classLink RX1 50 "java/lang/IllegalStateException", Cond.initialized "java/lang/IllegalStateException", Cond.classLink RX1 57 "java/lang/IllegalArgumentException", Cond.initialized "java/lang/IllegalArgumentException"]
def wsL_act_r3 : List Cond := [Cond.fieldLink RX1 43 "BackMirror$Thing" "numbers" "[I", Cond.fieldLink RX1 62 "BackMirror$Thing" "rights" "I", Cond.methodLink RX1 65 yX1_rowWith, Cond.static yX1_rowWith, Cond.code yX1_rowWith cX1_rowWith 5 (some (.array .int)), Cond.methodLink RL 26 yX1_take, Cond.instanceMethod yX1_take, Cond.selects RX1 yX1_take yX1_take, Cond.code yX1_take cX1_take 4 (some .int), Cond.methodLink RX1 73 yX1_rowWithout, Cond.static yX1_rowWithout, Cond.code yX1_rowWithout cX1_rowWithout 4 (some (.array .int)), Cond.methodLink RL 29 yX1_setRights, Cond.instanceMethod yX1_setRights, Cond.selects RX1 yX1_setRights yX1_setRights, Cond.code yX1_setRights cX1_setRights 4 (some .int), Cond.methodLink RL 32 yX1_run, Cond.instanceMethod yX1_run, Cond.selects RX1 yX1_run yX1_run, Cond.code yX1_run cX1_run 3 (some .int), Cond.fieldLink RX1 25 "BackMirror" "lastDate" "I", Cond.fieldLink RX1 28 "BackMirror" "broken" "Z", Cond.fieldLink RX1 32 "BackMirror" "brokenSteps" "I", Cond.fieldLink RX1 18 "BackMirror" "kept" "[LBackMirror$Thing;"]
def wsL_act_r4 : List Cond := [Cond.methodLink RX1 85 yX1_undoBrokenRun, Cond.instanceMethod yX1_undoBrokenRun, Cond.selects RX1 yX1_undoBrokenRun yX1_undoBrokenRun, Cond.code yX1_undoBrokenRun cX1_undoBrokenRun 2 (some .int), Cond.methodLink RX1 89 yX1_stepsNeeded, Cond.instanceMethod yX1_stepsNeeded, Cond.selects RX1 yX1_stepsNeeded yX1_stepsNeeded, Cond.code yX1_stepsNeeded cX1_stepsNeeded 3 (some .int), Cond.methodLink RX1 92 yX1_keptIndex, Cond.static yX1_keptIndex, Cond.code yX1_keptIndex cX1_keptIndex 2 (some .int), Cond.methodLink RX1 103 yX0_isLike, Cond.instanceMethod yX0_isLike, Cond.selects RX0 yX0_isLike yX0_isLike, Cond.code yX0_isLike cX0_isLike 2 (some .boolean), Cond.static yX1_isSameRow, Cond.code yX1_isSameRow cX1_isSameRow 2 (some .boolean), Cond.methodLink RX1 129 yX1_sharedLength, Cond.static yX1_sharedLength, Cond.code yX1_sharedLength cX1_sharedLength 5 (some .int), Cond.methodLink RL 35 yX1_thin, Cond.instanceMethod yX1_thin, Cond.selects RX1 yX1_thin yX1_thin, Cond.code yX1_thin cX1_thin 2 (some .int)]
def wsL_act_r5 : List Cond := [Cond.fieldLink RX1 21 "BackMirror" "oldestDate" "I", Cond.methodLink RL 38 yX1_restore, Cond.instanceMethod yX1_restore, Cond.selects RX1 yX1_restore yX1_restore, Cond.code yX1_restore cX1_restore 5 (some .int), Cond.methodLink RX1 100 yX1_checkKept, Cond.instanceMethod yX1_checkKept, Cond.selects RX1 yX1_checkKept yX1_checkKept, Cond.code yX1_checkKept cX1_checkKept 2 none]
def wsL_act : List Cond := .codeWith yL_act cL_act 6 (some .int) [(0, 116, 117, 41), (0, 116, 123, 43), (0, 116, 129, 45)] :: ((wsL_act_r1 ++ (wsL_act_r2 ++ (wsL_act_r3 ++ (wsL_act_r4 ++ wsL_act_r5)))) ++ wsX00 ++ wsX10 ++ (vx_atS RX1 113 "java/lang/IndexOutOfBoundsException" ["java/lang/RuntimeException", "java/lang/Exception"]).filter goodWord ++ (vx_atS RX1 54 "java/lang/IllegalStateException" ["java/lang/RuntimeException", "java/lang/Exception"]).filter goodWord ++ (vx_atS RX1 61 "java/lang/IllegalArgumentException" ["java/lang/RuntimeException", "java/lang/Exception"]).filter goodWord)
def wsL_of_r1 : List Cond := [Cond.classLink RL 41 "java/lang/IndexOutOfBoundsException", Cond.methodLink RL 47 yX1_kindAt, Cond.instanceMethod yX1_kindAt, Cond.selects RX1 yX1_kindAt yX1_kindAt, Cond.initialized RX1, Cond.code yX1_kindAt cX1_kindAt 3 (some .int), Cond.fieldLink RX1 47 "BackMirror$Thing" "kind" "I", Cond.methodLink RX1 107 yX1_thingOn, Cond.instanceMethod yX1_thingOn, Cond.selects RX1 yX1_thingOn yX1_thingOn, Cond.code yX1_thingOn cX1_thingOn 3 (some (.object "BackMirror$Thing")), Cond.fieldLink RX1 14 "BackMirror" "live" "[LBackMirror$Thing;", Cond.fieldLink RX1 18 "BackMirror" "kept" "[LBackMirror$Thing;", Cond.methodLink RX1 100 yX1_checkKept, Cond.instanceMethod yX1_checkKept, Cond.selects RX1 yX1_checkKept yX1_checkKept, Cond.code yX1_checkKept cX1_checkKept 2 none, Cond.classLink RX1 111 "java/lang/IndexOutOfBoundsException", Cond.initialized "java/lang/IndexOutOfBoundsException", Cond.fieldLink RX1 21 "BackMirror" "oldestDate" "I", Cond.fieldLink RX1 25 "BackMirror" "lastDate" "I", Cond.methodLink RX1 35 yX1_checkPlace, Cond.static yX1_checkPlace, Cond.code yX1_checkPlace cX1_checkPlace 1 none]
def wsL_of_r2 : List Cond := [Cond.methodLink RX1 92 yX1_keptIndex, Cond.static yX1_keptIndex, Cond.code yX1_keptIndex cX1_keptIndex 2 (some .int), Cond.methodLink RL 50 yX1_numberAt, Cond.instanceMethod yX1_numberAt, Cond.selects RX1 yX1_numberAt yX1_numberAt, Cond.code yX1_numberAt cX1_numberAt 5 (some .int), Cond.fieldLink RX1 43 "BackMirror$Thing" "numbers" "[I", Cond.methodLink RL 53 yX1_rightsAt, Cond.instanceMethod yX1_rightsAt, Cond.selects RX1 yX1_rightsAt yX1_rightsAt, Cond.code yX1_rightsAt cX1_rightsAt 3 (some .int), Cond.fieldLink RX1 62 "BackMirror$Thing" "rights" "I", Cond.methodLink RL 56 yX1_sizeAt, Cond.instanceMethod yX1_sizeAt, Cond.selects RX1 yX1_sizeAt yX1_sizeAt, Cond.code yX1_sizeAt cX1_sizeAt 3 (some .int), Cond.methodLink RX1 114 yX1_differenceTakes, Cond.instanceMethod yX1_differenceTakes, Cond.selects RX1 yX1_differenceTakes yX1_differenceTakes, Cond.code yX1_differenceTakes cX1_differenceTakes 6 (some .int), Cond.methodLink RX1 103 yX0_isLike, Cond.instanceMethod yX0_isLike, Cond.selects RX0 yX0_isLike yX0_isLike]
def wsL_of_r3 : List Cond := [Cond.initialized RX0, Cond.code yX0_isLike cX0_isLike 2 (some .boolean), Cond.fieldLink RX0 7 "BackMirror$Thing" "kind" "I", Cond.fieldLink RX0 13 "BackMirror$Thing" "rights" "I", Cond.fieldLink RX0 16 "BackMirror$Thing" "numbers" "[I", Cond.static yX1_isSameRow, Cond.code yX1_isSameRow cX1_isSameRow 2 (some .boolean), Cond.methodLink RX1 129 yX1_sharedLength, Cond.static yX1_sharedLength, Cond.code yX1_sharedLength cX1_sharedLength 5 (some .int), Cond.methodLink RX1 121 yX1_rowTakes, Cond.static yX1_rowTakes, Cond.code yX1_rowTakes cX1_rowTakes 5 (some .int), Cond.methodLink RX1 125 yX1_longestCopy, Cond.static yX1_longestCopy, Cond.code yX1_longestCopy cX1_longestCopy 5 (some .int), Cond.methodLink RX1 133 Lib.Math.max.name, Cond.static Lib.Math.max.name, Cond.initialized "java/lang/Math", Cond.code Lib.Math.max.name Lib.Math.max.code 2 (some .int)]
def wsL_of : List Cond := .codeWith yL_of cL_of 6 (some .int) [(0, 49, 50, 41)] :: ((wsL_of_r1 ++ (wsL_of_r2 ++ wsL_of_r3)) ++ wsX00 ++ wsX10 ++ (vx_atS RX1 113 "java/lang/IndexOutOfBoundsException" ["java/lang/RuntimeException", "java/lang/Exception"]).filter goodWord)
def wsL_told_r1 : List Cond := [Cond.constantLong RL 59 (3), Cond.constantLong RL 61 (12), Cond.methodLink RL 47 yX1_kindAt, Cond.instanceMethod yX1_kindAt, Cond.selects RX1 yX1_kindAt yX1_kindAt, Cond.initialized RX1, Cond.code yX1_kindAt cX1_kindAt 3 (some .int), Cond.fieldLink RX1 47 "BackMirror$Thing" "kind" "I", Cond.methodLink RX1 107 yX1_thingOn, Cond.instanceMethod yX1_thingOn, Cond.selects RX1 yX1_thingOn yX1_thingOn, Cond.code yX1_thingOn cX1_thingOn 3 (some (.object "BackMirror$Thing")), Cond.fieldLink RX1 14 "BackMirror" "live" "[LBackMirror$Thing;", Cond.fieldLink RX1 18 "BackMirror" "kept" "[LBackMirror$Thing;", Cond.methodLink RX1 100 yX1_checkKept, Cond.instanceMethod yX1_checkKept, Cond.selects RX1 yX1_checkKept yX1_checkKept, Cond.code yX1_checkKept cX1_checkKept 2 none, Cond.classLink RX1 111 "java/lang/IndexOutOfBoundsException", Cond.initialized "java/lang/IndexOutOfBoundsException", Cond.fieldLink RX1 21 "BackMirror" "oldestDate" "I", Cond.fieldLink RX1 25 "BackMirror" "lastDate" "I", Cond.methodLink RX1 35 yX1_checkPlace, Cond.static yX1_checkPlace]
def wsL_told_r2 : List Cond := [Cond.code yX1_checkPlace cX1_checkPlace 1 none, Cond.methodLink RX1 92 yX1_keptIndex, Cond.static yX1_keptIndex, Cond.code yX1_keptIndex cX1_keptIndex 2 (some .int), Cond.methodLink RL 53 yX1_rightsAt, Cond.instanceMethod yX1_rightsAt, Cond.selects RX1 yX1_rightsAt yX1_rightsAt, Cond.code yX1_rightsAt cX1_rightsAt 3 (some .int), Cond.fieldLink RX1 62 "BackMirror$Thing" "rights" "I", Cond.methodLink RL 50 yX1_numberAt, Cond.instanceMethod yX1_numberAt, Cond.selects RX1 yX1_numberAt yX1_numberAt, Cond.code yX1_numberAt cX1_numberAt 5 (some .int), Cond.fieldLink RX1 43 "BackMirror$Thing" "numbers" "[I"]
def wsL_told : List Cond := .code yL_told cL_told 6 (some .long) :: ((wsL_told_r1 ++ wsL_told_r2) ++ wsX00 ++ wsX10 ++ (vx_atS RX1 113 "java/lang/IndexOutOfBoundsException" ["java/lang/RuntimeException", "java/lang/Exception"]).filter goodWord)
def wsL_length_r1 : List Cond := [Cond.methodLink RL 50 yX1_numberAt, Cond.instanceMethod yX1_numberAt, Cond.selects RX1 yX1_numberAt yX1_numberAt, Cond.initialized RX1, Cond.code yX1_numberAt cX1_numberAt 5 (some .int), Cond.classLink RX1 111 "java/lang/IndexOutOfBoundsException", Cond.initialized "java/lang/IndexOutOfBoundsException", Cond.fieldLink RX1 43 "BackMirror$Thing" "numbers" "[I", Cond.methodLink RX1 107 yX1_thingOn, Cond.instanceMethod yX1_thingOn, Cond.selects RX1 yX1_thingOn yX1_thingOn, Cond.code yX1_thingOn cX1_thingOn 3 (some (.object "BackMirror$Thing")), Cond.fieldLink RX1 14 "BackMirror" "live" "[LBackMirror$Thing;", Cond.fieldLink RX1 18 "BackMirror" "kept" "[LBackMirror$Thing;", Cond.methodLink RX1 100 yX1_checkKept, Cond.instanceMethod yX1_checkKept, Cond.selects RX1 yX1_checkKept yX1_checkKept, Cond.code yX1_checkKept cX1_checkKept 2 none, Cond.fieldLink RX1 21 "BackMirror" "oldestDate" "I", Cond.fieldLink RX1 25 "BackMirror" "lastDate" "I", Cond.methodLink RX1 35 yX1_checkPlace, Cond.static yX1_checkPlace, Cond.code yX1_checkPlace cX1_checkPlace 1 none, Cond.methodLink RX1 92 yX1_keptIndex]
def wsL_length_r2 : List Cond := [Cond.static yX1_keptIndex, Cond.code yX1_keptIndex cX1_keptIndex 2 (some .int)]
def wsL_length : List Cond := .code yL_length cL_length 4 (some .int) :: ((wsL_length_r1 ++ wsL_length_r2) ++ wsX00 ++ wsX10 ++ (vx_atS RX1 113 "java/lang/IndexOutOfBoundsException" ["java/lang/RuntimeException", "java/lang/Exception"]).filter goodWord)
def wsL_takes_r1 : List Cond := [Cond.methodLink RL 63 yL_told, Cond.static yL_told, Cond.initialized RL, Cond.code yL_told cL_told 6 (some .long), Cond.constantLong RL 59 (3), Cond.constantLong RL 61 (12), Cond.methodLink RL 47 yX1_kindAt, Cond.instanceMethod yX1_kindAt, Cond.selects RX1 yX1_kindAt yX1_kindAt, Cond.initialized RX1, Cond.code yX1_kindAt cX1_kindAt 3 (some .int), Cond.fieldLink RX1 47 "BackMirror$Thing" "kind" "I", Cond.methodLink RX1 107 yX1_thingOn, Cond.instanceMethod yX1_thingOn, Cond.selects RX1 yX1_thingOn yX1_thingOn, Cond.code yX1_thingOn cX1_thingOn 3 (some (.object "BackMirror$Thing")), Cond.fieldLink RX1 14 "BackMirror" "live" "[LBackMirror$Thing;", Cond.fieldLink RX1 18 "BackMirror" "kept" "[LBackMirror$Thing;", Cond.methodLink RX1 100 yX1_checkKept, Cond.instanceMethod yX1_checkKept, Cond.selects RX1 yX1_checkKept yX1_checkKept, Cond.code yX1_checkKept cX1_checkKept 2 none, Cond.classLink RX1 111 "java/lang/IndexOutOfBoundsException", Cond.initialized "java/lang/IndexOutOfBoundsException"]
def wsL_takes_r2 : List Cond := [Cond.fieldLink RX1 21 "BackMirror" "oldestDate" "I", Cond.fieldLink RX1 25 "BackMirror" "lastDate" "I", Cond.methodLink RX1 35 yX1_checkPlace, Cond.static yX1_checkPlace, Cond.code yX1_checkPlace cX1_checkPlace 1 none, Cond.methodLink RX1 92 yX1_keptIndex, Cond.static yX1_keptIndex, Cond.code yX1_keptIndex cX1_keptIndex 2 (some .int), Cond.methodLink RL 53 yX1_rightsAt, Cond.instanceMethod yX1_rightsAt, Cond.selects RX1 yX1_rightsAt yX1_rightsAt, Cond.code yX1_rightsAt cX1_rightsAt 3 (some .int), Cond.fieldLink RX1 62 "BackMirror$Thing" "rights" "I", Cond.methodLink RL 50 yX1_numberAt, Cond.instanceMethod yX1_numberAt, Cond.selects RX1 yX1_numberAt yX1_numberAt, Cond.code yX1_numberAt cX1_numberAt 5 (some .int), Cond.fieldLink RX1 43 "BackMirror$Thing" "numbers" "[I"]
def wsL_takes : List Cond := .code yL_takes cL_takes 3 none :: ((wsL_takes_r1 ++ wsL_takes_r2) ++ wsX00 ++ wsX10 ++ (vx_atS RX1 113 "java/lang/IndexOutOfBoundsException" ["java/lang/RuntimeException", "java/lang/Exception"]).filter goodWord)
def wsL_isHead_r1 : List Cond := [Cond.methodLink RL 63 yL_told, Cond.static yL_told, Cond.initialized RL, Cond.code yL_told cL_told 6 (some .long), Cond.constantLong RL 59 (3), Cond.constantLong RL 61 (12), Cond.methodLink RL 47 yX1_kindAt, Cond.instanceMethod yX1_kindAt, Cond.selects RX1 yX1_kindAt yX1_kindAt, Cond.initialized RX1, Cond.code yX1_kindAt cX1_kindAt 3 (some .int), Cond.fieldLink RX1 47 "BackMirror$Thing" "kind" "I", Cond.methodLink RX1 107 yX1_thingOn, Cond.instanceMethod yX1_thingOn, Cond.selects RX1 yX1_thingOn yX1_thingOn, Cond.code yX1_thingOn cX1_thingOn 3 (some (.object "BackMirror$Thing")), Cond.fieldLink RX1 14 "BackMirror" "live" "[LBackMirror$Thing;", Cond.fieldLink RX1 18 "BackMirror" "kept" "[LBackMirror$Thing;", Cond.methodLink RX1 100 yX1_checkKept, Cond.instanceMethod yX1_checkKept, Cond.selects RX1 yX1_checkKept yX1_checkKept, Cond.code yX1_checkKept cX1_checkKept 2 none, Cond.classLink RX1 111 "java/lang/IndexOutOfBoundsException", Cond.initialized "java/lang/IndexOutOfBoundsException"]
def wsL_isHead_r2 : List Cond := [Cond.fieldLink RX1 21 "BackMirror" "oldestDate" "I", Cond.fieldLink RX1 25 "BackMirror" "lastDate" "I", Cond.methodLink RX1 35 yX1_checkPlace, Cond.static yX1_checkPlace, Cond.code yX1_checkPlace cX1_checkPlace 1 none, Cond.methodLink RX1 92 yX1_keptIndex, Cond.static yX1_keptIndex, Cond.code yX1_keptIndex cX1_keptIndex 2 (some .int), Cond.methodLink RL 53 yX1_rightsAt, Cond.instanceMethod yX1_rightsAt, Cond.selects RX1 yX1_rightsAt yX1_rightsAt, Cond.code yX1_rightsAt cX1_rightsAt 3 (some .int), Cond.fieldLink RX1 62 "BackMirror$Thing" "rights" "I", Cond.methodLink RL 50 yX1_numberAt, Cond.instanceMethod yX1_numberAt, Cond.selects RX1 yX1_numberAt yX1_numberAt, Cond.code yX1_numberAt cX1_numberAt 5 (some .int), Cond.fieldLink RX1 43 "BackMirror$Thing" "numbers" "[I", Cond.methodLink RL 69 yX1_last, Cond.instanceMethod yX1_last, Cond.selects RX1 yX1_last yX1_last, Cond.code yX1_last cX1_last 1 (some .int), Cond.methodLink RL 73 yX1_oldest, Cond.instanceMethod yX1_oldest]
def wsL_isHead_r3 : List Cond := [Cond.selects RX1 yX1_oldest yX1_oldest, Cond.code yX1_oldest cX1_oldest 1 (some .int), Cond.methodLink RL 76 yX1_isBroken, Cond.instanceMethod yX1_isBroken, Cond.selects RX1 yX1_isBroken yX1_isBroken, Cond.code yX1_isBroken cX1_isBroken 1 (some .boolean), Cond.fieldLink RX1 28 "BackMirror" "broken" "Z", Cond.methodLink RL 80 yX1_needs, Cond.instanceMethod yX1_needs, Cond.selects RX1 yX1_needs yX1_needs, Cond.code yX1_needs cX1_needs 1 (some .int), Cond.methodLink RX1 89 yX1_stepsNeeded, Cond.instanceMethod yX1_stepsNeeded, Cond.selects RX1 yX1_stepsNeeded yX1_stepsNeeded, Cond.code yX1_stepsNeeded cX1_stepsNeeded 3 (some .int), Cond.methodLink RX1 103 yX0_isLike, Cond.instanceMethod yX0_isLike, Cond.selects RX0 yX0_isLike yX0_isLike, Cond.initialized RX0, Cond.code yX0_isLike cX0_isLike 2 (some .boolean), Cond.fieldLink RX0 7 "BackMirror$Thing" "kind" "I", Cond.fieldLink RX0 13 "BackMirror$Thing" "rights" "I", Cond.fieldLink RX0 16 "BackMirror$Thing" "numbers" "[I", Cond.static yX1_isSameRow]
def wsL_isHead_r4 : List Cond := [Cond.code yX1_isSameRow cX1_isSameRow 2 (some .boolean), Cond.methodLink RX1 129 yX1_sharedLength, Cond.static yX1_sharedLength, Cond.code yX1_sharedLength cX1_sharedLength 5 (some .int)]
def wsL_isHead : List Cond := .code yL_isHead cL_isHead 5 (some .boolean) :: ((wsL_isHead_r1 ++ (wsL_isHead_r2 ++ (wsL_isHead_r3 ++ wsL_isHead_r4))) ++ wsX00 ++ wsX10 ++ (vx_atS RX1 113 "java/lang/IndexOutOfBoundsException" ["java/lang/RuntimeException", "java/lang/Exception"]).filter goodWord)
def wsL_isSize_r1 : List Cond := [Cond.methodLink RL 56 yX1_sizeAt, Cond.instanceMethod yX1_sizeAt, Cond.selects RX1 yX1_sizeAt yX1_sizeAt, Cond.initialized RX1, Cond.code yX1_sizeAt cX1_sizeAt 3 (some .int), Cond.methodLink RX1 100 yX1_checkKept, Cond.instanceMethod yX1_checkKept, Cond.selects RX1 yX1_checkKept yX1_checkKept, Cond.code yX1_checkKept cX1_checkKept 2 none, Cond.classLink RX1 111 "java/lang/IndexOutOfBoundsException", Cond.initialized "java/lang/IndexOutOfBoundsException", Cond.fieldLink RX1 21 "BackMirror" "oldestDate" "I", Cond.fieldLink RX1 25 "BackMirror" "lastDate" "I", Cond.methodLink RX1 35 yX1_checkPlace, Cond.static yX1_checkPlace, Cond.code yX1_checkPlace cX1_checkPlace 1 none, Cond.methodLink RX1 114 yX1_differenceTakes, Cond.instanceMethod yX1_differenceTakes, Cond.selects RX1 yX1_differenceTakes yX1_differenceTakes, Cond.code yX1_differenceTakes cX1_differenceTakes 6 (some .int), Cond.fieldLink RX1 18 "BackMirror" "kept" "[LBackMirror$Thing;", Cond.fieldLink RX1 62 "BackMirror$Thing" "rights" "I", Cond.fieldLink RX1 47 "BackMirror$Thing" "kind" "I", Cond.fieldLink RX1 43 "BackMirror$Thing" "numbers" "[I"]
def wsL_isSize_r2 : List Cond := [Cond.methodLink RX1 92 yX1_keptIndex, Cond.static yX1_keptIndex, Cond.code yX1_keptIndex cX1_keptIndex 2 (some .int), Cond.methodLink RX1 103 yX0_isLike, Cond.instanceMethod yX0_isLike, Cond.selects RX0 yX0_isLike yX0_isLike, Cond.initialized RX0, Cond.code yX0_isLike cX0_isLike 2 (some .boolean), Cond.fieldLink RX0 7 "BackMirror$Thing" "kind" "I", Cond.fieldLink RX0 13 "BackMirror$Thing" "rights" "I", Cond.fieldLink RX0 16 "BackMirror$Thing" "numbers" "[I", Cond.static yX1_isSameRow, Cond.code yX1_isSameRow cX1_isSameRow 2 (some .boolean), Cond.methodLink RX1 129 yX1_sharedLength, Cond.static yX1_sharedLength, Cond.code yX1_sharedLength cX1_sharedLength 5 (some .int), Cond.methodLink RX1 121 yX1_rowTakes, Cond.static yX1_rowTakes, Cond.code yX1_rowTakes cX1_rowTakes 5 (some .int), Cond.methodLink RX1 125 yX1_longestCopy, Cond.static yX1_longestCopy, Cond.code yX1_longestCopy cX1_longestCopy 5 (some .int), Cond.methodLink RX1 133 Lib.Math.max.name, Cond.static Lib.Math.max.name]
def wsL_isSize_r3 : List Cond := [Cond.initialized "java/lang/Math", Cond.code Lib.Math.max.name Lib.Math.max.code 2 (some .int), Cond.methodLink RL 53 yX1_rightsAt, Cond.instanceMethod yX1_rightsAt, Cond.selects RX1 yX1_rightsAt yX1_rightsAt, Cond.code yX1_rightsAt cX1_rightsAt 3 (some .int), Cond.methodLink RX1 107 yX1_thingOn, Cond.instanceMethod yX1_thingOn, Cond.selects RX1 yX1_thingOn yX1_thingOn, Cond.code yX1_thingOn cX1_thingOn 3 (some (.object "BackMirror$Thing")), Cond.fieldLink RX1 14 "BackMirror" "live" "[LBackMirror$Thing;", Cond.methodLink RL 83 yL_length, Cond.static yL_length, Cond.initialized RL, Cond.code yL_length cL_length 4 (some .int), Cond.methodLink RL 50 yX1_numberAt, Cond.instanceMethod yX1_numberAt, Cond.selects RX1 yX1_numberAt yX1_numberAt, Cond.code yX1_numberAt cX1_numberAt 5 (some .int), Cond.methodLink RL 47 yX1_kindAt, Cond.instanceMethod yX1_kindAt, Cond.selects RX1 yX1_kindAt yX1_kindAt, Cond.code yX1_kindAt cX1_kindAt 3 (some .int)]
def wsL_isSize : List Cond := .code yL_isSize cL_isSize 12 (some .boolean) :: ((wsL_isSize_r1 ++ (wsL_isSize_r2 ++ wsL_isSize_r3)) ++ wsX10 ++ wsX00 ++ (vx_atS RX1 113 "java/lang/IndexOutOfBoundsException" ["java/lang/RuntimeException", "java/lang/Exception"]).filter goodWord)
def wsL_isDate_r1 : List Cond := [Cond.methodLink RL 47 yX1_kindAt, Cond.instanceMethod yX1_kindAt, Cond.selects RX1 yX1_kindAt yX1_kindAt, Cond.initialized RX1, Cond.code yX1_kindAt cX1_kindAt 3 (some .int), Cond.fieldLink RX1 47 "BackMirror$Thing" "kind" "I", Cond.methodLink RX1 107 yX1_thingOn, Cond.instanceMethod yX1_thingOn, Cond.selects RX1 yX1_thingOn yX1_thingOn, Cond.code yX1_thingOn cX1_thingOn 3 (some (.object "BackMirror$Thing")), Cond.fieldLink RX1 14 "BackMirror" "live" "[LBackMirror$Thing;", Cond.fieldLink RX1 18 "BackMirror" "kept" "[LBackMirror$Thing;", Cond.methodLink RX1 100 yX1_checkKept, Cond.instanceMethod yX1_checkKept, Cond.selects RX1 yX1_checkKept yX1_checkKept, Cond.code yX1_checkKept cX1_checkKept 2 none, Cond.classLink RX1 111 "java/lang/IndexOutOfBoundsException", Cond.initialized "java/lang/IndexOutOfBoundsException", Cond.fieldLink RX1 21 "BackMirror" "oldestDate" "I", Cond.fieldLink RX1 25 "BackMirror" "lastDate" "I", Cond.methodLink RX1 35 yX1_checkPlace, Cond.static yX1_checkPlace, Cond.code yX1_checkPlace cX1_checkPlace 1 none, Cond.methodLink RX1 92 yX1_keptIndex]
def wsL_isDate_r2 : List Cond := [Cond.static yX1_keptIndex, Cond.code yX1_keptIndex cX1_keptIndex 2 (some .int), Cond.methodLink RL 63 yL_told, Cond.static yL_told, Cond.initialized RL, Cond.code yL_told cL_told 6 (some .long), Cond.constantLong RL 59 (3), Cond.constantLong RL 61 (12), Cond.methodLink RL 53 yX1_rightsAt, Cond.instanceMethod yX1_rightsAt, Cond.selects RX1 yX1_rightsAt yX1_rightsAt, Cond.code yX1_rightsAt cX1_rightsAt 3 (some .int), Cond.fieldLink RX1 62 "BackMirror$Thing" "rights" "I", Cond.methodLink RL 50 yX1_numberAt, Cond.instanceMethod yX1_numberAt, Cond.selects RX1 yX1_numberAt yX1_numberAt, Cond.code yX1_numberAt cX1_numberAt 5 (some .int), Cond.fieldLink RX1 43 "BackMirror$Thing" "numbers" "[I", Cond.methodLink RL 83 yL_length, Cond.static yL_length, Cond.code yL_length cL_length 4 (some .int), Cond.methodLink RL 56 yX1_sizeAt, Cond.instanceMethod yX1_sizeAt, Cond.selects RX1 yX1_sizeAt yX1_sizeAt]
def wsL_isDate_r3 : List Cond := [Cond.code yX1_sizeAt cX1_sizeAt 3 (some .int), Cond.methodLink RX1 114 yX1_differenceTakes, Cond.instanceMethod yX1_differenceTakes, Cond.selects RX1 yX1_differenceTakes yX1_differenceTakes, Cond.code yX1_differenceTakes cX1_differenceTakes 6 (some .int), Cond.methodLink RX1 103 yX0_isLike, Cond.instanceMethod yX0_isLike, Cond.selects RX0 yX0_isLike yX0_isLike, Cond.initialized RX0, Cond.code yX0_isLike cX0_isLike 2 (some .boolean), Cond.fieldLink RX0 7 "BackMirror$Thing" "kind" "I", Cond.fieldLink RX0 13 "BackMirror$Thing" "rights" "I", Cond.fieldLink RX0 16 "BackMirror$Thing" "numbers" "[I", Cond.static yX1_isSameRow, Cond.code yX1_isSameRow cX1_isSameRow 2 (some .boolean), Cond.methodLink RX1 129 yX1_sharedLength, Cond.static yX1_sharedLength, Cond.code yX1_sharedLength cX1_sharedLength 5 (some .int), Cond.methodLink RX1 121 yX1_rowTakes, Cond.static yX1_rowTakes, Cond.code yX1_rowTakes cX1_rowTakes 5 (some .int), Cond.methodLink RX1 125 yX1_longestCopy, Cond.static yX1_longestCopy, Cond.code yX1_longestCopy cX1_longestCopy 5 (some .int)]
def wsL_isDate_r4 : List Cond := [Cond.methodLink RX1 133 Lib.Math.max.name, Cond.static Lib.Math.max.name, Cond.initialized "java/lang/Math", Cond.code Lib.Math.max.name Lib.Math.max.code 2 (some .int), Cond.methodLink RL 87 yL_isSize, Cond.static yL_isSize, Cond.code yL_isSize cL_isSize 12 (some .boolean)]
def wsL_isDate : List Cond := .code yL_isDate cL_isDate 7 (some .boolean) :: ((wsL_isDate_r1 ++ (wsL_isDate_r2 ++ (wsL_isDate_r3 ++ wsL_isDate_r4))) ++ wsX00 ++ wsX10 ++ (vx_atS RX1 113 "java/lang/IndexOutOfBoundsException" ["java/lang/RuntimeException", "java/lang/Exception"]).filter goodWord)
def wsL_isSum_r1 : List Cond := [Cond.methodLink RL 73 yX1_oldest, Cond.instanceMethod yX1_oldest, Cond.selects RX1 yX1_oldest yX1_oldest, Cond.initialized RX1, Cond.code yX1_oldest cX1_oldest 1 (some .int), Cond.fieldLink RX1 21 "BackMirror" "oldestDate" "I", Cond.methodLink RL 69 yX1_last, Cond.instanceMethod yX1_last, Cond.selects RX1 yX1_last yX1_last, Cond.code yX1_last cX1_last 1 (some .int), Cond.fieldLink RX1 25 "BackMirror" "lastDate" "I", Cond.methodLink RL 56 yX1_sizeAt, Cond.instanceMethod yX1_sizeAt, Cond.selects RX1 yX1_sizeAt yX1_sizeAt, Cond.code yX1_sizeAt cX1_sizeAt 3 (some .int), Cond.methodLink RX1 100 yX1_checkKept, Cond.instanceMethod yX1_checkKept, Cond.selects RX1 yX1_checkKept yX1_checkKept, Cond.code yX1_checkKept cX1_checkKept 2 none, Cond.classLink RX1 111 "java/lang/IndexOutOfBoundsException", Cond.initialized "java/lang/IndexOutOfBoundsException", Cond.methodLink RX1 35 yX1_checkPlace, Cond.static yX1_checkPlace, Cond.code yX1_checkPlace cX1_checkPlace 1 none]
def wsL_isSum_r2 : List Cond := [Cond.methodLink RX1 114 yX1_differenceTakes, Cond.instanceMethod yX1_differenceTakes, Cond.selects RX1 yX1_differenceTakes yX1_differenceTakes, Cond.code yX1_differenceTakes cX1_differenceTakes 6 (some .int), Cond.fieldLink RX1 18 "BackMirror" "kept" "[LBackMirror$Thing;", Cond.fieldLink RX1 62 "BackMirror$Thing" "rights" "I", Cond.fieldLink RX1 47 "BackMirror$Thing" "kind" "I", Cond.fieldLink RX1 43 "BackMirror$Thing" "numbers" "[I", Cond.methodLink RX1 92 yX1_keptIndex, Cond.static yX1_keptIndex, Cond.code yX1_keptIndex cX1_keptIndex 2 (some .int), Cond.methodLink RX1 103 yX0_isLike, Cond.instanceMethod yX0_isLike, Cond.selects RX0 yX0_isLike yX0_isLike, Cond.initialized RX0, Cond.code yX0_isLike cX0_isLike 2 (some .boolean), Cond.fieldLink RX0 7 "BackMirror$Thing" "kind" "I", Cond.fieldLink RX0 13 "BackMirror$Thing" "rights" "I", Cond.fieldLink RX0 16 "BackMirror$Thing" "numbers" "[I", Cond.static yX1_isSameRow, Cond.code yX1_isSameRow cX1_isSameRow 2 (some .boolean), Cond.methodLink RX1 129 yX1_sharedLength, Cond.static yX1_sharedLength, Cond.code yX1_sharedLength cX1_sharedLength 5 (some .int)]
def wsL_isSum_r3 : List Cond := [Cond.methodLink RX1 121 yX1_rowTakes, Cond.static yX1_rowTakes, Cond.code yX1_rowTakes cX1_rowTakes 5 (some .int), Cond.methodLink RX1 125 yX1_longestCopy, Cond.static yX1_longestCopy, Cond.code yX1_longestCopy cX1_longestCopy 5 (some .int), Cond.methodLink RX1 133 Lib.Math.max.name, Cond.static Lib.Math.max.name, Cond.initialized "java/lang/Math", Cond.code Lib.Math.max.name Lib.Math.max.code 2 (some .int), Cond.methodLink RL 91 yX1_size, Cond.instanceMethod yX1_size, Cond.selects RX1 yX1_size yX1_size, Cond.code yX1_size cX1_size 4 (some .int)]
def wsL_isSum : List Cond := .code yL_isSum cL_isSum 3 (some .boolean) :: ((wsL_isSum_r1 ++ (wsL_isSum_r2 ++ wsL_isSum_r3)) ++ wsX10 ++ wsX00 ++ (vx_atS RX1 113 "java/lang/IndexOutOfBoundsException" ["java/lang/RuntimeException", "java/lang/Exception"]).filter goodWord)
def wsL_isOnly_r1 : List Cond := [Cond.methodLink RL 63 yL_told, Cond.static yL_told, Cond.initialized RL, Cond.code yL_told cL_told 6 (some .long), Cond.constantLong RL 59 (3), Cond.constantLong RL 61 (12), Cond.methodLink RL 47 yX1_kindAt, Cond.instanceMethod yX1_kindAt, Cond.selects RX1 yX1_kindAt yX1_kindAt, Cond.initialized RX1, Cond.code yX1_kindAt cX1_kindAt 3 (some .int), Cond.fieldLink RX1 47 "BackMirror$Thing" "kind" "I", Cond.methodLink RX1 107 yX1_thingOn, Cond.instanceMethod yX1_thingOn, Cond.selects RX1 yX1_thingOn yX1_thingOn, Cond.code yX1_thingOn cX1_thingOn 3 (some (.object "BackMirror$Thing")), Cond.fieldLink RX1 14 "BackMirror" "live" "[LBackMirror$Thing;", Cond.fieldLink RX1 18 "BackMirror" "kept" "[LBackMirror$Thing;", Cond.methodLink RX1 100 yX1_checkKept, Cond.instanceMethod yX1_checkKept, Cond.selects RX1 yX1_checkKept yX1_checkKept, Cond.code yX1_checkKept cX1_checkKept 2 none, Cond.classLink RX1 111 "java/lang/IndexOutOfBoundsException", Cond.initialized "java/lang/IndexOutOfBoundsException"]
def wsL_isOnly_r2 : List Cond := [Cond.fieldLink RX1 21 "BackMirror" "oldestDate" "I", Cond.fieldLink RX1 25 "BackMirror" "lastDate" "I", Cond.methodLink RX1 35 yX1_checkPlace, Cond.static yX1_checkPlace, Cond.code yX1_checkPlace cX1_checkPlace 1 none, Cond.methodLink RX1 92 yX1_keptIndex, Cond.static yX1_keptIndex, Cond.code yX1_keptIndex cX1_keptIndex 2 (some .int), Cond.methodLink RL 53 yX1_rightsAt, Cond.instanceMethod yX1_rightsAt, Cond.selects RX1 yX1_rightsAt yX1_rightsAt, Cond.code yX1_rightsAt cX1_rightsAt 3 (some .int), Cond.fieldLink RX1 62 "BackMirror$Thing" "rights" "I", Cond.methodLink RL 50 yX1_numberAt, Cond.instanceMethod yX1_numberAt, Cond.selects RX1 yX1_numberAt yX1_numberAt, Cond.code yX1_numberAt cX1_numberAt 5 (some .int), Cond.fieldLink RX1 43 "BackMirror$Thing" "numbers" "[I"]
def wsL_isOnly : List Cond := .code yL_isOnly cL_isOnly 5 (some .boolean) :: ((wsL_isOnly_r1 ++ wsL_isOnly_r2) ++ wsX00 ++ wsX10 ++ (vx_atS RX1 113 "java/lang/IndexOutOfBoundsException" ["java/lang/RuntimeException", "java/lang/Exception"]).filter goodWord)
def wsL_all_r1 : List Cond := [Cond.constantLong RL 94 (31), Cond.constantLong RL 96 (1009), Cond.constantLong RL 98 (65537), Cond.constantLong RL 100 (7), Cond.constantLong RL 102 (1000003), Cond.methodLink RL 69 yX1_last, Cond.instanceMethod yX1_last, Cond.selects RX1 yX1_last yX1_last, Cond.initialized RX1, Cond.code yX1_last cX1_last 1 (some .int), Cond.fieldLink RX1 25 "BackMirror" "lastDate" "I", Cond.methodLink RL 73 yX1_oldest, Cond.instanceMethod yX1_oldest, Cond.selects RX1 yX1_oldest yX1_oldest, Cond.code yX1_oldest cX1_oldest 1 (some .int), Cond.fieldLink RX1 21 "BackMirror" "oldestDate" "I", Cond.methodLink RL 80 yX1_needs, Cond.instanceMethod yX1_needs, Cond.selects RX1 yX1_needs yX1_needs, Cond.code yX1_needs cX1_needs 1 (some .int), Cond.methodLink RX1 89 yX1_stepsNeeded, Cond.instanceMethod yX1_stepsNeeded, Cond.selects RX1 yX1_stepsNeeded yX1_stepsNeeded, Cond.code yX1_stepsNeeded cX1_stepsNeeded 3 (some .int)]
def wsL_all_r2 : List Cond := [Cond.fieldLink RX1 14 "BackMirror" "live" "[LBackMirror$Thing;", Cond.fieldLink RX1 18 "BackMirror" "kept" "[LBackMirror$Thing;", Cond.methodLink RX1 92 yX1_keptIndex, Cond.static yX1_keptIndex, Cond.code yX1_keptIndex cX1_keptIndex 2 (some .int), Cond.methodLink RX1 103 yX0_isLike, Cond.instanceMethod yX0_isLike, Cond.selects RX0 yX0_isLike yX0_isLike, Cond.initialized RX0, Cond.code yX0_isLike cX0_isLike 2 (some .boolean), Cond.fieldLink RX0 7 "BackMirror$Thing" "kind" "I", Cond.fieldLink RX0 13 "BackMirror$Thing" "rights" "I", Cond.fieldLink RX0 16 "BackMirror$Thing" "numbers" "[I", Cond.static yX1_isSameRow, Cond.code yX1_isSameRow cX1_isSameRow 2 (some .boolean), Cond.methodLink RX1 129 yX1_sharedLength, Cond.static yX1_sharedLength, Cond.code yX1_sharedLength cX1_sharedLength 5 (some .int), Cond.methodLink RL 91 yX1_size, Cond.instanceMethod yX1_size, Cond.selects RX1 yX1_size yX1_size, Cond.code yX1_size cX1_size 4 (some .int), Cond.methodLink RX1 114 yX1_differenceTakes, Cond.instanceMethod yX1_differenceTakes]
def wsL_all_r3 : List Cond := [Cond.selects RX1 yX1_differenceTakes yX1_differenceTakes, Cond.code yX1_differenceTakes cX1_differenceTakes 6 (some .int), Cond.fieldLink RX1 62 "BackMirror$Thing" "rights" "I", Cond.fieldLink RX1 47 "BackMirror$Thing" "kind" "I", Cond.fieldLink RX1 43 "BackMirror$Thing" "numbers" "[I", Cond.methodLink RX1 121 yX1_rowTakes, Cond.static yX1_rowTakes, Cond.code yX1_rowTakes cX1_rowTakes 5 (some .int), Cond.methodLink RX1 125 yX1_longestCopy, Cond.static yX1_longestCopy, Cond.code yX1_longestCopy cX1_longestCopy 5 (some .int), Cond.methodLink RX1 133 Lib.Math.max.name, Cond.static Lib.Math.max.name, Cond.initialized "java/lang/Math", Cond.code Lib.Math.max.name Lib.Math.max.code 2 (some .int), Cond.methodLink RL 76 yX1_isBroken, Cond.instanceMethod yX1_isBroken, Cond.selects RX1 yX1_isBroken yX1_isBroken, Cond.code yX1_isBroken cX1_isBroken 1 (some .boolean), Cond.fieldLink RX1 28 "BackMirror" "broken" "Z", Cond.methodLink RL 63 yL_told, Cond.static yL_told, Cond.initialized RL, Cond.code yL_told cL_told 6 (some .long)]
def wsL_all_r4 : List Cond := [Cond.constantLong RL 59 (3), Cond.constantLong RL 61 (12), Cond.methodLink RL 47 yX1_kindAt, Cond.instanceMethod yX1_kindAt, Cond.selects RX1 yX1_kindAt yX1_kindAt, Cond.code yX1_kindAt cX1_kindAt 3 (some .int), Cond.methodLink RX1 107 yX1_thingOn, Cond.instanceMethod yX1_thingOn, Cond.selects RX1 yX1_thingOn yX1_thingOn, Cond.code yX1_thingOn cX1_thingOn 3 (some (.object "BackMirror$Thing")), Cond.methodLink RX1 100 yX1_checkKept, Cond.instanceMethod yX1_checkKept, Cond.selects RX1 yX1_checkKept yX1_checkKept, Cond.code yX1_checkKept cX1_checkKept 2 none, Cond.classLink RX1 111 "java/lang/IndexOutOfBoundsException", Cond.initialized "java/lang/IndexOutOfBoundsException", Cond.methodLink RX1 35 yX1_checkPlace, Cond.static yX1_checkPlace, Cond.code yX1_checkPlace cX1_checkPlace 1 none, Cond.methodLink RL 53 yX1_rightsAt, Cond.instanceMethod yX1_rightsAt, Cond.selects RX1 yX1_rightsAt yX1_rightsAt, Cond.code yX1_rightsAt cX1_rightsAt 3 (some .int), Cond.methodLink RL 50 yX1_numberAt]
def wsL_all_r5 : List Cond := [Cond.instanceMethod yX1_numberAt, Cond.selects RX1 yX1_numberAt yX1_numberAt, Cond.code yX1_numberAt cX1_numberAt 5 (some .int)]
def wsL_all : List Cond := .code yL_all cL_all 4 (some .long) :: ((wsL_all_r1 ++ (wsL_all_r2 ++ (wsL_all_r3 ++ (wsL_all_r4 ++ wsL_all_r5)))) ++ wsX10 ++ wsX00 ++ (vx_atS RX1 113 "java/lang/IndexOutOfBoundsException" ["java/lang/RuntimeException", "java/lang/Exception"]).filter goodWord)
def wsL_isRefused_r1 : List Cond := [Cond.methodLink RL 104 yL_all, Cond.static yL_all, Cond.initialized RL, Cond.code yL_all cL_all 4 (some .long), Cond.constantLong RL 94 (31), Cond.constantLong RL 96 (1009), Cond.constantLong RL 98 (65537), Cond.constantLong RL 100 (7), Cond.constantLong RL 102 (1000003), Cond.methodLink RL 69 yX1_last, Cond.instanceMethod yX1_last, Cond.selects RX1 yX1_last yX1_last, Cond.initialized RX1, Cond.code yX1_last cX1_last 1 (some .int), Cond.fieldLink RX1 25 "BackMirror" "lastDate" "I", Cond.methodLink RL 73 yX1_oldest, Cond.instanceMethod yX1_oldest, Cond.selects RX1 yX1_oldest yX1_oldest, Cond.code yX1_oldest cX1_oldest 1 (some .int), Cond.fieldLink RX1 21 "BackMirror" "oldestDate" "I", Cond.methodLink RL 80 yX1_needs, Cond.instanceMethod yX1_needs, Cond.selects RX1 yX1_needs yX1_needs, Cond.code yX1_needs cX1_needs 1 (some .int)]
def wsL_isRefused_r2 : List Cond := [Cond.methodLink RX1 89 yX1_stepsNeeded, Cond.instanceMethod yX1_stepsNeeded, Cond.selects RX1 yX1_stepsNeeded yX1_stepsNeeded, Cond.code yX1_stepsNeeded cX1_stepsNeeded 3 (some .int), Cond.fieldLink RX1 14 "BackMirror" "live" "[LBackMirror$Thing;", Cond.fieldLink RX1 18 "BackMirror" "kept" "[LBackMirror$Thing;", Cond.methodLink RX1 92 yX1_keptIndex, Cond.static yX1_keptIndex, Cond.code yX1_keptIndex cX1_keptIndex 2 (some .int), Cond.methodLink RX1 103 yX0_isLike, Cond.instanceMethod yX0_isLike, Cond.selects RX0 yX0_isLike yX0_isLike, Cond.initialized RX0, Cond.code yX0_isLike cX0_isLike 2 (some .boolean), Cond.fieldLink RX0 7 "BackMirror$Thing" "kind" "I", Cond.fieldLink RX0 13 "BackMirror$Thing" "rights" "I", Cond.fieldLink RX0 16 "BackMirror$Thing" "numbers" "[I", Cond.static yX1_isSameRow, Cond.code yX1_isSameRow cX1_isSameRow 2 (some .boolean), Cond.methodLink RX1 129 yX1_sharedLength, Cond.static yX1_sharedLength, Cond.code yX1_sharedLength cX1_sharedLength 5 (some .int), Cond.methodLink RL 91 yX1_size, Cond.instanceMethod yX1_size]
def wsL_isRefused_r3 : List Cond := [Cond.selects RX1 yX1_size yX1_size, Cond.code yX1_size cX1_size 4 (some .int), Cond.methodLink RX1 114 yX1_differenceTakes, Cond.instanceMethod yX1_differenceTakes, Cond.selects RX1 yX1_differenceTakes yX1_differenceTakes, Cond.code yX1_differenceTakes cX1_differenceTakes 6 (some .int), Cond.fieldLink RX1 62 "BackMirror$Thing" "rights" "I", Cond.fieldLink RX1 47 "BackMirror$Thing" "kind" "I", Cond.fieldLink RX1 43 "BackMirror$Thing" "numbers" "[I", Cond.methodLink RX1 121 yX1_rowTakes, Cond.static yX1_rowTakes, Cond.code yX1_rowTakes cX1_rowTakes 5 (some .int), Cond.methodLink RX1 125 yX1_longestCopy, Cond.static yX1_longestCopy, Cond.code yX1_longestCopy cX1_longestCopy 5 (some .int), Cond.methodLink RX1 133 Lib.Math.max.name, Cond.static Lib.Math.max.name, Cond.initialized "java/lang/Math", Cond.code Lib.Math.max.name Lib.Math.max.code 2 (some .int), Cond.methodLink RL 76 yX1_isBroken, Cond.instanceMethod yX1_isBroken, Cond.selects RX1 yX1_isBroken yX1_isBroken, Cond.code yX1_isBroken cX1_isBroken 1 (some .boolean), Cond.fieldLink RX1 28 "BackMirror" "broken" "Z"]
def wsL_isRefused_r4 : List Cond := [Cond.methodLink RL 63 yL_told, Cond.static yL_told, Cond.code yL_told cL_told 6 (some .long), Cond.constantLong RL 59 (3), Cond.constantLong RL 61 (12), Cond.methodLink RL 47 yX1_kindAt, Cond.instanceMethod yX1_kindAt, Cond.selects RX1 yX1_kindAt yX1_kindAt, Cond.code yX1_kindAt cX1_kindAt 3 (some .int), Cond.methodLink RX1 107 yX1_thingOn, Cond.instanceMethod yX1_thingOn, Cond.selects RX1 yX1_thingOn yX1_thingOn, Cond.code yX1_thingOn cX1_thingOn 3 (some (.object "BackMirror$Thing")), Cond.methodLink RX1 100 yX1_checkKept, Cond.instanceMethod yX1_checkKept, Cond.selects RX1 yX1_checkKept yX1_checkKept, Cond.code yX1_checkKept cX1_checkKept 2 none, Cond.classLink RX1 111 "java/lang/IndexOutOfBoundsException", Cond.initialized "java/lang/IndexOutOfBoundsException", Cond.methodLink RX1 35 yX1_checkPlace, Cond.static yX1_checkPlace, Cond.code yX1_checkPlace cX1_checkPlace 1 none, Cond.methodLink RL 53 yX1_rightsAt, Cond.instanceMethod yX1_rightsAt]
def wsL_isRefused_r5 : List Cond := [Cond.selects RX1 yX1_rightsAt yX1_rightsAt, Cond.code yX1_rightsAt cX1_rightsAt 3 (some .int), Cond.methodLink RL 50 yX1_numberAt, Cond.instanceMethod yX1_numberAt, Cond.selects RX1 yX1_numberAt yX1_numberAt, Cond.code yX1_numberAt cX1_numberAt 5 (some .int), Cond.methodLink RL 108 yL_act, Cond.static yL_act, Cond.codeWith yL_act cL_act 6 (some .int) [(0, 116, 117, 41), (0, 116, 123, 43), (0, 116, 129, 45)], Cond.classLink RL 41 "java/lang/IndexOutOfBoundsException", Cond.classLink RL 43 "java/lang/IllegalArgumentException", Cond.classLink RL 45 "java/lang/IllegalStateException", Cond.methodLink RL 9 yX1_makeFile, Cond.instanceMethod yX1_makeFile, Cond.selects RX1 yX1_makeFile yX1_makeFile, Cond.code yX1_makeFile cX1_makeFile 2 (some .int), Cond.classLink RX1 7 RX0, Cond.instantiable RX0 3, Cond.arrayClass .int, Cond.methodLink RX1 11 yX0_init, Cond.instanceMethod yX0_init, Cond.code yX0_init cX0_init 4 none, Cond.methodLink RX0 1 objectInit, Cond.instanceMethod objectInit]
def wsL_isRefused_r6 : List Cond := [Cond.code objectInit ⟨#[0xb1]⟩ 1 none, Cond.methodLink RX1 39 yX1_exchange, Cond.instanceMethod yX1_exchange, Cond.selects RX1 yX1_exchange yX1_exchange, Cond.code yX1_exchange cX1_exchange 4 (some .int), Cond.methodLink RL 15 yX1_makeLink, Cond.instanceMethod yX1_makeLink, Cond.selects RX1 yX1_makeLink yX1_makeLink, Cond.code yX1_makeLink cX1_makeLink 3 (some .int), Cond.methodLink RL 19 yX1_remove, Cond.instanceMethod yX1_remove, Cond.selects RX1 yX1_remove yX1_remove, Cond.code yX1_remove cX1_remove 2 (some .int), Cond.methodLink RL 22 yX1_put, Cond.instanceMethod yX1_put, Cond.selects RX1 yX1_put yX1_put, Cond.code yX1_put cX1_put 6 (some .int), Cond.classLink RX1 50 "java/lang/IllegalStateException", Cond.initialized "java/lang/IllegalStateException", Cond.classLink RX1 57 "java/lang/IllegalArgumentException", Cond.initialized "java/lang/IllegalArgumentException", Cond.methodLink RX1 65 yX1_rowWith, Cond.static yX1_rowWith, Cond.code yX1_rowWith cX1_rowWith 5 (some (.array .int))]
def wsL_isRefused_r7 : List Cond := [Cond.methodLink RL 26 yX1_take, Cond.instanceMethod yX1_take, Cond.selects RX1 yX1_take yX1_take, Cond.code yX1_take cX1_take 4 (some .int), Cond.methodLink RX1 73 yX1_rowWithout, Cond.static yX1_rowWithout, Cond.code yX1_rowWithout cX1_rowWithout 4 (some (.array .int)), Cond.methodLink RL 29 yX1_setRights, Cond.instanceMethod yX1_setRights, Cond.selects RX1 yX1_setRights yX1_setRights, Cond.code yX1_setRights cX1_setRights 4 (some .int), Cond.methodLink RL 32 yX1_run, Cond.instanceMethod yX1_run, Cond.selects RX1 yX1_run yX1_run, Cond.code yX1_run cX1_run 3 (some .int), Cond.fieldLink RX1 32 "BackMirror" "brokenSteps" "I", Cond.methodLink RX1 85 yX1_undoBrokenRun, Cond.instanceMethod yX1_undoBrokenRun, Cond.selects RX1 yX1_undoBrokenRun yX1_undoBrokenRun, Cond.code yX1_undoBrokenRun cX1_undoBrokenRun 2 (some .int), Cond.methodLink RL 35 yX1_thin, Cond.instanceMethod yX1_thin, Cond.selects RX1 yX1_thin yX1_thin, Cond.code yX1_thin cX1_thin 2 (some .int)]
def wsL_isRefused_r8 : List Cond := [Cond.methodLink RL 38 yX1_restore, Cond.instanceMethod yX1_restore, Cond.selects RX1 yX1_restore yX1_restore, Cond.code yX1_restore cX1_restore 5 (some .int), Cond.methodLink RL 112 yL_of, Cond.static yL_of, Cond.codeWith yL_of cL_of 6 (some .int) [(0, 49, 50, 41)], Cond.methodLink RL 56 yX1_sizeAt, Cond.instanceMethod yX1_sizeAt, Cond.selects RX1 yX1_sizeAt yX1_sizeAt, Cond.code yX1_sizeAt cX1_sizeAt 3 (some .int), Cond.methodLink RL 83 yL_length, Cond.static yL_length, Cond.code yL_length cL_length 4 (some .int)]
def wsL_isRefused : List Cond := .code yL_isRefused cL_isRefused 12 (some .boolean) :: ((wsL_isRefused_r1 ++ (wsL_isRefused_r2 ++ (wsL_isRefused_r3 ++ (wsL_isRefused_r4 ++ (wsL_isRefused_r5 ++ (wsL_isRefused_r6 ++ (wsL_isRefused_r7 ++ wsL_isRefused_r8))))))) ++ wsX10 ++ wsX00 ++ (vx_atS RX1 113 "java/lang/IndexOutOfBoundsException" ["java/lang/RuntimeException", "java/lang/Exception"]).filter goodWord ++ (vx_atS RX1 54 "java/lang/IllegalStateException" ["java/lang/RuntimeException", "java/lang/Exception"]).filter goodWord ++ (vx_atS RX1 61 "java/lang/IllegalArgumentException" ["java/lang/RuntimeException", "java/lang/Exception"]).filter goodWord)
def wsL_isEdited_r1 : List Cond := [Cond.methodLink RL 47 yX1_kindAt, Cond.instanceMethod yX1_kindAt, Cond.selects RX1 yX1_kindAt yX1_kindAt, Cond.initialized RX1, Cond.code yX1_kindAt cX1_kindAt 3 (some .int), Cond.fieldLink RX1 47 "BackMirror$Thing" "kind" "I", Cond.methodLink RX1 107 yX1_thingOn, Cond.instanceMethod yX1_thingOn, Cond.selects RX1 yX1_thingOn yX1_thingOn, Cond.code yX1_thingOn cX1_thingOn 3 (some (.object "BackMirror$Thing")), Cond.fieldLink RX1 14 "BackMirror" "live" "[LBackMirror$Thing;", Cond.fieldLink RX1 18 "BackMirror" "kept" "[LBackMirror$Thing;", Cond.methodLink RX1 100 yX1_checkKept, Cond.instanceMethod yX1_checkKept, Cond.selects RX1 yX1_checkKept yX1_checkKept, Cond.code yX1_checkKept cX1_checkKept 2 none, Cond.classLink RX1 111 "java/lang/IndexOutOfBoundsException", Cond.initialized "java/lang/IndexOutOfBoundsException", Cond.fieldLink RX1 21 "BackMirror" "oldestDate" "I", Cond.fieldLink RX1 25 "BackMirror" "lastDate" "I", Cond.methodLink RX1 35 yX1_checkPlace, Cond.static yX1_checkPlace, Cond.code yX1_checkPlace cX1_checkPlace 1 none, Cond.methodLink RX1 92 yX1_keptIndex]
def wsL_isEdited_r2 : List Cond := [Cond.static yX1_keptIndex, Cond.code yX1_keptIndex cX1_keptIndex 2 (some .int), Cond.methodLink RL 53 yX1_rightsAt, Cond.instanceMethod yX1_rightsAt, Cond.selects RX1 yX1_rightsAt yX1_rightsAt, Cond.code yX1_rightsAt cX1_rightsAt 3 (some .int), Cond.fieldLink RX1 62 "BackMirror$Thing" "rights" "I", Cond.methodLink RL 83 yL_length, Cond.static yL_length, Cond.initialized RL, Cond.code yL_length cL_length 4 (some .int), Cond.methodLink RL 50 yX1_numberAt, Cond.instanceMethod yX1_numberAt, Cond.selects RX1 yX1_numberAt yX1_numberAt, Cond.code yX1_numberAt cX1_numberAt 5 (some .int), Cond.fieldLink RX1 43 "BackMirror$Thing" "numbers" "[I", Cond.methodLink RL 108 yL_act, Cond.static yL_act, Cond.codeWith yL_act cL_act 6 (some .int) [(0, 116, 117, 41), (0, 116, 123, 43), (0, 116, 129, 45)], Cond.classLink RL 41 "java/lang/IndexOutOfBoundsException", Cond.classLink RL 43 "java/lang/IllegalArgumentException", Cond.classLink RL 45 "java/lang/IllegalStateException", Cond.methodLink RL 9 yX1_makeFile, Cond.instanceMethod yX1_makeFile]
def wsL_isEdited_r3 : List Cond := [Cond.selects RX1 yX1_makeFile yX1_makeFile, Cond.code yX1_makeFile cX1_makeFile 2 (some .int), Cond.classLink RX1 7 RX0, Cond.instantiable RX0 3, Cond.initialized RX0, Cond.arrayClass .int, Cond.methodLink RX1 11 yX0_init, Cond.instanceMethod yX0_init, Cond.code yX0_init cX0_init 4 none, Cond.methodLink RX0 1 objectInit, Cond.instanceMethod objectInit, Cond.code objectInit ⟨#[0xb1]⟩ 1 none, Cond.fieldLink RX0 7 "BackMirror$Thing" "kind" "I", Cond.fieldLink RX0 13 "BackMirror$Thing" "rights" "I", Cond.fieldLink RX0 16 "BackMirror$Thing" "numbers" "[I", Cond.methodLink RX1 39 yX1_exchange, Cond.instanceMethod yX1_exchange, Cond.selects RX1 yX1_exchange yX1_exchange, Cond.code yX1_exchange cX1_exchange 4 (some .int), Cond.methodLink RL 15 yX1_makeLink, Cond.instanceMethod yX1_makeLink, Cond.selects RX1 yX1_makeLink yX1_makeLink, Cond.code yX1_makeLink cX1_makeLink 3 (some .int), Cond.methodLink RL 19 yX1_remove]
def wsL_isEdited_r4 : List Cond := [Cond.instanceMethod yX1_remove, Cond.selects RX1 yX1_remove yX1_remove, Cond.code yX1_remove cX1_remove 2 (some .int), Cond.methodLink RL 22 yX1_put, Cond.instanceMethod yX1_put, Cond.selects RX1 yX1_put yX1_put, Cond.code yX1_put cX1_put 6 (some .int), Cond.classLink RX1 50 "java/lang/IllegalStateException", Cond.initialized "java/lang/IllegalStateException", Cond.classLink RX1 57 "java/lang/IllegalArgumentException", Cond.initialized "java/lang/IllegalArgumentException", Cond.methodLink RX1 65 yX1_rowWith, Cond.static yX1_rowWith, Cond.code yX1_rowWith cX1_rowWith 5 (some (.array .int)), Cond.methodLink RL 26 yX1_take, Cond.instanceMethod yX1_take, Cond.selects RX1 yX1_take yX1_take, Cond.code yX1_take cX1_take 4 (some .int), Cond.methodLink RX1 73 yX1_rowWithout, Cond.static yX1_rowWithout, Cond.code yX1_rowWithout cX1_rowWithout 4 (some (.array .int)), Cond.methodLink RL 29 yX1_setRights, Cond.instanceMethod yX1_setRights, Cond.selects RX1 yX1_setRights yX1_setRights]
def wsL_isEdited_r5 : List Cond := [Cond.code yX1_setRights cX1_setRights 4 (some .int), Cond.methodLink RL 32 yX1_run, Cond.instanceMethod yX1_run, Cond.selects RX1 yX1_run yX1_run, Cond.code yX1_run cX1_run 3 (some .int), Cond.fieldLink RX1 28 "BackMirror" "broken" "Z", Cond.fieldLink RX1 32 "BackMirror" "brokenSteps" "I", Cond.methodLink RX1 85 yX1_undoBrokenRun, Cond.instanceMethod yX1_undoBrokenRun, Cond.selects RX1 yX1_undoBrokenRun yX1_undoBrokenRun, Cond.code yX1_undoBrokenRun cX1_undoBrokenRun 2 (some .int), Cond.methodLink RX1 89 yX1_stepsNeeded, Cond.instanceMethod yX1_stepsNeeded, Cond.selects RX1 yX1_stepsNeeded yX1_stepsNeeded, Cond.code yX1_stepsNeeded cX1_stepsNeeded 3 (some .int), Cond.methodLink RX1 103 yX0_isLike, Cond.instanceMethod yX0_isLike, Cond.selects RX0 yX0_isLike yX0_isLike, Cond.code yX0_isLike cX0_isLike 2 (some .boolean), Cond.static yX1_isSameRow, Cond.code yX1_isSameRow cX1_isSameRow 2 (some .boolean), Cond.methodLink RX1 129 yX1_sharedLength, Cond.static yX1_sharedLength, Cond.code yX1_sharedLength cX1_sharedLength 5 (some .int)]
def wsL_isEdited_r6 : List Cond := [Cond.methodLink RL 35 yX1_thin, Cond.instanceMethod yX1_thin, Cond.selects RX1 yX1_thin yX1_thin, Cond.code yX1_thin cX1_thin 2 (some .int), Cond.methodLink RL 38 yX1_restore, Cond.instanceMethod yX1_restore, Cond.selects RX1 yX1_restore yX1_restore, Cond.code yX1_restore cX1_restore 5 (some .int), Cond.methodLink RL 115 yL_isOnly, Cond.static yL_isOnly, Cond.code yL_isOnly cL_isOnly 5 (some .boolean), Cond.methodLink RL 63 yL_told, Cond.static yL_told, Cond.code yL_told cL_told 6 (some .long), Cond.constantLong RL 59 (3), Cond.constantLong RL 61 (12)]
def wsL_isEdited : List Cond := .code yL_isEdited cL_isEdited 14 (some .boolean) :: ((wsL_isEdited_r1 ++ (wsL_isEdited_r2 ++ (wsL_isEdited_r3 ++ (wsL_isEdited_r4 ++ (wsL_isEdited_r5 ++ wsL_isEdited_r6))))) ++ wsX00 ++ wsX10 ++ (vx_atS RX1 113 "java/lang/IndexOutOfBoundsException" ["java/lang/RuntimeException", "java/lang/Exception"]).filter goodWord ++ (vx_atS RX1 54 "java/lang/IllegalStateException" ["java/lang/RuntimeException", "java/lang/Exception"]).filter goodWord ++ (vx_atS RX1 61 "java/lang/IllegalArgumentException" ["java/lang/RuntimeException", "java/lang/Exception"]).filter goodWord)
def wsL_isRun_r1 : List Cond := [Cond.methodLink RL 80 yX1_needs, Cond.instanceMethod yX1_needs, Cond.selects RX1 yX1_needs yX1_needs, Cond.initialized RX1, Cond.code yX1_needs cX1_needs 1 (some .int), Cond.methodLink RX1 89 yX1_stepsNeeded, Cond.instanceMethod yX1_stepsNeeded, Cond.selects RX1 yX1_stepsNeeded yX1_stepsNeeded, Cond.code yX1_stepsNeeded cX1_stepsNeeded 3 (some .int), Cond.fieldLink RX1 14 "BackMirror" "live" "[LBackMirror$Thing;", Cond.fieldLink RX1 18 "BackMirror" "kept" "[LBackMirror$Thing;", Cond.fieldLink RX1 25 "BackMirror" "lastDate" "I", Cond.methodLink RX1 92 yX1_keptIndex, Cond.static yX1_keptIndex, Cond.code yX1_keptIndex cX1_keptIndex 2 (some .int), Cond.methodLink RX1 103 yX0_isLike, Cond.instanceMethod yX0_isLike, Cond.selects RX0 yX0_isLike yX0_isLike, Cond.initialized RX0, Cond.code yX0_isLike cX0_isLike 2 (some .boolean), Cond.fieldLink RX0 7 "BackMirror$Thing" "kind" "I", Cond.fieldLink RX0 13 "BackMirror$Thing" "rights" "I", Cond.fieldLink RX0 16 "BackMirror$Thing" "numbers" "[I", Cond.static yX1_isSameRow]
def wsL_isRun_r2 : List Cond := [Cond.code yX1_isSameRow cX1_isSameRow 2 (some .boolean), Cond.methodLink RX1 129 yX1_sharedLength, Cond.static yX1_sharedLength, Cond.code yX1_sharedLength cX1_sharedLength 5 (some .int), Cond.methodLink RL 91 yX1_size, Cond.instanceMethod yX1_size, Cond.selects RX1 yX1_size yX1_size, Cond.code yX1_size cX1_size 4 (some .int), Cond.fieldLink RX1 21 "BackMirror" "oldestDate" "I", Cond.methodLink RX1 114 yX1_differenceTakes, Cond.instanceMethod yX1_differenceTakes, Cond.selects RX1 yX1_differenceTakes yX1_differenceTakes, Cond.code yX1_differenceTakes cX1_differenceTakes 6 (some .int), Cond.fieldLink RX1 62 "BackMirror$Thing" "rights" "I", Cond.fieldLink RX1 47 "BackMirror$Thing" "kind" "I", Cond.fieldLink RX1 43 "BackMirror$Thing" "numbers" "[I", Cond.methodLink RX1 121 yX1_rowTakes, Cond.static yX1_rowTakes, Cond.code yX1_rowTakes cX1_rowTakes 5 (some .int), Cond.methodLink RX1 125 yX1_longestCopy, Cond.static yX1_longestCopy, Cond.code yX1_longestCopy cX1_longestCopy 5 (some .int), Cond.methodLink RX1 133 Lib.Math.max.name, Cond.static Lib.Math.max.name]
def wsL_isRun_r3 : List Cond := [Cond.initialized "java/lang/Math", Cond.code Lib.Math.max.name Lib.Math.max.code 2 (some .int), Cond.methodLink RL 108 yL_act, Cond.static yL_act, Cond.initialized RL, Cond.codeWith yL_act cL_act 6 (some .int) [(0, 116, 117, 41), (0, 116, 123, 43), (0, 116, 129, 45)], Cond.classLink RL 41 "java/lang/IndexOutOfBoundsException", Cond.classLink RL 43 "java/lang/IllegalArgumentException", Cond.classLink RL 45 "java/lang/IllegalStateException", Cond.methodLink RL 9 yX1_makeFile, Cond.instanceMethod yX1_makeFile, Cond.selects RX1 yX1_makeFile yX1_makeFile, Cond.code yX1_makeFile cX1_makeFile 2 (some .int), Cond.classLink RX1 7 RX0, Cond.instantiable RX0 3, Cond.arrayClass .int, Cond.methodLink RX1 35 yX1_checkPlace, Cond.static yX1_checkPlace, Cond.code yX1_checkPlace cX1_checkPlace 1 none, Cond.classLink RX1 111 "java/lang/IndexOutOfBoundsException", Cond.initialized "java/lang/IndexOutOfBoundsException", Cond.methodLink RX1 11 yX0_init, Cond.instanceMethod yX0_init, Cond.code yX0_init cX0_init 4 none]
def wsL_isRun_r4 : List Cond := [Cond.methodLink RX0 1 objectInit, Cond.instanceMethod objectInit, Cond.code objectInit ⟨#[0xb1]⟩ 1 none, Cond.methodLink RX1 39 yX1_exchange, Cond.instanceMethod yX1_exchange, Cond.selects RX1 yX1_exchange yX1_exchange, Cond.code yX1_exchange cX1_exchange 4 (some .int), Cond.methodLink RL 15 yX1_makeLink, Cond.instanceMethod yX1_makeLink, Cond.selects RX1 yX1_makeLink yX1_makeLink, Cond.code yX1_makeLink cX1_makeLink 3 (some .int), Cond.methodLink RL 19 yX1_remove, Cond.instanceMethod yX1_remove, Cond.selects RX1 yX1_remove yX1_remove, Cond.code yX1_remove cX1_remove 2 (some .int), Cond.methodLink RL 22 yX1_put, Cond.instanceMethod yX1_put, Cond.selects RX1 yX1_put yX1_put, Cond.code yX1_put cX1_put 6 (some .int), Cond.classLink RX1 50 "java/lang/IllegalStateException", Cond.initialized "java/lang/IllegalStateException", Cond.classLink RX1 57 "java/lang/IllegalArgumentException", Cond.initialized "java/lang/IllegalArgumentException", Cond.methodLink RX1 65 yX1_rowWith]
def wsL_isRun_r5 : List Cond := [Cond.static yX1_rowWith, Cond.code yX1_rowWith cX1_rowWith 5 (some (.array .int)), Cond.methodLink RL 26 yX1_take, Cond.instanceMethod yX1_take, Cond.selects RX1 yX1_take yX1_take, Cond.code yX1_take cX1_take 4 (some .int), Cond.methodLink RX1 73 yX1_rowWithout, Cond.static yX1_rowWithout, Cond.code yX1_rowWithout cX1_rowWithout 4 (some (.array .int)), Cond.methodLink RL 29 yX1_setRights, Cond.instanceMethod yX1_setRights, Cond.selects RX1 yX1_setRights yX1_setRights, Cond.code yX1_setRights cX1_setRights 4 (some .int), Cond.methodLink RL 32 yX1_run, Cond.instanceMethod yX1_run, Cond.selects RX1 yX1_run yX1_run, Cond.code yX1_run cX1_run 3 (some .int), Cond.fieldLink RX1 28 "BackMirror" "broken" "Z", Cond.fieldLink RX1 32 "BackMirror" "brokenSteps" "I", Cond.methodLink RX1 85 yX1_undoBrokenRun, Cond.instanceMethod yX1_undoBrokenRun, Cond.selects RX1 yX1_undoBrokenRun yX1_undoBrokenRun, Cond.code yX1_undoBrokenRun cX1_undoBrokenRun 2 (some .int), Cond.methodLink RL 35 yX1_thin]
def wsL_isRun_r6 : List Cond := [Cond.instanceMethod yX1_thin, Cond.selects RX1 yX1_thin yX1_thin, Cond.code yX1_thin cX1_thin 2 (some .int), Cond.methodLink RL 38 yX1_restore, Cond.instanceMethod yX1_restore, Cond.selects RX1 yX1_restore yX1_restore, Cond.code yX1_restore cX1_restore 5 (some .int), Cond.methodLink RX1 100 yX1_checkKept, Cond.instanceMethod yX1_checkKept, Cond.selects RX1 yX1_checkKept yX1_checkKept, Cond.code yX1_checkKept cX1_checkKept 2 none, Cond.methodLink RL 115 yL_isOnly, Cond.static yL_isOnly, Cond.code yL_isOnly cL_isOnly 5 (some .boolean), Cond.methodLink RL 63 yL_told, Cond.static yL_told, Cond.code yL_told cL_told 6 (some .long), Cond.constantLong RL 59 (3), Cond.constantLong RL 61 (12), Cond.methodLink RL 47 yX1_kindAt, Cond.instanceMethod yX1_kindAt, Cond.selects RX1 yX1_kindAt yX1_kindAt, Cond.code yX1_kindAt cX1_kindAt 3 (some .int), Cond.methodLink RX1 107 yX1_thingOn]
def wsL_isRun_r7 : List Cond := [Cond.instanceMethod yX1_thingOn, Cond.selects RX1 yX1_thingOn yX1_thingOn, Cond.code yX1_thingOn cX1_thingOn 3 (some (.object "BackMirror$Thing")), Cond.methodLink RL 53 yX1_rightsAt, Cond.instanceMethod yX1_rightsAt, Cond.selects RX1 yX1_rightsAt yX1_rightsAt, Cond.code yX1_rightsAt cX1_rightsAt 3 (some .int), Cond.methodLink RL 50 yX1_numberAt, Cond.instanceMethod yX1_numberAt, Cond.selects RX1 yX1_numberAt yX1_numberAt, Cond.code yX1_numberAt cX1_numberAt 5 (some .int)]
def wsL_isRun : List Cond := .code yL_isRun cL_isRun 10 (some .boolean) :: ((wsL_isRun_r1 ++ (wsL_isRun_r2 ++ (wsL_isRun_r3 ++ (wsL_isRun_r4 ++ (wsL_isRun_r5 ++ (wsL_isRun_r6 ++ wsL_isRun_r7)))))) ++ wsX10 ++ wsX00 ++ (vx_atS RX1 113 "java/lang/IndexOutOfBoundsException" ["java/lang/RuntimeException", "java/lang/Exception"]).filter goodWord ++ (vx_atS RX1 54 "java/lang/IllegalStateException" ["java/lang/RuntimeException", "java/lang/Exception"]).filter goodWord ++ (vx_atS RX1 61 "java/lang/IllegalArgumentException" ["java/lang/RuntimeException", "java/lang/Exception"]).filter goodWord)
def wsL_law0_r1 : List Cond := [Cond.classLink RL 10 RX1, Cond.instantiable RX1 6, Cond.initialized RX1, Cond.arrayClass .long, Cond.arrayClass .int, Cond.methodLink RL 119 yX1_init, Cond.instanceMethod yX1_init, Cond.code yX1_init cX1_init 3 none, Cond.methodLink RX1 1 objectInit, Cond.instanceMethod objectInit, Cond.code objectInit ⟨#[0xb1]⟩ 1 none, Cond.classLink RX1 7 RX0, Cond.instantiable RX0 3, Cond.initialized RX0, Cond.fieldLink RX1 14 "BackMirror" "live" "[LBackMirror$Thing;", Cond.fieldLink RX1 18 "BackMirror" "kept" "[LBackMirror$Thing;", Cond.fieldLink RX1 21 "BackMirror" "oldestDate" "I", Cond.fieldLink RX1 25 "BackMirror" "lastDate" "I", Cond.fieldLink RX1 28 "BackMirror" "broken" "Z", Cond.fieldLink RX1 32 "BackMirror" "brokenSteps" "I", Cond.methodLink RX1 11 yX0_init, Cond.instanceMethod yX0_init, Cond.code yX0_init cX0_init 4 none, Cond.methodLink RX0 1 objectInit]
def wsL_law0_r2 : List Cond := [Cond.fieldLink RX0 7 "BackMirror$Thing" "kind" "I", Cond.fieldLink RX0 13 "BackMirror$Thing" "rights" "I", Cond.fieldLink RX0 16 "BackMirror$Thing" "numbers" "[I", Cond.methodLink RL 120 yL_takes, Cond.static yL_takes, Cond.initialized RL, Cond.code yL_takes cL_takes 3 none, Cond.methodLink RL 63 yL_told, Cond.static yL_told, Cond.code yL_told cL_told 6 (some .long), Cond.constantLong RL 59 (3), Cond.constantLong RL 61 (12), Cond.methodLink RL 47 yX1_kindAt, Cond.instanceMethod yX1_kindAt, Cond.selects RX1 yX1_kindAt yX1_kindAt, Cond.code yX1_kindAt cX1_kindAt 3 (some .int), Cond.fieldLink RX1 47 "BackMirror$Thing" "kind" "I", Cond.methodLink RX1 107 yX1_thingOn, Cond.instanceMethod yX1_thingOn, Cond.selects RX1 yX1_thingOn yX1_thingOn, Cond.code yX1_thingOn cX1_thingOn 3 (some (.object "BackMirror$Thing")), Cond.methodLink RX1 100 yX1_checkKept, Cond.instanceMethod yX1_checkKept, Cond.selects RX1 yX1_checkKept yX1_checkKept]
def wsL_law0_r3 : List Cond := [Cond.code yX1_checkKept cX1_checkKept 2 none, Cond.classLink RX1 111 "java/lang/IndexOutOfBoundsException", Cond.initialized "java/lang/IndexOutOfBoundsException", Cond.methodLink RX1 35 yX1_checkPlace, Cond.static yX1_checkPlace, Cond.code yX1_checkPlace cX1_checkPlace 1 none, Cond.methodLink RX1 92 yX1_keptIndex, Cond.static yX1_keptIndex, Cond.code yX1_keptIndex cX1_keptIndex 2 (some .int), Cond.methodLink RL 53 yX1_rightsAt, Cond.instanceMethod yX1_rightsAt, Cond.selects RX1 yX1_rightsAt yX1_rightsAt, Cond.code yX1_rightsAt cX1_rightsAt 3 (some .int), Cond.fieldLink RX1 62 "BackMirror$Thing" "rights" "I", Cond.methodLink RL 50 yX1_numberAt, Cond.instanceMethod yX1_numberAt, Cond.selects RX1 yX1_numberAt yX1_numberAt, Cond.code yX1_numberAt cX1_numberAt 5 (some .int), Cond.fieldLink RX1 43 "BackMirror$Thing" "numbers" "[I", Cond.methodLink RL 124 yL_isRefused, Cond.static yL_isRefused, Cond.code yL_isRefused cL_isRefused 12 (some .boolean), Cond.methodLink RL 104 yL_all, Cond.static yL_all]
def wsL_law0_r4 : List Cond := [Cond.code yL_all cL_all 4 (some .long), Cond.constantLong RL 94 (31), Cond.constantLong RL 96 (1009), Cond.constantLong RL 98 (65537), Cond.constantLong RL 100 (7), Cond.constantLong RL 102 (1000003), Cond.methodLink RL 69 yX1_last, Cond.instanceMethod yX1_last, Cond.selects RX1 yX1_last yX1_last, Cond.code yX1_last cX1_last 1 (some .int), Cond.methodLink RL 73 yX1_oldest, Cond.instanceMethod yX1_oldest, Cond.selects RX1 yX1_oldest yX1_oldest, Cond.code yX1_oldest cX1_oldest 1 (some .int), Cond.methodLink RL 80 yX1_needs, Cond.instanceMethod yX1_needs, Cond.selects RX1 yX1_needs yX1_needs, Cond.code yX1_needs cX1_needs 1 (some .int), Cond.methodLink RX1 89 yX1_stepsNeeded, Cond.instanceMethod yX1_stepsNeeded, Cond.selects RX1 yX1_stepsNeeded yX1_stepsNeeded, Cond.code yX1_stepsNeeded cX1_stepsNeeded 3 (some .int), Cond.methodLink RX1 103 yX0_isLike, Cond.instanceMethod yX0_isLike]
def wsL_law0_r5 : List Cond := [Cond.selects RX0 yX0_isLike yX0_isLike, Cond.code yX0_isLike cX0_isLike 2 (some .boolean), Cond.static yX1_isSameRow, Cond.code yX1_isSameRow cX1_isSameRow 2 (some .boolean), Cond.methodLink RX1 129 yX1_sharedLength, Cond.static yX1_sharedLength, Cond.code yX1_sharedLength cX1_sharedLength 5 (some .int), Cond.methodLink RL 91 yX1_size, Cond.instanceMethod yX1_size, Cond.selects RX1 yX1_size yX1_size, Cond.code yX1_size cX1_size 4 (some .int), Cond.methodLink RX1 114 yX1_differenceTakes, Cond.instanceMethod yX1_differenceTakes, Cond.selects RX1 yX1_differenceTakes yX1_differenceTakes, Cond.code yX1_differenceTakes cX1_differenceTakes 6 (some .int), Cond.methodLink RX1 121 yX1_rowTakes, Cond.static yX1_rowTakes, Cond.code yX1_rowTakes cX1_rowTakes 5 (some .int), Cond.methodLink RX1 125 yX1_longestCopy, Cond.static yX1_longestCopy, Cond.code yX1_longestCopy cX1_longestCopy 5 (some .int), Cond.methodLink RX1 133 Lib.Math.max.name, Cond.static Lib.Math.max.name, Cond.initialized "java/lang/Math"]
def wsL_law0_r6 : List Cond := [Cond.code Lib.Math.max.name Lib.Math.max.code 2 (some .int), Cond.methodLink RL 76 yX1_isBroken, Cond.instanceMethod yX1_isBroken, Cond.selects RX1 yX1_isBroken yX1_isBroken, Cond.code yX1_isBroken cX1_isBroken 1 (some .boolean), Cond.methodLink RL 108 yL_act, Cond.static yL_act, Cond.codeWith yL_act cL_act 6 (some .int) [(0, 116, 117, 41), (0, 116, 123, 43), (0, 116, 129, 45)], Cond.classLink RL 41 "java/lang/IndexOutOfBoundsException", Cond.classLink RL 43 "java/lang/IllegalArgumentException", Cond.classLink RL 45 "java/lang/IllegalStateException", Cond.methodLink RL 9 yX1_makeFile, Cond.instanceMethod yX1_makeFile, Cond.selects RX1 yX1_makeFile yX1_makeFile, Cond.code yX1_makeFile cX1_makeFile 2 (some .int), Cond.methodLink RX1 39 yX1_exchange, Cond.instanceMethod yX1_exchange, Cond.selects RX1 yX1_exchange yX1_exchange, Cond.code yX1_exchange cX1_exchange 4 (some .int), Cond.methodLink RL 15 yX1_makeLink, Cond.instanceMethod yX1_makeLink, Cond.selects RX1 yX1_makeLink yX1_makeLink, Cond.code yX1_makeLink cX1_makeLink 3 (some .int), Cond.methodLink RL 19 yX1_remove]
def wsL_law0_r7 : List Cond := [Cond.instanceMethod yX1_remove, Cond.selects RX1 yX1_remove yX1_remove, Cond.code yX1_remove cX1_remove 2 (some .int), Cond.methodLink RL 22 yX1_put, Cond.instanceMethod yX1_put, Cond.selects RX1 yX1_put yX1_put, Cond.code yX1_put cX1_put 6 (some .int), Cond.classLink RX1 50 "java/lang/IllegalStateException", Cond.initialized "java/lang/IllegalStateException", Cond.classLink RX1 57 "java/lang/IllegalArgumentException", Cond.initialized "java/lang/IllegalArgumentException", Cond.methodLink RX1 65 yX1_rowWith, Cond.static yX1_rowWith, Cond.code yX1_rowWith cX1_rowWith 5 (some (.array .int)), Cond.methodLink RL 26 yX1_take, Cond.instanceMethod yX1_take, Cond.selects RX1 yX1_take yX1_take, Cond.code yX1_take cX1_take 4 (some .int), Cond.methodLink RX1 73 yX1_rowWithout, Cond.static yX1_rowWithout, Cond.code yX1_rowWithout cX1_rowWithout 4 (some (.array .int)), Cond.methodLink RL 29 yX1_setRights, Cond.instanceMethod yX1_setRights, Cond.selects RX1 yX1_setRights yX1_setRights]
def wsL_law0_r8 : List Cond := [Cond.code yX1_setRights cX1_setRights 4 (some .int), Cond.methodLink RL 32 yX1_run, Cond.instanceMethod yX1_run, Cond.selects RX1 yX1_run yX1_run, Cond.code yX1_run cX1_run 3 (some .int), Cond.methodLink RX1 85 yX1_undoBrokenRun, Cond.instanceMethod yX1_undoBrokenRun, Cond.selects RX1 yX1_undoBrokenRun yX1_undoBrokenRun, Cond.code yX1_undoBrokenRun cX1_undoBrokenRun 2 (some .int), Cond.methodLink RL 35 yX1_thin, Cond.instanceMethod yX1_thin, Cond.selects RX1 yX1_thin yX1_thin, Cond.code yX1_thin cX1_thin 2 (some .int), Cond.methodLink RL 38 yX1_restore, Cond.instanceMethod yX1_restore, Cond.selects RX1 yX1_restore yX1_restore, Cond.code yX1_restore cX1_restore 5 (some .int), Cond.methodLink RL 112 yL_of, Cond.static yL_of, Cond.codeWith yL_of cL_of 6 (some .int) [(0, 49, 50, 41)], Cond.methodLink RL 56 yX1_sizeAt, Cond.instanceMethod yX1_sizeAt, Cond.selects RX1 yX1_sizeAt yX1_sizeAt, Cond.code yX1_sizeAt cX1_sizeAt 3 (some .int)]
def wsL_law0_r9 : List Cond := [Cond.methodLink RL 83 yL_length, Cond.static yL_length, Cond.code yL_length cL_length 4 (some .int), Cond.methodLink RL 128 yX1_mend, Cond.instanceMethod yX1_mend, Cond.selects RX1 yX1_mend yX1_mend, Cond.code yX1_mend cX1_mend 1 (some .int), Cond.methodLink RL 131 yL_dice, Cond.static yL_dice, Cond.code yL_dice cL_dice 2 (some .int), Cond.constant RL 7 (1799596469), Cond.constant RL 8 (2147483647), Cond.methodLink RL 135 yL_isEdited, Cond.static yL_isEdited, Cond.code yL_isEdited cL_isEdited 14 (some .boolean), Cond.methodLink RL 115 yL_isOnly, Cond.static yL_isOnly, Cond.code yL_isOnly cL_isOnly 5 (some .boolean), Cond.methodLink RL 139 yL_isRun, Cond.static yL_isRun, Cond.code yL_isRun cL_isRun 10 (some .boolean), Cond.methodLink RL 143 yL_isHead, Cond.static yL_isHead, Cond.code yL_isHead cL_isHead 5 (some .boolean)]
def wsL_law0_r10 : List Cond := [Cond.methodLink RL 147 yL_isDate, Cond.static yL_isDate, Cond.code yL_isDate cL_isDate 7 (some .boolean), Cond.methodLink RL 87 yL_isSize, Cond.static yL_isSize, Cond.code yL_isSize cL_isSize 12 (some .boolean), Cond.methodLink RL 151 yL_isSum, Cond.static yL_isSum, Cond.code yL_isSum cL_isSum 3 (some .boolean)]
def wsL_law0 : List Cond := (wsL_law0_r1 ++ (wsL_law0_r2 ++ (wsL_law0_r3 ++ (wsL_law0_r4 ++ (wsL_law0_r5 ++ (wsL_law0_r6 ++ (wsL_law0_r7 ++ (wsL_law0_r8 ++ (wsL_law0_r9 ++ wsL_law0_r10))))))))) ++ wsX10 ++ wsX00 ++ ([] : List Cond)
def wsL_law : List Cond := wsL_law0 ++ (vx_atS RX1 113 "java/lang/IndexOutOfBoundsException" ["java/lang/RuntimeException", "java/lang/Exception"]).filter goodWord ++ (vx_atS RX1 54 "java/lang/IllegalStateException" ["java/lang/RuntimeException", "java/lang/Exception"]).filter goodWord ++ (vx_atS RX1 61 "java/lang/IllegalArgumentException" ["java/lang/RuntimeException", "java/lang/Exception"]).filter goodWord
set_option maxRecDepth 20000 in
theorem wsL_law_in0 : ∀ w ∈ wsL_law0, w ∈ lw_tbl := fun w h => (goodIn_p wsL_law0 [21, 24, 29, 286, 265, 269, 273, 261, 90, 237, 278, 283, 344, 347, 293, 297, 305, 234, 241, 244, 247, 338, 319, 322, 325, 328, 301, 87, 162, 166, 170, 174, 209, 213, 218, 222, 228, 72, 251, 257, 315, 311, 68, 75, 358, 341, 361, 289, 308, 331, 334] (by decide +kernel) (by decide +kernel) w h).1
theorem wsL_law_x0 : ∀ w ∈ (vx_atS RX1 113 "java/lang/IndexOutOfBoundsException" ["java/lang/RuntimeException", "java/lang/Exception"]).filter goodWord, w ∈ lw_tbl := by decide +kernel
theorem wsL_law_x1 : ∀ w ∈ (vx_atS RX1 54 "java/lang/IllegalStateException" ["java/lang/RuntimeException", "java/lang/Exception"]).filter goodWord, w ∈ lw_tbl := by decide +kernel
theorem wsL_law_x2 : ∀ w ∈ (vx_atS RX1 61 "java/lang/IllegalArgumentException" ["java/lang/RuntimeException", "java/lang/Exception"]).filter goodWord, w ∈ lw_tbl := by decide +kernel
theorem wsL_law_in : ∀ w ∈ wsL_law, w ∈ lw_tbl := fun w h => (List.mem_append.mp h).elim (fun h => (List.mem_append.mp h).elim (fun h => (List.mem_append.mp h).elim (fun h => wsL_law_in0 w h) (fun h => wsL_law_x0 w h)) (fun h => wsL_law_x1 w h)) (fun h => wsL_law_x2 w h)
theorem inlX0 : ∀ w ∈ wsX00, w ∈ wsL_law := fun _ h => List.mem_append_left _ (List.mem_append_left _ (List.mem_append_left _ (List.mem_append_left _ (List.mem_append_right _ h))))
theorem inX0 : ∀ w ∈ wsX00, w ∈ lw_tbl := fun w h => wsL_law_in w (inlX0 w h)
theorem inlX1 : ∀ w ∈ wsX10, w ∈ wsL_law := fun _ h => List.mem_append_left _ (List.mem_append_left _ (List.mem_append_left _ (List.mem_append_left _ (List.mem_append_left _ (List.mem_append_right _ h)))))
theorem inX1 : ∀ w ∈ wsX10, w ∈ lw_tbl := fun w h => wsL_law_in w (inlX1 w h)
theorem inX2 : ∀ w ∈ wsX20, w ∈ lw_tbl := by decide +kernel
theorem inJ9 : ∀ w ∈ wsJ90, w ∈ lw_tbl := by decide +kernel
theorem inJ0 : ∀ w ∈ wsJ00, w ∈ lw_tbl := by decide +kernel
theorem dX0_init_0 : decode cX0_init 0 = .ok (.aload_n 0, 1) := by decide +kernel
theorem dX0_init_1 : decode cX0_init 1 = .ok (.invokespecial 1, 3) := by decide +kernel
theorem dX0_init_4 : decode cX0_init 4 = .ok (.aload_n 0, 1) := by decide +kernel
theorem dX0_init_5 : decode cX0_init 5 = .ok (.iload_n 1, 1) := by decide +kernel
theorem dX0_init_6 : decode cX0_init 6 = .ok (.putfield 7, 3) := by decide +kernel
theorem dX0_init_9 : decode cX0_init 9 = .ok (.aload_n 0, 1) := by decide +kernel
theorem dX0_init_10 : decode cX0_init 10 = .ok (.iload_n 2, 1) := by decide +kernel
theorem dX0_init_11 : decode cX0_init 11 = .ok (.putfield 13, 3) := by decide +kernel
theorem dX0_init_14 : decode cX0_init 14 = .ok (.aload_n 0, 1) := by decide +kernel
theorem dX0_init_15 : decode cX0_init 15 = .ok (.aload_n 3, 1) := by decide +kernel
theorem dX0_init_16 : decode cX0_init 16 = .ok (.putfield 16, 3) := by decide +kernel
theorem dX0_init_19 : decode cX0_init 19 = .ok (.return_, 1) := by decide +kernel
set_option maxRecDepth 20000 in
theorem ggX0_isLike_X1_isSameRow : GoodIn wsX0_isLike wsX1_isSameRow := goodIn_r _ [6, 7, 8, 5, 9] (by decide +kernel) (by decide +kernel)
set_option maxRecDepth 20000 in
theorem gX0_isLike_X1_isSameRow_n20 : GoodIn wsX0_isLike (wsX1_isSameRow) := ggX0_isLike_X1_isSameRow
theorem dX0_isLike_0 : decode cX0_isLike 0 = .ok (.aload_n 0, 1) := by decide +kernel
theorem dX0_isLike_1 : decode cX0_isLike 1 = .ok (.getfield 7, 3) := by decide +kernel
theorem dX0_isLike_4 : decode cX0_isLike 4 = .ok (.aload_n 1, 1) := by decide +kernel
theorem dX0_isLike_5 : decode cX0_isLike 5 = .ok (.getfield 7, 3) := by decide +kernel
theorem dX0_isLike_8 : decode cX0_isLike 8 = .ok (.if_icmp .ne 32, 3) := by decide +kernel
theorem dX0_isLike_11 : decode cX0_isLike 11 = .ok (.aload_n 0, 1) := by decide +kernel
theorem dX0_isLike_12 : decode cX0_isLike 12 = .ok (.getfield 13, 3) := by decide +kernel
theorem dX0_isLike_15 : decode cX0_isLike 15 = .ok (.aload_n 1, 1) := by decide +kernel
theorem dX0_isLike_16 : decode cX0_isLike 16 = .ok (.getfield 13, 3) := by decide +kernel
theorem dX0_isLike_19 : decode cX0_isLike 19 = .ok (.if_icmp .ne 21, 3) := by decide +kernel
theorem dX0_isLike_22 : decode cX0_isLike 22 = .ok (.aload_n 0, 1) := by decide +kernel
theorem dX0_isLike_23 : decode cX0_isLike 23 = .ok (.getfield 16, 3) := by decide +kernel
theorem dX0_isLike_26 : decode cX0_isLike 26 = .ok (.aload_n 1, 1) := by decide +kernel
theorem dX0_isLike_27 : decode cX0_isLike 27 = .ok (.getfield 16, 3) := by decide +kernel
theorem dX0_isLike_30 : decode cX0_isLike 30 = .ok (.invokestatic 20, 3) := by decide +kernel
theorem dX0_isLike_33 : decode cX0_isLike 33 = .ok (.ifCond .eq 7, 3) := by decide +kernel
theorem dX0_isLike_36 : decode cX0_isLike 36 = .ok (.iconst 1, 1) := by decide +kernel
theorem dX0_isLike_37 : decode cX0_isLike 37 = .ok (.goto 4, 3) := by decide +kernel
theorem dX0_isLike_40 : decode cX0_isLike 40 = .ok (.iconst 0, 1) := by decide +kernel
theorem dX0_isLike_41 : decode cX0_isLike 41 = .ok (.ireturn, 1) := by decide +kernel
set_option maxRecDepth 20000 in
theorem ggX1_init_X0_init : GoodIn wsX1_init wsX0_init := goodIn_r _ [16, 17, 2, 3, 18, 19, 20, 21, 22, 23] (by decide +kernel) (by decide +kernel)
set_option maxRecDepth 20000 in
theorem gX1_init_X0_init : GoodIn wsX1_init (wsX0_init) := ggX1_init_X0_init
theorem dX1_init_0 : decode cX1_init 0 = .ok (.aload_n 0, 1) := by decide +kernel
theorem dX1_init_1 : decode cX1_init 1 = .ok (.invokespecial 1, 3) := by decide +kernel
theorem dX1_init_4 : decode cX1_init 4 = .ok (.new 7, 3) := by decide +kernel
theorem dX1_init_7 : decode cX1_init 7 = .ok (.dup, 1) := by decide +kernel
theorem dX1_init_8 : decode cX1_init 8 = .ok (.iconst 0, 1) := by decide +kernel
theorem dX1_init_9 : decode cX1_init 9 = .ok (.iconst 0, 1) := by decide +kernel
theorem dX1_init_10 : decode cX1_init 10 = .ok (.iconst 0, 1) := by decide +kernel
theorem dX1_init_11 : decode cX1_init 11 = .ok (.newarray .int, 2) := by decide +kernel
theorem dX1_init_13 : decode cX1_init 13 = .ok (.invokespecial 11, 3) := by decide +kernel
theorem dX1_init_16 : decode cX1_init 16 = .ok (.astore_n 1, 1) := by decide +kernel
theorem dX1_init_17 : decode cX1_init 17 = .ok (.aload_n 0, 1) := by decide +kernel
theorem dX1_init_18 : decode cX1_init 18 = .ok (.bipush 6, 2) := by decide +kernel
theorem dX1_init_20 : decode cX1_init 20 = .ok (.anewarray 7, 3) := by decide +kernel
theorem dX1_init_23 : decode cX1_init 23 = .ok (.putfield 14, 3) := by decide +kernel
theorem dX1_init_26 : decode cX1_init 26 = .ok (.iconst 0, 1) := by decide +kernel
theorem dX1_init_27 : decode cX1_init 27 = .ok (.istore_n 2, 1) := by decide +kernel
theorem dX1_init_28 : decode cX1_init 28 = .ok (.iload_n 2, 1) := by decide +kernel
theorem dX1_init_29 : decode cX1_init 29 = .ok (.aload_n 0, 1) := by decide +kernel
theorem dX1_init_30 : decode cX1_init 30 = .ok (.getfield 14, 3) := by decide +kernel
theorem dX1_init_33 : decode cX1_init 33 = .ok (.arraylength, 1) := by decide +kernel
theorem dX1_init_34 : decode cX1_init 34 = .ok (.if_icmp .ge 16, 3) := by decide +kernel
theorem dX1_init_37 : decode cX1_init 37 = .ok (.aload_n 0, 1) := by decide +kernel
theorem dX1_init_38 : decode cX1_init 38 = .ok (.getfield 14, 3) := by decide +kernel
theorem dX1_init_41 : decode cX1_init 41 = .ok (.iload_n 2, 1) := by decide +kernel
theorem dX1_init_42 : decode cX1_init 42 = .ok (.aload_n 1, 1) := by decide +kernel
theorem dX1_init_43 : decode cX1_init 43 = .ok (.aastore, 1) := by decide +kernel
theorem dX1_init_44 : decode cX1_init 44 = .ok (.iinc 2 1, 3) := by decide +kernel
theorem dX1_init_47 : decode cX1_init 47 = .ok (.goto (-19), 3) := by decide +kernel
theorem dX1_init_50 : decode cX1_init 50 = .ok (.aload_n 0, 1) := by decide +kernel
theorem dX1_init_51 : decode cX1_init 51 = .ok (.sipush 246, 3) := by decide +kernel
theorem dX1_init_54 : decode cX1_init 54 = .ok (.anewarray 7, 3) := by decide +kernel
theorem dX1_init_57 : decode cX1_init 57 = .ok (.putfield 18, 3) := by decide +kernel
theorem dX1_init_60 : decode cX1_init 60 = .ok (.iconst 0, 1) := by decide +kernel
theorem dX1_init_61 : decode cX1_init 61 = .ok (.istore_n 2, 1) := by decide +kernel
theorem dX1_init_62 : decode cX1_init 62 = .ok (.iload_n 2, 1) := by decide +kernel
theorem dX1_init_63 : decode cX1_init 63 = .ok (.aload_n 0, 1) := by decide +kernel
theorem dX1_init_64 : decode cX1_init 64 = .ok (.getfield 18, 3) := by decide +kernel
theorem dX1_init_67 : decode cX1_init 67 = .ok (.arraylength, 1) := by decide +kernel
theorem dX1_init_68 : decode cX1_init 68 = .ok (.if_icmp .ge 16, 3) := by decide +kernel
theorem dX1_init_71 : decode cX1_init 71 = .ok (.aload_n 0, 1) := by decide +kernel
theorem dX1_init_72 : decode cX1_init 72 = .ok (.getfield 18, 3) := by decide +kernel
theorem dX1_init_75 : decode cX1_init 75 = .ok (.iload_n 2, 1) := by decide +kernel
theorem dX1_init_76 : decode cX1_init 76 = .ok (.aload_n 1, 1) := by decide +kernel
theorem dX1_init_77 : decode cX1_init 77 = .ok (.aastore, 1) := by decide +kernel
theorem dX1_init_78 : decode cX1_init 78 = .ok (.iinc 2 1, 3) := by decide +kernel
theorem dX1_init_81 : decode cX1_init 81 = .ok (.goto (-19), 3) := by decide +kernel
theorem dX1_init_84 : decode cX1_init 84 = .ok (.aload_n 0, 1) := by decide +kernel
theorem dX1_init_85 : decode cX1_init 85 = .ok (.iconst 0, 1) := by decide +kernel
theorem dX1_init_86 : decode cX1_init 86 = .ok (.putfield 21, 3) := by decide +kernel
theorem dX1_init_89 : decode cX1_init 89 = .ok (.aload_n 0, 1) := by decide +kernel
theorem dX1_init_90 : decode cX1_init 90 = .ok (.iconst 0, 1) := by decide +kernel
theorem dX1_init_91 : decode cX1_init 91 = .ok (.putfield 25, 3) := by decide +kernel
theorem dX1_init_94 : decode cX1_init 94 = .ok (.aload_n 0, 1) := by decide +kernel
theorem dX1_init_95 : decode cX1_init 95 = .ok (.iconst 0, 1) := by decide +kernel
theorem dX1_init_96 : decode cX1_init 96 = .ok (.putfield 28, 3) := by decide +kernel
theorem dX1_init_99 : decode cX1_init 99 = .ok (.aload_n 0, 1) := by decide +kernel
theorem dX1_init_100 : decode cX1_init 100 = .ok (.iconst 0, 1) := by decide +kernel
theorem dX1_init_101 : decode cX1_init 101 = .ok (.putfield 32, 3) := by decide +kernel
theorem dX1_init_104 : decode cX1_init 104 = .ok (.return_, 1) := by decide +kernel
set_option maxRecDepth 20000 in
theorem ggX1_makeFile_X1_checkPlace : GoodIn wsX1_makeFile wsX1_checkPlace := goodIn_ca (goodIn_r _ [8, 9, 10] (by decide +kernel) (by decide +kernel)) (goodIn_sub (fun _ h => List.mem_cons_of_mem _ (List.mem_append_right _ h)) (by decide +kernel))
set_option maxRecDepth 20000 in
theorem gX1_makeFile_X1_checkPlace : GoodIn wsX1_makeFile (va_wsS RX1 35 yX1_checkPlace wsX1_checkPlace) := goodIn_app (goodIn_of _ (by decide +kernel)) ggX1_makeFile_X1_checkPlace
set_option maxRecDepth 20000 in
theorem ggX1_makeFile_X0_init : GoodIn wsX1_makeFile wsX0_init := goodIn_r _ [13, 14, 15, 16, 17, 18, 19, 26, 27, 28] (by decide +kernel) (by decide +kernel)
set_option maxRecDepth 20000 in
theorem gX1_makeFile_X0_init : GoodIn wsX1_makeFile (wsX0_init) := ggX1_makeFile_X0_init
set_option maxRecDepth 20000 in
theorem ggX1_makeFile_X1_exchange : GoodIn wsX1_makeFile wsX1_exchange := goodIn_r _ [23, 24, 25, 29, 30, 31, 32, 33, 34, 26, 27, 28] (by decide +kernel) (by decide +kernel)
set_option maxRecDepth 20000 in
theorem gX1_makeFile_X1_exchange : GoodIn wsX1_makeFile (wsV RX1 39 RX1 yX1_exchange wsX1_exchange) := goodIn_app (goodIn_of _ (by decide +kernel)) ggX1_makeFile_X1_exchange
theorem dX1_makeFile_0 : decode cX1_makeFile 0 = .ok (.iload_n 1, 1) := by decide +kernel
theorem dX1_makeFile_1 : decode cX1_makeFile 1 = .ok (.invokestatic 35, 3) := by decide +kernel
theorem dX1_makeFile_4 : decode cX1_makeFile 4 = .ok (.aload_n 0, 1) := by decide +kernel
theorem dX1_makeFile_5 : decode cX1_makeFile 5 = .ok (.iload_n 1, 1) := by decide +kernel
theorem dX1_makeFile_6 : decode cX1_makeFile 6 = .ok (.new 7, 3) := by decide +kernel
theorem dX1_makeFile_9 : decode cX1_makeFile 9 = .ok (.dup, 1) := by decide +kernel
theorem dX1_makeFile_10 : decode cX1_makeFile 10 = .ok (.iconst 1, 1) := by decide +kernel
theorem dX1_makeFile_11 : decode cX1_makeFile 11 = .ok (.iconst 0, 1) := by decide +kernel
theorem dX1_makeFile_12 : decode cX1_makeFile 12 = .ok (.iconst 0, 1) := by decide +kernel
theorem dX1_makeFile_13 : decode cX1_makeFile 13 = .ok (.newarray .int, 2) := by decide +kernel
theorem dX1_makeFile_15 : decode cX1_makeFile 15 = .ok (.invokespecial 11, 3) := by decide +kernel
theorem dX1_makeFile_18 : decode cX1_makeFile 18 = .ok (.invokevirtual 39, 3) := by decide +kernel
theorem dX1_makeFile_21 : decode cX1_makeFile 21 = .ok (.ireturn, 1) := by decide +kernel
set_option maxRecDepth 20000 in
theorem ggX1_makeLink_X1_checkPlace : GoodIn wsX1_makeLink wsX1_checkPlace := goodIn_ca (goodIn_r _ [8, 9, 10] (by decide +kernel) (by decide +kernel)) (goodIn_sub (fun _ h => List.mem_cons_of_mem _ (List.mem_append_right _ h)) (by decide +kernel))
set_option maxRecDepth 20000 in
theorem gX1_makeLink_X1_checkPlace : GoodIn wsX1_makeLink (va_wsS RX1 35 yX1_checkPlace wsX1_checkPlace) := goodIn_app (goodIn_of _ (by decide +kernel)) ggX1_makeLink_X1_checkPlace
set_option maxRecDepth 20000 in
theorem ggX1_makeLink_X0_init : GoodIn wsX1_makeLink wsX0_init := goodIn_r _ [13, 14, 15, 16, 17, 18, 19, 26, 27, 28] (by decide +kernel) (by decide +kernel)
set_option maxRecDepth 20000 in
theorem gX1_makeLink_X0_init : GoodIn wsX1_makeLink (wsX0_init) := ggX1_makeLink_X0_init
set_option maxRecDepth 20000 in
theorem ggX1_makeLink_X1_exchange : GoodIn wsX1_makeLink wsX1_exchange := goodIn_r _ [23, 24, 25, 29, 30, 31, 32, 33, 34, 26, 27, 28] (by decide +kernel) (by decide +kernel)
set_option maxRecDepth 20000 in
theorem gX1_makeLink_X1_exchange : GoodIn wsX1_makeLink (wsV RX1 39 RX1 yX1_exchange wsX1_exchange) := goodIn_app (goodIn_of _ (by decide +kernel)) ggX1_makeLink_X1_exchange
theorem dX1_makeLink_0 : decode cX1_makeLink 0 = .ok (.iload_n 1, 1) := by decide +kernel
theorem dX1_makeLink_1 : decode cX1_makeLink 1 = .ok (.invokestatic 35, 3) := by decide +kernel
theorem dX1_makeLink_4 : decode cX1_makeLink 4 = .ok (.iload_n 2, 1) := by decide +kernel
theorem dX1_makeLink_5 : decode cX1_makeLink 5 = .ok (.invokestatic 35, 3) := by decide +kernel
theorem dX1_makeLink_8 : decode cX1_makeLink 8 = .ok (.aload_n 0, 1) := by decide +kernel
theorem dX1_makeLink_9 : decode cX1_makeLink 9 = .ok (.iload_n 1, 1) := by decide +kernel
theorem dX1_makeLink_10 : decode cX1_makeLink 10 = .ok (.new 7, 3) := by decide +kernel
theorem dX1_makeLink_13 : decode cX1_makeLink 13 = .ok (.dup, 1) := by decide +kernel
theorem dX1_makeLink_14 : decode cX1_makeLink 14 = .ok (.iconst 2, 1) := by decide +kernel
theorem dX1_makeLink_15 : decode cX1_makeLink 15 = .ok (.iconst 0, 1) := by decide +kernel
theorem dX1_makeLink_16 : decode cX1_makeLink 16 = .ok (.iconst 1, 1) := by decide +kernel
theorem dX1_makeLink_17 : decode cX1_makeLink 17 = .ok (.newarray .int, 2) := by decide +kernel
theorem dX1_makeLink_19 : decode cX1_makeLink 19 = .ok (.dup, 1) := by decide +kernel
theorem dX1_makeLink_20 : decode cX1_makeLink 20 = .ok (.iconst 0, 1) := by decide +kernel
theorem dX1_makeLink_21 : decode cX1_makeLink 21 = .ok (.iload_n 2, 1) := by decide +kernel
theorem dX1_makeLink_22 : decode cX1_makeLink 22 = .ok (.iastore, 1) := by decide +kernel
theorem dX1_makeLink_23 : decode cX1_makeLink 23 = .ok (.invokespecial 11, 3) := by decide +kernel
theorem dX1_makeLink_26 : decode cX1_makeLink 26 = .ok (.invokevirtual 39, 3) := by decide +kernel
theorem dX1_makeLink_29 : decode cX1_makeLink 29 = .ok (.ireturn, 1) := by decide +kernel
set_option maxRecDepth 20000 in
theorem ggX1_remove_X1_checkPlace : GoodIn wsX1_remove wsX1_checkPlace := goodIn_ca (goodIn_r _ [8, 9, 10] (by decide +kernel) (by decide +kernel)) (goodIn_sub (fun _ h => List.mem_cons_of_mem _ (List.mem_append_right _ h)) (by decide +kernel))
set_option maxRecDepth 20000 in
theorem gX1_remove_X1_checkPlace : GoodIn wsX1_remove (va_wsS RX1 35 yX1_checkPlace wsX1_checkPlace) := goodIn_app (goodIn_of _ (by decide +kernel)) ggX1_remove_X1_checkPlace
set_option maxRecDepth 20000 in
theorem ggX1_remove_X0_init : GoodIn wsX1_remove wsX0_init := goodIn_r _ [13, 14, 15, 16, 17, 18, 19, 26, 27, 28] (by decide +kernel) (by decide +kernel)
set_option maxRecDepth 20000 in
theorem gX1_remove_X0_init : GoodIn wsX1_remove (wsX0_init) := ggX1_remove_X0_init
set_option maxRecDepth 20000 in
theorem ggX1_remove_X1_exchange : GoodIn wsX1_remove wsX1_exchange := goodIn_r _ [23, 24, 25, 29, 30, 31, 32, 33, 34, 26, 27, 28] (by decide +kernel) (by decide +kernel)
set_option maxRecDepth 20000 in
theorem gX1_remove_X1_exchange : GoodIn wsX1_remove (wsV RX1 39 RX1 yX1_exchange wsX1_exchange) := goodIn_app (goodIn_of _ (by decide +kernel)) ggX1_remove_X1_exchange
theorem dX1_remove_0 : decode cX1_remove 0 = .ok (.iload_n 1, 1) := by decide +kernel
theorem dX1_remove_1 : decode cX1_remove 1 = .ok (.invokestatic 35, 3) := by decide +kernel
theorem dX1_remove_4 : decode cX1_remove 4 = .ok (.aload_n 0, 1) := by decide +kernel
theorem dX1_remove_5 : decode cX1_remove 5 = .ok (.iload_n 1, 1) := by decide +kernel
theorem dX1_remove_6 : decode cX1_remove 6 = .ok (.new 7, 3) := by decide +kernel
theorem dX1_remove_9 : decode cX1_remove 9 = .ok (.dup, 1) := by decide +kernel
theorem dX1_remove_10 : decode cX1_remove 10 = .ok (.iconst 0, 1) := by decide +kernel
theorem dX1_remove_11 : decode cX1_remove 11 = .ok (.iconst 0, 1) := by decide +kernel
theorem dX1_remove_12 : decode cX1_remove 12 = .ok (.iconst 0, 1) := by decide +kernel
theorem dX1_remove_13 : decode cX1_remove 13 = .ok (.newarray .int, 2) := by decide +kernel
theorem dX1_remove_15 : decode cX1_remove 15 = .ok (.invokespecial 11, 3) := by decide +kernel
theorem dX1_remove_18 : decode cX1_remove 18 = .ok (.invokevirtual 39, 3) := by decide +kernel
theorem dX1_remove_21 : decode cX1_remove 21 = .ok (.ireturn, 1) := by decide +kernel
set_option maxRecDepth 20000 in
theorem ggX1_put_X1_checkPlace : GoodIn wsX1_put wsX1_checkPlace := goodIn_ca (goodIn_r _ [15, 16, 17] (by decide +kernel) (by decide +kernel)) (goodIn_sub (fun _ h => List.mem_cons_of_mem _ (List.mem_append_right _ h)) (by decide +kernel))
set_option maxRecDepth 20000 in
theorem gX1_put_X1_checkPlace : GoodIn wsX1_put (va_wsS RX1 35 yX1_checkPlace wsX1_checkPlace) := goodIn_app (goodIn_of _ (by decide +kernel)) ggX1_put_X1_checkPlace
set_option maxRecDepth 20000 in
theorem ggX1_put_X1_rowWith : GoodIn wsX1_put wsX1_rowWith := goodIn_r _ [20, 21] (by decide +kernel) (by decide +kernel)
set_option maxRecDepth 20000 in
theorem gX1_put_X1_rowWith : GoodIn wsX1_put (va_wsS RX1 65 yX1_rowWith wsX1_rowWith) := goodIn_app (goodIn_of _ (by decide +kernel)) ggX1_put_X1_rowWith
set_option maxRecDepth 20000 in
theorem ggX1_put_X0_init : GoodIn wsX1_put wsX0_init := goodIn_r _ [24, 25, 26, 27, 28, 29, 30, 37, 38, 39] (by decide +kernel) (by decide +kernel)
set_option maxRecDepth 20000 in
theorem gX1_put_X0_init : GoodIn wsX1_put (wsX0_init) := ggX1_put_X0_init
theorem dX1_put_0 : decode cX1_put 0 = .ok (.iload_n 1, 1) := by decide +kernel
theorem dX1_put_1 : decode cX1_put 1 = .ok (.invokestatic 35, 3) := by decide +kernel
theorem dX1_put_4 : decode cX1_put 4 = .ok (.aload_n 0, 1) := by decide +kernel
theorem dX1_put_5 : decode cX1_put 5 = .ok (.getfield 14, 3) := by decide +kernel
theorem dX1_put_8 : decode cX1_put 8 = .ok (.iload_n 1, 1) := by decide +kernel
theorem dX1_put_9 : decode cX1_put 9 = .ok (.aaload, 1) := by decide +kernel
theorem dX1_put_10 : decode cX1_put 10 = .ok (.astore 4, 2) := by decide +kernel
theorem dX1_put_12 : decode cX1_put 12 = .ok (.aload 4, 2) := by decide +kernel
theorem dX1_put_14 : decode cX1_put 14 = .ok (.getfield 43, 3) := by decide +kernel
theorem dX1_put_17 : decode cX1_put 17 = .ok (.arraylength, 1) := by decide +kernel
theorem dX1_put_18 : decode cX1_put 18 = .ok (.istore 5, 2) := by decide +kernel
theorem dX1_put_20 : decode cX1_put 20 = .ok (.aload 4, 2) := by decide +kernel
theorem dX1_put_22 : decode cX1_put 22 = .ok (.getfield 47, 3) := by decide +kernel
theorem dX1_put_25 : decode cX1_put 25 = .ok (.iconst 1, 1) := by decide +kernel
theorem dX1_put_26 : decode cX1_put 26 = .ok (.if_icmp .ne 10, 3) := by decide +kernel
theorem dX1_put_29 : decode cX1_put 29 = .ok (.iload 5, 2) := by decide +kernel
theorem dX1_put_31 : decode cX1_put 31 = .ok (.bipush 12, 2) := by decide +kernel
theorem dX1_put_33 : decode cX1_put 33 = .ok (.if_icmp .lt 13, 3) := by decide +kernel
theorem dX1_put_36 : decode cX1_put 36 = .ok (.new 50, 3) := by decide +kernel
theorem dX1_put_39 : decode cX1_put 39 = .ok (.dup, 1) := by decide +kernel
theorem dX1_put_40 : decode cX1_put 40 = .ok (.ldc 52, 2) := by decide +kernel
theorem dX1_put_42 : decode cX1_put 42 = .ok (.invokespecial 54, 3) := by decide +kernel
theorem dX1_put_45 : decode cX1_put 45 = .ok (.athrow, 1) := by decide +kernel
theorem dX1_put_46 : decode cX1_put 46 = .ok (.iload_n 2, 1) := by decide +kernel
theorem dX1_put_47 : decode cX1_put 47 = .ok (.ifCond .lt 19, 3) := by decide +kernel
theorem dX1_put_50 : decode cX1_put 50 = .ok (.iload_n 2, 1) := by decide +kernel
theorem dX1_put_51 : decode cX1_put 51 = .ok (.iload 5, 2) := by decide +kernel
theorem dX1_put_53 : decode cX1_put 53 = .ok (.if_icmp .gt 13, 3) := by decide +kernel
theorem dX1_put_56 : decode cX1_put 56 = .ok (.iload_n 3, 1) := by decide +kernel
theorem dX1_put_57 : decode cX1_put 57 = .ok (.ifCond .lt 9, 3) := by decide +kernel
theorem dX1_put_60 : decode cX1_put 60 = .ok (.iload_n 3, 1) := by decide +kernel
theorem dX1_put_61 : decode cX1_put 61 = .ok (.bipush 9, 2) := by decide +kernel
theorem dX1_put_63 : decode cX1_put 63 = .ok (.if_icmp .le 13, 3) := by decide +kernel
theorem dX1_put_66 : decode cX1_put 66 = .ok (.new 57, 3) := by decide +kernel
theorem dX1_put_69 : decode cX1_put 69 = .ok (.dup, 1) := by decide +kernel
theorem dX1_put_70 : decode cX1_put 70 = .ok (.ldc 59, 2) := by decide +kernel
theorem dX1_put_72 : decode cX1_put 72 = .ok (.invokespecial 61, 3) := by decide +kernel
theorem dX1_put_75 : decode cX1_put 75 = .ok (.athrow, 1) := by decide +kernel
theorem dX1_put_76 : decode cX1_put 76 = .ok (.aload_n 0, 1) := by decide +kernel
theorem dX1_put_77 : decode cX1_put 77 = .ok (.getfield 14, 3) := by decide +kernel
theorem dX1_put_80 : decode cX1_put 80 = .ok (.iload_n 1, 1) := by decide +kernel
theorem dX1_put_81 : decode cX1_put 81 = .ok (.new 7, 3) := by decide +kernel
theorem dX1_put_84 : decode cX1_put 84 = .ok (.dup, 1) := by decide +kernel
theorem dX1_put_85 : decode cX1_put 85 = .ok (.iconst 1, 1) := by decide +kernel
theorem dX1_put_86 : decode cX1_put 86 = .ok (.aload 4, 2) := by decide +kernel
theorem dX1_put_88 : decode cX1_put 88 = .ok (.getfield 62, 3) := by decide +kernel
theorem dX1_put_91 : decode cX1_put 91 = .ok (.aload 4, 2) := by decide +kernel
theorem dX1_put_93 : decode cX1_put 93 = .ok (.getfield 43, 3) := by decide +kernel
theorem dX1_put_96 : decode cX1_put 96 = .ok (.iload_n 2, 1) := by decide +kernel
theorem dX1_put_97 : decode cX1_put 97 = .ok (.iload_n 3, 1) := by decide +kernel
theorem dX1_put_98 : decode cX1_put 98 = .ok (.invokestatic 65, 3) := by decide +kernel
theorem dX1_put_101 : decode cX1_put 101 = .ok (.invokespecial 11, 3) := by decide +kernel
theorem dX1_put_104 : decode cX1_put 104 = .ok (.aastore, 1) := by decide +kernel
theorem dX1_put_105 : decode cX1_put 105 = .ok (.iload 5, 2) := by decide +kernel
theorem dX1_put_107 : decode cX1_put 107 = .ok (.iconst 1, 1) := by decide +kernel
theorem dX1_put_108 : decode cX1_put 108 = .ok (.iadd, 1) := by decide +kernel
theorem dX1_put_109 : decode cX1_put 109 = .ok (.ireturn, 1) := by decide +kernel
set_option maxRecDepth 20000 in
theorem ggX1_take_X1_checkPlace : GoodIn wsX1_take wsX1_checkPlace := goodIn_ca (goodIn_r _ [15, 16, 17] (by decide +kernel) (by decide +kernel)) (goodIn_sub (fun _ h => List.mem_cons_of_mem _ (List.mem_append_right _ h)) (by decide +kernel))
set_option maxRecDepth 20000 in
theorem gX1_take_X1_checkPlace : GoodIn wsX1_take (va_wsS RX1 35 yX1_checkPlace wsX1_checkPlace) := goodIn_app (goodIn_of _ (by decide +kernel)) ggX1_take_X1_checkPlace
set_option maxRecDepth 20000 in
theorem ggX1_take_X1_rowWithout : GoodIn wsX1_take wsX1_rowWithout := goodIn_r _ [20, 21] (by decide +kernel) (by decide +kernel)
set_option maxRecDepth 20000 in
theorem gX1_take_X1_rowWithout : GoodIn wsX1_take (va_wsS RX1 73 yX1_rowWithout wsX1_rowWithout) := goodIn_app (goodIn_of _ (by decide +kernel)) ggX1_take_X1_rowWithout
set_option maxRecDepth 20000 in
theorem ggX1_take_X0_init : GoodIn wsX1_take wsX0_init := goodIn_r _ [24, 25, 26, 27, 28, 29, 30, 37, 38, 39] (by decide +kernel) (by decide +kernel)
set_option maxRecDepth 20000 in
theorem gX1_take_X0_init : GoodIn wsX1_take (wsX0_init) := ggX1_take_X0_init
theorem dX1_take_0 : decode cX1_take 0 = .ok (.iload_n 1, 1) := by decide +kernel
theorem dX1_take_1 : decode cX1_take 1 = .ok (.invokestatic 35, 3) := by decide +kernel
theorem dX1_take_4 : decode cX1_take 4 = .ok (.aload_n 0, 1) := by decide +kernel
theorem dX1_take_5 : decode cX1_take 5 = .ok (.getfield 14, 3) := by decide +kernel
theorem dX1_take_8 : decode cX1_take 8 = .ok (.iload_n 1, 1) := by decide +kernel
theorem dX1_take_9 : decode cX1_take 9 = .ok (.aaload, 1) := by decide +kernel
theorem dX1_take_10 : decode cX1_take 10 = .ok (.astore_n 3, 1) := by decide +kernel
theorem dX1_take_11 : decode cX1_take 11 = .ok (.aload_n 3, 1) := by decide +kernel
theorem dX1_take_12 : decode cX1_take 12 = .ok (.getfield 47, 3) := by decide +kernel
theorem dX1_take_15 : decode cX1_take 15 = .ok (.iconst 1, 1) := by decide +kernel
theorem dX1_take_16 : decode cX1_take 16 = .ok (.if_icmp .eq 13, 3) := by decide +kernel
theorem dX1_take_19 : decode cX1_take 19 = .ok (.new 50, 3) := by decide +kernel
theorem dX1_take_22 : decode cX1_take 22 = .ok (.dup, 1) := by decide +kernel
theorem dX1_take_23 : decode cX1_take 23 = .ok (.ldc 69, 2) := by decide +kernel
theorem dX1_take_25 : decode cX1_take 25 = .ok (.invokespecial 54, 3) := by decide +kernel
theorem dX1_take_28 : decode cX1_take 28 = .ok (.athrow, 1) := by decide +kernel
theorem dX1_take_29 : decode cX1_take 29 = .ok (.iload_n 2, 1) := by decide +kernel
theorem dX1_take_30 : decode cX1_take 30 = .ok (.ifCond .lt 12, 3) := by decide +kernel
theorem dX1_take_33 : decode cX1_take 33 = .ok (.iload_n 2, 1) := by decide +kernel
theorem dX1_take_34 : decode cX1_take 34 = .ok (.aload_n 3, 1) := by decide +kernel
theorem dX1_take_35 : decode cX1_take 35 = .ok (.getfield 43, 3) := by decide +kernel
theorem dX1_take_38 : decode cX1_take 38 = .ok (.arraylength, 1) := by decide +kernel
theorem dX1_take_39 : decode cX1_take 39 = .ok (.if_icmp .lt 13, 3) := by decide +kernel
theorem dX1_take_42 : decode cX1_take 42 = .ok (.new 57, 3) := by decide +kernel
theorem dX1_take_45 : decode cX1_take 45 = .ok (.dup, 1) := by decide +kernel
theorem dX1_take_46 : decode cX1_take 46 = .ok (.ldc 71, 2) := by decide +kernel
theorem dX1_take_48 : decode cX1_take 48 = .ok (.invokespecial 61, 3) := by decide +kernel
theorem dX1_take_51 : decode cX1_take 51 = .ok (.athrow, 1) := by decide +kernel
theorem dX1_take_52 : decode cX1_take 52 = .ok (.aload_n 0, 1) := by decide +kernel
theorem dX1_take_53 : decode cX1_take 53 = .ok (.getfield 14, 3) := by decide +kernel
theorem dX1_take_56 : decode cX1_take 56 = .ok (.iload_n 1, 1) := by decide +kernel
theorem dX1_take_57 : decode cX1_take 57 = .ok (.new 7, 3) := by decide +kernel
theorem dX1_take_60 : decode cX1_take 60 = .ok (.dup, 1) := by decide +kernel
theorem dX1_take_61 : decode cX1_take 61 = .ok (.iconst 1, 1) := by decide +kernel
theorem dX1_take_62 : decode cX1_take 62 = .ok (.aload_n 3, 1) := by decide +kernel
theorem dX1_take_63 : decode cX1_take 63 = .ok (.getfield 62, 3) := by decide +kernel
theorem dX1_take_66 : decode cX1_take 66 = .ok (.aload_n 3, 1) := by decide +kernel
theorem dX1_take_67 : decode cX1_take 67 = .ok (.getfield 43, 3) := by decide +kernel
theorem dX1_take_70 : decode cX1_take 70 = .ok (.iload_n 2, 1) := by decide +kernel
theorem dX1_take_71 : decode cX1_take 71 = .ok (.invokestatic 73, 3) := by decide +kernel
theorem dX1_take_74 : decode cX1_take 74 = .ok (.invokespecial 11, 3) := by decide +kernel
theorem dX1_take_77 : decode cX1_take 77 = .ok (.aastore, 1) := by decide +kernel
theorem dX1_take_78 : decode cX1_take 78 = .ok (.aload_n 3, 1) := by decide +kernel
theorem dX1_take_79 : decode cX1_take 79 = .ok (.getfield 43, 3) := by decide +kernel
theorem dX1_take_82 : decode cX1_take 82 = .ok (.iload_n 2, 1) := by decide +kernel
theorem dX1_take_83 : decode cX1_take 83 = .ok (.iaload, 1) := by decide +kernel
theorem dX1_take_84 : decode cX1_take 84 = .ok (.ireturn, 1) := by decide +kernel
set_option maxRecDepth 20000 in
theorem ggX1_setRights_X1_checkPlace : GoodIn wsX1_setRights wsX1_checkPlace := goodIn_ca (goodIn_r _ [15, 16, 17] (by decide +kernel) (by decide +kernel)) (goodIn_sub (fun _ h => List.mem_cons_of_mem _ (List.mem_append_right _ h)) (by decide +kernel))
set_option maxRecDepth 20000 in
theorem gX1_setRights_X1_checkPlace : GoodIn wsX1_setRights (va_wsS RX1 35 yX1_checkPlace wsX1_checkPlace) := goodIn_app (goodIn_of _ (by decide +kernel)) ggX1_setRights_X1_checkPlace
set_option maxRecDepth 20000 in
theorem ggX1_setRights_X0_init : GoodIn wsX1_setRights wsX0_init := goodIn_r _ [20, 21, 22, 23, 24, 25, 26, 33, 34, 35] (by decide +kernel) (by decide +kernel)
set_option maxRecDepth 20000 in
theorem gX1_setRights_X0_init : GoodIn wsX1_setRights (wsX0_init) := ggX1_setRights_X0_init
theorem dX1_setRights_0 : decode cX1_setRights 0 = .ok (.iload_n 1, 1) := by decide +kernel
theorem dX1_setRights_1 : decode cX1_setRights 1 = .ok (.invokestatic 35, 3) := by decide +kernel
theorem dX1_setRights_4 : decode cX1_setRights 4 = .ok (.aload_n 0, 1) := by decide +kernel
theorem dX1_setRights_5 : decode cX1_setRights 5 = .ok (.getfield 14, 3) := by decide +kernel
theorem dX1_setRights_8 : decode cX1_setRights 8 = .ok (.iload_n 1, 1) := by decide +kernel
theorem dX1_setRights_9 : decode cX1_setRights 9 = .ok (.aaload, 1) := by decide +kernel
theorem dX1_setRights_10 : decode cX1_setRights 10 = .ok (.astore_n 3, 1) := by decide +kernel
theorem dX1_setRights_11 : decode cX1_setRights 11 = .ok (.aload_n 3, 1) := by decide +kernel
theorem dX1_setRights_12 : decode cX1_setRights 12 = .ok (.getfield 47, 3) := by decide +kernel
theorem dX1_setRights_15 : decode cX1_setRights 15 = .ok (.ifCond .ne 13, 3) := by decide +kernel
theorem dX1_setRights_18 : decode cX1_setRights 18 = .ok (.new 50, 3) := by decide +kernel
theorem dX1_setRights_21 : decode cX1_setRights 21 = .ok (.dup, 1) := by decide +kernel
theorem dX1_setRights_22 : decode cX1_setRights 22 = .ok (.ldc 77, 2) := by decide +kernel
theorem dX1_setRights_24 : decode cX1_setRights 24 = .ok (.invokespecial 54, 3) := by decide +kernel
theorem dX1_setRights_27 : decode cX1_setRights 27 = .ok (.athrow, 1) := by decide +kernel
theorem dX1_setRights_28 : decode cX1_setRights 28 = .ok (.iload_n 2, 1) := by decide +kernel
theorem dX1_setRights_29 : decode cX1_setRights 29 = .ok (.ifCond .lt 9, 3) := by decide +kernel
theorem dX1_setRights_32 : decode cX1_setRights 32 = .ok (.iload_n 2, 1) := by decide +kernel
theorem dX1_setRights_33 : decode cX1_setRights 33 = .ok (.bipush 7, 2) := by decide +kernel
theorem dX1_setRights_35 : decode cX1_setRights 35 = .ok (.if_icmp .le 13, 3) := by decide +kernel
theorem dX1_setRights_38 : decode cX1_setRights 38 = .ok (.new 57, 3) := by decide +kernel
theorem dX1_setRights_41 : decode cX1_setRights 41 = .ok (.dup, 1) := by decide +kernel
theorem dX1_setRights_42 : decode cX1_setRights 42 = .ok (.ldc 79, 2) := by decide +kernel
theorem dX1_setRights_44 : decode cX1_setRights 44 = .ok (.invokespecial 61, 3) := by decide +kernel
theorem dX1_setRights_47 : decode cX1_setRights 47 = .ok (.athrow, 1) := by decide +kernel
theorem dX1_setRights_48 : decode cX1_setRights 48 = .ok (.aload_n 0, 1) := by decide +kernel
theorem dX1_setRights_49 : decode cX1_setRights 49 = .ok (.getfield 14, 3) := by decide +kernel
theorem dX1_setRights_52 : decode cX1_setRights 52 = .ok (.iload_n 1, 1) := by decide +kernel
theorem dX1_setRights_53 : decode cX1_setRights 53 = .ok (.new 7, 3) := by decide +kernel
theorem dX1_setRights_56 : decode cX1_setRights 56 = .ok (.dup, 1) := by decide +kernel
theorem dX1_setRights_57 : decode cX1_setRights 57 = .ok (.aload_n 3, 1) := by decide +kernel
theorem dX1_setRights_58 : decode cX1_setRights 58 = .ok (.getfield 47, 3) := by decide +kernel
theorem dX1_setRights_61 : decode cX1_setRights 61 = .ok (.iload_n 2, 1) := by decide +kernel
theorem dX1_setRights_62 : decode cX1_setRights 62 = .ok (.aload_n 3, 1) := by decide +kernel
theorem dX1_setRights_63 : decode cX1_setRights 63 = .ok (.getfield 43, 3) := by decide +kernel
theorem dX1_setRights_66 : decode cX1_setRights 66 = .ok (.invokespecial 11, 3) := by decide +kernel
theorem dX1_setRights_69 : decode cX1_setRights 69 = .ok (.aastore, 1) := by decide +kernel
theorem dX1_setRights_70 : decode cX1_setRights 70 = .ok (.aload_n 3, 1) := by decide +kernel
theorem dX1_setRights_71 : decode cX1_setRights 71 = .ok (.getfield 62, 3) := by decide +kernel
theorem dX1_setRights_74 : decode cX1_setRights 74 = .ok (.ireturn, 1) := by decide +kernel
set_option maxRecDepth 20000 in
theorem ggX1_run_X1_undoBrokenRun : GoodIn wsX1_run wsX1_undoBrokenRun := goodIn_r _ [14, 7, 6, 35, 36, 37, 38, 39, 40] (by decide +kernel) (by decide +kernel)
set_option maxRecDepth 20000 in
theorem gX1_run_X1_undoBrokenRun : GoodIn wsX1_run (wsV RX1 85 RX1 yX1_undoBrokenRun wsX1_undoBrokenRun) := goodIn_app (goodIn_of _ (by decide +kernel)) ggX1_run_X1_undoBrokenRun
set_option maxRecDepth 20000 in
theorem ggX1_run_X1_stepsNeeded : GoodIn wsX1_run wsX1_stepsNeeded := goodIn_r _ [18, 9, 8, 5, 19, 20, 13, 21, 22, 23, 24, 25, 26, 27, 28, 29, 30, 31, 32, 33, 34, 35, 36, 37, 38, 39, 40, 41, 42, 43] (by decide +kernel) (by decide +kernel)
set_option maxRecDepth 20000 in
theorem gX1_run_X1_stepsNeeded : GoodIn wsX1_run (wsV RX1 89 RX1 yX1_stepsNeeded wsX1_stepsNeeded) := goodIn_app (goodIn_of _ (by decide +kernel)) ggX1_run_X1_stepsNeeded
set_option maxRecDepth 20000 in
theorem ggX1_run_X1_keptIndex : GoodIn wsX1_run wsX1_keptIndex := goodIn_r _ [21] (by decide +kernel) (by decide +kernel)
set_option maxRecDepth 20000 in
theorem gX1_run_X1_keptIndex : GoodIn wsX1_run (va_wsS RX1 92 yX1_keptIndex wsX1_keptIndex) := goodIn_app (goodIn_of _ (by decide +kernel)) ggX1_run_X1_keptIndex
theorem dX1_run_0 : decode cX1_run 0 = .ok (.iload_n 1, 1) := by decide +kernel
theorem dX1_run_1 : decode cX1_run 1 = .ok (.ifCond .lt 9, 3) := by decide +kernel
theorem dX1_run_4 : decode cX1_run 4 = .ok (.iload_n 1, 1) := by decide +kernel
theorem dX1_run_5 : decode cX1_run 5 = .ok (.bipush 6, 2) := by decide +kernel
theorem dX1_run_7 : decode cX1_run 7 = .ok (.if_icmp .le 13, 3) := by decide +kernel
theorem dX1_run_10 : decode cX1_run 10 = .ok (.new 57, 3) := by decide +kernel
theorem dX1_run_13 : decode cX1_run 13 = .ok (.dup, 1) := by decide +kernel
theorem dX1_run_14 : decode cX1_run 14 = .ok (.ldc 81, 2) := by decide +kernel
theorem dX1_run_16 : decode cX1_run 16 = .ok (.invokespecial 61, 3) := by decide +kernel
theorem dX1_run_19 : decode cX1_run 19 = .ok (.athrow, 1) := by decide +kernel
theorem dX1_run_20 : decode cX1_run 20 = .ok (.aload_n 0, 1) := by decide +kernel
theorem dX1_run_21 : decode cX1_run 21 = .ok (.getfield 25, 3) := by decide +kernel
theorem dX1_run_24 : decode cX1_run 24 = .ok (.bipush 40, 2) := by decide +kernel
theorem dX1_run_26 : decode cX1_run 26 = .ok (.if_icmp .lt 13, 3) := by decide +kernel
theorem dX1_run_29 : decode cX1_run 29 = .ok (.new 50, 3) := by decide +kernel
theorem dX1_run_32 : decode cX1_run 32 = .ok (.dup, 1) := by decide +kernel
theorem dX1_run_33 : decode cX1_run 33 = .ok (.ldc 83, 2) := by decide +kernel
theorem dX1_run_35 : decode cX1_run 35 = .ok (.invokespecial 54, 3) := by decide +kernel
theorem dX1_run_38 : decode cX1_run 38 = .ok (.athrow, 1) := by decide +kernel
theorem dX1_run_39 : decode cX1_run 39 = .ok (.aload_n 0, 1) := by decide +kernel
theorem dX1_run_40 : decode cX1_run 40 = .ok (.invokevirtual 85, 3) := by decide +kernel
theorem dX1_run_43 : decode cX1_run 43 = .ok (.pop, 1) := by decide +kernel
theorem dX1_run_44 : decode cX1_run 44 = .ok (.iload_n 1, 1) := by decide +kernel
theorem dX1_run_45 : decode cX1_run 45 = .ok (.aload_n 0, 1) := by decide +kernel
theorem dX1_run_46 : decode cX1_run 46 = .ok (.invokevirtual 89, 3) := by decide +kernel
theorem dX1_run_49 : decode cX1_run 49 = .ok (.if_icmp .ge 15, 3) := by decide +kernel
theorem dX1_run_52 : decode cX1_run 52 = .ok (.aload_n 0, 1) := by decide +kernel
theorem dX1_run_53 : decode cX1_run 53 = .ok (.iconst 1, 1) := by decide +kernel
theorem dX1_run_54 : decode cX1_run 54 = .ok (.putfield 28, 3) := by decide +kernel
theorem dX1_run_57 : decode cX1_run 57 = .ok (.aload_n 0, 1) := by decide +kernel
theorem dX1_run_58 : decode cX1_run 58 = .ok (.iload_n 1, 1) := by decide +kernel
theorem dX1_run_59 : decode cX1_run 59 = .ok (.putfield 32, 3) := by decide +kernel
theorem dX1_run_62 : decode cX1_run 62 = .ok (.iconst (-1), 1) := by decide +kernel
theorem dX1_run_63 : decode cX1_run 63 = .ok (.ireturn, 1) := by decide +kernel
theorem dX1_run_64 : decode cX1_run 64 = .ok (.aload_n 0, 1) := by decide +kernel
theorem dX1_run_65 : decode cX1_run 65 = .ok (.dup, 1) := by decide +kernel
theorem dX1_run_66 : decode cX1_run 66 = .ok (.getfield 25, 3) := by decide +kernel
theorem dX1_run_69 : decode cX1_run 69 = .ok (.iconst 1, 1) := by decide +kernel
theorem dX1_run_70 : decode cX1_run 70 = .ok (.iadd, 1) := by decide +kernel
theorem dX1_run_71 : decode cX1_run 71 = .ok (.putfield 25, 3) := by decide +kernel
theorem dX1_run_74 : decode cX1_run 74 = .ok (.iconst 0, 1) := by decide +kernel
theorem dX1_run_75 : decode cX1_run 75 = .ok (.istore_n 2, 1) := by decide +kernel
theorem dX1_run_76 : decode cX1_run 76 = .ok (.iload_n 2, 1) := by decide +kernel
theorem dX1_run_77 : decode cX1_run 77 = .ok (.bipush 6, 2) := by decide +kernel
theorem dX1_run_79 : decode cX1_run 79 = .ok (.if_icmp .ge 28, 3) := by decide +kernel
theorem dX1_run_82 : decode cX1_run 82 = .ok (.aload_n 0, 1) := by decide +kernel
theorem dX1_run_83 : decode cX1_run 83 = .ok (.getfield 18, 3) := by decide +kernel
theorem dX1_run_86 : decode cX1_run 86 = .ok (.aload_n 0, 1) := by decide +kernel
theorem dX1_run_87 : decode cX1_run 87 = .ok (.getfield 25, 3) := by decide +kernel
theorem dX1_run_90 : decode cX1_run 90 = .ok (.iload_n 2, 1) := by decide +kernel
theorem dX1_run_91 : decode cX1_run 91 = .ok (.invokestatic 92, 3) := by decide +kernel
theorem dX1_run_94 : decode cX1_run 94 = .ok (.aload_n 0, 1) := by decide +kernel
theorem dX1_run_95 : decode cX1_run 95 = .ok (.getfield 14, 3) := by decide +kernel
theorem dX1_run_98 : decode cX1_run 98 = .ok (.iload_n 2, 1) := by decide +kernel
theorem dX1_run_99 : decode cX1_run 99 = .ok (.aaload, 1) := by decide +kernel
theorem dX1_run_100 : decode cX1_run 100 = .ok (.aastore, 1) := by decide +kernel
theorem dX1_run_101 : decode cX1_run 101 = .ok (.iinc 2 1, 3) := by decide +kernel
theorem dX1_run_104 : decode cX1_run 104 = .ok (.goto (-28), 3) := by decide +kernel
theorem dX1_run_107 : decode cX1_run 107 = .ok (.aload_n 0, 1) := by decide +kernel
theorem dX1_run_108 : decode cX1_run 108 = .ok (.getfield 25, 3) := by decide +kernel
theorem dX1_run_111 : decode cX1_run 111 = .ok (.ireturn, 1) := by decide +kernel
set_option maxRecDepth 20000 in
theorem ggX1_mend_X1_undoBrokenRun : GoodIn wsX1_mend wsX1_undoBrokenRun := goodIn_r _ [5, 6, 7, 8, 9, 10, 11, 12, 13] (by decide +kernel) (by decide +kernel)
set_option maxRecDepth 20000 in
theorem gX1_mend_X1_undoBrokenRun : GoodIn wsX1_mend (wsV RX1 85 RX1 yX1_undoBrokenRun wsX1_undoBrokenRun) := goodIn_app (goodIn_of _ (by decide +kernel)) ggX1_mend_X1_undoBrokenRun
theorem dX1_mend_0 : decode cX1_mend 0 = .ok (.aload_n 0, 1) := by decide +kernel
theorem dX1_mend_1 : decode cX1_mend 1 = .ok (.invokevirtual 85, 3) := by decide +kernel
theorem dX1_mend_4 : decode cX1_mend 4 = .ok (.ireturn, 1) := by decide +kernel
set_option maxRecDepth 20000 in
theorem ggX1_thin_X1_undoBrokenRun : GoodIn wsX1_thin wsX1_undoBrokenRun := goodIn_r _ [11, 12, 13, 14, 15, 16, 17, 18, 19] (by decide +kernel) (by decide +kernel)
set_option maxRecDepth 20000 in
theorem gX1_thin_X1_undoBrokenRun : GoodIn wsX1_thin (wsV RX1 85 RX1 yX1_undoBrokenRun wsX1_undoBrokenRun) := goodIn_app (goodIn_of _ (by decide +kernel)) ggX1_thin_X1_undoBrokenRun
theorem dX1_thin_0 : decode cX1_thin 0 = .ok (.iload_n 1, 1) := by decide +kernel
theorem dX1_thin_1 : decode cX1_thin 1 = .ok (.iconst 1, 1) := by decide +kernel
theorem dX1_thin_2 : decode cX1_thin 2 = .ok (.if_icmp .lt 9, 3) := by decide +kernel
theorem dX1_thin_5 : decode cX1_thin 5 = .ok (.iload_n 1, 1) := by decide +kernel
theorem dX1_thin_6 : decode cX1_thin 6 = .ok (.bipush 40, 2) := by decide +kernel
theorem dX1_thin_8 : decode cX1_thin 8 = .ok (.if_icmp .le 13, 3) := by decide +kernel
theorem dX1_thin_11 : decode cX1_thin 11 = .ok (.new 57, 3) := by decide +kernel
theorem dX1_thin_14 : decode cX1_thin 14 = .ok (.dup, 1) := by decide +kernel
theorem dX1_thin_15 : decode cX1_thin 15 = .ok (.ldc 96, 2) := by decide +kernel
theorem dX1_thin_17 : decode cX1_thin 17 = .ok (.invokespecial 61, 3) := by decide +kernel
theorem dX1_thin_20 : decode cX1_thin 20 = .ok (.athrow, 1) := by decide +kernel
theorem dX1_thin_21 : decode cX1_thin 21 = .ok (.aload_n 0, 1) := by decide +kernel
theorem dX1_thin_22 : decode cX1_thin 22 = .ok (.getfield 21, 3) := by decide +kernel
theorem dX1_thin_25 : decode cX1_thin 25 = .ok (.iload_n 1, 1) := by decide +kernel
theorem dX1_thin_26 : decode cX1_thin 26 = .ok (.iadd, 1) := by decide +kernel
theorem dX1_thin_27 : decode cX1_thin 27 = .ok (.aload_n 0, 1) := by decide +kernel
theorem dX1_thin_28 : decode cX1_thin 28 = .ok (.getfield 25, 3) := by decide +kernel
theorem dX1_thin_31 : decode cX1_thin 31 = .ok (.if_icmp .le 13, 3) := by decide +kernel
theorem dX1_thin_34 : decode cX1_thin 34 = .ok (.new 50, 3) := by decide +kernel
theorem dX1_thin_37 : decode cX1_thin 37 = .ok (.dup, 1) := by decide +kernel
theorem dX1_thin_38 : decode cX1_thin 38 = .ok (.ldc 98, 2) := by decide +kernel
theorem dX1_thin_40 : decode cX1_thin 40 = .ok (.invokespecial 54, 3) := by decide +kernel
theorem dX1_thin_43 : decode cX1_thin 43 = .ok (.athrow, 1) := by decide +kernel
theorem dX1_thin_44 : decode cX1_thin 44 = .ok (.aload_n 0, 1) := by decide +kernel
theorem dX1_thin_45 : decode cX1_thin 45 = .ok (.invokevirtual 85, 3) := by decide +kernel
theorem dX1_thin_48 : decode cX1_thin 48 = .ok (.pop, 1) := by decide +kernel
theorem dX1_thin_49 : decode cX1_thin 49 = .ok (.aload_n 0, 1) := by decide +kernel
theorem dX1_thin_50 : decode cX1_thin 50 = .ok (.dup, 1) := by decide +kernel
theorem dX1_thin_51 : decode cX1_thin 51 = .ok (.getfield 21, 3) := by decide +kernel
theorem dX1_thin_54 : decode cX1_thin 54 = .ok (.iload_n 1, 1) := by decide +kernel
theorem dX1_thin_55 : decode cX1_thin 55 = .ok (.iadd, 1) := by decide +kernel
theorem dX1_thin_56 : decode cX1_thin 56 = .ok (.putfield 21, 3) := by decide +kernel
theorem dX1_thin_59 : decode cX1_thin 59 = .ok (.aload_n 0, 1) := by decide +kernel
theorem dX1_thin_60 : decode cX1_thin 60 = .ok (.getfield 21, 3) := by decide +kernel
theorem dX1_thin_63 : decode cX1_thin 63 = .ok (.ireturn, 1) := by decide +kernel
set_option maxRecDepth 20000 in
theorem ggX1_restore_X1_checkKept : GoodIn wsX1_restore wsX1_checkKept := goodIn_ca (goodIn_r _ [7, 8, 9, 10, 11, 34, 35, 36, 37, 38, 39] (by decide +kernel) (by decide +kernel)) (goodIn_sub (fun _ h => List.mem_cons_of_mem _ (List.mem_append_right _ h)) (by decide +kernel))
set_option maxRecDepth 20000 in
theorem gX1_restore_X1_checkKept : GoodIn wsX1_restore (wsV RX1 100 RX1 yX1_checkKept wsX1_checkKept) := goodIn_app (goodIn_of _ (by decide +kernel)) ggX1_restore_X1_checkKept
set_option maxRecDepth 20000 in
theorem ggX1_restore_X1_undoBrokenRun : GoodIn wsX1_restore wsX1_undoBrokenRun := goodIn_r _ [15, 16, 17, 34, 35, 36, 37, 38, 39] (by decide +kernel) (by decide +kernel)
set_option maxRecDepth 20000 in
theorem gX1_restore_X1_undoBrokenRun : GoodIn wsX1_restore (wsV RX1 85 RX1 yX1_undoBrokenRun wsX1_undoBrokenRun) := goodIn_app (goodIn_of _ (by decide +kernel)) ggX1_restore_X1_undoBrokenRun
set_option maxRecDepth 20000 in
theorem ggX1_restore_X1_keptIndex : GoodIn wsX1_restore wsX1_keptIndex := goodIn_r _ [20] (by decide +kernel) (by decide +kernel)
set_option maxRecDepth 20000 in
theorem gX1_restore_X1_keptIndex : GoodIn wsX1_restore (va_wsS RX1 92 yX1_keptIndex wsX1_keptIndex) := goodIn_app (goodIn_of _ (by decide +kernel)) ggX1_restore_X1_keptIndex
set_option maxRecDepth 20000 in
theorem ggX1_restore_X0_isLike : GoodIn wsX1_restore wsX0_isLike := goodIn_r _ [25, 26, 27, 28, 29, 6, 30, 31, 32, 33, 40, 41, 42] (by decide +kernel) (by decide +kernel)
set_option maxRecDepth 20000 in
theorem gX1_restore_X0_isLike : GoodIn wsX1_restore (wsV RX1 103 RX0 yX0_isLike wsX0_isLike) := goodIn_app (goodIn_of _ (by decide +kernel)) ggX1_restore_X0_isLike
theorem dX1_restore_0 : decode cX1_restore 0 = .ok (.aload_n 0, 1) := by decide +kernel
theorem dX1_restore_1 : decode cX1_restore 1 = .ok (.iload_n 1, 1) := by decide +kernel
theorem dX1_restore_2 : decode cX1_restore 2 = .ok (.invokevirtual 100, 3) := by decide +kernel
theorem dX1_restore_5 : decode cX1_restore 5 = .ok (.aload_n 0, 1) := by decide +kernel
theorem dX1_restore_6 : decode cX1_restore 6 = .ok (.invokevirtual 85, 3) := by decide +kernel
theorem dX1_restore_9 : decode cX1_restore 9 = .ok (.pop, 1) := by decide +kernel
theorem dX1_restore_10 : decode cX1_restore 10 = .ok (.iconst 0, 1) := by decide +kernel
theorem dX1_restore_11 : decode cX1_restore 11 = .ok (.istore_n 2, 1) := by decide +kernel
theorem dX1_restore_12 : decode cX1_restore 12 = .ok (.iconst 0, 1) := by decide +kernel
theorem dX1_restore_13 : decode cX1_restore 13 = .ok (.istore_n 3, 1) := by decide +kernel
theorem dX1_restore_14 : decode cX1_restore 14 = .ok (.iload_n 3, 1) := by decide +kernel
theorem dX1_restore_15 : decode cX1_restore 15 = .ok (.bipush 6, 2) := by decide +kernel
theorem dX1_restore_17 : decode cX1_restore 17 = .ok (.if_icmp .ge 46, 3) := by decide +kernel
theorem dX1_restore_20 : decode cX1_restore 20 = .ok (.aload_n 0, 1) := by decide +kernel
theorem dX1_restore_21 : decode cX1_restore 21 = .ok (.getfield 18, 3) := by decide +kernel
theorem dX1_restore_24 : decode cX1_restore 24 = .ok (.iload_n 1, 1) := by decide +kernel
theorem dX1_restore_25 : decode cX1_restore 25 = .ok (.iload_n 3, 1) := by decide +kernel
theorem dX1_restore_26 : decode cX1_restore 26 = .ok (.invokestatic 92, 3) := by decide +kernel
theorem dX1_restore_29 : decode cX1_restore 29 = .ok (.aaload, 1) := by decide +kernel
theorem dX1_restore_30 : decode cX1_restore 30 = .ok (.astore 4, 2) := by decide +kernel
theorem dX1_restore_32 : decode cX1_restore 32 = .ok (.aload_n 0, 1) := by decide +kernel
theorem dX1_restore_33 : decode cX1_restore 33 = .ok (.getfield 14, 3) := by decide +kernel
theorem dX1_restore_36 : decode cX1_restore 36 = .ok (.iload_n 3, 1) := by decide +kernel
theorem dX1_restore_37 : decode cX1_restore 37 = .ok (.aaload, 1) := by decide +kernel
theorem dX1_restore_38 : decode cX1_restore 38 = .ok (.aload 4, 2) := by decide +kernel
theorem dX1_restore_40 : decode cX1_restore 40 = .ok (.invokevirtual 103, 3) := by decide +kernel
theorem dX1_restore_43 : decode cX1_restore 43 = .ok (.ifCond .ne 6, 3) := by decide +kernel
theorem dX1_restore_46 : decode cX1_restore 46 = .ok (.iinc 2 1, 3) := by decide +kernel
theorem dX1_restore_49 : decode cX1_restore 49 = .ok (.aload_n 0, 1) := by decide +kernel
theorem dX1_restore_50 : decode cX1_restore 50 = .ok (.getfield 14, 3) := by decide +kernel
theorem dX1_restore_53 : decode cX1_restore 53 = .ok (.iload_n 3, 1) := by decide +kernel
theorem dX1_restore_54 : decode cX1_restore 54 = .ok (.aload 4, 2) := by decide +kernel
theorem dX1_restore_56 : decode cX1_restore 56 = .ok (.aastore, 1) := by decide +kernel
theorem dX1_restore_57 : decode cX1_restore 57 = .ok (.iinc 3 1, 3) := by decide +kernel
theorem dX1_restore_60 : decode cX1_restore 60 = .ok (.goto (-46), 3) := by decide +kernel
theorem dX1_restore_63 : decode cX1_restore 63 = .ok (.iload_n 2, 1) := by decide +kernel
theorem dX1_restore_64 : decode cX1_restore 64 = .ok (.ireturn, 1) := by decide +kernel
theorem dX1_last_0 : decode cX1_last 0 = .ok (.aload_n 0, 1) := by decide +kernel
theorem dX1_last_1 : decode cX1_last 1 = .ok (.getfield 25, 3) := by decide +kernel
theorem dX1_last_4 : decode cX1_last 4 = .ok (.ireturn, 1) := by decide +kernel
theorem dX1_oldest_0 : decode cX1_oldest 0 = .ok (.aload_n 0, 1) := by decide +kernel
theorem dX1_oldest_1 : decode cX1_oldest 1 = .ok (.getfield 21, 3) := by decide +kernel
theorem dX1_oldest_4 : decode cX1_oldest 4 = .ok (.ireturn, 1) := by decide +kernel
theorem dX1_isBroken_0 : decode cX1_isBroken 0 = .ok (.aload_n 0, 1) := by decide +kernel
theorem dX1_isBroken_1 : decode cX1_isBroken 1 = .ok (.getfield 28, 3) := by decide +kernel
theorem dX1_isBroken_4 : decode cX1_isBroken 4 = .ok (.ireturn, 1) := by decide +kernel
set_option maxRecDepth 20000 in
theorem ggX1_needs_X1_stepsNeeded : GoodIn wsX1_needs wsX1_stepsNeeded := goodIn_r _ [5, 6, 7, 8, 9, 10, 4, 11, 12, 13, 14, 15, 16, 17, 18, 19, 20, 21, 22, 23, 24, 25, 26, 27, 28, 29, 30, 31, 32, 33] (by decide +kernel) (by decide +kernel)
set_option maxRecDepth 20000 in
theorem gX1_needs_X1_stepsNeeded : GoodIn wsX1_needs (wsV RX1 89 RX1 yX1_stepsNeeded wsX1_stepsNeeded) := goodIn_app (goodIn_of _ (by decide +kernel)) ggX1_needs_X1_stepsNeeded
theorem dX1_needs_0 : decode cX1_needs 0 = .ok (.aload_n 0, 1) := by decide +kernel
theorem dX1_needs_1 : decode cX1_needs 1 = .ok (.invokevirtual 89, 3) := by decide +kernel
theorem dX1_needs_4 : decode cX1_needs 4 = .ok (.ireturn, 1) := by decide +kernel
set_option maxRecDepth 20000 in
theorem ggX1_kindAt_X1_thingOn : GoodIn wsX1_kindAt wsX1_thingOn := goodIn_ca (goodIn_r _ [6, 7, 8, 9, 10, 11, 5, 12, 13, 14, 15, 16, 17, 18, 19, 20, 21, 22, 26, 27, 28, 29, 30, 31] (by decide +kernel) (by decide +kernel)) (goodIn_sub (fun _ h => List.mem_cons_of_mem _ (List.mem_append_right _ h)) (by decide +kernel))
set_option maxRecDepth 20000 in
theorem gX1_kindAt_X1_thingOn : GoodIn wsX1_kindAt (wsV RX1 107 RX1 yX1_thingOn wsX1_thingOn) := goodIn_app (goodIn_of _ (by decide +kernel)) ggX1_kindAt_X1_thingOn
theorem dX1_kindAt_0 : decode cX1_kindAt 0 = .ok (.aload_n 0, 1) := by decide +kernel
theorem dX1_kindAt_1 : decode cX1_kindAt 1 = .ok (.iload_n 1, 1) := by decide +kernel
theorem dX1_kindAt_2 : decode cX1_kindAt 2 = .ok (.iload_n 2, 1) := by decide +kernel
theorem dX1_kindAt_3 : decode cX1_kindAt 3 = .ok (.invokevirtual 107, 3) := by decide +kernel
theorem dX1_kindAt_6 : decode cX1_kindAt 6 = .ok (.getfield 47, 3) := by decide +kernel
theorem dX1_kindAt_9 : decode cX1_kindAt 9 = .ok (.ireturn, 1) := by decide +kernel
set_option maxRecDepth 20000 in
theorem ggX1_numberAt_X1_thingOn : GoodIn wsX1_numberAt wsX1_thingOn := goodIn_ca (goodIn_r _ [8, 9, 10, 11, 12, 13, 7, 14, 1, 2, 15, 16, 17, 18, 19, 20, 21, 22, 26, 27, 28, 29, 30, 31] (by decide +kernel) (by decide +kernel)) (goodIn_sub (fun _ h => List.mem_cons_of_mem _ (List.mem_append_right _ h)) (by decide +kernel))
set_option maxRecDepth 20000 in
theorem gX1_numberAt_X1_thingOn : GoodIn wsX1_numberAt (wsV RX1 107 RX1 yX1_thingOn wsX1_thingOn) := goodIn_app (goodIn_of _ (by decide +kernel)) ggX1_numberAt_X1_thingOn
theorem dX1_numberAt_0 : decode cX1_numberAt 0 = .ok (.aload_n 0, 1) := by decide +kernel
theorem dX1_numberAt_1 : decode cX1_numberAt 1 = .ok (.iload_n 1, 1) := by decide +kernel
theorem dX1_numberAt_2 : decode cX1_numberAt 2 = .ok (.iload_n 2, 1) := by decide +kernel
theorem dX1_numberAt_3 : decode cX1_numberAt 3 = .ok (.invokevirtual 107, 3) := by decide +kernel
theorem dX1_numberAt_6 : decode cX1_numberAt 6 = .ok (.astore 4, 2) := by decide +kernel
theorem dX1_numberAt_8 : decode cX1_numberAt 8 = .ok (.iload_n 3, 1) := by decide +kernel
theorem dX1_numberAt_9 : decode cX1_numberAt 9 = .ok (.ifCond .lt 9, 3) := by decide +kernel
theorem dX1_numberAt_12 : decode cX1_numberAt 12 = .ok (.iload_n 3, 1) := by decide +kernel
theorem dX1_numberAt_13 : decode cX1_numberAt 13 = .ok (.bipush 12, 2) := by decide +kernel
theorem dX1_numberAt_15 : decode cX1_numberAt 15 = .ok (.if_icmp .lt 13, 3) := by decide +kernel
theorem dX1_numberAt_18 : decode cX1_numberAt 18 = .ok (.new 111, 3) := by decide +kernel
theorem dX1_numberAt_21 : decode cX1_numberAt 21 = .ok (.dup, 1) := by decide +kernel
theorem dX1_numberAt_22 : decode cX1_numberAt 22 = .ok (.ldc 71, 2) := by decide +kernel
theorem dX1_numberAt_24 : decode cX1_numberAt 24 = .ok (.invokespecial 113, 3) := by decide +kernel
theorem dX1_numberAt_27 : decode cX1_numberAt 27 = .ok (.athrow, 1) := by decide +kernel
theorem dX1_numberAt_28 : decode cX1_numberAt 28 = .ok (.iload_n 3, 1) := by decide +kernel
theorem dX1_numberAt_29 : decode cX1_numberAt 29 = .ok (.aload 4, 2) := by decide +kernel
theorem dX1_numberAt_31 : decode cX1_numberAt 31 = .ok (.getfield 43, 3) := by decide +kernel
theorem dX1_numberAt_34 : decode cX1_numberAt 34 = .ok (.arraylength, 1) := by decide +kernel
theorem dX1_numberAt_35 : decode cX1_numberAt 35 = .ok (.if_icmp .ge 13, 3) := by decide +kernel
theorem dX1_numberAt_38 : decode cX1_numberAt 38 = .ok (.aload 4, 2) := by decide +kernel
theorem dX1_numberAt_40 : decode cX1_numberAt 40 = .ok (.getfield 43, 3) := by decide +kernel
theorem dX1_numberAt_43 : decode cX1_numberAt 43 = .ok (.iload_n 3, 1) := by decide +kernel
theorem dX1_numberAt_44 : decode cX1_numberAt 44 = .ok (.iaload, 1) := by decide +kernel
theorem dX1_numberAt_45 : decode cX1_numberAt 45 = .ok (.goto 4, 3) := by decide +kernel
theorem dX1_numberAt_48 : decode cX1_numberAt 48 = .ok (.iconst (-1), 1) := by decide +kernel
theorem dX1_numberAt_49 : decode cX1_numberAt 49 = .ok (.ireturn, 1) := by decide +kernel
set_option maxRecDepth 20000 in
theorem ggX1_rightsAt_X1_thingOn : GoodIn wsX1_rightsAt wsX1_thingOn := goodIn_ca (goodIn_r _ [6, 7, 8, 9, 10, 11, 5, 12, 13, 14, 15, 16, 17, 18, 19, 20, 21, 22, 26, 27, 28, 29, 30, 31] (by decide +kernel) (by decide +kernel)) (goodIn_sub (fun _ h => List.mem_cons_of_mem _ (List.mem_append_right _ h)) (by decide +kernel))
set_option maxRecDepth 20000 in
theorem gX1_rightsAt_X1_thingOn : GoodIn wsX1_rightsAt (wsV RX1 107 RX1 yX1_thingOn wsX1_thingOn) := goodIn_app (goodIn_of _ (by decide +kernel)) ggX1_rightsAt_X1_thingOn
theorem dX1_rightsAt_0 : decode cX1_rightsAt 0 = .ok (.aload_n 0, 1) := by decide +kernel
theorem dX1_rightsAt_1 : decode cX1_rightsAt 1 = .ok (.iload_n 1, 1) := by decide +kernel
theorem dX1_rightsAt_2 : decode cX1_rightsAt 2 = .ok (.iload_n 2, 1) := by decide +kernel
theorem dX1_rightsAt_3 : decode cX1_rightsAt 3 = .ok (.invokevirtual 107, 3) := by decide +kernel
theorem dX1_rightsAt_6 : decode cX1_rightsAt 6 = .ok (.getfield 62, 3) := by decide +kernel
theorem dX1_rightsAt_9 : decode cX1_rightsAt 9 = .ok (.ireturn, 1) := by decide +kernel
set_option maxRecDepth 20000 in
theorem ggX1_sizeAt_X1_checkKept : GoodIn wsX1_sizeAt wsX1_checkKept := goodIn_ca (goodIn_r _ [5, 6, 7, 8, 9, 47, 48, 49, 50, 51, 52] (by decide +kernel) (by decide +kernel)) (goodIn_sub (fun _ h => List.mem_cons_of_mem _ (List.mem_append_right _ h)) (by decide +kernel))
set_option maxRecDepth 20000 in
theorem gX1_sizeAt_X1_checkKept : GoodIn wsX1_sizeAt (wsV RX1 100 RX1 yX1_checkKept wsX1_checkKept) := goodIn_app (goodIn_of _ (by decide +kernel)) ggX1_sizeAt_X1_checkKept
set_option maxRecDepth 20000 in
theorem ggX1_sizeAt_X1_checkPlace : GoodIn wsX1_sizeAt wsX1_checkPlace := goodIn_ca (goodIn_r _ [12, 6, 7] (by decide +kernel) (by decide +kernel)) (goodIn_sub (fun _ h => List.mem_cons_of_mem _ (List.mem_append_right _ h)) (by decide +kernel))
set_option maxRecDepth 20000 in
theorem gX1_sizeAt_X1_checkPlace : GoodIn wsX1_sizeAt (va_wsS RX1 35 yX1_checkPlace wsX1_checkPlace) := goodIn_app (goodIn_of _ (by decide +kernel)) ggX1_sizeAt_X1_checkPlace
set_option maxRecDepth 20000 in
theorem ggX1_sizeAt_X1_differenceTakes : GoodIn wsX1_sizeAt wsX1_differenceTakes := goodIn_r _ [16, 9, 17, 18, 19, 20, 21, 22, 4, 23, 24, 25, 26, 27, 28, 29, 30, 31, 32, 33, 34, 35, 36, 37, 38, 39, 40, 41, 42, 43, 44, 45, 46, 47, 48, 49, 50, 51, 52, 53, 54, 55] (by decide +kernel) (by decide +kernel)
set_option maxRecDepth 20000 in
theorem gX1_sizeAt_X1_differenceTakes : GoodIn wsX1_sizeAt (wsV RX1 114 RX1 yX1_differenceTakes wsX1_differenceTakes) := goodIn_app (goodIn_of _ (by decide +kernel)) ggX1_sizeAt_X1_differenceTakes
theorem dX1_sizeAt_0 : decode cX1_sizeAt 0 = .ok (.aload_n 0, 1) := by decide +kernel
theorem dX1_sizeAt_1 : decode cX1_sizeAt 1 = .ok (.iload_n 1, 1) := by decide +kernel
theorem dX1_sizeAt_2 : decode cX1_sizeAt 2 = .ok (.invokevirtual 100, 3) := by decide +kernel
theorem dX1_sizeAt_5 : decode cX1_sizeAt 5 = .ok (.iload_n 2, 1) := by decide +kernel
theorem dX1_sizeAt_6 : decode cX1_sizeAt 6 = .ok (.invokestatic 35, 3) := by decide +kernel
theorem dX1_sizeAt_9 : decode cX1_sizeAt 9 = .ok (.aload_n 0, 1) := by decide +kernel
theorem dX1_sizeAt_10 : decode cX1_sizeAt 10 = .ok (.iload_n 1, 1) := by decide +kernel
theorem dX1_sizeAt_11 : decode cX1_sizeAt 11 = .ok (.iload_n 2, 1) := by decide +kernel
theorem dX1_sizeAt_12 : decode cX1_sizeAt 12 = .ok (.invokevirtual 114, 3) := by decide +kernel
theorem dX1_sizeAt_15 : decode cX1_sizeAt 15 = .ok (.ireturn, 1) := by decide +kernel
set_option maxRecDepth 20000 in
theorem ggX1_size_X1_differenceTakes : GoodIn wsX1_size wsX1_differenceTakes := goodIn_r _ [7, 2, 8, 9, 10, 11, 12, 13, 6, 14, 15, 16, 17, 18, 19, 20, 21, 22, 23, 24, 25, 26, 27, 28, 29, 30, 31, 32, 33, 34, 35, 36, 37, 38, 39, 40, 41, 42, 43, 44, 45, 46] (by decide +kernel) (by decide +kernel)
set_option maxRecDepth 20000 in
theorem gX1_size_X1_differenceTakes : GoodIn wsX1_size (wsV RX1 114 RX1 yX1_differenceTakes wsX1_differenceTakes) := goodIn_app (goodIn_of _ (by decide +kernel)) ggX1_size_X1_differenceTakes
theorem dX1_size_0 : decode cX1_size 0 = .ok (.iconst 0, 1) := by decide +kernel
theorem dX1_size_1 : decode cX1_size 1 = .ok (.istore_n 1, 1) := by decide +kernel
theorem dX1_size_2 : decode cX1_size 2 = .ok (.aload_n 0, 1) := by decide +kernel
theorem dX1_size_3 : decode cX1_size 3 = .ok (.getfield 21, 3) := by decide +kernel
theorem dX1_size_6 : decode cX1_size 6 = .ok (.istore_n 2, 1) := by decide +kernel
theorem dX1_size_7 : decode cX1_size 7 = .ok (.iload_n 2, 1) := by decide +kernel
theorem dX1_size_8 : decode cX1_size 8 = .ok (.aload_n 0, 1) := by decide +kernel
theorem dX1_size_9 : decode cX1_size 9 = .ok (.getfield 25, 3) := by decide +kernel
theorem dX1_size_12 : decode cX1_size 12 = .ok (.if_icmp .ge 32, 3) := by decide +kernel
theorem dX1_size_15 : decode cX1_size 15 = .ok (.iconst 0, 1) := by decide +kernel
theorem dX1_size_16 : decode cX1_size 16 = .ok (.istore_n 3, 1) := by decide +kernel
theorem dX1_size_17 : decode cX1_size 17 = .ok (.iload_n 3, 1) := by decide +kernel
theorem dX1_size_18 : decode cX1_size 18 = .ok (.bipush 6, 2) := by decide +kernel
theorem dX1_size_20 : decode cX1_size 20 = .ok (.if_icmp .ge 18, 3) := by decide +kernel
theorem dX1_size_23 : decode cX1_size 23 = .ok (.iload_n 1, 1) := by decide +kernel
theorem dX1_size_24 : decode cX1_size 24 = .ok (.aload_n 0, 1) := by decide +kernel
theorem dX1_size_25 : decode cX1_size 25 = .ok (.iload_n 2, 1) := by decide +kernel
theorem dX1_size_26 : decode cX1_size 26 = .ok (.iload_n 3, 1) := by decide +kernel
theorem dX1_size_27 : decode cX1_size 27 = .ok (.invokevirtual 114, 3) := by decide +kernel
theorem dX1_size_30 : decode cX1_size 30 = .ok (.iadd, 1) := by decide +kernel
theorem dX1_size_31 : decode cX1_size 31 = .ok (.istore_n 1, 1) := by decide +kernel
theorem dX1_size_32 : decode cX1_size 32 = .ok (.iinc 3 1, 3) := by decide +kernel
theorem dX1_size_35 : decode cX1_size 35 = .ok (.goto (-18), 3) := by decide +kernel
theorem dX1_size_38 : decode cX1_size 38 = .ok (.iinc 2 1, 3) := by decide +kernel
theorem dX1_size_41 : decode cX1_size 41 = .ok (.goto (-34), 3) := by decide +kernel
theorem dX1_size_44 : decode cX1_size 44 = .ok (.iload_n 1, 1) := by decide +kernel
theorem dX1_size_45 : decode cX1_size 45 = .ok (.ireturn, 1) := by decide +kernel
theorem dX1_checkPlace_0 : decode cX1_checkPlace 0 = .ok (.iload_n 0, 1) := by decide +kernel
theorem dX1_checkPlace_1 : decode cX1_checkPlace 1 = .ok (.ifCond .lt 9, 3) := by decide +kernel
theorem dX1_checkPlace_4 : decode cX1_checkPlace 4 = .ok (.iload_n 0, 1) := by decide +kernel
theorem dX1_checkPlace_5 : decode cX1_checkPlace 5 = .ok (.bipush 6, 2) := by decide +kernel
theorem dX1_checkPlace_7 : decode cX1_checkPlace 7 = .ok (.if_icmp .lt 13, 3) := by decide +kernel
theorem dX1_checkPlace_10 : decode cX1_checkPlace 10 = .ok (.new 111, 3) := by decide +kernel
theorem dX1_checkPlace_13 : decode cX1_checkPlace 13 = .ok (.dup, 1) := by decide +kernel
theorem dX1_checkPlace_14 : decode cX1_checkPlace 14 = .ok (.ldc 117, 2) := by decide +kernel
theorem dX1_checkPlace_16 : decode cX1_checkPlace 16 = .ok (.invokespecial 113, 3) := by decide +kernel
theorem dX1_checkPlace_19 : decode cX1_checkPlace 19 = .ok (.athrow, 1) := by decide +kernel
theorem dX1_checkPlace_20 : decode cX1_checkPlace 20 = .ok (.return_, 1) := by decide +kernel
theorem dX1_checkKept_0 : decode cX1_checkKept 0 = .ok (.iload_n 1, 1) := by decide +kernel
theorem dX1_checkKept_1 : decode cX1_checkKept 1 = .ok (.aload_n 0, 1) := by decide +kernel
theorem dX1_checkKept_2 : decode cX1_checkKept 2 = .ok (.getfield 21, 3) := by decide +kernel
theorem dX1_checkKept_5 : decode cX1_checkKept 5 = .ok (.if_icmp .lt 11, 3) := by decide +kernel
theorem dX1_checkKept_8 : decode cX1_checkKept 8 = .ok (.iload_n 1, 1) := by decide +kernel
theorem dX1_checkKept_9 : decode cX1_checkKept 9 = .ok (.aload_n 0, 1) := by decide +kernel
theorem dX1_checkKept_10 : decode cX1_checkKept 10 = .ok (.getfield 25, 3) := by decide +kernel
theorem dX1_checkKept_13 : decode cX1_checkKept 13 = .ok (.if_icmp .le 13, 3) := by decide +kernel
theorem dX1_checkKept_16 : decode cX1_checkKept 16 = .ok (.new 111, 3) := by decide +kernel
theorem dX1_checkKept_19 : decode cX1_checkKept 19 = .ok (.dup, 1) := by decide +kernel
theorem dX1_checkKept_20 : decode cX1_checkKept 20 = .ok (.ldc 119, 2) := by decide +kernel
theorem dX1_checkKept_22 : decode cX1_checkKept 22 = .ok (.invokespecial 113, 3) := by decide +kernel
theorem dX1_checkKept_25 : decode cX1_checkKept 25 = .ok (.athrow, 1) := by decide +kernel
theorem dX1_checkKept_26 : decode cX1_checkKept 26 = .ok (.return_, 1) := by decide +kernel
theorem dX1_keptIndex_0 : decode cX1_keptIndex 0 = .ok (.iload_n 0, 1) := by decide +kernel
theorem dX1_keptIndex_1 : decode cX1_keptIndex 1 = .ok (.bipush 6, 2) := by decide +kernel
theorem dX1_keptIndex_3 : decode cX1_keptIndex 3 = .ok (.imul, 1) := by decide +kernel
theorem dX1_keptIndex_4 : decode cX1_keptIndex 4 = .ok (.iload_n 1, 1) := by decide +kernel
theorem dX1_keptIndex_5 : decode cX1_keptIndex 5 = .ok (.iadd, 1) := by decide +kernel
theorem dX1_keptIndex_6 : decode cX1_keptIndex 6 = .ok (.ireturn, 1) := by decide +kernel
set_option maxRecDepth 20000 in
theorem ggX1_thingOn_X1_checkKept : GoodIn wsX1_thingOn wsX1_checkKept := goodIn_ca (goodIn_r _ [7, 8, 9, 10, 11, 18, 19, 20, 21, 22, 23] (by decide +kernel) (by decide +kernel)) (goodIn_sub (fun _ h => List.mem_cons_of_mem _ (List.mem_append_right _ h)) (by decide +kernel))
set_option maxRecDepth 20000 in
theorem gX1_thingOn_X1_checkKept : GoodIn wsX1_thingOn (wsV RX1 100 RX1 yX1_checkKept wsX1_checkKept) := goodIn_app (goodIn_of _ (by decide +kernel)) ggX1_thingOn_X1_checkKept
set_option maxRecDepth 20000 in
theorem ggX1_thingOn_X1_checkPlace : GoodIn wsX1_thingOn wsX1_checkPlace := goodIn_ca (goodIn_r _ [14, 8, 9] (by decide +kernel) (by decide +kernel)) (goodIn_sub (fun _ h => List.mem_cons_of_mem _ (List.mem_append_right _ h)) (by decide +kernel))
set_option maxRecDepth 20000 in
theorem gX1_thingOn_X1_checkPlace : GoodIn wsX1_thingOn (va_wsS RX1 35 yX1_checkPlace wsX1_checkPlace) := goodIn_app (goodIn_of _ (by decide +kernel)) ggX1_thingOn_X1_checkPlace
set_option maxRecDepth 20000 in
theorem ggX1_thingOn_X1_keptIndex : GoodIn wsX1_thingOn wsX1_keptIndex := goodIn_r _ [17] (by decide +kernel) (by decide +kernel)
set_option maxRecDepth 20000 in
theorem gX1_thingOn_X1_keptIndex : GoodIn wsX1_thingOn (va_wsS RX1 92 yX1_keptIndex wsX1_keptIndex) := goodIn_app (goodIn_of _ (by decide +kernel)) ggX1_thingOn_X1_keptIndex
theorem dX1_thingOn_0 : decode cX1_thingOn 0 = .ok (.iload_n 1, 1) := by decide +kernel
theorem dX1_thingOn_1 : decode cX1_thingOn 1 = .ok (.iconst (-1), 1) := by decide +kernel
theorem dX1_thingOn_2 : decode cX1_thingOn 2 = .ok (.if_icmp .eq 8, 3) := by decide +kernel
theorem dX1_thingOn_5 : decode cX1_thingOn 5 = .ok (.aload_n 0, 1) := by decide +kernel
theorem dX1_thingOn_6 : decode cX1_thingOn 6 = .ok (.iload_n 1, 1) := by decide +kernel
theorem dX1_thingOn_7 : decode cX1_thingOn 7 = .ok (.invokevirtual 100, 3) := by decide +kernel
theorem dX1_thingOn_10 : decode cX1_thingOn 10 = .ok (.iload_n 2, 1) := by decide +kernel
theorem dX1_thingOn_11 : decode cX1_thingOn 11 = .ok (.invokestatic 35, 3) := by decide +kernel
theorem dX1_thingOn_14 : decode cX1_thingOn 14 = .ok (.iload_n 1, 1) := by decide +kernel
theorem dX1_thingOn_15 : decode cX1_thingOn 15 = .ok (.iconst (-1), 1) := by decide +kernel
theorem dX1_thingOn_16 : decode cX1_thingOn 16 = .ok (.if_icmp .ne 12, 3) := by decide +kernel
theorem dX1_thingOn_19 : decode cX1_thingOn 19 = .ok (.aload_n 0, 1) := by decide +kernel
theorem dX1_thingOn_20 : decode cX1_thingOn 20 = .ok (.getfield 14, 3) := by decide +kernel
theorem dX1_thingOn_23 : decode cX1_thingOn 23 = .ok (.iload_n 2, 1) := by decide +kernel
theorem dX1_thingOn_24 : decode cX1_thingOn 24 = .ok (.aaload, 1) := by decide +kernel
theorem dX1_thingOn_25 : decode cX1_thingOn 25 = .ok (.goto 13, 3) := by decide +kernel
theorem dX1_thingOn_28 : decode cX1_thingOn 28 = .ok (.aload_n 0, 1) := by decide +kernel
theorem dX1_thingOn_29 : decode cX1_thingOn 29 = .ok (.getfield 18, 3) := by decide +kernel
theorem dX1_thingOn_32 : decode cX1_thingOn 32 = .ok (.iload_n 1, 1) := by decide +kernel
theorem dX1_thingOn_33 : decode cX1_thingOn 33 = .ok (.iload_n 2, 1) := by decide +kernel
theorem dX1_thingOn_34 : decode cX1_thingOn 34 = .ok (.invokestatic 92, 3) := by decide +kernel
theorem dX1_thingOn_37 : decode cX1_thingOn 37 = .ok (.aaload, 1) := by decide +kernel
theorem dX1_thingOn_38 : decode cX1_thingOn 38 = .ok (.areturn, 1) := by decide +kernel
theorem dX1_exchange_0 : decode cX1_exchange 0 = .ok (.aload_n 0, 1) := by decide +kernel
theorem dX1_exchange_1 : decode cX1_exchange 1 = .ok (.getfield 14, 3) := by decide +kernel
theorem dX1_exchange_4 : decode cX1_exchange 4 = .ok (.iload_n 1, 1) := by decide +kernel
theorem dX1_exchange_5 : decode cX1_exchange 5 = .ok (.aaload, 1) := by decide +kernel
theorem dX1_exchange_6 : decode cX1_exchange 6 = .ok (.getfield 47, 3) := by decide +kernel
theorem dX1_exchange_9 : decode cX1_exchange 9 = .ok (.istore_n 3, 1) := by decide +kernel
theorem dX1_exchange_10 : decode cX1_exchange 10 = .ok (.aload_n 0, 1) := by decide +kernel
theorem dX1_exchange_11 : decode cX1_exchange 11 = .ok (.getfield 14, 3) := by decide +kernel
theorem dX1_exchange_14 : decode cX1_exchange 14 = .ok (.iload_n 1, 1) := by decide +kernel
theorem dX1_exchange_15 : decode cX1_exchange 15 = .ok (.aload_n 2, 1) := by decide +kernel
theorem dX1_exchange_16 : decode cX1_exchange 16 = .ok (.aastore, 1) := by decide +kernel
theorem dX1_exchange_17 : decode cX1_exchange 17 = .ok (.iload_n 3, 1) := by decide +kernel
theorem dX1_exchange_18 : decode cX1_exchange 18 = .ok (.ireturn, 1) := by decide +kernel
set_option maxRecDepth 20000 in
theorem ggX1_stepsNeeded_X1_keptIndex : GoodIn wsX1_stepsNeeded wsX1_keptIndex := goodIn_r _ [7] (by decide +kernel) (by decide +kernel)
set_option maxRecDepth 20000 in
theorem gX1_stepsNeeded_X1_keptIndex : GoodIn wsX1_stepsNeeded (va_wsS RX1 92 yX1_keptIndex wsX1_keptIndex) := goodIn_app (goodIn_of _ (by decide +kernel)) ggX1_stepsNeeded_X1_keptIndex
set_option maxRecDepth 20000 in
theorem ggX1_stepsNeeded_X0_isLike : GoodIn wsX1_stepsNeeded wsX0_isLike := goodIn_r _ [12, 13, 14, 15, 16, 6, 17, 18, 19, 20, 27, 28, 29] (by decide +kernel) (by decide +kernel)
set_option maxRecDepth 20000 in
theorem gX1_stepsNeeded_X0_isLike : GoodIn wsX1_stepsNeeded (wsV RX1 103 RX0 yX0_isLike wsX0_isLike) := goodIn_app (goodIn_of _ (by decide +kernel)) ggX1_stepsNeeded_X0_isLike
theorem dX1_stepsNeeded_0 : decode cX1_stepsNeeded 0 = .ok (.iconst 0, 1) := by decide +kernel
theorem dX1_stepsNeeded_1 : decode cX1_stepsNeeded 1 = .ok (.istore_n 1, 1) := by decide +kernel
theorem dX1_stepsNeeded_2 : decode cX1_stepsNeeded 2 = .ok (.iconst 0, 1) := by decide +kernel
theorem dX1_stepsNeeded_3 : decode cX1_stepsNeeded 3 = .ok (.istore_n 2, 1) := by decide +kernel
theorem dX1_stepsNeeded_4 : decode cX1_stepsNeeded 4 = .ok (.iload_n 2, 1) := by decide +kernel
theorem dX1_stepsNeeded_5 : decode cX1_stepsNeeded 5 = .ok (.bipush 6, 2) := by decide +kernel
theorem dX1_stepsNeeded_7 : decode cX1_stepsNeeded 7 = .ok (.if_icmp .ge 37, 3) := by decide +kernel
theorem dX1_stepsNeeded_10 : decode cX1_stepsNeeded 10 = .ok (.aload_n 0, 1) := by decide +kernel
theorem dX1_stepsNeeded_11 : decode cX1_stepsNeeded 11 = .ok (.getfield 14, 3) := by decide +kernel
theorem dX1_stepsNeeded_14 : decode cX1_stepsNeeded 14 = .ok (.iload_n 2, 1) := by decide +kernel
theorem dX1_stepsNeeded_15 : decode cX1_stepsNeeded 15 = .ok (.aaload, 1) := by decide +kernel
theorem dX1_stepsNeeded_16 : decode cX1_stepsNeeded 16 = .ok (.aload_n 0, 1) := by decide +kernel
theorem dX1_stepsNeeded_17 : decode cX1_stepsNeeded 17 = .ok (.getfield 18, 3) := by decide +kernel
theorem dX1_stepsNeeded_20 : decode cX1_stepsNeeded 20 = .ok (.aload_n 0, 1) := by decide +kernel
theorem dX1_stepsNeeded_21 : decode cX1_stepsNeeded 21 = .ok (.getfield 25, 3) := by decide +kernel
theorem dX1_stepsNeeded_24 : decode cX1_stepsNeeded 24 = .ok (.iload_n 2, 1) := by decide +kernel
theorem dX1_stepsNeeded_25 : decode cX1_stepsNeeded 25 = .ok (.invokestatic 92, 3) := by decide +kernel
theorem dX1_stepsNeeded_28 : decode cX1_stepsNeeded 28 = .ok (.aaload, 1) := by decide +kernel
theorem dX1_stepsNeeded_29 : decode cX1_stepsNeeded 29 = .ok (.invokevirtual 103, 3) := by decide +kernel
theorem dX1_stepsNeeded_32 : decode cX1_stepsNeeded 32 = .ok (.ifCond .ne 6, 3) := by decide +kernel
theorem dX1_stepsNeeded_35 : decode cX1_stepsNeeded 35 = .ok (.iinc 1 1, 3) := by decide +kernel
theorem dX1_stepsNeeded_38 : decode cX1_stepsNeeded 38 = .ok (.iinc 2 1, 3) := by decide +kernel
theorem dX1_stepsNeeded_41 : decode cX1_stepsNeeded 41 = .ok (.goto (-37), 3) := by decide +kernel
theorem dX1_stepsNeeded_44 : decode cX1_stepsNeeded 44 = .ok (.iload_n 1, 1) := by decide +kernel
theorem dX1_stepsNeeded_45 : decode cX1_stepsNeeded 45 = .ok (.ireturn, 1) := by decide +kernel
theorem dX1_undoBrokenRun_0 : decode cX1_undoBrokenRun 0 = .ok (.aload_n 0, 1) := by decide +kernel
theorem dX1_undoBrokenRun_1 : decode cX1_undoBrokenRun 1 = .ok (.getfield 32, 3) := by decide +kernel
theorem dX1_undoBrokenRun_4 : decode cX1_undoBrokenRun 4 = .ok (.istore_n 1, 1) := by decide +kernel
theorem dX1_undoBrokenRun_5 : decode cX1_undoBrokenRun 5 = .ok (.aload_n 0, 1) := by decide +kernel
theorem dX1_undoBrokenRun_6 : decode cX1_undoBrokenRun 6 = .ok (.iconst 0, 1) := by decide +kernel
theorem dX1_undoBrokenRun_7 : decode cX1_undoBrokenRun 7 = .ok (.putfield 28, 3) := by decide +kernel
theorem dX1_undoBrokenRun_10 : decode cX1_undoBrokenRun 10 = .ok (.aload_n 0, 1) := by decide +kernel
theorem dX1_undoBrokenRun_11 : decode cX1_undoBrokenRun 11 = .ok (.iconst 0, 1) := by decide +kernel
theorem dX1_undoBrokenRun_12 : decode cX1_undoBrokenRun 12 = .ok (.putfield 32, 3) := by decide +kernel
theorem dX1_undoBrokenRun_15 : decode cX1_undoBrokenRun 15 = .ok (.iload_n 1, 1) := by decide +kernel
theorem dX1_undoBrokenRun_16 : decode cX1_undoBrokenRun 16 = .ok (.ireturn, 1) := by decide +kernel
set_option maxRecDepth 20000 in
theorem ggX1_differenceTakes_X1_keptIndex : GoodIn wsX1_differenceTakes wsX1_keptIndex := goodIn_r _ [9] (by decide +kernel) (by decide +kernel)
set_option maxRecDepth 20000 in
theorem gX1_differenceTakes_X1_keptIndex : GoodIn wsX1_differenceTakes (va_wsS RX1 92 yX1_keptIndex wsX1_keptIndex) := goodIn_app (goodIn_of _ (by decide +kernel)) ggX1_differenceTakes_X1_keptIndex
set_option maxRecDepth 20000 in
theorem ggX1_differenceTakes_X0_isLike : GoodIn wsX1_differenceTakes wsX0_isLike := goodIn_r _ [14, 15, 16, 17, 18, 8, 19, 20, 21, 22, 39, 40, 41] (by decide +kernel) (by decide +kernel)
set_option maxRecDepth 20000 in
theorem gX1_differenceTakes_X0_isLike : GoodIn wsX1_differenceTakes (wsV RX1 103 RX0 yX0_isLike wsX0_isLike) := goodIn_app (goodIn_of _ (by decide +kernel)) ggX1_differenceTakes_X0_isLike
set_option maxRecDepth 20000 in
theorem ggX1_differenceTakes_X1_rowTakes : GoodIn wsX1_differenceTakes wsX1_rowTakes := goodIn_r _ [25, 26, 27, 8, 28, 29, 30, 31, 32, 20, 21, 22] (by decide +kernel) (by decide +kernel)
set_option maxRecDepth 20000 in
theorem gX1_differenceTakes_X1_rowTakes : GoodIn wsX1_differenceTakes (va_wsS RX1 121 yX1_rowTakes wsX1_rowTakes) := goodIn_app (goodIn_of _ (by decide +kernel)) ggX1_differenceTakes_X1_rowTakes
theorem dX1_differenceTakes_0 : decode cX1_differenceTakes 0 = .ok (.iload_n 1, 1) := by decide +kernel
theorem dX1_differenceTakes_1 : decode cX1_differenceTakes 1 = .ok (.aload_n 0, 1) := by decide +kernel
theorem dX1_differenceTakes_2 : decode cX1_differenceTakes 2 = .ok (.getfield 25, 3) := by decide +kernel
theorem dX1_differenceTakes_5 : decode cX1_differenceTakes 5 = .ok (.if_icmp .lt 5, 3) := by decide +kernel
theorem dX1_differenceTakes_8 : decode cX1_differenceTakes 8 = .ok (.iconst 0, 1) := by decide +kernel
theorem dX1_differenceTakes_9 : decode cX1_differenceTakes 9 = .ok (.ireturn, 1) := by decide +kernel
theorem dX1_differenceTakes_10 : decode cX1_differenceTakes 10 = .ok (.aload_n 0, 1) := by decide +kernel
theorem dX1_differenceTakes_11 : decode cX1_differenceTakes 11 = .ok (.getfield 18, 3) := by decide +kernel
theorem dX1_differenceTakes_14 : decode cX1_differenceTakes 14 = .ok (.iload_n 1, 1) := by decide +kernel
theorem dX1_differenceTakes_15 : decode cX1_differenceTakes 15 = .ok (.iload_n 2, 1) := by decide +kernel
theorem dX1_differenceTakes_16 : decode cX1_differenceTakes 16 = .ok (.invokestatic 92, 3) := by decide +kernel
theorem dX1_differenceTakes_19 : decode cX1_differenceTakes 19 = .ok (.aaload, 1) := by decide +kernel
theorem dX1_differenceTakes_20 : decode cX1_differenceTakes 20 = .ok (.astore_n 3, 1) := by decide +kernel
theorem dX1_differenceTakes_21 : decode cX1_differenceTakes 21 = .ok (.aload_n 0, 1) := by decide +kernel
theorem dX1_differenceTakes_22 : decode cX1_differenceTakes 22 = .ok (.getfield 18, 3) := by decide +kernel
theorem dX1_differenceTakes_25 : decode cX1_differenceTakes 25 = .ok (.iload_n 1, 1) := by decide +kernel
theorem dX1_differenceTakes_26 : decode cX1_differenceTakes 26 = .ok (.iconst 1, 1) := by decide +kernel
theorem dX1_differenceTakes_27 : decode cX1_differenceTakes 27 = .ok (.iadd, 1) := by decide +kernel
theorem dX1_differenceTakes_28 : decode cX1_differenceTakes 28 = .ok (.iload_n 2, 1) := by decide +kernel
theorem dX1_differenceTakes_29 : decode cX1_differenceTakes 29 = .ok (.invokestatic 92, 3) := by decide +kernel
theorem dX1_differenceTakes_32 : decode cX1_differenceTakes 32 = .ok (.aaload, 1) := by decide +kernel
theorem dX1_differenceTakes_33 : decode cX1_differenceTakes 33 = .ok (.astore 4, 2) := by decide +kernel
theorem dX1_differenceTakes_35 : decode cX1_differenceTakes 35 = .ok (.aload_n 3, 1) := by decide +kernel
theorem dX1_differenceTakes_36 : decode cX1_differenceTakes 36 = .ok (.aload 4, 2) := by decide +kernel
theorem dX1_differenceTakes_38 : decode cX1_differenceTakes 38 = .ok (.invokevirtual 103, 3) := by decide +kernel
theorem dX1_differenceTakes_41 : decode cX1_differenceTakes 41 = .ok (.ifCond .eq 5, 3) := by decide +kernel
theorem dX1_differenceTakes_44 : decode cX1_differenceTakes 44 = .ok (.iconst 0, 1) := by decide +kernel
theorem dX1_differenceTakes_45 : decode cX1_differenceTakes 45 = .ok (.ireturn, 1) := by decide +kernel
theorem dX1_differenceTakes_46 : decode cX1_differenceTakes 46 = .ok (.aload_n 3, 1) := by decide +kernel
theorem dX1_differenceTakes_47 : decode cX1_differenceTakes 47 = .ok (.getfield 62, 3) := by decide +kernel
theorem dX1_differenceTakes_50 : decode cX1_differenceTakes 50 = .ok (.aload 4, 2) := by decide +kernel
theorem dX1_differenceTakes_52 : decode cX1_differenceTakes 52 = .ok (.getfield 62, 3) := by decide +kernel
theorem dX1_differenceTakes_55 : decode cX1_differenceTakes 55 = .ok (.if_icmp .ne 7, 3) := by decide +kernel
theorem dX1_differenceTakes_58 : decode cX1_differenceTakes 58 = .ok (.iconst 0, 1) := by decide +kernel
theorem dX1_differenceTakes_59 : decode cX1_differenceTakes 59 = .ok (.goto 4, 3) := by decide +kernel
theorem dX1_differenceTakes_62 : decode cX1_differenceTakes 62 = .ok (.iconst 1, 1) := by decide +kernel
theorem dX1_differenceTakes_63 : decode cX1_differenceTakes 63 = .ok (.istore 5, 2) := by decide +kernel
theorem dX1_differenceTakes_65 : decode cX1_differenceTakes 65 = .ok (.aload_n 3, 1) := by decide +kernel
theorem dX1_differenceTakes_66 : decode cX1_differenceTakes 66 = .ok (.getfield 47, 3) := by decide +kernel
theorem dX1_differenceTakes_69 : decode cX1_differenceTakes 69 = .ok (.iconst 1, 1) := by decide +kernel
theorem dX1_differenceTakes_70 : decode cX1_differenceTakes 70 = .ok (.if_icmp .ne 28, 3) := by decide +kernel
theorem dX1_differenceTakes_73 : decode cX1_differenceTakes 73 = .ok (.aload 4, 2) := by decide +kernel
theorem dX1_differenceTakes_75 : decode cX1_differenceTakes 75 = .ok (.getfield 47, 3) := by decide +kernel
theorem dX1_differenceTakes_78 : decode cX1_differenceTakes 78 = .ok (.iconst 1, 1) := by decide +kernel
theorem dX1_differenceTakes_79 : decode cX1_differenceTakes 79 = .ok (.if_icmp .ne 19, 3) := by decide +kernel
theorem dX1_differenceTakes_82 : decode cX1_differenceTakes 82 = .ok (.iload 5, 2) := by decide +kernel
theorem dX1_differenceTakes_84 : decode cX1_differenceTakes 84 = .ok (.aload_n 3, 1) := by decide +kernel
theorem dX1_differenceTakes_85 : decode cX1_differenceTakes 85 = .ok (.getfield 43, 3) := by decide +kernel
theorem dX1_differenceTakes_88 : decode cX1_differenceTakes 88 = .ok (.aload 4, 2) := by decide +kernel
theorem dX1_differenceTakes_90 : decode cX1_differenceTakes 90 = .ok (.getfield 43, 3) := by decide +kernel
theorem dX1_differenceTakes_93 : decode cX1_differenceTakes 93 = .ok (.invokestatic 121, 3) := by decide +kernel
theorem dX1_differenceTakes_96 : decode cX1_differenceTakes 96 = .ok (.iadd, 1) := by decide +kernel
theorem dX1_differenceTakes_97 : decode cX1_differenceTakes 97 = .ok (.ireturn, 1) := by decide +kernel
theorem dX1_differenceTakes_98 : decode cX1_differenceTakes 98 = .ok (.iload 5, 2) := by decide +kernel
theorem dX1_differenceTakes_100 : decode cX1_differenceTakes 100 = .ok (.aload_n 3, 1) := by decide +kernel
theorem dX1_differenceTakes_101 : decode cX1_differenceTakes 101 = .ok (.getfield 47, 3) := by decide +kernel
theorem dX1_differenceTakes_104 : decode cX1_differenceTakes 104 = .ok (.iconst 1, 1) := by decide +kernel
theorem dX1_differenceTakes_105 : decode cX1_differenceTakes 105 = .ok (.if_icmp .ne 13, 3) := by decide +kernel
theorem dX1_differenceTakes_108 : decode cX1_differenceTakes 108 = .ok (.aload_n 3, 1) := by decide +kernel
theorem dX1_differenceTakes_109 : decode cX1_differenceTakes 109 = .ok (.getfield 43, 3) := by decide +kernel
theorem dX1_differenceTakes_112 : decode cX1_differenceTakes 112 = .ok (.arraylength, 1) := by decide +kernel
theorem dX1_differenceTakes_113 : decode cX1_differenceTakes 113 = .ok (.iconst 1, 1) := by decide +kernel
theorem dX1_differenceTakes_114 : decode cX1_differenceTakes 114 = .ok (.iadd, 1) := by decide +kernel
theorem dX1_differenceTakes_115 : decode cX1_differenceTakes 115 = .ok (.goto 4, 3) := by decide +kernel
theorem dX1_differenceTakes_118 : decode cX1_differenceTakes 118 = .ok (.iconst 1, 1) := by decide +kernel
theorem dX1_differenceTakes_119 : decode cX1_differenceTakes 119 = .ok (.iadd, 1) := by decide +kernel
theorem dX1_differenceTakes_120 : decode cX1_differenceTakes 120 = .ok (.ireturn, 1) := by decide +kernel
set_option maxRecDepth 20000 in
theorem ggX1_rowTakes_X1_longestCopy : GoodIn wsX1_rowTakes wsX1_longestCopy := goodIn_r _ [4, 5, 6, 7, 8, 9, 10, 3, 11] (by decide +kernel) (by decide +kernel)
set_option maxRecDepth 20000 in
theorem gX1_rowTakes_X1_longestCopy : GoodIn wsX1_rowTakes (va_wsS RX1 125 yX1_longestCopy wsX1_longestCopy) := goodIn_app (goodIn_of _ (by decide +kernel)) ggX1_rowTakes_X1_longestCopy
theorem dX1_rowTakes_0 : decode cX1_rowTakes 0 = .ok (.iconst 0, 1) := by decide +kernel
theorem dX1_rowTakes_1 : decode cX1_rowTakes 1 = .ok (.istore_n 2, 1) := by decide +kernel
theorem dX1_rowTakes_2 : decode cX1_rowTakes 2 = .ok (.iconst 0, 1) := by decide +kernel
theorem dX1_rowTakes_3 : decode cX1_rowTakes 3 = .ok (.istore_n 3, 1) := by decide +kernel
theorem dX1_rowTakes_4 : decode cX1_rowTakes 4 = .ok (.iload_n 3, 1) := by decide +kernel
theorem dX1_rowTakes_5 : decode cX1_rowTakes 5 = .ok (.aload_n 0, 1) := by decide +kernel
theorem dX1_rowTakes_6 : decode cX1_rowTakes 6 = .ok (.arraylength, 1) := by decide +kernel
theorem dX1_rowTakes_7 : decode cX1_rowTakes 7 = .ok (.if_icmp .ge 37, 3) := by decide +kernel
theorem dX1_rowTakes_10 : decode cX1_rowTakes 10 = .ok (.aload_n 0, 1) := by decide +kernel
theorem dX1_rowTakes_11 : decode cX1_rowTakes 11 = .ok (.iload_n 3, 1) := by decide +kernel
theorem dX1_rowTakes_12 : decode cX1_rowTakes 12 = .ok (.aload_n 1, 1) := by decide +kernel
theorem dX1_rowTakes_13 : decode cX1_rowTakes 13 = .ok (.invokestatic 125, 3) := by decide +kernel
theorem dX1_rowTakes_16 : decode cX1_rowTakes 16 = .ok (.istore 4, 2) := by decide +kernel
theorem dX1_rowTakes_18 : decode cX1_rowTakes 18 = .ok (.iload 4, 2) := by decide +kernel
theorem dX1_rowTakes_20 : decode cX1_rowTakes 20 = .ok (.iconst 3, 1) := by decide +kernel
theorem dX1_rowTakes_21 : decode cX1_rowTakes 21 = .ok (.if_icmp .lt 14, 3) := by decide +kernel
theorem dX1_rowTakes_24 : decode cX1_rowTakes 24 = .ok (.iinc 2 2, 3) := by decide +kernel
theorem dX1_rowTakes_27 : decode cX1_rowTakes 27 = .ok (.iload_n 3, 1) := by decide +kernel
theorem dX1_rowTakes_28 : decode cX1_rowTakes 28 = .ok (.iload 4, 2) := by decide +kernel
theorem dX1_rowTakes_30 : decode cX1_rowTakes 30 = .ok (.iadd, 1) := by decide +kernel
theorem dX1_rowTakes_31 : decode cX1_rowTakes 31 = .ok (.istore_n 3, 1) := by decide +kernel
theorem dX1_rowTakes_32 : decode cX1_rowTakes 32 = .ok (.goto 9, 3) := by decide +kernel
theorem dX1_rowTakes_35 : decode cX1_rowTakes 35 = .ok (.iinc 2 1, 3) := by decide +kernel
theorem dX1_rowTakes_38 : decode cX1_rowTakes 38 = .ok (.iinc 3 1, 3) := by decide +kernel
theorem dX1_rowTakes_41 : decode cX1_rowTakes 41 = .ok (.goto (-37), 3) := by decide +kernel
theorem dX1_rowTakes_44 : decode cX1_rowTakes 44 = .ok (.iload_n 2, 1) := by decide +kernel
theorem dX1_rowTakes_45 : decode cX1_rowTakes 45 = .ok (.ireturn, 1) := by decide +kernel
set_option maxRecDepth 20000 in
theorem ggX1_longestCopy_X1_sharedLength : GoodIn wsX1_longestCopy wsX1_sharedLength := goodIn_r _ [8] (by decide +kernel) (by decide +kernel)
set_option maxRecDepth 20000 in
theorem gX1_longestCopy_X1_sharedLength : GoodIn wsX1_longestCopy (va_wsS RX1 129 yX1_sharedLength wsX1_sharedLength) := goodIn_app (goodIn_of _ (by decide +kernel)) ggX1_longestCopy_X1_sharedLength
theorem dX1_longestCopy_0 : decode cX1_longestCopy 0 = .ok (.iconst 0, 1) := by decide +kernel
theorem dX1_longestCopy_1 : decode cX1_longestCopy 1 = .ok (.istore_n 3, 1) := by decide +kernel
theorem dX1_longestCopy_2 : decode cX1_longestCopy 2 = .ok (.iconst 0, 1) := by decide +kernel
theorem dX1_longestCopy_3 : decode cX1_longestCopy 3 = .ok (.istore 4, 2) := by decide +kernel
theorem dX1_longestCopy_5 : decode cX1_longestCopy 5 = .ok (.iload 4, 2) := by decide +kernel
theorem dX1_longestCopy_7 : decode cX1_longestCopy 7 = .ok (.aload_n 2, 1) := by decide +kernel
theorem dX1_longestCopy_8 : decode cX1_longestCopy 8 = .ok (.arraylength, 1) := by decide +kernel
theorem dX1_longestCopy_9 : decode cX1_longestCopy 9 = .ok (.if_icmp .ge 22, 3) := by decide +kernel
theorem dX1_longestCopy_12 : decode cX1_longestCopy 12 = .ok (.iload_n 3, 1) := by decide +kernel
theorem dX1_longestCopy_13 : decode cX1_longestCopy 13 = .ok (.aload_n 0, 1) := by decide +kernel
theorem dX1_longestCopy_14 : decode cX1_longestCopy 14 = .ok (.iload_n 1, 1) := by decide +kernel
theorem dX1_longestCopy_15 : decode cX1_longestCopy 15 = .ok (.aload_n 2, 1) := by decide +kernel
theorem dX1_longestCopy_16 : decode cX1_longestCopy 16 = .ok (.iload 4, 2) := by decide +kernel
theorem dX1_longestCopy_18 : decode cX1_longestCopy 18 = .ok (.invokestatic 129, 3) := by decide +kernel
theorem dX1_longestCopy_21 : decode cX1_longestCopy 21 = .ok (.invokestatic 133, 3) := by decide +kernel
theorem dX1_longestCopy_24 : decode cX1_longestCopy 24 = .ok (.istore_n 3, 1) := by decide +kernel
theorem dX1_longestCopy_25 : decode cX1_longestCopy 25 = .ok (.iinc 4 1, 3) := by decide +kernel
theorem dX1_longestCopy_28 : decode cX1_longestCopy 28 = .ok (.goto (-23), 3) := by decide +kernel
theorem dX1_longestCopy_31 : decode cX1_longestCopy 31 = .ok (.iload_n 3, 1) := by decide +kernel
theorem dX1_longestCopy_32 : decode cX1_longestCopy 32 = .ok (.ireturn, 1) := by decide +kernel
theorem dX1_sharedLength_0 : decode cX1_sharedLength 0 = .ok (.iconst 0, 1) := by decide +kernel
theorem dX1_sharedLength_1 : decode cX1_sharedLength 1 = .ok (.istore 4, 2) := by decide +kernel
theorem dX1_sharedLength_3 : decode cX1_sharedLength 3 = .ok (.iload_n 1, 1) := by decide +kernel
theorem dX1_sharedLength_4 : decode cX1_sharedLength 4 = .ok (.iload 4, 2) := by decide +kernel
theorem dX1_sharedLength_6 : decode cX1_sharedLength 6 = .ok (.iadd, 1) := by decide +kernel
theorem dX1_sharedLength_7 : decode cX1_sharedLength 7 = .ok (.aload_n 0, 1) := by decide +kernel
theorem dX1_sharedLength_8 : decode cX1_sharedLength 8 = .ok (.arraylength, 1) := by decide +kernel
theorem dX1_sharedLength_9 : decode cX1_sharedLength 9 = .ok (.if_icmp .ge 33, 3) := by decide +kernel
theorem dX1_sharedLength_12 : decode cX1_sharedLength 12 = .ok (.iload_n 3, 1) := by decide +kernel
theorem dX1_sharedLength_13 : decode cX1_sharedLength 13 = .ok (.iload 4, 2) := by decide +kernel
theorem dX1_sharedLength_15 : decode cX1_sharedLength 15 = .ok (.iadd, 1) := by decide +kernel
theorem dX1_sharedLength_16 : decode cX1_sharedLength 16 = .ok (.aload_n 2, 1) := by decide +kernel
theorem dX1_sharedLength_17 : decode cX1_sharedLength 17 = .ok (.arraylength, 1) := by decide +kernel
theorem dX1_sharedLength_18 : decode cX1_sharedLength 18 = .ok (.if_icmp .ge 24, 3) := by decide +kernel
theorem dX1_sharedLength_21 : decode cX1_sharedLength 21 = .ok (.aload_n 0, 1) := by decide +kernel
theorem dX1_sharedLength_22 : decode cX1_sharedLength 22 = .ok (.iload_n 1, 1) := by decide +kernel
theorem dX1_sharedLength_23 : decode cX1_sharedLength 23 = .ok (.iload 4, 2) := by decide +kernel
theorem dX1_sharedLength_25 : decode cX1_sharedLength 25 = .ok (.iadd, 1) := by decide +kernel
theorem dX1_sharedLength_26 : decode cX1_sharedLength 26 = .ok (.iaload, 1) := by decide +kernel
theorem dX1_sharedLength_27 : decode cX1_sharedLength 27 = .ok (.aload_n 2, 1) := by decide +kernel
theorem dX1_sharedLength_28 : decode cX1_sharedLength 28 = .ok (.iload_n 3, 1) := by decide +kernel
theorem dX1_sharedLength_29 : decode cX1_sharedLength 29 = .ok (.iload 4, 2) := by decide +kernel
theorem dX1_sharedLength_31 : decode cX1_sharedLength 31 = .ok (.iadd, 1) := by decide +kernel
theorem dX1_sharedLength_32 : decode cX1_sharedLength 32 = .ok (.iaload, 1) := by decide +kernel
theorem dX1_sharedLength_33 : decode cX1_sharedLength 33 = .ok (.if_icmp .ne 9, 3) := by decide +kernel
theorem dX1_sharedLength_36 : decode cX1_sharedLength 36 = .ok (.iinc 4 1, 3) := by decide +kernel
theorem dX1_sharedLength_39 : decode cX1_sharedLength 39 = .ok (.goto (-36), 3) := by decide +kernel
theorem dX1_sharedLength_42 : decode cX1_sharedLength 42 = .ok (.iload 4, 2) := by decide +kernel
theorem dX1_sharedLength_44 : decode cX1_sharedLength 44 = .ok (.ireturn, 1) := by decide +kernel
set_option maxRecDepth 20000 in
theorem ggX1_isSameRow_X1_sharedLength : GoodIn wsX1_isSameRow wsX1_sharedLength := goodIn_r _ [4] (by decide +kernel) (by decide +kernel)
set_option maxRecDepth 20000 in
theorem gX1_isSameRow_X1_sharedLength : GoodIn wsX1_isSameRow (va_wsS RX1 129 yX1_sharedLength wsX1_sharedLength) := goodIn_app (goodIn_of _ (by decide +kernel)) ggX1_isSameRow_X1_sharedLength
theorem dX1_isSameRow_0 : decode cX1_isSameRow 0 = .ok (.aload_n 0, 1) := by decide +kernel
theorem dX1_isSameRow_1 : decode cX1_isSameRow 1 = .ok (.arraylength, 1) := by decide +kernel
theorem dX1_isSameRow_2 : decode cX1_isSameRow 2 = .ok (.aload_n 1, 1) := by decide +kernel
theorem dX1_isSameRow_3 : decode cX1_isSameRow 3 = .ok (.arraylength, 1) := by decide +kernel
theorem dX1_isSameRow_4 : decode cX1_isSameRow 4 = .ok (.if_icmp .ne 19, 3) := by decide +kernel
theorem dX1_isSameRow_7 : decode cX1_isSameRow 7 = .ok (.aload_n 0, 1) := by decide +kernel
theorem dX1_isSameRow_8 : decode cX1_isSameRow 8 = .ok (.iconst 0, 1) := by decide +kernel
theorem dX1_isSameRow_9 : decode cX1_isSameRow 9 = .ok (.aload_n 1, 1) := by decide +kernel
theorem dX1_isSameRow_10 : decode cX1_isSameRow 10 = .ok (.iconst 0, 1) := by decide +kernel
theorem dX1_isSameRow_11 : decode cX1_isSameRow 11 = .ok (.invokestatic 129, 3) := by decide +kernel
theorem dX1_isSameRow_14 : decode cX1_isSameRow 14 = .ok (.aload_n 0, 1) := by decide +kernel
theorem dX1_isSameRow_15 : decode cX1_isSameRow 15 = .ok (.arraylength, 1) := by decide +kernel
theorem dX1_isSameRow_16 : decode cX1_isSameRow 16 = .ok (.if_icmp .ne 7, 3) := by decide +kernel
theorem dX1_isSameRow_19 : decode cX1_isSameRow 19 = .ok (.iconst 1, 1) := by decide +kernel
theorem dX1_isSameRow_20 : decode cX1_isSameRow 20 = .ok (.goto 4, 3) := by decide +kernel
theorem dX1_isSameRow_23 : decode cX1_isSameRow 23 = .ok (.iconst 0, 1) := by decide +kernel
theorem dX1_isSameRow_24 : decode cX1_isSameRow 24 = .ok (.ireturn, 1) := by decide +kernel
theorem dX1_rowWith_0 : decode cX1_rowWith 0 = .ok (.aload_n 0, 1) := by decide +kernel
theorem dX1_rowWith_1 : decode cX1_rowWith 1 = .ok (.arraylength, 1) := by decide +kernel
theorem dX1_rowWith_2 : decode cX1_rowWith 2 = .ok (.iconst 1, 1) := by decide +kernel
theorem dX1_rowWith_3 : decode cX1_rowWith 3 = .ok (.iadd, 1) := by decide +kernel
theorem dX1_rowWith_4 : decode cX1_rowWith 4 = .ok (.newarray .int, 2) := by decide +kernel
theorem dX1_rowWith_6 : decode cX1_rowWith 6 = .ok (.astore_n 3, 1) := by decide +kernel
theorem dX1_rowWith_7 : decode cX1_rowWith 7 = .ok (.iconst 0, 1) := by decide +kernel
theorem dX1_rowWith_8 : decode cX1_rowWith 8 = .ok (.istore 4, 2) := by decide +kernel
theorem dX1_rowWith_10 : decode cX1_rowWith 10 = .ok (.iload 4, 2) := by decide +kernel
theorem dX1_rowWith_12 : decode cX1_rowWith 12 = .ok (.aload_n 3, 1) := by decide +kernel
theorem dX1_rowWith_13 : decode cX1_rowWith 13 = .ok (.arraylength, 1) := by decide +kernel
theorem dX1_rowWith_14 : decode cX1_rowWith 14 = .ok (.if_icmp .ge 44, 3) := by decide +kernel
theorem dX1_rowWith_17 : decode cX1_rowWith 17 = .ok (.iload 4, 2) := by decide +kernel
theorem dX1_rowWith_19 : decode cX1_rowWith 19 = .ok (.iload_n 1, 1) := by decide +kernel
theorem dX1_rowWith_20 : decode cX1_rowWith 20 = .ok (.if_icmp .ne 11, 3) := by decide +kernel
theorem dX1_rowWith_23 : decode cX1_rowWith 23 = .ok (.aload_n 3, 1) := by decide +kernel
theorem dX1_rowWith_24 : decode cX1_rowWith 24 = .ok (.iload 4, 2) := by decide +kernel
theorem dX1_rowWith_26 : decode cX1_rowWith 26 = .ok (.iload_n 2, 1) := by decide +kernel
theorem dX1_rowWith_27 : decode cX1_rowWith 27 = .ok (.iastore, 1) := by decide +kernel
theorem dX1_rowWith_28 : decode cX1_rowWith 28 = .ok (.goto 24, 3) := by decide +kernel
theorem dX1_rowWith_31 : decode cX1_rowWith 31 = .ok (.aload_n 3, 1) := by decide +kernel
theorem dX1_rowWith_32 : decode cX1_rowWith 32 = .ok (.iload 4, 2) := by decide +kernel
theorem dX1_rowWith_34 : decode cX1_rowWith 34 = .ok (.aload_n 0, 1) := by decide +kernel
theorem dX1_rowWith_35 : decode cX1_rowWith 35 = .ok (.iload 4, 2) := by decide +kernel
theorem dX1_rowWith_37 : decode cX1_rowWith 37 = .ok (.iload_n 1, 1) := by decide +kernel
theorem dX1_rowWith_38 : decode cX1_rowWith 38 = .ok (.if_icmp .ge 8, 3) := by decide +kernel
theorem dX1_rowWith_41 : decode cX1_rowWith 41 = .ok (.iload 4, 2) := by decide +kernel
theorem dX1_rowWith_43 : decode cX1_rowWith 43 = .ok (.goto 7, 3) := by decide +kernel
theorem dX1_rowWith_46 : decode cX1_rowWith 46 = .ok (.iload 4, 2) := by decide +kernel
theorem dX1_rowWith_48 : decode cX1_rowWith 48 = .ok (.iconst 1, 1) := by decide +kernel
theorem dX1_rowWith_49 : decode cX1_rowWith 49 = .ok (.isub, 1) := by decide +kernel
theorem dX1_rowWith_50 : decode cX1_rowWith 50 = .ok (.iaload, 1) := by decide +kernel
theorem dX1_rowWith_51 : decode cX1_rowWith 51 = .ok (.iastore, 1) := by decide +kernel
theorem dX1_rowWith_52 : decode cX1_rowWith 52 = .ok (.iinc 4 1, 3) := by decide +kernel
theorem dX1_rowWith_55 : decode cX1_rowWith 55 = .ok (.goto (-45), 3) := by decide +kernel
theorem dX1_rowWith_58 : decode cX1_rowWith 58 = .ok (.aload_n 3, 1) := by decide +kernel
theorem dX1_rowWith_59 : decode cX1_rowWith 59 = .ok (.areturn, 1) := by decide +kernel
theorem dX1_rowWithout_0 : decode cX1_rowWithout 0 = .ok (.aload_n 0, 1) := by decide +kernel
theorem dX1_rowWithout_1 : decode cX1_rowWithout 1 = .ok (.arraylength, 1) := by decide +kernel
theorem dX1_rowWithout_2 : decode cX1_rowWithout 2 = .ok (.iconst 1, 1) := by decide +kernel
theorem dX1_rowWithout_3 : decode cX1_rowWithout 3 = .ok (.isub, 1) := by decide +kernel
theorem dX1_rowWithout_4 : decode cX1_rowWithout 4 = .ok (.newarray .int, 2) := by decide +kernel
theorem dX1_rowWithout_6 : decode cX1_rowWithout 6 = .ok (.astore_n 2, 1) := by decide +kernel
theorem dX1_rowWithout_7 : decode cX1_rowWithout 7 = .ok (.iconst 0, 1) := by decide +kernel
theorem dX1_rowWithout_8 : decode cX1_rowWithout 8 = .ok (.istore_n 3, 1) := by decide +kernel
theorem dX1_rowWithout_9 : decode cX1_rowWithout 9 = .ok (.iload_n 3, 1) := by decide +kernel
theorem dX1_rowWithout_10 : decode cX1_rowWithout 10 = .ok (.aload_n 2, 1) := by decide +kernel
theorem dX1_rowWithout_11 : decode cX1_rowWithout 11 = .ok (.arraylength, 1) := by decide +kernel
theorem dX1_rowWithout_12 : decode cX1_rowWithout 12 = .ok (.if_icmp .ge 26, 3) := by decide +kernel
theorem dX1_rowWithout_15 : decode cX1_rowWithout 15 = .ok (.aload_n 2, 1) := by decide +kernel
theorem dX1_rowWithout_16 : decode cX1_rowWithout 16 = .ok (.iload_n 3, 1) := by decide +kernel
theorem dX1_rowWithout_17 : decode cX1_rowWithout 17 = .ok (.aload_n 0, 1) := by decide +kernel
theorem dX1_rowWithout_18 : decode cX1_rowWithout 18 = .ok (.iload_n 3, 1) := by decide +kernel
theorem dX1_rowWithout_19 : decode cX1_rowWithout 19 = .ok (.iload_n 1, 1) := by decide +kernel
theorem dX1_rowWithout_20 : decode cX1_rowWithout 20 = .ok (.if_icmp .ge 7, 3) := by decide +kernel
theorem dX1_rowWithout_23 : decode cX1_rowWithout 23 = .ok (.iload_n 3, 1) := by decide +kernel
theorem dX1_rowWithout_24 : decode cX1_rowWithout 24 = .ok (.goto 6, 3) := by decide +kernel
theorem dX1_rowWithout_27 : decode cX1_rowWithout 27 = .ok (.iload_n 3, 1) := by decide +kernel
theorem dX1_rowWithout_28 : decode cX1_rowWithout 28 = .ok (.iconst 1, 1) := by decide +kernel
theorem dX1_rowWithout_29 : decode cX1_rowWithout 29 = .ok (.iadd, 1) := by decide +kernel
theorem dX1_rowWithout_30 : decode cX1_rowWithout 30 = .ok (.iaload, 1) := by decide +kernel
theorem dX1_rowWithout_31 : decode cX1_rowWithout 31 = .ok (.iastore, 1) := by decide +kernel
theorem dX1_rowWithout_32 : decode cX1_rowWithout 32 = .ok (.iinc 3 1, 3) := by decide +kernel
theorem dX1_rowWithout_35 : decode cX1_rowWithout 35 = .ok (.goto (-26), 3) := by decide +kernel
theorem dX1_rowWithout_38 : decode cX1_rowWithout 38 = .ok (.aload_n 2, 1) := by decide +kernel
theorem dX1_rowWithout_39 : decode cX1_rowWithout 39 = .ok (.areturn, 1) := by decide +kernel
theorem dJ9_max_7cf53_0 : decode cJ9_max_7cf53 0 = .ok (.iload_n 0, 1) := by decide +kernel
theorem dJ9_max_7cf53_1 : decode cJ9_max_7cf53 1 = .ok (.iload_n 1, 1) := by decide +kernel
theorem dJ9_max_7cf53_2 : decode cJ9_max_7cf53 2 = .ok (.if_icmp .lt 7, 3) := by decide +kernel
theorem dJ9_max_7cf53_5 : decode cJ9_max_7cf53 5 = .ok (.iload_n 0, 1) := by decide +kernel
theorem dJ9_max_7cf53_6 : decode cJ9_max_7cf53 6 = .ok (.goto 4, 3) := by decide +kernel
theorem dJ9_max_7cf53_9 : decode cJ9_max_7cf53 9 = .ok (.iload_n 1, 1) := by decide +kernel
theorem dJ9_max_7cf53_10 : decode cJ9_max_7cf53 10 = .ok (.ireturn, 1) := by decide +kernel
theorem dL_dice_0 : decode cL_dice 0 = .ok (.iload_n 1, 1) := by decide +kernel
theorem dL_dice_1 : decode cL_dice 1 = .ok (.aload_n 0, 1) := by decide +kernel
theorem dL_dice_2 : decode cL_dice 2 = .ok (.arraylength, 1) := by decide +kernel
theorem dL_dice_3 : decode cL_dice 3 = .ok (.if_icmp .ge 9, 3) := by decide +kernel
theorem dL_dice_6 : decode cL_dice 6 = .ok (.aload_n 0, 1) := by decide +kernel
theorem dL_dice_7 : decode cL_dice 7 = .ok (.iload_n 1, 1) := by decide +kernel
theorem dL_dice_8 : decode cL_dice 8 = .ok (.iaload, 1) := by decide +kernel
theorem dL_dice_9 : decode cL_dice 9 = .ok (.goto 23, 3) := by decide +kernel
theorem dL_dice_12 : decode cL_dice 12 = .ok (.ldc 7, 2) := by decide +kernel
theorem dL_dice_14 : decode cL_dice 14 = .ok (.iload_n 1, 1) := by decide +kernel
theorem dL_dice_15 : decode cL_dice 15 = .ok (.sipush 269, 3) := by decide +kernel
theorem dL_dice_18 : decode cL_dice 18 = .ok (.iadd, 1) := by decide +kernel
theorem dL_dice_19 : decode cL_dice 19 = .ok (.imul, 1) := by decide +kernel
theorem dL_dice_20 : decode cL_dice 20 = .ok (.sipush 683, 3) := by decide +kernel
theorem dL_dice_23 : decode cL_dice 23 = .ok (.iload_n 1, 1) := by decide +kernel
theorem dL_dice_24 : decode cL_dice 24 = .ok (.imul, 1) := by decide +kernel
theorem dL_dice_25 : decode cL_dice 25 = .ok (.iload_n 1, 1) := by decide +kernel
theorem dL_dice_26 : decode cL_dice 26 = .ok (.imul, 1) := by decide +kernel
theorem dL_dice_27 : decode cL_dice 27 = .ok (.iadd, 1) := by decide +kernel
theorem dL_dice_28 : decode cL_dice 28 = .ok (.sipush 167, 3) := by decide +kernel
theorem dL_dice_31 : decode cL_dice 31 = .ok (.iadd, 1) := by decide +kernel
theorem dL_dice_32 : decode cL_dice 32 = .ok (.ldc 8, 2) := by decide +kernel
theorem dL_dice_34 : decode cL_dice 34 = .ok (.iand, 1) := by decide +kernel
theorem dL_dice_35 : decode cL_dice 35 = .ok (.ireturn, 1) := by decide +kernel
set_option maxRecDepth 20000 in
theorem ggL_act_X1_makeFile : GoodIn wsL_act wsX1_makeFile := goodIn_ca (goodIn_r _ [8, 9, 10, 11, 12, 13, 14, 7, 15, 16, 17, 18, 19, 20, 21, 22, 23, 24, 25, 26, 27, 28, 29, 30, 31, 32, 106, 107, 108, 109, 110, 111, 112, 113, 114] (by decide +kernel) (by decide +kernel)) (goodIn_sub (fun _ h => List.mem_cons_of_mem _ (List.mem_append_left _ (List.mem_append_left _ (List.mem_append_right _ h)))) (by decide +kernel))
set_option maxRecDepth 20000 in
theorem gL_act_X1_makeFile : GoodIn wsL_act (wsV RL 9 RX1 yX1_makeFile wsX1_makeFile) := goodIn_app (goodIn_of _ (by decide +kernel)) ggL_act_X1_makeFile
set_option maxRecDepth 20000 in
theorem ggL_act_X1_makeLink : GoodIn wsL_act wsX1_makeLink := goodIn_ca (goodIn_r _ [36, 9, 10, 11, 12, 13, 14, 7, 15, 16, 17, 18, 19, 20, 21, 22, 23, 24, 25, 26, 27, 28, 29, 30, 31, 32, 106, 107, 108, 109, 110, 111, 112, 113, 114] (by decide +kernel) (by decide +kernel)) (goodIn_sub (fun _ h => List.mem_cons_of_mem _ (List.mem_append_left _ (List.mem_append_left _ (List.mem_append_right _ h)))) (by decide +kernel))
set_option maxRecDepth 20000 in
theorem gL_act_X1_makeLink : GoodIn wsL_act (wsV RL 15 RX1 yX1_makeLink wsX1_makeLink) := goodIn_app (goodIn_of _ (by decide +kernel)) ggL_act_X1_makeLink
set_option maxRecDepth 20000 in
theorem ggL_act_X1_remove : GoodIn wsL_act wsX1_remove := goodIn_ca (goodIn_r _ [40, 9, 10, 11, 12, 13, 14, 7, 15, 16, 17, 18, 19, 20, 21, 22, 23, 24, 25, 26, 27, 28, 29, 30, 31, 32, 106, 107, 108, 109, 110, 111, 112, 113, 114] (by decide +kernel) (by decide +kernel)) (goodIn_sub (fun _ h => List.mem_cons_of_mem _ (List.mem_append_left _ (List.mem_append_left _ (List.mem_append_right _ h)))) (by decide +kernel))
set_option maxRecDepth 20000 in
theorem gL_act_X1_remove : GoodIn wsL_act (wsV RL 19 RX1 yX1_remove wsX1_remove) := goodIn_app (goodIn_of _ (by decide +kernel)) ggL_act_X1_remove
set_option maxRecDepth 20000 in
theorem ggL_act_X1_put : GoodIn wsL_act wsX1_put := goodIn_ca (goodIn_ca (goodIn_ca (goodIn_r _ [44, 45, 46, 47, 48, 31, 49, 32, 9, 10, 11, 50, 13, 14, 7, 15, 16, 17, 51, 52, 53, 12, 18, 19, 20, 21, 22, 23, 24, 25, 26, 109, 110, 111, 112, 113, 114, 106, 107, 108] (by decide +kernel) (by decide +kernel)) (goodIn_sub (fun _ h => List.mem_cons_of_mem _ (List.mem_append_left _ (List.mem_append_right _ h))) (by decide +kernel))) (goodIn_sub (fun _ h => List.mem_cons_of_mem _ (List.mem_append_right _ h)) (by decide +kernel))) (goodIn_sub (fun _ h => List.mem_cons_of_mem _ (List.mem_append_left _ (List.mem_append_left _ (List.mem_append_right _ h)))) (by decide +kernel))
set_option maxRecDepth 20000 in
theorem gL_act_X1_put : GoodIn wsL_act (wsV RL 22 RX1 yX1_put wsX1_put) := goodIn_app (goodIn_of _ (by decide +kernel)) ggL_act_X1_put
set_option maxRecDepth 20000 in
theorem ggL_act_X1_take : GoodIn wsL_act wsX1_take := goodIn_ca (goodIn_ca (goodIn_ca (goodIn_r _ [57, 45, 46, 47, 48, 31, 32, 49, 9, 10, 11, 50, 13, 14, 7, 15, 16, 17, 58, 59, 60, 12, 18, 19, 20, 21, 22, 23, 24, 25, 26, 109, 110, 111, 112, 113, 114, 106, 107, 108] (by decide +kernel) (by decide +kernel)) (goodIn_sub (fun _ h => List.mem_cons_of_mem _ (List.mem_append_left _ (List.mem_append_right _ h))) (by decide +kernel))) (goodIn_sub (fun _ h => List.mem_cons_of_mem _ (List.mem_append_right _ h)) (by decide +kernel))) (goodIn_sub (fun _ h => List.mem_cons_of_mem _ (List.mem_append_left _ (List.mem_append_left _ (List.mem_append_right _ h)))) (by decide +kernel))
set_option maxRecDepth 20000 in
theorem gL_act_X1_take : GoodIn wsL_act (wsV RL 26 RX1 yX1_take wsX1_take) := goodIn_app (goodIn_of _ (by decide +kernel)) ggL_act_X1_take
set_option maxRecDepth 20000 in
theorem ggL_act_X1_setRights : GoodIn wsL_act wsX1_setRights := goodIn_ca (goodIn_ca (goodIn_ca (goodIn_r _ [64, 45, 46, 47, 48, 31, 32, 9, 10, 11, 49, 50, 13, 14, 7, 15, 16, 17, 18, 19, 20, 21, 22, 23, 24, 25, 26, 109, 110, 111, 112, 113, 114, 106, 107, 108] (by decide +kernel) (by decide +kernel)) (goodIn_sub (fun _ h => List.mem_cons_of_mem _ (List.mem_append_left _ (List.mem_append_right _ h))) (by decide +kernel))) (goodIn_sub (fun _ h => List.mem_cons_of_mem _ (List.mem_append_right _ h)) (by decide +kernel))) (goodIn_sub (fun _ h => List.mem_cons_of_mem _ (List.mem_append_left _ (List.mem_append_left _ (List.mem_append_right _ h)))) (by decide +kernel))
set_option maxRecDepth 20000 in
theorem gL_act_X1_setRights : GoodIn wsL_act (wsV RL 29 RX1 yX1_setRights wsX1_setRights) := goodIn_app (goodIn_of _ (by decide +kernel)) ggL_act_X1_setRights
set_option maxRecDepth 20000 in
theorem ggL_act_X1_run : GoodIn wsL_act wsX1_run := goodIn_ca (goodIn_ca (goodIn_r _ [68, 47, 48, 45, 46, 69, 70, 71, 72, 31, 73, 74, 75, 7, 76, 77, 78, 79, 80, 81, 82, 83, 84, 85, 86, 11, 87, 24, 25, 26, 88, 89, 90, 91, 92, 109, 110, 111, 112, 113, 114, 106, 107, 108] (by decide +kernel) (by decide +kernel)) (goodIn_sub (fun _ h => List.mem_cons_of_mem _ (List.mem_append_right _ h)) (by decide +kernel))) (goodIn_sub (fun _ h => List.mem_cons_of_mem _ (List.mem_append_left _ (List.mem_append_right _ h))) (by decide +kernel))
set_option maxRecDepth 20000 in
theorem gL_act_X1_run : GoodIn wsL_act (wsV RL 32 RX1 yX1_run wsX1_run) := goodIn_app (goodIn_of _ (by decide +kernel)) ggL_act_X1_run
set_option maxRecDepth 20000 in
theorem ggL_act_X1_thin : GoodIn wsL_act wsX1_thin := goodIn_ca (goodIn_ca (goodIn_r _ [96, 47, 48, 45, 46, 97, 69, 73, 74, 75, 7, 76, 71, 70, 109, 110, 111, 112, 113, 114] (by decide +kernel) (by decide +kernel)) (goodIn_sub (fun _ h => List.mem_cons_of_mem _ (List.mem_append_right _ h)) (by decide +kernel))) (goodIn_sub (fun _ h => List.mem_cons_of_mem _ (List.mem_append_left _ (List.mem_append_right _ h))) (by decide +kernel))
set_option maxRecDepth 20000 in
theorem gL_act_X1_thin : GoodIn wsL_act (wsV RL 35 RX1 yX1_thin wsX1_thin) := goodIn_app (goodIn_of _ (by decide +kernel)) ggL_act_X1_thin
set_option maxRecDepth 20000 in
theorem ggL_act_X1_restore : GoodIn wsL_act wsX1_restore := goodIn_ca (goodIn_r _ [101, 72, 31, 102, 103, 104, 7, 105, 16, 17, 97, 69, 73, 74, 75, 76, 71, 70, 81, 82, 83, 84, 85, 86, 11, 87, 24, 25, 26, 88, 89, 90, 91, 92, 109, 110, 111, 112, 113, 114, 106, 107, 108] (by decide +kernel) (by decide +kernel)) (goodIn_sub (fun _ h => List.mem_cons_of_mem _ (List.mem_append_left _ (List.mem_append_left _ (List.mem_append_right _ h)))) (by decide +kernel))
set_option maxRecDepth 20000 in
theorem gL_act_X1_restore : GoodIn wsL_act (wsV RL 38 RX1 yX1_restore wsX1_restore) := goodIn_app (goodIn_of _ (by decide +kernel)) ggL_act_X1_restore
theorem dL_act_0 : decode cL_act 0 = .ok (.iload_n 1, 1) := by decide +kernel
theorem dL_act_1 : decode cL_act 1 = .ok (.ifCond .ne 11, 3) := by decide +kernel
theorem dL_act_4 : decode cL_act 4 = .ok (.aload_n 0, 1) := by decide +kernel
theorem dL_act_5 : decode cL_act 5 = .ok (.iload_n 2, 1) := by decide +kernel
theorem dL_act_6 : decode cL_act 6 = .ok (.invokevirtual 9, 3) := by decide +kernel
theorem dL_act_9 : decode cL_act 9 = .ok (.goto 107, 3) := by decide +kernel
theorem dL_act_12 : decode cL_act 12 = .ok (.iload_n 1, 1) := by decide +kernel
theorem dL_act_13 : decode cL_act 13 = .ok (.iconst 1, 1) := by decide +kernel
theorem dL_act_14 : decode cL_act 14 = .ok (.if_icmp .ne 12, 3) := by decide +kernel
theorem dL_act_17 : decode cL_act 17 = .ok (.aload_n 0, 1) := by decide +kernel
theorem dL_act_18 : decode cL_act 18 = .ok (.iload_n 2, 1) := by decide +kernel
theorem dL_act_19 : decode cL_act 19 = .ok (.iload_n 3, 1) := by decide +kernel
theorem dL_act_20 : decode cL_act 20 = .ok (.invokevirtual 15, 3) := by decide +kernel
theorem dL_act_23 : decode cL_act 23 = .ok (.goto 93, 3) := by decide +kernel
theorem dL_act_26 : decode cL_act 26 = .ok (.iload_n 1, 1) := by decide +kernel
theorem dL_act_27 : decode cL_act 27 = .ok (.iconst 2, 1) := by decide +kernel
theorem dL_act_28 : decode cL_act 28 = .ok (.if_icmp .ne 11, 3) := by decide +kernel
theorem dL_act_31 : decode cL_act 31 = .ok (.aload_n 0, 1) := by decide +kernel
theorem dL_act_32 : decode cL_act 32 = .ok (.iload_n 2, 1) := by decide +kernel
theorem dL_act_33 : decode cL_act 33 = .ok (.invokevirtual 19, 3) := by decide +kernel
theorem dL_act_36 : decode cL_act 36 = .ok (.goto 80, 3) := by decide +kernel
theorem dL_act_39 : decode cL_act 39 = .ok (.iload_n 1, 1) := by decide +kernel
theorem dL_act_40 : decode cL_act 40 = .ok (.iconst 3, 1) := by decide +kernel
theorem dL_act_41 : decode cL_act 41 = .ok (.if_icmp .ne 14, 3) := by decide +kernel
theorem dL_act_44 : decode cL_act 44 = .ok (.aload_n 0, 1) := by decide +kernel
theorem dL_act_45 : decode cL_act 45 = .ok (.iload_n 2, 1) := by decide +kernel
theorem dL_act_46 : decode cL_act 46 = .ok (.iload_n 3, 1) := by decide +kernel
theorem dL_act_47 : decode cL_act 47 = .ok (.iload 4, 2) := by decide +kernel
theorem dL_act_49 : decode cL_act 49 = .ok (.invokevirtual 22, 3) := by decide +kernel
theorem dL_act_52 : decode cL_act 52 = .ok (.goto 64, 3) := by decide +kernel
theorem dL_act_55 : decode cL_act 55 = .ok (.iload_n 1, 1) := by decide +kernel
theorem dL_act_56 : decode cL_act 56 = .ok (.iconst 4, 1) := by decide +kernel
theorem dL_act_57 : decode cL_act 57 = .ok (.if_icmp .ne 12, 3) := by decide +kernel
theorem dL_act_60 : decode cL_act 60 = .ok (.aload_n 0, 1) := by decide +kernel
theorem dL_act_61 : decode cL_act 61 = .ok (.iload_n 2, 1) := by decide +kernel
theorem dL_act_62 : decode cL_act 62 = .ok (.iload_n 3, 1) := by decide +kernel
theorem dL_act_63 : decode cL_act 63 = .ok (.invokevirtual 26, 3) := by decide +kernel
theorem dL_act_66 : decode cL_act 66 = .ok (.goto 50, 3) := by decide +kernel
theorem dL_act_69 : decode cL_act 69 = .ok (.iload_n 1, 1) := by decide +kernel
theorem dL_act_70 : decode cL_act 70 = .ok (.iconst 5, 1) := by decide +kernel
theorem dL_act_71 : decode cL_act 71 = .ok (.if_icmp .ne 12, 3) := by decide +kernel
theorem dL_act_74 : decode cL_act 74 = .ok (.aload_n 0, 1) := by decide +kernel
theorem dL_act_75 : decode cL_act 75 = .ok (.iload_n 2, 1) := by decide +kernel
theorem dL_act_76 : decode cL_act 76 = .ok (.iload_n 3, 1) := by decide +kernel
theorem dL_act_77 : decode cL_act 77 = .ok (.invokevirtual 29, 3) := by decide +kernel
theorem dL_act_80 : decode cL_act 80 = .ok (.goto 36, 3) := by decide +kernel
theorem dL_act_83 : decode cL_act 83 = .ok (.iload_n 1, 1) := by decide +kernel
theorem dL_act_84 : decode cL_act 84 = .ok (.bipush 6, 2) := by decide +kernel
theorem dL_act_86 : decode cL_act 86 = .ok (.if_icmp .ne 11, 3) := by decide +kernel
theorem dL_act_89 : decode cL_act 89 = .ok (.aload_n 0, 1) := by decide +kernel
theorem dL_act_90 : decode cL_act 90 = .ok (.iload_n 2, 1) := by decide +kernel
theorem dL_act_91 : decode cL_act 91 = .ok (.invokevirtual 32, 3) := by decide +kernel
theorem dL_act_94 : decode cL_act 94 = .ok (.goto 22, 3) := by decide +kernel
theorem dL_act_97 : decode cL_act 97 = .ok (.iload_n 1, 1) := by decide +kernel
theorem dL_act_98 : decode cL_act 98 = .ok (.bipush 7, 2) := by decide +kernel
theorem dL_act_100 : decode cL_act 100 = .ok (.if_icmp .ne 11, 3) := by decide +kernel
theorem dL_act_103 : decode cL_act 103 = .ok (.aload_n 0, 1) := by decide +kernel
theorem dL_act_104 : decode cL_act 104 = .ok (.iload_n 2, 1) := by decide +kernel
theorem dL_act_105 : decode cL_act 105 = .ok (.invokevirtual 35, 3) := by decide +kernel
theorem dL_act_108 : decode cL_act 108 = .ok (.goto 8, 3) := by decide +kernel
theorem dL_act_111 : decode cL_act 111 = .ok (.aload_n 0, 1) := by decide +kernel
theorem dL_act_112 : decode cL_act 112 = .ok (.iload_n 2, 1) := by decide +kernel
theorem dL_act_113 : decode cL_act 113 = .ok (.invokevirtual 38, 3) := by decide +kernel
theorem dL_act_116 : decode cL_act 116 = .ok (.ireturn, 1) := by decide +kernel
theorem dL_act_117 : decode cL_act 117 = .ok (.astore 5, 2) := by decide +kernel
theorem dL_act_119 : decode cL_act 119 = .ok (.sipush (-1161), 3) := by decide +kernel
theorem dL_act_122 : decode cL_act 122 = .ok (.ireturn, 1) := by decide +kernel
theorem dL_act_123 : decode cL_act 123 = .ok (.astore 5, 2) := by decide +kernel
theorem dL_act_125 : decode cL_act 125 = .ok (.sipush (-1162), 3) := by decide +kernel
theorem dL_act_128 : decode cL_act 128 = .ok (.ireturn, 1) := by decide +kernel
theorem dL_act_129 : decode cL_act 129 = .ok (.astore 5, 2) := by decide +kernel
theorem dL_act_131 : decode cL_act 131 = .ok (.sipush (-1163), 3) := by decide +kernel
theorem dL_act_134 : decode cL_act 134 = .ok (.ireturn, 1) := by decide +kernel
set_option maxRecDepth 20000 in
theorem ggL_of_X1_kindAt : GoodIn wsL_of wsX1_kindAt := goodIn_ca (goodIn_r _ [6, 7, 8, 9, 10, 5, 11, 12, 13, 14, 15, 16, 17, 18, 19, 20, 21, 22, 23, 24, 25, 26, 27, 69, 70, 71, 72, 73, 74, 75, 76, 77] (by decide +kernel) (by decide +kernel)) (goodIn_sub (fun _ h => List.mem_cons_of_mem _ (List.mem_append_right _ h)) (by decide +kernel))
set_option maxRecDepth 20000 in
theorem gL_of_X1_kindAt : GoodIn wsL_of (wsV RL 47 RX1 yX1_kindAt wsX1_kindAt) := goodIn_app (goodIn_of _ (by decide +kernel)) ggL_of_X1_kindAt
set_option maxRecDepth 20000 in
theorem ggL_of_X1_numberAt : GoodIn wsL_of wsX1_numberAt := goodIn_ca (goodIn_r _ [31, 18, 19, 32, 8, 9, 10, 5, 11, 12, 13, 14, 15, 16, 17, 20, 21, 22, 23, 24, 25, 26, 27, 69, 70, 71, 72, 73, 74, 75, 76, 77] (by decide +kernel) (by decide +kernel)) (goodIn_sub (fun _ h => List.mem_cons_of_mem _ (List.mem_append_right _ h)) (by decide +kernel))
set_option maxRecDepth 20000 in
theorem gL_of_X1_numberAt : GoodIn wsL_of (wsV RL 50 RX1 yX1_numberAt wsX1_numberAt) := goodIn_app (goodIn_of _ (by decide +kernel)) ggL_of_X1_numberAt
set_option maxRecDepth 20000 in
theorem ggL_of_X1_rightsAt : GoodIn wsL_of wsX1_rightsAt := goodIn_ca (goodIn_r _ [36, 37, 8, 9, 10, 5, 11, 12, 13, 14, 15, 16, 17, 18, 19, 20, 21, 22, 23, 24, 25, 26, 27, 69, 70, 71, 72, 73, 74, 75, 76, 77] (by decide +kernel) (by decide +kernel)) (goodIn_sub (fun _ h => List.mem_cons_of_mem _ (List.mem_append_right _ h)) (by decide +kernel))
set_option maxRecDepth 20000 in
theorem gL_of_X1_rightsAt : GoodIn wsL_of (wsV RL 53 RX1 yX1_rightsAt wsX1_rightsAt) := goodIn_app (goodIn_of _ (by decide +kernel)) ggL_of_X1_rightsAt
set_option maxRecDepth 20000 in
theorem ggL_of_X1_sizeAt : GoodIn wsL_of wsX1_sizeAt := goodIn_ca (goodIn_r _ [41, 14, 15, 16, 5, 17, 18, 19, 20, 21, 22, 23, 24, 42, 43, 44, 45, 13, 37, 7, 32, 25, 26, 27, 46, 47, 48, 49, 50, 51, 52, 53, 54, 55, 56, 57, 58, 59, 60, 61, 62, 63, 64, 65, 66, 67, 68, 72, 73, 74, 75, 76, 77, 69, 70, 71] (by decide +kernel) (by decide +kernel)) (goodIn_sub (fun _ h => List.mem_cons_of_mem _ (List.mem_append_right _ h)) (by decide +kernel))
set_option maxRecDepth 20000 in
theorem gL_of_X1_sizeAt : GoodIn wsL_of (wsV RL 56 RX1 yX1_sizeAt wsX1_sizeAt) := goodIn_app (goodIn_of _ (by decide +kernel)) ggL_of_X1_sizeAt
theorem dL_of_0 : decode cL_of 0 = .ok (.iload_n 1, 1) := by decide +kernel
theorem dL_of_1 : decode cL_of 1 = .ok (.ifCond .ne 12, 3) := by decide +kernel
theorem dL_of_4 : decode cL_of 4 = .ok (.aload_n 0, 1) := by decide +kernel
theorem dL_of_5 : decode cL_of 5 = .ok (.iload_n 2, 1) := by decide +kernel
theorem dL_of_6 : decode cL_of 6 = .ok (.iload_n 3, 1) := by decide +kernel
theorem dL_of_7 : decode cL_of 7 = .ok (.invokevirtual 47, 3) := by decide +kernel
theorem dL_of_10 : decode cL_of 10 = .ok (.goto 39, 3) := by decide +kernel
theorem dL_of_13 : decode cL_of 13 = .ok (.iload_n 1, 1) := by decide +kernel
theorem dL_of_14 : decode cL_of 14 = .ok (.iconst 1, 1) := by decide +kernel
theorem dL_of_15 : decode cL_of 15 = .ok (.if_icmp .ne 14, 3) := by decide +kernel
theorem dL_of_18 : decode cL_of 18 = .ok (.aload_n 0, 1) := by decide +kernel
theorem dL_of_19 : decode cL_of 19 = .ok (.iload_n 2, 1) := by decide +kernel
theorem dL_of_20 : decode cL_of 20 = .ok (.iload_n 3, 1) := by decide +kernel
theorem dL_of_21 : decode cL_of 21 = .ok (.iload 4, 2) := by decide +kernel
theorem dL_of_23 : decode cL_of 23 = .ok (.invokevirtual 50, 3) := by decide +kernel
theorem dL_of_26 : decode cL_of 26 = .ok (.goto 23, 3) := by decide +kernel
theorem dL_of_29 : decode cL_of 29 = .ok (.iload_n 1, 1) := by decide +kernel
theorem dL_of_30 : decode cL_of 30 = .ok (.iconst 2, 1) := by decide +kernel
theorem dL_of_31 : decode cL_of 31 = .ok (.if_icmp .ne 12, 3) := by decide +kernel
theorem dL_of_34 : decode cL_of 34 = .ok (.aload_n 0, 1) := by decide +kernel
theorem dL_of_35 : decode cL_of 35 = .ok (.iload_n 2, 1) := by decide +kernel
theorem dL_of_36 : decode cL_of 36 = .ok (.iload_n 3, 1) := by decide +kernel
theorem dL_of_37 : decode cL_of 37 = .ok (.invokevirtual 53, 3) := by decide +kernel
theorem dL_of_40 : decode cL_of 40 = .ok (.goto 9, 3) := by decide +kernel
theorem dL_of_43 : decode cL_of 43 = .ok (.aload_n 0, 1) := by decide +kernel
theorem dL_of_44 : decode cL_of 44 = .ok (.iload_n 2, 1) := by decide +kernel
theorem dL_of_45 : decode cL_of 45 = .ok (.iload_n 3, 1) := by decide +kernel
theorem dL_of_46 : decode cL_of 46 = .ok (.invokevirtual 56, 3) := by decide +kernel
theorem dL_of_49 : decode cL_of 49 = .ok (.ireturn, 1) := by decide +kernel
theorem dL_of_50 : decode cL_of 50 = .ok (.astore 5, 2) := by decide +kernel
theorem dL_of_52 : decode cL_of 52 = .ok (.sipush (-1161), 3) := by decide +kernel
theorem dL_of_55 : decode cL_of 55 = .ok (.ireturn, 1) := by decide +kernel
set_option maxRecDepth 20000 in
theorem ggL_told_X1_kindAt : GoodIn wsL_told wsX1_kindAt := goodIn_ca (goodIn_r _ [7, 8, 9, 10, 11, 6, 12, 13, 14, 15, 16, 17, 18, 19, 20, 21, 22, 23, 24, 25, 26, 27, 28, 39, 40, 41, 42, 43, 44, 45, 46, 47] (by decide +kernel) (by decide +kernel)) (goodIn_sub (fun _ h => List.mem_cons_of_mem _ (List.mem_append_right _ h)) (by decide +kernel))
set_option maxRecDepth 20000 in
theorem gL_told_X1_kindAt : GoodIn wsL_told (wsV RL 47 RX1 yX1_kindAt wsX1_kindAt) := goodIn_app (goodIn_of _ (by decide +kernel)) ggL_told_X1_kindAt
set_option maxRecDepth 20000 in
theorem ggL_told_X1_rightsAt : GoodIn wsL_told wsX1_rightsAt := goodIn_ca (goodIn_r _ [32, 33, 9, 10, 11, 6, 12, 13, 14, 15, 16, 17, 18, 19, 20, 21, 22, 23, 24, 25, 26, 27, 28, 39, 40, 41, 42, 43, 44, 45, 46, 47] (by decide +kernel) (by decide +kernel)) (goodIn_sub (fun _ h => List.mem_cons_of_mem _ (List.mem_append_right _ h)) (by decide +kernel))
set_option maxRecDepth 20000 in
theorem gL_told_X1_rightsAt : GoodIn wsL_told (wsV RL 53 RX1 yX1_rightsAt wsX1_rightsAt) := goodIn_app (goodIn_of _ (by decide +kernel)) ggL_told_X1_rightsAt
set_option maxRecDepth 20000 in
theorem ggL_told_X1_numberAt : GoodIn wsL_told wsX1_numberAt := goodIn_ca (goodIn_r _ [37, 19, 20, 38, 9, 10, 11, 6, 12, 13, 14, 15, 16, 17, 18, 21, 22, 23, 24, 25, 26, 27, 28, 39, 40, 41, 42, 43, 44, 45, 46, 47] (by decide +kernel) (by decide +kernel)) (goodIn_sub (fun _ h => List.mem_cons_of_mem _ (List.mem_append_right _ h)) (by decide +kernel))
set_option maxRecDepth 20000 in
theorem gL_told_X1_numberAt : GoodIn wsL_told (wsV RL 50 RX1 yX1_numberAt wsX1_numberAt) := goodIn_app (goodIn_of _ (by decide +kernel)) ggL_told_X1_numberAt
theorem dL_told_0 : decode cL_told 0 = .ok (.aload_n 0, 1) := by decide +kernel
theorem dL_told_1 : decode cL_told 1 = .ok (.iload_n 1, 1) := by decide +kernel
theorem dL_told_2 : decode cL_told 2 = .ok (.iload_n 2, 1) := by decide +kernel
theorem dL_told_3 : decode cL_told 3 = .ok (.invokevirtual 47, 3) := by decide +kernel
theorem dL_told_6 : decode cL_told 6 = .ok (.i2l, 1) := by decide +kernel
theorem dL_told_7 : decode cL_told 7 = .ok (.ldc2_w 59, 3) := by decide +kernel
theorem dL_told_10 : decode cL_told 10 = .ok (.aload_n 0, 1) := by decide +kernel
theorem dL_told_11 : decode cL_told 11 = .ok (.iload_n 1, 1) := by decide +kernel
theorem dL_told_12 : decode cL_told 12 = .ok (.iload_n 2, 1) := by decide +kernel
theorem dL_told_13 : decode cL_told 13 = .ok (.invokevirtual 53, 3) := by decide +kernel
theorem dL_told_16 : decode cL_told 16 = .ok (.i2l, 1) := by decide +kernel
theorem dL_told_17 : decode cL_told 17 = .ok (.lmul, 1) := by decide +kernel
theorem dL_told_18 : decode cL_told 18 = .ok (.ladd, 1) := by decide +kernel
theorem dL_told_19 : decode cL_told 19 = .ok (.lstore_n 3, 1) := by decide +kernel
theorem dL_told_20 : decode cL_told 20 = .ok (.iconst 0, 1) := by decide +kernel
theorem dL_told_21 : decode cL_told 21 = .ok (.istore 5, 2) := by decide +kernel
theorem dL_told_23 : decode cL_told 23 = .ok (.iload 5, 2) := by decide +kernel
theorem dL_told_25 : decode cL_told 25 = .ok (.bipush 12, 2) := by decide +kernel
theorem dL_told_27 : decode cL_told 27 = .ok (.if_icmp .ge 27, 3) := by decide +kernel
theorem dL_told_30 : decode cL_told 30 = .ok (.ldc2_w 61, 3) := by decide +kernel
theorem dL_told_33 : decode cL_told 33 = .ok (.lload_n 3, 1) := by decide +kernel
theorem dL_told_34 : decode cL_told 34 = .ok (.lmul, 1) := by decide +kernel
theorem dL_told_35 : decode cL_told 35 = .ok (.aload_n 0, 1) := by decide +kernel
theorem dL_told_36 : decode cL_told 36 = .ok (.iload_n 1, 1) := by decide +kernel
theorem dL_told_37 : decode cL_told 37 = .ok (.iload_n 2, 1) := by decide +kernel
theorem dL_told_38 : decode cL_told 38 = .ok (.iload 5, 2) := by decide +kernel
theorem dL_told_40 : decode cL_told 40 = .ok (.invokevirtual 50, 3) := by decide +kernel
theorem dL_told_43 : decode cL_told 43 = .ok (.i2l, 1) := by decide +kernel
theorem dL_told_44 : decode cL_told 44 = .ok (.ladd, 1) := by decide +kernel
theorem dL_told_45 : decode cL_told 45 = .ok (.lconst 1, 1) := by decide +kernel
theorem dL_told_46 : decode cL_told 46 = .ok (.ladd, 1) := by decide +kernel
theorem dL_told_47 : decode cL_told 47 = .ok (.lstore_n 3, 1) := by decide +kernel
theorem dL_told_48 : decode cL_told 48 = .ok (.iinc 5 1, 3) := by decide +kernel
theorem dL_told_51 : decode cL_told 51 = .ok (.goto (-28), 3) := by decide +kernel
theorem dL_told_54 : decode cL_told 54 = .ok (.lload_n 3, 1) := by decide +kernel
theorem dL_told_55 : decode cL_told 55 = .ok (.lreturn, 1) := by decide +kernel
set_option maxRecDepth 20000 in
theorem ggL_length_X1_numberAt : GoodIn wsL_length wsX1_numberAt := goodIn_ca (goodIn_r _ [5, 6, 7, 8, 9, 10, 11, 4, 12, 13, 14, 15, 16, 17, 18, 19, 20, 21, 22, 23, 24, 25, 26, 27, 28, 29, 30, 31, 32, 33, 34, 35] (by decide +kernel) (by decide +kernel)) (goodIn_sub (fun _ h => List.mem_cons_of_mem _ (List.mem_append_right _ h)) (by decide +kernel))
set_option maxRecDepth 20000 in
theorem gL_length_X1_numberAt : GoodIn wsL_length (wsV RL 50 RX1 yX1_numberAt wsX1_numberAt) := goodIn_app (goodIn_of _ (by decide +kernel)) ggL_length_X1_numberAt
theorem dL_length_0 : decode cL_length 0 = .ok (.iconst 0, 1) := by decide +kernel
theorem dL_length_1 : decode cL_length 1 = .ok (.istore_n 3, 1) := by decide +kernel
theorem dL_length_2 : decode cL_length 2 = .ok (.iload_n 3, 1) := by decide +kernel
theorem dL_length_3 : decode cL_length 3 = .ok (.bipush 12, 2) := by decide +kernel
theorem dL_length_5 : decode cL_length 5 = .ok (.if_icmp .ge 19, 3) := by decide +kernel
theorem dL_length_8 : decode cL_length 8 = .ok (.aload_n 0, 1) := by decide +kernel
theorem dL_length_9 : decode cL_length 9 = .ok (.iload_n 1, 1) := by decide +kernel
theorem dL_length_10 : decode cL_length 10 = .ok (.iload_n 2, 1) := by decide +kernel
theorem dL_length_11 : decode cL_length 11 = .ok (.iload_n 3, 1) := by decide +kernel
theorem dL_length_12 : decode cL_length 12 = .ok (.invokevirtual 50, 3) := by decide +kernel
theorem dL_length_15 : decode cL_length 15 = .ok (.ifCond .lt 9, 3) := by decide +kernel
theorem dL_length_18 : decode cL_length 18 = .ok (.iinc 3 1, 3) := by decide +kernel
theorem dL_length_21 : decode cL_length 21 = .ok (.goto (-19), 3) := by decide +kernel
theorem dL_length_24 : decode cL_length 24 = .ok (.iload_n 3, 1) := by decide +kernel
theorem dL_length_25 : decode cL_length 25 = .ok (.ireturn, 1) := by decide +kernel
set_option maxRecDepth 20000 in
theorem ggL_takes_L_told : GoodIn wsL_takes wsL_told := goodIn_ca (goodIn_r _ [4, 5, 6, 7, 8, 9, 10, 11, 12, 13, 14, 15, 16, 17, 18, 19, 20, 21, 22, 23, 24, 25, 26, 27, 28, 29, 30, 31, 32, 33, 34, 35, 36, 37, 38, 39, 40, 41, 42, 43, 44, 45, 46, 47, 48, 49, 50, 51] (by decide +kernel) (by decide +kernel)) (goodIn_sub (fun _ h => List.mem_cons_of_mem _ (List.mem_append_right _ h)) (by decide +kernel))
set_option maxRecDepth 20000 in
theorem gL_takes_L_told : GoodIn wsL_takes (va_wsS RL 63 yL_told wsL_told) := goodIn_app (goodIn_of _ (by decide +kernel)) ggL_takes_L_told
theorem dL_takes_0 : decode cL_takes 0 = .ok (.iconst 0, 1) := by decide +kernel
theorem dL_takes_1 : decode cL_takes 1 = .ok (.istore_n 2, 1) := by decide +kernel
theorem dL_takes_2 : decode cL_takes 2 = .ok (.iload_n 2, 1) := by decide +kernel
theorem dL_takes_3 : decode cL_takes 3 = .ok (.bipush 6, 2) := by decide +kernel
theorem dL_takes_5 : decode cL_takes 5 = .ok (.if_icmp .ge 18, 3) := by decide +kernel
theorem dL_takes_8 : decode cL_takes 8 = .ok (.aload_n 1, 1) := by decide +kernel
theorem dL_takes_9 : decode cL_takes 9 = .ok (.iload_n 2, 1) := by decide +kernel
theorem dL_takes_10 : decode cL_takes 10 = .ok (.aload_n 0, 1) := by decide +kernel
theorem dL_takes_11 : decode cL_takes 11 = .ok (.iconst (-1), 1) := by decide +kernel
theorem dL_takes_12 : decode cL_takes 12 = .ok (.iload_n 2, 1) := by decide +kernel
theorem dL_takes_13 : decode cL_takes 13 = .ok (.invokestatic 63, 3) := by decide +kernel
theorem dL_takes_16 : decode cL_takes 16 = .ok (.lastore, 1) := by decide +kernel
theorem dL_takes_17 : decode cL_takes 17 = .ok (.iinc 2 1, 3) := by decide +kernel
theorem dL_takes_20 : decode cL_takes 20 = .ok (.goto (-18), 3) := by decide +kernel
theorem dL_takes_23 : decode cL_takes 23 = .ok (.return_, 1) := by decide +kernel
set_option maxRecDepth 20000 in
theorem ggL_isHead_L_told : GoodIn wsL_isHead wsL_told := goodIn_ca (goodIn_r _ [4, 5, 6, 7, 8, 9, 10, 11, 12, 13, 14, 15, 16, 17, 18, 19, 20, 21, 22, 23, 24, 25, 26, 27, 28, 29, 30, 31, 32, 33, 34, 35, 36, 37, 38, 39, 40, 41, 42, 77, 78, 79, 80, 81, 82, 83, 84, 85] (by decide +kernel) (by decide +kernel)) (goodIn_sub (fun _ h => List.mem_cons_of_mem _ (List.mem_append_right _ h)) (by decide +kernel))
set_option maxRecDepth 20000 in
theorem gL_isHead_L_told : GoodIn wsL_isHead (va_wsS RL 63 yL_told wsL_told) := goodIn_app (goodIn_of _ (by decide +kernel)) ggL_isHead_L_told
set_option maxRecDepth 20000 in
theorem ggL_isHead_X1_last : GoodIn wsL_isHead wsX1_last := goodIn_r _ [46, 26, 80, 81, 82, 83, 84, 85] (by decide +kernel) (by decide +kernel)
set_option maxRecDepth 20000 in
theorem gL_isHead_X1_last : GoodIn wsL_isHead (wsV RL 69 RX1 yX1_last wsX1_last) := goodIn_app (goodIn_of _ (by decide +kernel)) ggL_isHead_X1_last
set_option maxRecDepth 20000 in
theorem ggL_isHead_X1_oldest : GoodIn wsL_isHead wsX1_oldest := goodIn_r _ [50, 25, 80, 81, 82, 83, 84, 85] (by decide +kernel) (by decide +kernel)
set_option maxRecDepth 20000 in
theorem gL_isHead_X1_oldest : GoodIn wsL_isHead (wsV RL 73 RX1 yX1_oldest wsX1_oldest) := goodIn_app (goodIn_of _ (by decide +kernel)) ggL_isHead_X1_oldest
set_option maxRecDepth 20000 in
theorem ggL_isHead_X1_isBroken : GoodIn wsL_isHead wsX1_isBroken := goodIn_r _ [54, 55, 80, 81, 82, 83, 84, 85] (by decide +kernel) (by decide +kernel)
set_option maxRecDepth 20000 in
theorem gL_isHead_X1_isBroken : GoodIn wsL_isHead (wsV RL 76 RX1 yX1_isBroken wsX1_isBroken) := goodIn_app (goodIn_of _ (by decide +kernel)) ggL_isHead_X1_isBroken
set_option maxRecDepth 20000 in
theorem ggL_isHead_X1_needs : GoodIn wsL_isHead wsX1_needs := goodIn_r _ [59, 60, 61, 62, 10, 63, 17, 18, 26, 30, 31, 32, 64, 65, 66, 67, 68, 69, 70, 71, 72, 73, 74, 75, 76, 80, 81, 82, 83, 84, 85, 77, 78, 79] (by decide +kernel) (by decide +kernel)
set_option maxRecDepth 20000 in
theorem gL_isHead_X1_needs : GoodIn wsL_isHead (wsV RL 80 RX1 yX1_needs wsX1_needs) := goodIn_app (goodIn_of _ (by decide +kernel)) ggL_isHead_X1_needs
theorem dL_isHead_0 : decode cL_isHead 0 = .ok (.iconst 0, 1) := by decide +kernel
theorem dL_isHead_1 : decode cL_isHead 1 = .ok (.istore_n 3, 1) := by decide +kernel
theorem dL_isHead_2 : decode cL_isHead 2 = .ok (.iconst 0, 1) := by decide +kernel
theorem dL_isHead_3 : decode cL_isHead 3 = .ok (.istore 4, 2) := by decide +kernel
theorem dL_isHead_5 : decode cL_isHead 5 = .ok (.iload 4, 2) := by decide +kernel
theorem dL_isHead_7 : decode cL_isHead 7 = .ok (.bipush 6, 2) := by decide +kernel
theorem dL_isHead_9 : decode cL_isHead 9 = .ok (.if_icmp .ge 42, 3) := by decide +kernel
theorem dL_isHead_12 : decode cL_isHead 12 = .ok (.iload_n 3, 1) := by decide +kernel
theorem dL_isHead_13 : decode cL_isHead 13 = .ok (.aload_n 1, 1) := by decide +kernel
theorem dL_isHead_14 : decode cL_isHead 14 = .ok (.bipush 6, 2) := by decide +kernel
theorem dL_isHead_16 : decode cL_isHead 16 = .ok (.aload_n 2, 1) := by decide +kernel
theorem dL_isHead_17 : decode cL_isHead 17 = .ok (.iconst 0, 1) := by decide +kernel
theorem dL_isHead_18 : decode cL_isHead 18 = .ok (.iaload, 1) := by decide +kernel
theorem dL_isHead_19 : decode cL_isHead 19 = .ok (.bipush 10, 2) := by decide +kernel
theorem dL_isHead_21 : decode cL_isHead 21 = .ok (.irem, 1) := by decide +kernel
theorem dL_isHead_22 : decode cL_isHead 22 = .ok (.imul, 1) := by decide +kernel
theorem dL_isHead_23 : decode cL_isHead 23 = .ok (.iload 4, 2) := by decide +kernel
theorem dL_isHead_25 : decode cL_isHead 25 = .ok (.iadd, 1) := by decide +kernel
theorem dL_isHead_26 : decode cL_isHead 26 = .ok (.laload, 1) := by decide +kernel
theorem dL_isHead_27 : decode cL_isHead 27 = .ok (.aload_n 0, 1) := by decide +kernel
theorem dL_isHead_28 : decode cL_isHead 28 = .ok (.iconst (-1), 1) := by decide +kernel
theorem dL_isHead_29 : decode cL_isHead 29 = .ok (.iload 4, 2) := by decide +kernel
theorem dL_isHead_31 : decode cL_isHead 31 = .ok (.invokestatic 63, 3) := by decide +kernel
theorem dL_isHead_34 : decode cL_isHead 34 = .ok (.lcmp, 1) := by decide +kernel
theorem dL_isHead_35 : decode cL_isHead 35 = .ok (.ifCond .ne 7, 3) := by decide +kernel
theorem dL_isHead_38 : decode cL_isHead 38 = .ok (.iconst 0, 1) := by decide +kernel
theorem dL_isHead_39 : decode cL_isHead 39 = .ok (.goto 4, 3) := by decide +kernel
theorem dL_isHead_42 : decode cL_isHead 42 = .ok (.iconst 1, 1) := by decide +kernel
theorem dL_isHead_43 : decode cL_isHead 43 = .ok (.iadd, 1) := by decide +kernel
theorem dL_isHead_44 : decode cL_isHead 44 = .ok (.istore_n 3, 1) := by decide +kernel
theorem dL_isHead_45 : decode cL_isHead 45 = .ok (.iinc 4 1, 3) := by decide +kernel
theorem dL_isHead_48 : decode cL_isHead 48 = .ok (.goto (-43), 3) := by decide +kernel
theorem dL_isHead_51 : decode cL_isHead 51 = .ok (.aload_n 0, 1) := by decide +kernel
theorem dL_isHead_52 : decode cL_isHead 52 = .ok (.invokevirtual 69, 3) := by decide +kernel
theorem dL_isHead_55 : decode cL_isHead 55 = .ok (.aload_n 2, 1) := by decide +kernel
theorem dL_isHead_56 : decode cL_isHead 56 = .ok (.iconst 0, 1) := by decide +kernel
theorem dL_isHead_57 : decode cL_isHead 57 = .ok (.iaload, 1) := by decide +kernel
theorem dL_isHead_58 : decode cL_isHead 58 = .ok (.if_icmp .ne 43, 3) := by decide +kernel
theorem dL_isHead_61 : decode cL_isHead 61 = .ok (.aload_n 0, 1) := by decide +kernel
theorem dL_isHead_62 : decode cL_isHead 62 = .ok (.invokevirtual 73, 3) := by decide +kernel
theorem dL_isHead_65 : decode cL_isHead 65 = .ok (.aload_n 2, 1) := by decide +kernel
theorem dL_isHead_66 : decode cL_isHead 66 = .ok (.iconst 1, 1) := by decide +kernel
theorem dL_isHead_67 : decode cL_isHead 67 = .ok (.iaload, 1) := by decide +kernel
theorem dL_isHead_68 : decode cL_isHead 68 = .ok (.if_icmp .ne 33, 3) := by decide +kernel
theorem dL_isHead_71 : decode cL_isHead 71 = .ok (.aload_n 0, 1) := by decide +kernel
theorem dL_isHead_72 : decode cL_isHead 72 = .ok (.invokevirtual 76, 3) := by decide +kernel
theorem dL_isHead_75 : decode cL_isHead 75 = .ok (.aload_n 2, 1) := by decide +kernel
theorem dL_isHead_76 : decode cL_isHead 76 = .ok (.iconst 2, 1) := by decide +kernel
theorem dL_isHead_77 : decode cL_isHead 77 = .ok (.iaload, 1) := by decide +kernel
theorem dL_isHead_78 : decode cL_isHead 78 = .ok (.ifCond .lt 7, 3) := by decide +kernel
theorem dL_isHead_81 : decode cL_isHead 81 = .ok (.iconst 1, 1) := by decide +kernel
theorem dL_isHead_82 : decode cL_isHead 82 = .ok (.goto 4, 3) := by decide +kernel
theorem dL_isHead_85 : decode cL_isHead 85 = .ok (.iconst 0, 1) := by decide +kernel
theorem dL_isHead_86 : decode cL_isHead 86 = .ok (.if_icmp .ne 15, 3) := by decide +kernel
theorem dL_isHead_89 : decode cL_isHead 89 = .ok (.aload_n 0, 1) := by decide +kernel
theorem dL_isHead_90 : decode cL_isHead 90 = .ok (.invokevirtual 80, 3) := by decide +kernel
theorem dL_isHead_93 : decode cL_isHead 93 = .ok (.iload_n 3, 1) := by decide +kernel
theorem dL_isHead_94 : decode cL_isHead 94 = .ok (.if_icmp .ne 7, 3) := by decide +kernel
theorem dL_isHead_97 : decode cL_isHead 97 = .ok (.iconst 1, 1) := by decide +kernel
theorem dL_isHead_98 : decode cL_isHead 98 = .ok (.goto 4, 3) := by decide +kernel
theorem dL_isHead_101 : decode cL_isHead 101 = .ok (.iconst 0, 1) := by decide +kernel
theorem dL_isHead_102 : decode cL_isHead 102 = .ok (.ireturn, 1) := by decide +kernel
set_option maxRecDepth 20000 in
theorem ggL_isDate_X1_kindAt : GoodIn wsL_isDate wsX1_kindAt := goodIn_ca (goodIn_r _ [5, 6, 7, 8, 9, 4, 10, 11, 12, 13, 14, 15, 16, 17, 18, 19, 20, 21, 22, 23, 24, 25, 26, 80, 81, 82, 83, 84, 85, 86, 87, 88] (by decide +kernel) (by decide +kernel)) (goodIn_sub (fun _ h => List.mem_cons_of_mem _ (List.mem_append_right _ h)) (by decide +kernel))
set_option maxRecDepth 20000 in
theorem gL_isDate_X1_kindAt : GoodIn wsL_isDate (wsV RL 47 RX1 yX1_kindAt wsX1_kindAt) := goodIn_app (goodIn_of _ (by decide +kernel)) ggL_isDate_X1_kindAt
set_option maxRecDepth 20000 in
theorem ggL_isDate_L_told : GoodIn wsL_isDate wsL_told := goodIn_ca (goodIn_r _ [30, 31, 32, 1, 2, 3, 4, 5, 6, 7, 8, 9, 10, 11, 12, 13, 14, 15, 16, 17, 18, 19, 20, 21, 22, 23, 24, 25, 26, 33, 34, 35, 36, 37, 38, 39, 40, 41, 42, 80, 81, 82, 83, 84, 85, 86, 87, 88] (by decide +kernel) (by decide +kernel)) (goodIn_sub (fun _ h => List.mem_cons_of_mem _ (List.mem_append_right _ h)) (by decide +kernel))
set_option maxRecDepth 20000 in
theorem gL_isDate_L_told : GoodIn wsL_isDate (va_wsS RL 63 yL_told wsL_told) := goodIn_app (goodIn_of _ (by decide +kernel)) ggL_isDate_L_told
set_option maxRecDepth 20000 in
theorem ggL_isDate_X1_rightsAt : GoodIn wsL_isDate wsX1_rightsAt := goodIn_ca (goodIn_r _ [36, 37, 7, 8, 9, 4, 10, 11, 12, 13, 14, 15, 16, 17, 18, 19, 20, 21, 22, 23, 24, 25, 26, 80, 81, 82, 83, 84, 85, 86, 87, 88] (by decide +kernel) (by decide +kernel)) (goodIn_sub (fun _ h => List.mem_cons_of_mem _ (List.mem_append_right _ h)) (by decide +kernel))
set_option maxRecDepth 20000 in
theorem gL_isDate_X1_rightsAt : GoodIn wsL_isDate (wsV RL 53 RX1 yX1_rightsAt wsX1_rightsAt) := goodIn_app (goodIn_of _ (by decide +kernel)) ggL_isDate_X1_rightsAt
set_option maxRecDepth 20000 in
theorem ggL_isDate_X1_numberAt : GoodIn wsL_isDate wsX1_numberAt := goodIn_ca (goodIn_r _ [41, 17, 18, 42, 7, 8, 9, 4, 10, 11, 12, 13, 14, 15, 16, 19, 20, 21, 22, 23, 24, 25, 26, 80, 81, 82, 83, 84, 85, 86, 87, 88] (by decide +kernel) (by decide +kernel)) (goodIn_sub (fun _ h => List.mem_cons_of_mem _ (List.mem_append_right _ h)) (by decide +kernel))
set_option maxRecDepth 20000 in
theorem gL_isDate_X1_numberAt : GoodIn wsL_isDate (wsV RL 50 RX1 yX1_numberAt wsX1_numberAt) := goodIn_app (goodIn_of _ (by decide +kernel)) ggL_isDate_X1_numberAt
set_option maxRecDepth 20000 in
theorem ggL_isDate_L_length : GoodIn wsL_isDate wsL_length := goodIn_ca (goodIn_r _ [45, 38, 39, 40, 4, 41, 17, 18, 42, 7, 8, 9, 10, 11, 12, 13, 14, 15, 16, 19, 20, 21, 22, 23, 24, 25, 26, 80, 81, 82, 83, 84, 85, 86, 87, 88] (by decide +kernel) (by decide +kernel)) (goodIn_sub (fun _ h => List.mem_cons_of_mem _ (List.mem_append_right _ h)) (by decide +kernel))
set_option maxRecDepth 20000 in
theorem gL_isDate_L_length : GoodIn wsL_isDate (va_wsS RL 83 yL_length wsL_length) := goodIn_app (goodIn_of _ (by decide +kernel)) ggL_isDate_L_length
set_option maxRecDepth 20000 in
theorem ggL_isDate_X1_sizeAt : GoodIn wsL_isDate wsX1_sizeAt := goodIn_ca (goodIn_r _ [49, 13, 14, 15, 4, 16, 17, 18, 19, 20, 21, 22, 23, 50, 51, 52, 53, 12, 37, 6, 42, 24, 25, 26, 54, 55, 56, 57, 58, 59, 60, 61, 62, 63, 64, 65, 66, 67, 68, 69, 70, 71, 72, 73, 74, 75, 76, 83, 84, 85, 86, 87, 88, 80, 81, 82] (by decide +kernel) (by decide +kernel)) (goodIn_sub (fun _ h => List.mem_cons_of_mem _ (List.mem_append_right _ h)) (by decide +kernel))
set_option maxRecDepth 20000 in
theorem gL_isDate_X1_sizeAt : GoodIn wsL_isDate (wsV RL 56 RX1 yX1_sizeAt wsX1_sizeAt) := goodIn_app (goodIn_of _ (by decide +kernel)) ggL_isDate_X1_sizeAt
set_option maxRecDepth 20000 in
theorem ggL_isDate_L_isSize : GoodIn wsL_isDate wsL_isSize := goodIn_ca (goodIn_r _ [79, 46, 47, 48, 4, 49, 13, 14, 15, 16, 17, 18, 19, 20, 21, 22, 23, 50, 51, 52, 53, 12, 37, 6, 42, 24, 25, 26, 54, 55, 56, 57, 58, 59, 60, 61, 62, 63, 64, 65, 66, 67, 68, 69, 70, 71, 72, 73, 74, 75, 76, 33, 34, 35, 36, 7, 8, 9, 10, 11, 43, 44, 29, 45, 38, 39, 40, 41, 1, 2, 3, 5, 83, 84, 85, 86, 87, 88, 80, 81, 82] (by decide +kernel) (by decide +kernel)) (goodIn_sub (fun _ h => List.mem_cons_of_mem _ (List.mem_append_right _ h)) (by decide +kernel))
set_option maxRecDepth 20000 in
theorem gL_isDate_L_isSize : GoodIn wsL_isDate (va_wsS RL 87 yL_isSize wsL_isSize) := goodIn_app (goodIn_of _ (by decide +kernel)) ggL_isDate_L_isSize
theorem dL_isDate_0 : decode cL_isDate 0 = .ok (.iconst 1, 1) := by decide +kernel
theorem dL_isDate_1 : decode cL_isDate 1 = .ok (.istore 4, 2) := by decide +kernel
theorem dL_isDate_3 : decode cL_isDate 3 = .ok (.iconst 0, 1) := by decide +kernel
theorem dL_isDate_4 : decode cL_isDate 4 = .ok (.istore 5, 2) := by decide +kernel
theorem dL_isDate_6 : decode cL_isDate 6 = .ok (.iload 5, 2) := by decide +kernel
theorem dL_isDate_8 : decode cL_isDate 8 = .ok (.bipush 6, 2) := by decide +kernel
theorem dL_isDate_10 : decode cL_isDate 10 = .ok (.if_icmp .ge 139, 3) := by decide +kernel
theorem dL_isDate_13 : decode cL_isDate 13 = .ok (.iload 4, 2) := by decide +kernel
theorem dL_isDate_15 : decode cL_isDate 15 = .ok (.ifCond .eq 134, 3) := by decide +kernel
theorem dL_isDate_18 : decode cL_isDate 18 = .ok (.aload_n 0, 1) := by decide +kernel
theorem dL_isDate_19 : decode cL_isDate 19 = .ok (.iload_n 3, 1) := by decide +kernel
theorem dL_isDate_20 : decode cL_isDate 20 = .ok (.iload 5, 2) := by decide +kernel
theorem dL_isDate_22 : decode cL_isDate 22 = .ok (.invokevirtual 47, 3) := by decide +kernel
theorem dL_isDate_25 : decode cL_isDate 25 = .ok (.istore 6, 2) := by decide +kernel
theorem dL_isDate_27 : decode cL_isDate 27 = .ok (.aload_n 0, 1) := by decide +kernel
theorem dL_isDate_28 : decode cL_isDate 28 = .ok (.iload_n 3, 1) := by decide +kernel
theorem dL_isDate_29 : decode cL_isDate 29 = .ok (.iload 5, 2) := by decide +kernel
theorem dL_isDate_31 : decode cL_isDate 31 = .ok (.invokestatic 63, 3) := by decide +kernel
theorem dL_isDate_34 : decode cL_isDate 34 = .ok (.aload_n 1, 1) := by decide +kernel
theorem dL_isDate_35 : decode cL_isDate 35 = .ok (.bipush 6, 2) := by decide +kernel
theorem dL_isDate_37 : decode cL_isDate 37 = .ok (.iload_n 3, 1) := by decide +kernel
theorem dL_isDate_38 : decode cL_isDate 38 = .ok (.bipush 10, 2) := by decide +kernel
theorem dL_isDate_40 : decode cL_isDate 40 = .ok (.irem, 1) := by decide +kernel
theorem dL_isDate_41 : decode cL_isDate 41 = .ok (.imul, 1) := by decide +kernel
theorem dL_isDate_42 : decode cL_isDate 42 = .ok (.iload 5, 2) := by decide +kernel
theorem dL_isDate_44 : decode cL_isDate 44 = .ok (.iadd, 1) := by decide +kernel
theorem dL_isDate_45 : decode cL_isDate 45 = .ok (.laload, 1) := by decide +kernel
theorem dL_isDate_46 : decode cL_isDate 46 = .ok (.lcmp, 1) := by decide +kernel
theorem dL_isDate_47 : decode cL_isDate 47 = .ok (.ifCond .ne 93, 3) := by decide +kernel
theorem dL_isDate_50 : decode cL_isDate 50 = .ok (.iload 6, 2) := by decide +kernel
theorem dL_isDate_52 : decode cL_isDate 52 = .ok (.ifCond .lt 88, 3) := by decide +kernel
theorem dL_isDate_55 : decode cL_isDate 55 = .ok (.iload 6, 2) := by decide +kernel
theorem dL_isDate_57 : decode cL_isDate 57 = .ok (.iconst 2, 1) := by decide +kernel
theorem dL_isDate_58 : decode cL_isDate 58 = .ok (.if_icmp .gt 82, 3) := by decide +kernel
theorem dL_isDate_61 : decode cL_isDate 61 = .ok (.iload 6, 2) := by decide +kernel
theorem dL_isDate_63 : decode cL_isDate 63 = .ok (.ifCond .gt 25, 3) := by decide +kernel
theorem dL_isDate_66 : decode cL_isDate 66 = .ok (.aload_n 0, 1) := by decide +kernel
theorem dL_isDate_67 : decode cL_isDate 67 = .ok (.iload_n 3, 1) := by decide +kernel
theorem dL_isDate_68 : decode cL_isDate 68 = .ok (.iload 5, 2) := by decide +kernel
theorem dL_isDate_70 : decode cL_isDate 70 = .ok (.invokevirtual 53, 3) := by decide +kernel
theorem dL_isDate_73 : decode cL_isDate 73 = .ok (.ifCond .ne 67, 3) := by decide +kernel
theorem dL_isDate_76 : decode cL_isDate 76 = .ok (.aload_n 0, 1) := by decide +kernel
theorem dL_isDate_77 : decode cL_isDate 77 = .ok (.iload_n 3, 1) := by decide +kernel
theorem dL_isDate_78 : decode cL_isDate 78 = .ok (.iload 5, 2) := by decide +kernel
theorem dL_isDate_80 : decode cL_isDate 80 = .ok (.iconst 0, 1) := by decide +kernel
theorem dL_isDate_81 : decode cL_isDate 81 = .ok (.invokevirtual 50, 3) := by decide +kernel
theorem dL_isDate_84 : decode cL_isDate 84 = .ok (.iconst (-1), 1) := by decide +kernel
theorem dL_isDate_85 : decode cL_isDate 85 = .ok (.if_icmp .ne 55, 3) := by decide +kernel
theorem dL_isDate_88 : decode cL_isDate 88 = .ok (.iload 6, 2) := by decide +kernel
theorem dL_isDate_90 : decode cL_isDate 90 = .ok (.iconst 2, 1) := by decide +kernel
theorem dL_isDate_91 : decode cL_isDate 91 = .ok (.if_icmp .ne 14, 3) := by decide +kernel
theorem dL_isDate_94 : decode cL_isDate 94 = .ok (.aload_n 0, 1) := by decide +kernel
theorem dL_isDate_95 : decode cL_isDate 95 = .ok (.iload_n 3, 1) := by decide +kernel
theorem dL_isDate_96 : decode cL_isDate 96 = .ok (.iload 5, 2) := by decide +kernel
theorem dL_isDate_98 : decode cL_isDate 98 = .ok (.invokestatic 83, 3) := by decide +kernel
theorem dL_isDate_101 : decode cL_isDate 101 = .ok (.iconst 1, 1) := by decide +kernel
theorem dL_isDate_102 : decode cL_isDate 102 = .ok (.if_icmp .ne 38, 3) := by decide +kernel
theorem dL_isDate_105 : decode cL_isDate 105 = .ok (.iload_n 3, 1) := by decide +kernel
theorem dL_isDate_106 : decode cL_isDate 106 = .ok (.aload_n 2, 1) := by decide +kernel
theorem dL_isDate_107 : decode cL_isDate 107 = .ok (.iconst 0, 1) := by decide +kernel
theorem dL_isDate_108 : decode cL_isDate 108 = .ok (.iaload, 1) := by decide +kernel
theorem dL_isDate_109 : decode cL_isDate 109 = .ok (.if_icmp .ne 16, 3) := by decide +kernel
theorem dL_isDate_112 : decode cL_isDate 112 = .ok (.aload_n 0, 1) := by decide +kernel
theorem dL_isDate_113 : decode cL_isDate 113 = .ok (.iload_n 3, 1) := by decide +kernel
theorem dL_isDate_114 : decode cL_isDate 114 = .ok (.iload 5, 2) := by decide +kernel
theorem dL_isDate_116 : decode cL_isDate 116 = .ok (.invokevirtual 56, 3) := by decide +kernel
theorem dL_isDate_119 : decode cL_isDate 119 = .ok (.ifCond .ne 21, 3) := by decide +kernel
theorem dL_isDate_122 : decode cL_isDate 122 = .ok (.goto 14, 3) := by decide +kernel
theorem dL_isDate_125 : decode cL_isDate 125 = .ok (.aload_n 0, 1) := by decide +kernel
theorem dL_isDate_126 : decode cL_isDate 126 = .ok (.aload_n 1, 1) := by decide +kernel
theorem dL_isDate_127 : decode cL_isDate 127 = .ok (.iload_n 3, 1) := by decide +kernel
theorem dL_isDate_128 : decode cL_isDate 128 = .ok (.iload 5, 2) := by decide +kernel
theorem dL_isDate_130 : decode cL_isDate 130 = .ok (.invokestatic 87, 3) := by decide +kernel
theorem dL_isDate_133 : decode cL_isDate 133 = .ok (.ifCond .eq 7, 3) := by decide +kernel
theorem dL_isDate_136 : decode cL_isDate 136 = .ok (.iconst 1, 1) := by decide +kernel
theorem dL_isDate_137 : decode cL_isDate 137 = .ok (.goto 4, 3) := by decide +kernel
theorem dL_isDate_140 : decode cL_isDate 140 = .ok (.iconst 0, 1) := by decide +kernel
theorem dL_isDate_141 : decode cL_isDate 141 = .ok (.istore 4, 2) := by decide +kernel
theorem dL_isDate_143 : decode cL_isDate 143 = .ok (.iinc 5 1, 3) := by decide +kernel
theorem dL_isDate_146 : decode cL_isDate 146 = .ok (.goto (-140), 3) := by decide +kernel
theorem dL_isDate_149 : decode cL_isDate 149 = .ok (.iload 4, 2) := by decide +kernel
theorem dL_isDate_151 : decode cL_isDate 151 = .ok (.ireturn, 1) := by decide +kernel
set_option maxRecDepth 20000 in
theorem ggL_isSize_X1_sizeAt : GoodIn wsL_isSize wsX1_sizeAt := goodIn_ca (goodIn_r _ [5, 6, 7, 8, 4, 9, 10, 11, 12, 13, 14, 15, 16, 17, 18, 19, 20, 21, 22, 23, 24, 25, 26, 27, 28, 29, 30, 31, 32, 33, 34, 35, 36, 37, 38, 39, 40, 41, 42, 43, 44, 45, 46, 47, 48, 49, 50, 72, 73, 74, 75, 76, 77, 78, 79, 80] (by decide +kernel) (by decide +kernel)) (goodIn_sub (fun _ h => List.mem_cons_of_mem _ (List.mem_append_right _ h)) (by decide +kernel))
set_option maxRecDepth 20000 in
theorem gL_isSize_X1_sizeAt : GoodIn wsL_isSize (wsV RL 56 RX1 yX1_sizeAt wsX1_sizeAt) := goodIn_app (goodIn_of _ (by decide +kernel)) ggL_isSize_X1_sizeAt
set_option maxRecDepth 20000 in
theorem ggL_isSize_X1_rightsAt : GoodIn wsL_isSize wsX1_rightsAt := goodIn_ca (goodIn_r _ [54, 22, 55, 56, 57, 4, 58, 59, 21, 6, 7, 8, 9, 10, 11, 12, 13, 14, 15, 16, 25, 26, 27, 78, 79, 80, 72, 73, 74, 75, 76, 77] (by decide +kernel) (by decide +kernel)) (goodIn_sub (fun _ h => List.mem_cons_of_mem _ (List.mem_append_right _ h)) (by decide +kernel))
set_option maxRecDepth 20000 in
theorem gL_isSize_X1_rightsAt : GoodIn wsL_isSize (wsV RL 53 RX1 yX1_rightsAt wsX1_rightsAt) := goodIn_app (goodIn_of _ (by decide +kernel)) ggL_isSize_X1_rightsAt
set_option maxRecDepth 20000 in
theorem ggL_isSize_L_length : GoodIn wsL_isSize wsL_length := goodIn_ca (goodIn_r _ [63, 64, 65, 66, 4, 67, 10, 11, 24, 55, 56, 57, 58, 59, 21, 6, 7, 8, 9, 12, 13, 14, 15, 16, 25, 26, 27, 78, 79, 80, 72, 73, 74, 75, 76, 77] (by decide +kernel) (by decide +kernel)) (goodIn_sub (fun _ h => List.mem_cons_of_mem _ (List.mem_append_right _ h)) (by decide +kernel))
set_option maxRecDepth 20000 in
theorem gL_isSize_L_length : GoodIn wsL_isSize (va_wsS RL 83 yL_length wsL_length) := goodIn_app (goodIn_of _ (by decide +kernel)) ggL_isSize_L_length
set_option maxRecDepth 20000 in
theorem ggL_isSize_X1_kindAt : GoodIn wsL_isSize wsX1_kindAt := goodIn_ca (goodIn_r _ [71, 23, 55, 56, 57, 4, 58, 59, 21, 6, 7, 8, 9, 10, 11, 12, 13, 14, 15, 16, 25, 26, 27, 78, 79, 80, 72, 73, 74, 75, 76, 77] (by decide +kernel) (by decide +kernel)) (goodIn_sub (fun _ h => List.mem_cons_of_mem _ (List.mem_append_right _ h)) (by decide +kernel))
set_option maxRecDepth 20000 in
theorem gL_isSize_X1_kindAt : GoodIn wsL_isSize (wsV RL 47 RX1 yX1_kindAt wsX1_kindAt) := goodIn_app (goodIn_of _ (by decide +kernel)) ggL_isSize_X1_kindAt
set_option maxRecDepth 20000 in
theorem ggL_isSize_X1_numberAt : GoodIn wsL_isSize wsX1_numberAt := goodIn_ca (goodIn_r _ [67, 10, 11, 24, 55, 56, 57, 4, 58, 59, 21, 6, 7, 8, 9, 12, 13, 14, 15, 16, 25, 26, 27, 78, 79, 80, 72, 73, 74, 75, 76, 77] (by decide +kernel) (by decide +kernel)) (goodIn_sub (fun _ h => List.mem_cons_of_mem _ (List.mem_append_right _ h)) (by decide +kernel))
set_option maxRecDepth 20000 in
theorem gL_isSize_X1_numberAt : GoodIn wsL_isSize (wsV RL 50 RX1 yX1_numberAt wsX1_numberAt) := goodIn_app (goodIn_of _ (by decide +kernel)) ggL_isSize_X1_numberAt
theorem dL_isSize_0 : decode cL_isSize 0 = .ok (.aload_n 0, 1) := by decide +kernel
theorem dL_isSize_1 : decode cL_isSize 1 = .ok (.iload_n 2, 1) := by decide +kernel
theorem dL_isSize_2 : decode cL_isSize 2 = .ok (.iload_n 3, 1) := by decide +kernel
theorem dL_isSize_3 : decode cL_isSize 3 = .ok (.invokevirtual 56, 3) := by decide +kernel
theorem dL_isSize_6 : decode cL_isSize 6 = .ok (.istore 4, 2) := by decide +kernel
theorem dL_isSize_8 : decode cL_isSize 8 = .ok (.aload_n 1, 1) := by decide +kernel
theorem dL_isSize_9 : decode cL_isSize 9 = .ok (.bipush 6, 2) := by decide +kernel
theorem dL_isSize_11 : decode cL_isSize 11 = .ok (.iload_n 2, 1) := by decide +kernel
theorem dL_isSize_12 : decode cL_isSize 12 = .ok (.bipush 10, 2) := by decide +kernel
theorem dL_isSize_14 : decode cL_isSize 14 = .ok (.irem, 1) := by decide +kernel
theorem dL_isSize_15 : decode cL_isSize 15 = .ok (.imul, 1) := by decide +kernel
theorem dL_isSize_16 : decode cL_isSize 16 = .ok (.iload_n 3, 1) := by decide +kernel
theorem dL_isSize_17 : decode cL_isSize 17 = .ok (.iadd, 1) := by decide +kernel
theorem dL_isSize_18 : decode cL_isSize 18 = .ok (.laload, 1) := by decide +kernel
theorem dL_isSize_19 : decode cL_isSize 19 = .ok (.aload_n 1, 1) := by decide +kernel
theorem dL_isSize_20 : decode cL_isSize 20 = .ok (.bipush 6, 2) := by decide +kernel
theorem dL_isSize_22 : decode cL_isSize 22 = .ok (.iload_n 2, 1) := by decide +kernel
theorem dL_isSize_23 : decode cL_isSize 23 = .ok (.iconst 1, 1) := by decide +kernel
theorem dL_isSize_24 : decode cL_isSize 24 = .ok (.iadd, 1) := by decide +kernel
theorem dL_isSize_25 : decode cL_isSize 25 = .ok (.bipush 10, 2) := by decide +kernel
theorem dL_isSize_27 : decode cL_isSize 27 = .ok (.irem, 1) := by decide +kernel
theorem dL_isSize_28 : decode cL_isSize 28 = .ok (.imul, 1) := by decide +kernel
theorem dL_isSize_29 : decode cL_isSize 29 = .ok (.iload_n 3, 1) := by decide +kernel
theorem dL_isSize_30 : decode cL_isSize 30 = .ok (.iadd, 1) := by decide +kernel
theorem dL_isSize_31 : decode cL_isSize 31 = .ok (.laload, 1) := by decide +kernel
theorem dL_isSize_32 : decode cL_isSize 32 = .ok (.lcmp, 1) := by decide +kernel
theorem dL_isSize_33 : decode cL_isSize 33 = .ok (.ifCond .ne 14, 3) := by decide +kernel
theorem dL_isSize_36 : decode cL_isSize 36 = .ok (.iload 4, 2) := by decide +kernel
theorem dL_isSize_38 : decode cL_isSize 38 = .ok (.ifCond .ne 7, 3) := by decide +kernel
theorem dL_isSize_41 : decode cL_isSize 41 = .ok (.iconst 1, 1) := by decide +kernel
theorem dL_isSize_42 : decode cL_isSize 42 = .ok (.goto 4, 3) := by decide +kernel
theorem dL_isSize_45 : decode cL_isSize 45 = .ok (.iconst 0, 1) := by decide +kernel
theorem dL_isSize_46 : decode cL_isSize 46 = .ok (.ireturn, 1) := by decide +kernel
theorem dL_isSize_47 : decode cL_isSize 47 = .ok (.aload_n 0, 1) := by decide +kernel
theorem dL_isSize_48 : decode cL_isSize 48 = .ok (.iload_n 2, 1) := by decide +kernel
theorem dL_isSize_49 : decode cL_isSize 49 = .ok (.iload_n 3, 1) := by decide +kernel
theorem dL_isSize_50 : decode cL_isSize 50 = .ok (.invokevirtual 53, 3) := by decide +kernel
theorem dL_isSize_53 : decode cL_isSize 53 = .ok (.aload_n 0, 1) := by decide +kernel
theorem dL_isSize_54 : decode cL_isSize 54 = .ok (.iload_n 2, 1) := by decide +kernel
theorem dL_isSize_55 : decode cL_isSize 55 = .ok (.iconst 1, 1) := by decide +kernel
theorem dL_isSize_56 : decode cL_isSize 56 = .ok (.iadd, 1) := by decide +kernel
theorem dL_isSize_57 : decode cL_isSize 57 = .ok (.iload_n 3, 1) := by decide +kernel
theorem dL_isSize_58 : decode cL_isSize 58 = .ok (.invokevirtual 53, 3) := by decide +kernel
theorem dL_isSize_61 : decode cL_isSize 61 = .ok (.if_icmp .ne 7, 3) := by decide +kernel
theorem dL_isSize_64 : decode cL_isSize 64 = .ok (.iconst 0, 1) := by decide +kernel
theorem dL_isSize_65 : decode cL_isSize 65 = .ok (.goto 4, 3) := by decide +kernel
theorem dL_isSize_68 : decode cL_isSize 68 = .ok (.iconst 1, 1) := by decide +kernel
theorem dL_isSize_69 : decode cL_isSize 69 = .ok (.istore 5, 2) := by decide +kernel
theorem dL_isSize_71 : decode cL_isSize 71 = .ok (.aload_n 0, 1) := by decide +kernel
theorem dL_isSize_72 : decode cL_isSize 72 = .ok (.iload_n 2, 1) := by decide +kernel
theorem dL_isSize_73 : decode cL_isSize 73 = .ok (.iload_n 3, 1) := by decide +kernel
theorem dL_isSize_74 : decode cL_isSize 74 = .ok (.invokestatic 83, 3) := by decide +kernel
theorem dL_isSize_77 : decode cL_isSize 77 = .ok (.istore 6, 2) := by decide +kernel
theorem dL_isSize_79 : decode cL_isSize 79 = .ok (.aload_n 0, 1) := by decide +kernel
theorem dL_isSize_80 : decode cL_isSize 80 = .ok (.iload_n 2, 1) := by decide +kernel
theorem dL_isSize_81 : decode cL_isSize 81 = .ok (.iload_n 3, 1) := by decide +kernel
theorem dL_isSize_82 : decode cL_isSize 82 = .ok (.invokevirtual 47, 3) := by decide +kernel
theorem dL_isSize_85 : decode cL_isSize 85 = .ok (.iconst 1, 1) := by decide +kernel
theorem dL_isSize_86 : decode cL_isSize 86 = .ok (.if_icmp .eq 18, 3) := by decide +kernel
theorem dL_isSize_89 : decode cL_isSize 89 = .ok (.iload 4, 2) := by decide +kernel
theorem dL_isSize_91 : decode cL_isSize 91 = .ok (.iconst 1, 1) := by decide +kernel
theorem dL_isSize_92 : decode cL_isSize 92 = .ok (.iload 5, 2) := by decide +kernel
theorem dL_isSize_94 : decode cL_isSize 94 = .ok (.iadd, 1) := by decide +kernel
theorem dL_isSize_95 : decode cL_isSize 95 = .ok (.if_icmp .ne 7, 3) := by decide +kernel
theorem dL_isSize_98 : decode cL_isSize 98 = .ok (.iconst 1, 1) := by decide +kernel
theorem dL_isSize_99 : decode cL_isSize 99 = .ok (.goto 4, 3) := by decide +kernel
theorem dL_isSize_102 : decode cL_isSize 102 = .ok (.iconst 0, 1) := by decide +kernel
theorem dL_isSize_103 : decode cL_isSize 103 = .ok (.ireturn, 1) := by decide +kernel
theorem dL_isSize_104 : decode cL_isSize 104 = .ok (.aload_n 0, 1) := by decide +kernel
theorem dL_isSize_105 : decode cL_isSize 105 = .ok (.iload_n 2, 1) := by decide +kernel
theorem dL_isSize_106 : decode cL_isSize 106 = .ok (.iconst 1, 1) := by decide +kernel
theorem dL_isSize_107 : decode cL_isSize 107 = .ok (.iadd, 1) := by decide +kernel
theorem dL_isSize_108 : decode cL_isSize 108 = .ok (.iload_n 3, 1) := by decide +kernel
theorem dL_isSize_109 : decode cL_isSize 109 = .ok (.invokevirtual 47, 3) := by decide +kernel
theorem dL_isSize_112 : decode cL_isSize 112 = .ok (.iconst 1, 1) := by decide +kernel
theorem dL_isSize_113 : decode cL_isSize 113 = .ok (.if_icmp .eq 21, 3) := by decide +kernel
theorem dL_isSize_116 : decode cL_isSize 116 = .ok (.iload 4, 2) := by decide +kernel
theorem dL_isSize_118 : decode cL_isSize 118 = .ok (.iload 6, 2) := by decide +kernel
theorem dL_isSize_120 : decode cL_isSize 120 = .ok (.iconst 1, 1) := by decide +kernel
theorem dL_isSize_121 : decode cL_isSize 121 = .ok (.iadd, 1) := by decide +kernel
theorem dL_isSize_122 : decode cL_isSize 122 = .ok (.iload 5, 2) := by decide +kernel
theorem dL_isSize_124 : decode cL_isSize 124 = .ok (.iadd, 1) := by decide +kernel
theorem dL_isSize_125 : decode cL_isSize 125 = .ok (.if_icmp .ne 7, 3) := by decide +kernel
theorem dL_isSize_128 : decode cL_isSize 128 = .ok (.iconst 1, 1) := by decide +kernel
theorem dL_isSize_129 : decode cL_isSize 129 = .ok (.goto 4, 3) := by decide +kernel
theorem dL_isSize_132 : decode cL_isSize 132 = .ok (.iconst 0, 1) := by decide +kernel
theorem dL_isSize_133 : decode cL_isSize 133 = .ok (.ireturn, 1) := by decide +kernel
theorem dL_isSize_134 : decode cL_isSize 134 = .ok (.iload 5, 2) := by decide +kernel
theorem dL_isSize_136 : decode cL_isSize 136 = .ok (.istore 7, 2) := by decide +kernel
theorem dL_isSize_138 : decode cL_isSize 138 = .ok (.iconst 0, 1) := by decide +kernel
theorem dL_isSize_139 : decode cL_isSize 139 = .ok (.istore 8, 2) := by decide +kernel
theorem dL_isSize_141 : decode cL_isSize 141 = .ok (.iload 8, 2) := by decide +kernel
theorem dL_isSize_143 : decode cL_isSize 143 = .ok (.iload 6, 2) := by decide +kernel
theorem dL_isSize_145 : decode cL_isSize 145 = .ok (.if_icmp .ge 130, 3) := by decide +kernel
theorem dL_isSize_148 : decode cL_isSize 148 = .ok (.iconst 0, 1) := by decide +kernel
theorem dL_isSize_149 : decode cL_isSize 149 = .ok (.istore 9, 2) := by decide +kernel
theorem dL_isSize_151 : decode cL_isSize 151 = .ok (.iconst 0, 1) := by decide +kernel
theorem dL_isSize_152 : decode cL_isSize 152 = .ok (.istore 10, 2) := by decide +kernel
theorem dL_isSize_154 : decode cL_isSize 154 = .ok (.iload 10, 2) := by decide +kernel
theorem dL_isSize_156 : decode cL_isSize 156 = .ok (.bipush 12, 2) := by decide +kernel
theorem dL_isSize_158 : decode cL_isSize 158 = .ok (.if_icmp .ge 81, 3) := by decide +kernel
theorem dL_isSize_161 : decode cL_isSize 161 = .ok (.iconst 0, 1) := by decide +kernel
theorem dL_isSize_162 : decode cL_isSize 162 = .ok (.istore 11, 2) := by decide +kernel
theorem dL_isSize_164 : decode cL_isSize 164 = .ok (.iload 8, 2) := by decide +kernel
theorem dL_isSize_166 : decode cL_isSize 166 = .ok (.iload 11, 2) := by decide +kernel
theorem dL_isSize_168 : decode cL_isSize 168 = .ok (.iadd, 1) := by decide +kernel
theorem dL_isSize_169 : decode cL_isSize 169 = .ok (.iload 6, 2) := by decide +kernel
theorem dL_isSize_171 : decode cL_isSize 171 = .ok (.if_icmp .ge 46, 3) := by decide +kernel
theorem dL_isSize_174 : decode cL_isSize 174 = .ok (.iload 10, 2) := by decide +kernel
theorem dL_isSize_176 : decode cL_isSize 176 = .ok (.iload 11, 2) := by decide +kernel
theorem dL_isSize_178 : decode cL_isSize 178 = .ok (.iadd, 1) := by decide +kernel
theorem dL_isSize_179 : decode cL_isSize 179 = .ok (.bipush 12, 2) := by decide +kernel
theorem dL_isSize_181 : decode cL_isSize 181 = .ok (.if_icmp .ge 36, 3) := by decide +kernel
theorem dL_isSize_184 : decode cL_isSize 184 = .ok (.aload_n 0, 1) := by decide +kernel
theorem dL_isSize_185 : decode cL_isSize 185 = .ok (.iload_n 2, 1) := by decide +kernel
theorem dL_isSize_186 : decode cL_isSize 186 = .ok (.iload_n 3, 1) := by decide +kernel
theorem dL_isSize_187 : decode cL_isSize 187 = .ok (.iload 8, 2) := by decide +kernel
theorem dL_isSize_189 : decode cL_isSize 189 = .ok (.iload 11, 2) := by decide +kernel
theorem dL_isSize_191 : decode cL_isSize 191 = .ok (.iadd, 1) := by decide +kernel
theorem dL_isSize_192 : decode cL_isSize 192 = .ok (.invokevirtual 50, 3) := by decide +kernel
theorem dL_isSize_195 : decode cL_isSize 195 = .ok (.aload_n 0, 1) := by decide +kernel
theorem dL_isSize_196 : decode cL_isSize 196 = .ok (.iload_n 2, 1) := by decide +kernel
theorem dL_isSize_197 : decode cL_isSize 197 = .ok (.iconst 1, 1) := by decide +kernel
theorem dL_isSize_198 : decode cL_isSize 198 = .ok (.iadd, 1) := by decide +kernel
theorem dL_isSize_199 : decode cL_isSize 199 = .ok (.iload_n 3, 1) := by decide +kernel
theorem dL_isSize_200 : decode cL_isSize 200 = .ok (.iload 10, 2) := by decide +kernel
theorem dL_isSize_202 : decode cL_isSize 202 = .ok (.iload 11, 2) := by decide +kernel
theorem dL_isSize_204 : decode cL_isSize 204 = .ok (.iadd, 1) := by decide +kernel
theorem dL_isSize_205 : decode cL_isSize 205 = .ok (.invokevirtual 50, 3) := by decide +kernel
theorem dL_isSize_208 : decode cL_isSize 208 = .ok (.if_icmp .ne 9, 3) := by decide +kernel
theorem dL_isSize_211 : decode cL_isSize 211 = .ok (.iinc 11 1, 3) := by decide +kernel
theorem dL_isSize_214 : decode cL_isSize 214 = .ok (.goto (-50), 3) := by decide +kernel
theorem dL_isSize_217 : decode cL_isSize 217 = .ok (.iload 11, 2) := by decide +kernel
theorem dL_isSize_219 : decode cL_isSize 219 = .ok (.iload 9, 2) := by decide +kernel
theorem dL_isSize_221 : decode cL_isSize 221 = .ok (.if_icmp .le 8, 3) := by decide +kernel
theorem dL_isSize_224 : decode cL_isSize 224 = .ok (.iload 11, 2) := by decide +kernel
theorem dL_isSize_226 : decode cL_isSize 226 = .ok (.goto 5, 3) := by decide +kernel
theorem dL_isSize_229 : decode cL_isSize 229 = .ok (.iload 9, 2) := by decide +kernel
theorem dL_isSize_231 : decode cL_isSize 231 = .ok (.istore 9, 2) := by decide +kernel
theorem dL_isSize_233 : decode cL_isSize 233 = .ok (.iinc 10 1, 3) := by decide +kernel
theorem dL_isSize_236 : decode cL_isSize 236 = .ok (.goto (-82), 3) := by decide +kernel
theorem dL_isSize_239 : decode cL_isSize 239 = .ok (.iload 7, 2) := by decide +kernel
theorem dL_isSize_241 : decode cL_isSize 241 = .ok (.iload 9, 2) := by decide +kernel
theorem dL_isSize_243 : decode cL_isSize 243 = .ok (.iconst 2, 1) := by decide +kernel
theorem dL_isSize_244 : decode cL_isSize 244 = .ok (.if_icmp .le 7, 3) := by decide +kernel
theorem dL_isSize_247 : decode cL_isSize 247 = .ok (.iconst 2, 1) := by decide +kernel
theorem dL_isSize_248 : decode cL_isSize 248 = .ok (.goto 4, 3) := by decide +kernel
theorem dL_isSize_251 : decode cL_isSize 251 = .ok (.iconst 1, 1) := by decide +kernel
theorem dL_isSize_252 : decode cL_isSize 252 = .ok (.iadd, 1) := by decide +kernel
theorem dL_isSize_253 : decode cL_isSize 253 = .ok (.istore 7, 2) := by decide +kernel
theorem dL_isSize_255 : decode cL_isSize 255 = .ok (.iload 8, 2) := by decide +kernel
theorem dL_isSize_257 : decode cL_isSize 257 = .ok (.iload 9, 2) := by decide +kernel
theorem dL_isSize_259 : decode cL_isSize 259 = .ok (.iconst 2, 1) := by decide +kernel
theorem dL_isSize_260 : decode cL_isSize 260 = .ok (.if_icmp .le 8, 3) := by decide +kernel
theorem dL_isSize_263 : decode cL_isSize 263 = .ok (.iload 9, 2) := by decide +kernel
theorem dL_isSize_265 : decode cL_isSize 265 = .ok (.goto 4, 3) := by decide +kernel
theorem dL_isSize_268 : decode cL_isSize 268 = .ok (.iconst 1, 1) := by decide +kernel
theorem dL_isSize_269 : decode cL_isSize 269 = .ok (.iadd, 1) := by decide +kernel
theorem dL_isSize_270 : decode cL_isSize 270 = .ok (.istore 8, 2) := by decide +kernel
theorem dL_isSize_272 : decode cL_isSize 272 = .ok (.goto (-131), 3) := by decide +kernel
theorem dL_isSize_275 : decode cL_isSize 275 = .ok (.iload 4, 2) := by decide +kernel
theorem dL_isSize_277 : decode cL_isSize 277 = .ok (.iload 7, 2) := by decide +kernel
theorem dL_isSize_279 : decode cL_isSize 279 = .ok (.if_icmp .ne 7, 3) := by decide +kernel
theorem dL_isSize_282 : decode cL_isSize 282 = .ok (.iconst 1, 1) := by decide +kernel
theorem dL_isSize_283 : decode cL_isSize 283 = .ok (.goto 4, 3) := by decide +kernel
theorem dL_isSize_286 : decode cL_isSize 286 = .ok (.iconst 0, 1) := by decide +kernel
theorem dL_isSize_287 : decode cL_isSize 287 = .ok (.ireturn, 1) := by decide +kernel
set_option maxRecDepth 20000 in
theorem ggL_isSum_X1_oldest : GoodIn wsL_isSum wsX1_oldest := goodIn_r _ [5, 6, 63, 64, 65, 66, 67, 68] (by decide +kernel) (by decide +kernel)
set_option maxRecDepth 20000 in
theorem gL_isSum_X1_oldest : GoodIn wsL_isSum (wsV RL 73 RX1 yX1_oldest wsX1_oldest) := goodIn_app (goodIn_of _ (by decide +kernel)) ggL_isSum_X1_oldest
set_option maxRecDepth 20000 in
theorem ggL_isSum_X1_last : GoodIn wsL_isSum wsX1_last := goodIn_r _ [10, 11, 63, 64, 65, 66, 67, 68] (by decide +kernel) (by decide +kernel)
set_option maxRecDepth 20000 in
theorem gL_isSum_X1_last : GoodIn wsL_isSum (wsV RL 69 RX1 yX1_last wsX1_last) := goodIn_app (goodIn_of _ (by decide +kernel)) ggL_isSum_X1_last
set_option maxRecDepth 20000 in
theorem ggL_isSum_X1_sizeAt : GoodIn wsL_isSum wsX1_sizeAt := goodIn_ca (goodIn_r _ [15, 16, 17, 18, 4, 19, 20, 21, 6, 11, 22, 23, 24, 25, 26, 27, 28, 29, 30, 31, 32, 33, 34, 35, 36, 37, 38, 39, 40, 41, 42, 43, 44, 45, 46, 47, 48, 49, 50, 51, 52, 53, 54, 55, 56, 57, 58, 63, 64, 65, 66, 67, 68, 69, 70, 71] (by decide +kernel) (by decide +kernel)) (goodIn_sub (fun _ h => List.mem_cons_of_mem _ (List.mem_append_right _ h)) (by decide +kernel))
set_option maxRecDepth 20000 in
theorem gL_isSum_X1_sizeAt : GoodIn wsL_isSum (wsV RL 56 RX1 yX1_sizeAt wsX1_sizeAt) := goodIn_app (goodIn_of _ (by decide +kernel)) ggL_isSum_X1_sizeAt
set_option maxRecDepth 20000 in
theorem ggL_isSum_X1_size : GoodIn wsL_isSum wsX1_size := goodIn_r _ [62, 6, 11, 25, 26, 27, 4, 28, 29, 30, 31, 32, 33, 34, 35, 36, 37, 38, 39, 40, 41, 42, 43, 44, 45, 46, 47, 48, 49, 50, 51, 52, 53, 54, 55, 56, 57, 58, 63, 64, 65, 66, 67, 68, 69, 70, 71] (by decide +kernel) (by decide +kernel)
set_option maxRecDepth 20000 in
theorem gL_isSum_X1_size : GoodIn wsL_isSum (wsV RL 91 RX1 yX1_size wsX1_size) := goodIn_app (goodIn_of _ (by decide +kernel)) ggL_isSum_X1_size
theorem dL_isSum_0 : decode cL_isSum 0 = .ok (.iconst 0, 1) := by decide +kernel
theorem dL_isSum_1 : decode cL_isSum 1 = .ok (.istore_n 1, 1) := by decide +kernel
theorem dL_isSum_2 : decode cL_isSum 2 = .ok (.bipush 6, 2) := by decide +kernel
theorem dL_isSum_4 : decode cL_isSum 4 = .ok (.aload_n 0, 1) := by decide +kernel
theorem dL_isSum_5 : decode cL_isSum 5 = .ok (.invokevirtual 73, 3) := by decide +kernel
theorem dL_isSum_8 : decode cL_isSum 8 = .ok (.imul, 1) := by decide +kernel
theorem dL_isSum_9 : decode cL_isSum 9 = .ok (.istore_n 2, 1) := by decide +kernel
theorem dL_isSum_10 : decode cL_isSum 10 = .ok (.iload_n 2, 1) := by decide +kernel
theorem dL_isSum_11 : decode cL_isSum 11 = .ok (.bipush 6, 2) := by decide +kernel
theorem dL_isSum_13 : decode cL_isSum 13 = .ok (.aload_n 0, 1) := by decide +kernel
theorem dL_isSum_14 : decode cL_isSum 14 = .ok (.invokevirtual 69, 3) := by decide +kernel
theorem dL_isSum_17 : decode cL_isSum 17 = .ok (.imul, 1) := by decide +kernel
theorem dL_isSum_18 : decode cL_isSum 18 = .ok (.bipush 6, 2) := by decide +kernel
theorem dL_isSum_20 : decode cL_isSum 20 = .ok (.iadd, 1) := by decide +kernel
theorem dL_isSum_21 : decode cL_isSum 21 = .ok (.if_icmp .ge 24, 3) := by decide +kernel
theorem dL_isSum_24 : decode cL_isSum 24 = .ok (.iload_n 1, 1) := by decide +kernel
theorem dL_isSum_25 : decode cL_isSum 25 = .ok (.aload_n 0, 1) := by decide +kernel
theorem dL_isSum_26 : decode cL_isSum 26 = .ok (.iload_n 2, 1) := by decide +kernel
theorem dL_isSum_27 : decode cL_isSum 27 = .ok (.bipush 6, 2) := by decide +kernel
theorem dL_isSum_29 : decode cL_isSum 29 = .ok (.idiv, 1) := by decide +kernel
theorem dL_isSum_30 : decode cL_isSum 30 = .ok (.iload_n 2, 1) := by decide +kernel
theorem dL_isSum_31 : decode cL_isSum 31 = .ok (.bipush 6, 2) := by decide +kernel
theorem dL_isSum_33 : decode cL_isSum 33 = .ok (.irem, 1) := by decide +kernel
theorem dL_isSum_34 : decode cL_isSum 34 = .ok (.invokevirtual 56, 3) := by decide +kernel
theorem dL_isSum_37 : decode cL_isSum 37 = .ok (.iadd, 1) := by decide +kernel
theorem dL_isSum_38 : decode cL_isSum 38 = .ok (.istore_n 1, 1) := by decide +kernel
theorem dL_isSum_39 : decode cL_isSum 39 = .ok (.iinc 2 1, 3) := by decide +kernel
theorem dL_isSum_42 : decode cL_isSum 42 = .ok (.goto (-32), 3) := by decide +kernel
theorem dL_isSum_45 : decode cL_isSum 45 = .ok (.aload_n 0, 1) := by decide +kernel
theorem dL_isSum_46 : decode cL_isSum 46 = .ok (.invokevirtual 91, 3) := by decide +kernel
theorem dL_isSum_49 : decode cL_isSum 49 = .ok (.iload_n 1, 1) := by decide +kernel
theorem dL_isSum_50 : decode cL_isSum 50 = .ok (.if_icmp .ne 7, 3) := by decide +kernel
theorem dL_isSum_53 : decode cL_isSum 53 = .ok (.iconst 1, 1) := by decide +kernel
theorem dL_isSum_54 : decode cL_isSum 54 = .ok (.goto 4, 3) := by decide +kernel
theorem dL_isSum_57 : decode cL_isSum 57 = .ok (.iconst 0, 1) := by decide +kernel
theorem dL_isSum_58 : decode cL_isSum 58 = .ok (.ireturn, 1) := by decide +kernel
set_option maxRecDepth 20000 in
theorem ggL_isOnly_L_told : GoodIn wsL_isOnly wsL_told := goodIn_ca (goodIn_r _ [4, 5, 6, 7, 8, 9, 10, 11, 12, 13, 14, 15, 16, 17, 18, 19, 20, 21, 22, 23, 24, 25, 26, 27, 28, 29, 30, 31, 32, 33, 34, 35, 36, 37, 38, 39, 40, 41, 42, 43, 44, 45, 46, 47, 48, 49, 50, 51] (by decide +kernel) (by decide +kernel)) (goodIn_sub (fun _ h => List.mem_cons_of_mem _ (List.mem_append_right _ h)) (by decide +kernel))
set_option maxRecDepth 20000 in
theorem gL_isOnly_L_told : GoodIn wsL_isOnly (va_wsS RL 63 yL_told wsL_told) := goodIn_app (goodIn_of _ (by decide +kernel)) ggL_isOnly_L_told
theorem dL_isOnly_0 : decode cL_isOnly 0 = .ok (.iconst 1, 1) := by decide +kernel
theorem dL_isOnly_1 : decode cL_isOnly 1 = .ok (.istore_n 3, 1) := by decide +kernel
theorem dL_isOnly_2 : decode cL_isOnly 2 = .ok (.iconst 0, 1) := by decide +kernel
theorem dL_isOnly_3 : decode cL_isOnly 3 = .ok (.istore 4, 2) := by decide +kernel
theorem dL_isOnly_5 : decode cL_isOnly 5 = .ok (.iload 4, 2) := by decide +kernel
theorem dL_isOnly_7 : decode cL_isOnly 7 = .ok (.bipush 6, 2) := by decide +kernel
theorem dL_isOnly_9 : decode cL_isOnly 9 = .ok (.if_icmp .ge 40, 3) := by decide +kernel
theorem dL_isOnly_12 : decode cL_isOnly 12 = .ok (.iload_n 3, 1) := by decide +kernel
theorem dL_isOnly_13 : decode cL_isOnly 13 = .ok (.ifCond .eq 36, 3) := by decide +kernel
theorem dL_isOnly_16 : decode cL_isOnly 16 = .ok (.iload 4, 2) := by decide +kernel
theorem dL_isOnly_18 : decode cL_isOnly 18 = .ok (.iload_n 2, 1) := by decide +kernel
theorem dL_isOnly_19 : decode cL_isOnly 19 = .ok (.if_icmp .eq 18, 3) := by decide +kernel
theorem dL_isOnly_22 : decode cL_isOnly 22 = .ok (.aload_n 0, 1) := by decide +kernel
theorem dL_isOnly_23 : decode cL_isOnly 23 = .ok (.iconst (-1), 1) := by decide +kernel
theorem dL_isOnly_24 : decode cL_isOnly 24 = .ok (.iload 4, 2) := by decide +kernel
theorem dL_isOnly_26 : decode cL_isOnly 26 = .ok (.invokestatic 63, 3) := by decide +kernel
theorem dL_isOnly_29 : decode cL_isOnly 29 = .ok (.aload_n 1, 1) := by decide +kernel
theorem dL_isOnly_30 : decode cL_isOnly 30 = .ok (.iload 4, 2) := by decide +kernel
theorem dL_isOnly_32 : decode cL_isOnly 32 = .ok (.laload, 1) := by decide +kernel
theorem dL_isOnly_33 : decode cL_isOnly 33 = .ok (.lcmp, 1) := by decide +kernel
theorem dL_isOnly_34 : decode cL_isOnly 34 = .ok (.ifCond .ne 7, 3) := by decide +kernel
theorem dL_isOnly_37 : decode cL_isOnly 37 = .ok (.iconst 1, 1) := by decide +kernel
theorem dL_isOnly_38 : decode cL_isOnly 38 = .ok (.goto 4, 3) := by decide +kernel
theorem dL_isOnly_41 : decode cL_isOnly 41 = .ok (.iconst 0, 1) := by decide +kernel
theorem dL_isOnly_42 : decode cL_isOnly 42 = .ok (.istore_n 3, 1) := by decide +kernel
theorem dL_isOnly_43 : decode cL_isOnly 43 = .ok (.iinc 4 1, 3) := by decide +kernel
theorem dL_isOnly_46 : decode cL_isOnly 46 = .ok (.goto (-41), 3) := by decide +kernel
theorem dL_isOnly_49 : decode cL_isOnly 49 = .ok (.iload_n 3, 1) := by decide +kernel
theorem dL_isOnly_50 : decode cL_isOnly 50 = .ok (.ireturn, 1) := by decide +kernel
set_option maxRecDepth 20000 in
theorem ggL_all_X1_last : GoodIn wsL_all wsX1_last := goodIn_r _ [10, 11, 100, 101, 102, 103, 104, 105] (by decide +kernel) (by decide +kernel)
set_option maxRecDepth 20000 in
theorem gL_all_X1_last : GoodIn wsL_all (wsV RL 69 RX1 yX1_last wsX1_last) := goodIn_app (goodIn_of _ (by decide +kernel)) ggL_all_X1_last
set_option maxRecDepth 20000 in
theorem ggL_all_X1_oldest : GoodIn wsL_all wsX1_oldest := goodIn_r _ [15, 16, 100, 101, 102, 103, 104, 105] (by decide +kernel) (by decide +kernel)
set_option maxRecDepth 20000 in
theorem gL_all_X1_oldest : GoodIn wsL_all (wsV RL 73 RX1 yX1_oldest wsX1_oldest) := goodIn_app (goodIn_of _ (by decide +kernel)) ggL_all_X1_oldest
set_option maxRecDepth 20000 in
theorem ggL_all_X1_needs : GoodIn wsL_all wsX1_needs := goodIn_r _ [20, 21, 22, 23, 9, 24, 25, 26, 11, 27, 28, 29, 30, 31, 32, 33, 34, 35, 36, 37, 38, 39, 40, 41, 42, 100, 101, 102, 103, 104, 105, 106, 107, 108] (by decide +kernel) (by decide +kernel)
set_option maxRecDepth 20000 in
theorem gL_all_X1_needs : GoodIn wsL_all (wsV RL 80 RX1 yX1_needs wsX1_needs) := goodIn_app (goodIn_of _ (by decide +kernel)) ggL_all_X1_needs
set_option maxRecDepth 20000 in
theorem ggL_all_X1_size : GoodIn wsL_all wsX1_size := goodIn_r _ [46, 16, 11, 47, 48, 49, 9, 50, 26, 51, 52, 53, 27, 28, 29, 30, 31, 32, 33, 34, 35, 36, 37, 38, 39, 40, 41, 42, 54, 55, 56, 57, 58, 59, 60, 61, 62, 63, 100, 101, 102, 103, 104, 105, 106, 107, 108] (by decide +kernel) (by decide +kernel)
set_option maxRecDepth 20000 in
theorem gL_all_X1_size : GoodIn wsL_all (wsV RL 91 RX1 yX1_size wsX1_size) := goodIn_app (goodIn_of _ (by decide +kernel)) ggL_all_X1_size
set_option maxRecDepth 20000 in
theorem ggL_all_X1_isBroken : GoodIn wsL_all wsX1_isBroken := goodIn_r _ [67, 68, 100, 101, 102, 103, 104, 105] (by decide +kernel) (by decide +kernel)
set_option maxRecDepth 20000 in
theorem gL_all_X1_isBroken : GoodIn wsL_all (wsV RL 76 RX1 yX1_isBroken wsX1_isBroken) := goodIn_app (goodIn_of _ (by decide +kernel)) ggL_all_X1_isBroken
set_option maxRecDepth 20000 in
theorem ggL_all_L_told : GoodIn wsL_all wsL_told := goodIn_ca (goodIn_r _ [72, 73, 74, 75, 76, 77, 9, 78, 52, 79, 80, 81, 82, 25, 26, 83, 84, 85, 86, 87, 88, 16, 11, 89, 90, 91, 27, 28, 29, 92, 93, 94, 95, 51, 96, 97, 98, 99, 53, 106, 107, 108, 100, 101, 102, 103, 104, 105] (by decide +kernel) (by decide +kernel)) (goodIn_sub (fun _ h => List.mem_cons_of_mem _ (List.mem_append_right _ h)) (by decide +kernel))
set_option maxRecDepth 20000 in
theorem gL_all_L_told : GoodIn wsL_all (va_wsS RL 63 yL_told wsL_told) := goodIn_app (goodIn_of _ (by decide +kernel)) ggL_all_L_told
theorem dL_all_0 : decode cL_all 0 = .ok (.aload_n 0, 1) := by decide +kernel
theorem dL_all_1 : decode cL_all 1 = .ok (.invokevirtual 69, 3) := by decide +kernel
theorem dL_all_4 : decode cL_all 4 = .ok (.i2l, 1) := by decide +kernel
theorem dL_all_5 : decode cL_all 5 = .ok (.ldc2_w 94, 3) := by decide +kernel
theorem dL_all_8 : decode cL_all 8 = .ok (.aload_n 0, 1) := by decide +kernel
theorem dL_all_9 : decode cL_all 9 = .ok (.invokevirtual 73, 3) := by decide +kernel
theorem dL_all_12 : decode cL_all 12 = .ok (.i2l, 1) := by decide +kernel
theorem dL_all_13 : decode cL_all 13 = .ok (.lmul, 1) := by decide +kernel
theorem dL_all_14 : decode cL_all 14 = .ok (.ladd, 1) := by decide +kernel
theorem dL_all_15 : decode cL_all 15 = .ok (.ldc2_w 96, 3) := by decide +kernel
theorem dL_all_18 : decode cL_all 18 = .ok (.aload_n 0, 1) := by decide +kernel
theorem dL_all_19 : decode cL_all 19 = .ok (.invokevirtual 80, 3) := by decide +kernel
theorem dL_all_22 : decode cL_all 22 = .ok (.i2l, 1) := by decide +kernel
theorem dL_all_23 : decode cL_all 23 = .ok (.lmul, 1) := by decide +kernel
theorem dL_all_24 : decode cL_all 24 = .ok (.ladd, 1) := by decide +kernel
theorem dL_all_25 : decode cL_all 25 = .ok (.ldc2_w 98, 3) := by decide +kernel
theorem dL_all_28 : decode cL_all 28 = .ok (.aload_n 0, 1) := by decide +kernel
theorem dL_all_29 : decode cL_all 29 = .ok (.invokevirtual 91, 3) := by decide +kernel
theorem dL_all_32 : decode cL_all 32 = .ok (.i2l, 1) := by decide +kernel
theorem dL_all_33 : decode cL_all 33 = .ok (.lmul, 1) := by decide +kernel
theorem dL_all_34 : decode cL_all 34 = .ok (.ladd, 1) := by decide +kernel
theorem dL_all_35 : decode cL_all 35 = .ok (.aload_n 0, 1) := by decide +kernel
theorem dL_all_36 : decode cL_all 36 = .ok (.invokevirtual 76, 3) := by decide +kernel
theorem dL_all_39 : decode cL_all 39 = .ok (.ifCond .eq 9, 3) := by decide +kernel
theorem dL_all_42 : decode cL_all 42 = .ok (.ldc2_w 100, 3) := by decide +kernel
theorem dL_all_45 : decode cL_all 45 = .ok (.goto 4, 3) := by decide +kernel
theorem dL_all_48 : decode cL_all 48 = .ok (.lconst 0, 1) := by decide +kernel
theorem dL_all_49 : decode cL_all 49 = .ok (.ladd, 1) := by decide +kernel
theorem dL_all_50 : decode cL_all 50 = .ok (.lstore_n 1, 1) := by decide +kernel
theorem dL_all_51 : decode cL_all 51 = .ok (.iconst 0, 1) := by decide +kernel
theorem dL_all_52 : decode cL_all 52 = .ok (.istore_n 3, 1) := by decide +kernel
theorem dL_all_53 : decode cL_all 53 = .ok (.iload_n 3, 1) := by decide +kernel
theorem dL_all_54 : decode cL_all 54 = .ok (.bipush 6, 2) := by decide +kernel
theorem dL_all_56 : decode cL_all 56 = .ok (.if_icmp .ge 22, 3) := by decide +kernel
theorem dL_all_59 : decode cL_all 59 = .ok (.ldc2_w 102, 3) := by decide +kernel
theorem dL_all_62 : decode cL_all 62 = .ok (.lload_n 1, 1) := by decide +kernel
theorem dL_all_63 : decode cL_all 63 = .ok (.lmul, 1) := by decide +kernel
theorem dL_all_64 : decode cL_all 64 = .ok (.aload_n 0, 1) := by decide +kernel
theorem dL_all_65 : decode cL_all 65 = .ok (.iconst (-1), 1) := by decide +kernel
theorem dL_all_66 : decode cL_all 66 = .ok (.iload_n 3, 1) := by decide +kernel
theorem dL_all_67 : decode cL_all 67 = .ok (.invokestatic 63, 3) := by decide +kernel
theorem dL_all_70 : decode cL_all 70 = .ok (.ladd, 1) := by decide +kernel
theorem dL_all_71 : decode cL_all 71 = .ok (.lstore_n 1, 1) := by decide +kernel
theorem dL_all_72 : decode cL_all 72 = .ok (.iinc 3 1, 3) := by decide +kernel
theorem dL_all_75 : decode cL_all 75 = .ok (.goto (-22), 3) := by decide +kernel
theorem dL_all_78 : decode cL_all 78 = .ok (.lload_n 1, 1) := by decide +kernel
theorem dL_all_79 : decode cL_all 79 = .ok (.lreturn, 1) := by decide +kernel
set_option maxRecDepth 20000 in
theorem ggL_isRefused_L_all : GoodIn wsL_isRefused wsL_all := goodIn_ca (goodIn_r _ [4, 5, 6, 7, 8, 9, 10, 11, 12, 13, 14, 15, 16, 17, 18, 19, 20, 21, 22, 23, 24, 25, 26, 27, 28, 29, 30, 31, 32, 33, 34, 35, 36, 37, 38, 39, 40, 41, 42, 43, 44, 45, 46, 47, 48, 49, 50, 51, 52, 53, 54, 55, 56, 57, 58, 59, 60, 61, 62, 63, 64, 65, 66, 67, 68, 69, 70, 71, 72, 73, 74, 3, 75, 76, 77, 78, 79, 80, 81, 82, 83, 84, 85, 86, 87, 88, 89, 90, 91, 92, 93, 94, 95, 96, 97, 98, 99, 100, 101, 102, 183, 184, 185, 186, 187, 188, 189, 190, 191] (by decide +kernel) (by decide +kernel)) (goodIn_sub (fun _ h => List.mem_cons_of_mem _ (List.mem_append_left _ (List.mem_append_left _ (List.mem_append_right _ h)))) (by decide +kernel))
set_option maxRecDepth 20000 in
theorem gL_isRefused_L_all : GoodIn wsL_isRefused (va_wsS RL 104 yL_all wsL_all) := goodIn_app (goodIn_of _ (by decide +kernel)) ggL_isRefused_L_all
set_option maxRecDepth 20000 in
theorem ggL_isRefused_L_act : GoodIn wsL_isRefused wsL_act := goodIn_ca (goodIn_ca (goodIn_ca (goodIn_r _ [105, 106, 107, 108, 109, 110, 111, 13, 112, 113, 114, 37, 115, 92, 93, 94, 90, 91, 116, 117, 118, 119, 120, 121, 39, 40, 41, 122, 123, 124, 125, 29, 56, 126, 127, 128, 129, 130, 131, 132, 133, 134, 135, 136, 137, 138, 139, 140, 141, 57, 55, 142, 143, 144, 145, 146, 147, 148, 149, 150, 151, 152, 153, 154, 155, 156, 157, 158, 159, 15, 72, 160, 30, 161, 162, 163, 164, 25, 26, 27, 28, 31, 32, 33, 34, 35, 36, 38, 42, 43, 44, 45, 46, 165, 166, 167, 168, 20, 169, 170, 171, 172, 86, 87, 88, 89, 189, 190, 191, 183, 184, 185, 186, 187, 188] (by decide +kernel) (by decide +kernel)) (goodIn_sub (fun _ h => List.mem_cons_of_mem _ (List.mem_append_left _ (List.mem_append_left _ (List.mem_append_right _ h)))) (by decide +kernel))) (goodIn_sub (fun _ h => List.mem_cons_of_mem _ (List.mem_append_left _ (List.mem_append_right _ h))) (by decide +kernel))) (goodIn_sub (fun _ h => List.mem_cons_of_mem _ (List.mem_append_right _ h)) (by decide +kernel))
set_option maxRecDepth 20000 in
theorem gL_isRefused_L_act : GoodIn wsL_isRefused (va_wsS RL 108 yL_act wsL_act) := goodIn_app (goodIn_of _ (by decide +kernel)) ggL_isRefused_L_act
set_option maxRecDepth 20000 in
theorem ggL_isRefused_L_of : GoodIn wsL_isRefused wsL_of := goodIn_ca (goodIn_r _ [175, 106, 78, 79, 80, 13, 81, 56, 82, 83, 84, 85, 29, 30, 86, 87, 88, 89, 90, 91, 20, 15, 92, 93, 94, 31, 32, 33, 99, 100, 101, 102, 57, 95, 96, 97, 98, 55, 176, 177, 178, 179, 51, 52, 53, 54, 34, 35, 36, 37, 38, 39, 40, 41, 42, 43, 44, 45, 46, 58, 59, 60, 61, 62, 63, 64, 65, 66, 67, 189, 190, 191, 183, 184, 185, 186, 187, 188] (by decide +kernel) (by decide +kernel)) (goodIn_sub (fun _ h => List.mem_cons_of_mem _ (List.mem_append_left _ (List.mem_append_left _ (List.mem_append_right _ h)))) (by decide +kernel))
set_option maxRecDepth 20000 in
theorem gL_isRefused_L_of : GoodIn wsL_isRefused (va_wsS RL 112 yL_of wsL_of) := goodIn_app (goodIn_of _ (by decide +kernel)) ggL_isRefused_L_of
set_option maxRecDepth 20000 in
theorem ggL_isRefused_X1_kindAt : GoodIn wsL_isRefused wsX1_kindAt := goodIn_ca (goodIn_r _ [81, 56, 82, 83, 84, 13, 85, 29, 30, 86, 87, 88, 89, 90, 91, 20, 15, 92, 93, 94, 31, 32, 33, 189, 190, 191, 183, 184, 185, 186, 187, 188] (by decide +kernel) (by decide +kernel)) (goodIn_sub (fun _ h => List.mem_cons_of_mem _ (List.mem_append_left _ (List.mem_append_left _ (List.mem_append_right _ h)))) (by decide +kernel))
set_option maxRecDepth 20000 in
theorem gL_isRefused_X1_kindAt : GoodIn wsL_isRefused (wsV RL 47 RX1 yX1_kindAt wsX1_kindAt) := goodIn_app (goodIn_of _ (by decide +kernel)) ggL_isRefused_X1_kindAt
set_option maxRecDepth 20000 in
theorem ggL_isRefused_L_length : GoodIn wsL_isRefused wsL_length := goodIn_ca (goodIn_r _ [182, 99, 100, 101, 13, 102, 90, 91, 57, 82, 83, 84, 85, 29, 30, 86, 87, 88, 89, 20, 15, 92, 93, 94, 31, 32, 33, 189, 190, 191, 183, 184, 185, 186, 187, 188] (by decide +kernel) (by decide +kernel)) (goodIn_sub (fun _ h => List.mem_cons_of_mem _ (List.mem_append_left _ (List.mem_append_left _ (List.mem_append_right _ h)))) (by decide +kernel))
set_option maxRecDepth 20000 in
theorem gL_isRefused_L_length : GoodIn wsL_isRefused (va_wsS RL 83 yL_length wsL_length) := goodIn_app (goodIn_of _ (by decide +kernel)) ggL_isRefused_L_length
theorem dL_isRefused_0 : decode cL_isRefused 0 = .ok (.iload_n 2, 1) := by decide +kernel
theorem dL_isRefused_1 : decode cL_isRefused 1 = .ok (.iconst 2, 1) := by decide +kernel
theorem dL_isRefused_2 : decode cL_isRefused 2 = .ok (.irem, 1) := by decide +kernel
theorem dL_isRefused_3 : decode cL_isRefused 3 = .ok (.ifCond .ne 7, 3) := by decide +kernel
theorem dL_isRefused_6 : decode cL_isRefused 6 = .ok (.iconst 1, 1) := by decide +kernel
theorem dL_isRefused_7 : decode cL_isRefused 7 = .ok (.goto 4, 3) := by decide +kernel
theorem dL_isRefused_10 : decode cL_isRefused 10 = .ok (.iconst 0, 1) := by decide +kernel
theorem dL_isRefused_11 : decode cL_isRefused 11 = .ok (.istore_n 3, 1) := by decide +kernel
theorem dL_isRefused_12 : decode cL_isRefused 12 = .ok (.iload_n 3, 1) := by decide +kernel
theorem dL_isRefused_13 : decode cL_isRefused 13 = .ok (.ifCond .eq 12, 3) := by decide +kernel
theorem dL_isRefused_16 : decode cL_isRefused 16 = .ok (.iconst (-1), 1) := by decide +kernel
theorem dL_isRefused_17 : decode cL_isRefused 17 = .ok (.iload_n 2, 1) := by decide +kernel
theorem dL_isRefused_18 : decode cL_isRefused 18 = .ok (.bipush 30, 2) := by decide +kernel
theorem dL_isRefused_20 : decode cL_isRefused 20 = .ok (.irem, 1) := by decide +kernel
theorem dL_isRefused_21 : decode cL_isRefused 21 = .ok (.isub, 1) := by decide +kernel
theorem dL_isRefused_22 : decode cL_isRefused 22 = .ok (.goto 10, 3) := by decide +kernel
theorem dL_isRefused_25 : decode cL_isRefused 25 = .ok (.bipush 6, 2) := by decide +kernel
theorem dL_isRefused_27 : decode cL_isRefused 27 = .ok (.iload_n 2, 1) := by decide +kernel
theorem dL_isRefused_28 : decode cL_isRefused 28 = .ok (.bipush 30, 2) := by decide +kernel
theorem dL_isRefused_30 : decode cL_isRefused 30 = .ok (.irem, 1) := by decide +kernel
theorem dL_isRefused_31 : decode cL_isRefused 31 = .ok (.iadd, 1) := by decide +kernel
theorem dL_isRefused_32 : decode cL_isRefused 32 = .ok (.istore 4, 2) := by decide +kernel
theorem dL_isRefused_34 : decode cL_isRefused 34 = .ok (.iload_n 3, 1) := by decide +kernel
theorem dL_isRefused_35 : decode cL_isRefused 35 = .ok (.ifCond .eq 13, 3) := by decide +kernel
theorem dL_isRefused_38 : decode cL_isRefused 38 = .ok (.bipush (-2), 2) := by decide +kernel
theorem dL_isRefused_40 : decode cL_isRefused 40 = .ok (.iload_n 2, 1) := by decide +kernel
theorem dL_isRefused_41 : decode cL_isRefused 41 = .ok (.bipush 30, 2) := by decide +kernel
theorem dL_isRefused_43 : decode cL_isRefused 43 = .ok (.irem, 1) := by decide +kernel
theorem dL_isRefused_44 : decode cL_isRefused 44 = .ok (.isub, 1) := by decide +kernel
theorem dL_isRefused_45 : decode cL_isRefused 45 = .ok (.goto 13, 3) := by decide +kernel
theorem dL_isRefused_48 : decode cL_isRefused 48 = .ok (.aload_n 1, 1) := by decide +kernel
theorem dL_isRefused_49 : decode cL_isRefused 49 = .ok (.iconst 0, 1) := by decide +kernel
theorem dL_isRefused_50 : decode cL_isRefused 50 = .ok (.iaload, 1) := by decide +kernel
theorem dL_isRefused_51 : decode cL_isRefused 51 = .ok (.iconst 1, 1) := by decide +kernel
theorem dL_isRefused_52 : decode cL_isRefused 52 = .ok (.iadd, 1) := by decide +kernel
theorem dL_isRefused_53 : decode cL_isRefused 53 = .ok (.iload_n 2, 1) := by decide +kernel
theorem dL_isRefused_54 : decode cL_isRefused 54 = .ok (.bipush 30, 2) := by decide +kernel
theorem dL_isRefused_56 : decode cL_isRefused 56 = .ok (.irem, 1) := by decide +kernel
theorem dL_isRefused_57 : decode cL_isRefused 57 = .ok (.iadd, 1) := by decide +kernel
theorem dL_isRefused_58 : decode cL_isRefused 58 = .ok (.istore 5, 2) := by decide +kernel
theorem dL_isRefused_60 : decode cL_isRefused 60 = .ok (.aload_n 0, 1) := by decide +kernel
theorem dL_isRefused_61 : decode cL_isRefused 61 = .ok (.invokestatic 104, 3) := by decide +kernel
theorem dL_isRefused_64 : decode cL_isRefused 64 = .ok (.lstore 6, 2) := by decide +kernel
theorem dL_isRefused_66 : decode cL_isRefused 66 = .ok (.aload_n 0, 1) := by decide +kernel
theorem dL_isRefused_67 : decode cL_isRefused 67 = .ok (.iconst 0, 1) := by decide +kernel
theorem dL_isRefused_68 : decode cL_isRefused 68 = .ok (.iload 4, 2) := by decide +kernel
theorem dL_isRefused_70 : decode cL_isRefused 70 = .ok (.iconst 0, 1) := by decide +kernel
theorem dL_isRefused_71 : decode cL_isRefused 71 = .ok (.iconst 0, 1) := by decide +kernel
theorem dL_isRefused_72 : decode cL_isRefused 72 = .ok (.invokestatic 108, 3) := by decide +kernel
theorem dL_isRefused_75 : decode cL_isRefused 75 = .ok (.sipush (-1161), 3) := by decide +kernel
theorem dL_isRefused_78 : decode cL_isRefused 78 = .ok (.if_icmp .ne 456, 3) := by decide +kernel
theorem dL_isRefused_81 : decode cL_isRefused 81 = .ok (.aload_n 0, 1) := by decide +kernel
theorem dL_isRefused_82 : decode cL_isRefused 82 = .ok (.iconst 1, 1) := by decide +kernel
theorem dL_isRefused_83 : decode cL_isRefused 83 = .ok (.iload 4, 2) := by decide +kernel
theorem dL_isRefused_85 : decode cL_isRefused 85 = .ok (.iconst 0, 1) := by decide +kernel
theorem dL_isRefused_86 : decode cL_isRefused 86 = .ok (.iconst 0, 1) := by decide +kernel
theorem dL_isRefused_87 : decode cL_isRefused 87 = .ok (.invokestatic 108, 3) := by decide +kernel
theorem dL_isRefused_90 : decode cL_isRefused 90 = .ok (.sipush (-1161), 3) := by decide +kernel
theorem dL_isRefused_93 : decode cL_isRefused 93 = .ok (.if_icmp .ne 441, 3) := by decide +kernel
theorem dL_isRefused_96 : decode cL_isRefused 96 = .ok (.aload_n 0, 1) := by decide +kernel
theorem dL_isRefused_97 : decode cL_isRefused 97 = .ok (.iconst 1, 1) := by decide +kernel
theorem dL_isRefused_98 : decode cL_isRefused 98 = .ok (.iconst 0, 1) := by decide +kernel
theorem dL_isRefused_99 : decode cL_isRefused 99 = .ok (.iload 4, 2) := by decide +kernel
theorem dL_isRefused_101 : decode cL_isRefused 101 = .ok (.iconst 0, 1) := by decide +kernel
theorem dL_isRefused_102 : decode cL_isRefused 102 = .ok (.invokestatic 108, 3) := by decide +kernel
theorem dL_isRefused_105 : decode cL_isRefused 105 = .ok (.sipush (-1161), 3) := by decide +kernel
theorem dL_isRefused_108 : decode cL_isRefused 108 = .ok (.if_icmp .ne 426, 3) := by decide +kernel
theorem dL_isRefused_111 : decode cL_isRefused 111 = .ok (.aload_n 0, 1) := by decide +kernel
theorem dL_isRefused_112 : decode cL_isRefused 112 = .ok (.iconst 2, 1) := by decide +kernel
theorem dL_isRefused_113 : decode cL_isRefused 113 = .ok (.iload 4, 2) := by decide +kernel
theorem dL_isRefused_115 : decode cL_isRefused 115 = .ok (.iconst 0, 1) := by decide +kernel
theorem dL_isRefused_116 : decode cL_isRefused 116 = .ok (.iconst 0, 1) := by decide +kernel
theorem dL_isRefused_117 : decode cL_isRefused 117 = .ok (.invokestatic 108, 3) := by decide +kernel
theorem dL_isRefused_120 : decode cL_isRefused 120 = .ok (.sipush (-1161), 3) := by decide +kernel
theorem dL_isRefused_123 : decode cL_isRefused 123 = .ok (.if_icmp .ne 411, 3) := by decide +kernel
theorem dL_isRefused_126 : decode cL_isRefused 126 = .ok (.aload_n 0, 1) := by decide +kernel
theorem dL_isRefused_127 : decode cL_isRefused 127 = .ok (.iconst 3, 1) := by decide +kernel
theorem dL_isRefused_128 : decode cL_isRefused 128 = .ok (.iload 4, 2) := by decide +kernel
theorem dL_isRefused_130 : decode cL_isRefused 130 = .ok (.iconst (-1), 1) := by decide +kernel
theorem dL_isRefused_131 : decode cL_isRefused 131 = .ok (.iconst (-1), 1) := by decide +kernel
theorem dL_isRefused_132 : decode cL_isRefused 132 = .ok (.invokestatic 108, 3) := by decide +kernel
theorem dL_isRefused_135 : decode cL_isRefused 135 = .ok (.sipush (-1161), 3) := by decide +kernel
theorem dL_isRefused_138 : decode cL_isRefused 138 = .ok (.if_icmp .ne 396, 3) := by decide +kernel
theorem dL_isRefused_141 : decode cL_isRefused 141 = .ok (.aload_n 0, 1) := by decide +kernel
theorem dL_isRefused_142 : decode cL_isRefused 142 = .ok (.iconst 4, 1) := by decide +kernel
theorem dL_isRefused_143 : decode cL_isRefused 143 = .ok (.iload 4, 2) := by decide +kernel
theorem dL_isRefused_145 : decode cL_isRefused 145 = .ok (.iconst (-1), 1) := by decide +kernel
theorem dL_isRefused_146 : decode cL_isRefused 146 = .ok (.iconst 0, 1) := by decide +kernel
theorem dL_isRefused_147 : decode cL_isRefused 147 = .ok (.invokestatic 108, 3) := by decide +kernel
theorem dL_isRefused_150 : decode cL_isRefused 150 = .ok (.sipush (-1161), 3) := by decide +kernel
theorem dL_isRefused_153 : decode cL_isRefused 153 = .ok (.if_icmp .ne 381, 3) := by decide +kernel
theorem dL_isRefused_156 : decode cL_isRefused 156 = .ok (.aload_n 0, 1) := by decide +kernel
theorem dL_isRefused_157 : decode cL_isRefused 157 = .ok (.iconst 5, 1) := by decide +kernel
theorem dL_isRefused_158 : decode cL_isRefused 158 = .ok (.iload 4, 2) := by decide +kernel
theorem dL_isRefused_160 : decode cL_isRefused 160 = .ok (.iconst (-1), 1) := by decide +kernel
theorem dL_isRefused_161 : decode cL_isRefused 161 = .ok (.iconst 0, 1) := by decide +kernel
theorem dL_isRefused_162 : decode cL_isRefused 162 = .ok (.invokestatic 108, 3) := by decide +kernel
theorem dL_isRefused_165 : decode cL_isRefused 165 = .ok (.sipush (-1161), 3) := by decide +kernel
theorem dL_isRefused_168 : decode cL_isRefused 168 = .ok (.if_icmp .ne 366, 3) := by decide +kernel
theorem dL_isRefused_171 : decode cL_isRefused 171 = .ok (.aload_n 0, 1) := by decide +kernel
theorem dL_isRefused_172 : decode cL_isRefused 172 = .ok (.bipush 6, 2) := by decide +kernel
theorem dL_isRefused_174 : decode cL_isRefused 174 = .ok (.iload_n 3, 1) := by decide +kernel
theorem dL_isRefused_175 : decode cL_isRefused 175 = .ok (.ifCond .eq 12, 3) := by decide +kernel
theorem dL_isRefused_178 : decode cL_isRefused 178 = .ok (.iconst (-1), 1) := by decide +kernel
theorem dL_isRefused_179 : decode cL_isRefused 179 = .ok (.iload_n 2, 1) := by decide +kernel
theorem dL_isRefused_180 : decode cL_isRefused 180 = .ok (.bipush 30, 2) := by decide +kernel
theorem dL_isRefused_182 : decode cL_isRefused 182 = .ok (.irem, 1) := by decide +kernel
theorem dL_isRefused_183 : decode cL_isRefused 183 = .ok (.isub, 1) := by decide +kernel
theorem dL_isRefused_184 : decode cL_isRefused 184 = .ok (.goto 10, 3) := by decide +kernel
theorem dL_isRefused_187 : decode cL_isRefused 187 = .ok (.bipush 7, 2) := by decide +kernel
theorem dL_isRefused_189 : decode cL_isRefused 189 = .ok (.iload_n 2, 1) := by decide +kernel
theorem dL_isRefused_190 : decode cL_isRefused 190 = .ok (.bipush 30, 2) := by decide +kernel
theorem dL_isRefused_192 : decode cL_isRefused 192 = .ok (.irem, 1) := by decide +kernel
theorem dL_isRefused_193 : decode cL_isRefused 193 = .ok (.iadd, 1) := by decide +kernel
theorem dL_isRefused_194 : decode cL_isRefused 194 = .ok (.iconst 0, 1) := by decide +kernel
theorem dL_isRefused_195 : decode cL_isRefused 195 = .ok (.iconst 0, 1) := by decide +kernel
theorem dL_isRefused_196 : decode cL_isRefused 196 = .ok (.invokestatic 108, 3) := by decide +kernel
theorem dL_isRefused_199 : decode cL_isRefused 199 = .ok (.sipush (-1162), 3) := by decide +kernel
theorem dL_isRefused_202 : decode cL_isRefused 202 = .ok (.if_icmp .ne 332, 3) := by decide +kernel
theorem dL_isRefused_205 : decode cL_isRefused 205 = .ok (.aload_n 0, 1) := by decide +kernel
theorem dL_isRefused_206 : decode cL_isRefused 206 = .ok (.bipush 7, 2) := by decide +kernel
theorem dL_isRefused_208 : decode cL_isRefused 208 = .ok (.iload_n 3, 1) := by decide +kernel
theorem dL_isRefused_209 : decode cL_isRefused 209 = .ok (.ifCond .eq 12, 3) := by decide +kernel
theorem dL_isRefused_212 : decode cL_isRefused 212 = .ok (.iconst 0, 1) := by decide +kernel
theorem dL_isRefused_213 : decode cL_isRefused 213 = .ok (.iload_n 2, 1) := by decide +kernel
theorem dL_isRefused_214 : decode cL_isRefused 214 = .ok (.bipush 30, 2) := by decide +kernel
theorem dL_isRefused_216 : decode cL_isRefused 216 = .ok (.irem, 1) := by decide +kernel
theorem dL_isRefused_217 : decode cL_isRefused 217 = .ok (.isub, 1) := by decide +kernel
theorem dL_isRefused_218 : decode cL_isRefused 218 = .ok (.goto 10, 3) := by decide +kernel
theorem dL_isRefused_221 : decode cL_isRefused 221 = .ok (.bipush 41, 2) := by decide +kernel
theorem dL_isRefused_223 : decode cL_isRefused 223 = .ok (.iload_n 2, 1) := by decide +kernel
theorem dL_isRefused_224 : decode cL_isRefused 224 = .ok (.bipush 30, 2) := by decide +kernel
theorem dL_isRefused_226 : decode cL_isRefused 226 = .ok (.irem, 1) := by decide +kernel
theorem dL_isRefused_227 : decode cL_isRefused 227 = .ok (.iadd, 1) := by decide +kernel
theorem dL_isRefused_228 : decode cL_isRefused 228 = .ok (.iconst 0, 1) := by decide +kernel
theorem dL_isRefused_229 : decode cL_isRefused 229 = .ok (.iconst 0, 1) := by decide +kernel
theorem dL_isRefused_230 : decode cL_isRefused 230 = .ok (.invokestatic 108, 3) := by decide +kernel
theorem dL_isRefused_233 : decode cL_isRefused 233 = .ok (.sipush (-1162), 3) := by decide +kernel
theorem dL_isRefused_236 : decode cL_isRefused 236 = .ok (.if_icmp .ne 298, 3) := by decide +kernel
theorem dL_isRefused_239 : decode cL_isRefused 239 = .ok (.aload_n 0, 1) := by decide +kernel
theorem dL_isRefused_240 : decode cL_isRefused 240 = .ok (.bipush 7, 2) := by decide +kernel
theorem dL_isRefused_242 : decode cL_isRefused 242 = .ok (.aload_n 1, 1) := by decide +kernel
theorem dL_isRefused_243 : decode cL_isRefused 243 = .ok (.iconst 0, 1) := by decide +kernel
theorem dL_isRefused_244 : decode cL_isRefused 244 = .ok (.iaload, 1) := by decide +kernel
theorem dL_isRefused_245 : decode cL_isRefused 245 = .ok (.aload_n 1, 1) := by decide +kernel
theorem dL_isRefused_246 : decode cL_isRefused 246 = .ok (.iconst 1, 1) := by decide +kernel
theorem dL_isRefused_247 : decode cL_isRefused 247 = .ok (.iaload, 1) := by decide +kernel
theorem dL_isRefused_248 : decode cL_isRefused 248 = .ok (.isub, 1) := by decide +kernel
theorem dL_isRefused_249 : decode cL_isRefused 249 = .ok (.iconst 1, 1) := by decide +kernel
theorem dL_isRefused_250 : decode cL_isRefused 250 = .ok (.iadd, 1) := by decide +kernel
theorem dL_isRefused_251 : decode cL_isRefused 251 = .ok (.iload_n 2, 1) := by decide +kernel
theorem dL_isRefused_252 : decode cL_isRefused 252 = .ok (.bipush 20, 2) := by decide +kernel
theorem dL_isRefused_254 : decode cL_isRefused 254 = .ok (.irem, 1) := by decide +kernel
theorem dL_isRefused_255 : decode cL_isRefused 255 = .ok (.iadd, 1) := by decide +kernel
theorem dL_isRefused_256 : decode cL_isRefused 256 = .ok (.iconst 0, 1) := by decide +kernel
theorem dL_isRefused_257 : decode cL_isRefused 257 = .ok (.iconst 0, 1) := by decide +kernel
theorem dL_isRefused_258 : decode cL_isRefused 258 = .ok (.invokestatic 108, 3) := by decide +kernel
theorem dL_isRefused_261 : decode cL_isRefused 261 = .ok (.sipush (-1163), 3) := by decide +kernel
theorem dL_isRefused_264 : decode cL_isRefused 264 = .ok (.if_icmp .ne 270, 3) := by decide +kernel
theorem dL_isRefused_267 : decode cL_isRefused 267 = .ok (.aload_n 0, 1) := by decide +kernel
theorem dL_isRefused_268 : decode cL_isRefused 268 = .ok (.bipush 8, 2) := by decide +kernel
theorem dL_isRefused_270 : decode cL_isRefused 270 = .ok (.iload 5, 2) := by decide +kernel
theorem dL_isRefused_272 : decode cL_isRefused 272 = .ok (.iconst 0, 1) := by decide +kernel
theorem dL_isRefused_273 : decode cL_isRefused 273 = .ok (.iconst 0, 1) := by decide +kernel
theorem dL_isRefused_274 : decode cL_isRefused 274 = .ok (.invokestatic 108, 3) := by decide +kernel
theorem dL_isRefused_277 : decode cL_isRefused 277 = .ok (.sipush (-1161), 3) := by decide +kernel
theorem dL_isRefused_280 : decode cL_isRefused 280 = .ok (.if_icmp .ne 254, 3) := by decide +kernel
theorem dL_isRefused_283 : decode cL_isRefused 283 = .ok (.aload_n 0, 1) := by decide +kernel
theorem dL_isRefused_284 : decode cL_isRefused 284 = .ok (.bipush 8, 2) := by decide +kernel
theorem dL_isRefused_286 : decode cL_isRefused 286 = .ok (.iconst (-1), 1) := by decide +kernel
theorem dL_isRefused_287 : decode cL_isRefused 287 = .ok (.iconst 0, 1) := by decide +kernel
theorem dL_isRefused_288 : decode cL_isRefused 288 = .ok (.iconst 0, 1) := by decide +kernel
theorem dL_isRefused_289 : decode cL_isRefused 289 = .ok (.invokestatic 108, 3) := by decide +kernel
theorem dL_isRefused_292 : decode cL_isRefused 292 = .ok (.sipush (-1161), 3) := by decide +kernel
theorem dL_isRefused_295 : decode cL_isRefused 295 = .ok (.if_icmp .ne 239, 3) := by decide +kernel
theorem dL_isRefused_298 : decode cL_isRefused 298 = .ok (.aload_n 1, 1) := by decide +kernel
theorem dL_isRefused_299 : decode cL_isRefused 299 = .ok (.iconst 1, 1) := by decide +kernel
theorem dL_isRefused_300 : decode cL_isRefused 300 = .ok (.iaload, 1) := by decide +kernel
theorem dL_isRefused_301 : decode cL_isRefused 301 = .ok (.ifCond .eq 58, 3) := by decide +kernel
theorem dL_isRefused_304 : decode cL_isRefused 304 = .ok (.aload_n 0, 1) := by decide +kernel
theorem dL_isRefused_305 : decode cL_isRefused 305 = .ok (.bipush 8, 2) := by decide +kernel
theorem dL_isRefused_307 : decode cL_isRefused 307 = .ok (.aload_n 1, 1) := by decide +kernel
theorem dL_isRefused_308 : decode cL_isRefused 308 = .ok (.iconst 1, 1) := by decide +kernel
theorem dL_isRefused_309 : decode cL_isRefused 309 = .ok (.iaload, 1) := by decide +kernel
theorem dL_isRefused_310 : decode cL_isRefused 310 = .ok (.iconst 1, 1) := by decide +kernel
theorem dL_isRefused_311 : decode cL_isRefused 311 = .ok (.isub, 1) := by decide +kernel
theorem dL_isRefused_312 : decode cL_isRefused 312 = .ok (.iconst 0, 1) := by decide +kernel
theorem dL_isRefused_313 : decode cL_isRefused 313 = .ok (.iconst 0, 1) := by decide +kernel
theorem dL_isRefused_314 : decode cL_isRefused 314 = .ok (.invokestatic 108, 3) := by decide +kernel
theorem dL_isRefused_317 : decode cL_isRefused 317 = .ok (.sipush (-1161), 3) := by decide +kernel
theorem dL_isRefused_320 : decode cL_isRefused 320 = .ok (.if_icmp .ne 214, 3) := by decide +kernel
theorem dL_isRefused_323 : decode cL_isRefused 323 = .ok (.aload_n 0, 1) := by decide +kernel
theorem dL_isRefused_324 : decode cL_isRefused 324 = .ok (.iconst 0, 1) := by decide +kernel
theorem dL_isRefused_325 : decode cL_isRefused 325 = .ok (.aload_n 1, 1) := by decide +kernel
theorem dL_isRefused_326 : decode cL_isRefused 326 = .ok (.iconst 1, 1) := by decide +kernel
theorem dL_isRefused_327 : decode cL_isRefused 327 = .ok (.iaload, 1) := by decide +kernel
theorem dL_isRefused_328 : decode cL_isRefused 328 = .ok (.iconst 1, 1) := by decide +kernel
theorem dL_isRefused_329 : decode cL_isRefused 329 = .ok (.isub, 1) := by decide +kernel
theorem dL_isRefused_330 : decode cL_isRefused 330 = .ok (.iconst 0, 1) := by decide +kernel
theorem dL_isRefused_331 : decode cL_isRefused 331 = .ok (.iconst 0, 1) := by decide +kernel
theorem dL_isRefused_332 : decode cL_isRefused 332 = .ok (.invokestatic 112, 3) := by decide +kernel
theorem dL_isRefused_335 : decode cL_isRefused 335 = .ok (.sipush (-1161), 3) := by decide +kernel
theorem dL_isRefused_338 : decode cL_isRefused 338 = .ok (.if_icmp .ne 196, 3) := by decide +kernel
theorem dL_isRefused_341 : decode cL_isRefused 341 = .ok (.aload_n 0, 1) := by decide +kernel
theorem dL_isRefused_342 : decode cL_isRefused 342 = .ok (.iconst 3, 1) := by decide +kernel
theorem dL_isRefused_343 : decode cL_isRefused 343 = .ok (.aload_n 1, 1) := by decide +kernel
theorem dL_isRefused_344 : decode cL_isRefused 344 = .ok (.iconst 1, 1) := by decide +kernel
theorem dL_isRefused_345 : decode cL_isRefused 345 = .ok (.iaload, 1) := by decide +kernel
theorem dL_isRefused_346 : decode cL_isRefused 346 = .ok (.iconst 1, 1) := by decide +kernel
theorem dL_isRefused_347 : decode cL_isRefused 347 = .ok (.isub, 1) := by decide +kernel
theorem dL_isRefused_348 : decode cL_isRefused 348 = .ok (.iconst 0, 1) := by decide +kernel
theorem dL_isRefused_349 : decode cL_isRefused 349 = .ok (.iconst 0, 1) := by decide +kernel
theorem dL_isRefused_350 : decode cL_isRefused 350 = .ok (.invokestatic 112, 3) := by decide +kernel
theorem dL_isRefused_353 : decode cL_isRefused 353 = .ok (.sipush (-1161), 3) := by decide +kernel
theorem dL_isRefused_356 : decode cL_isRefused 356 = .ok (.if_icmp .ne 178, 3) := by decide +kernel
theorem dL_isRefused_359 : decode cL_isRefused 359 = .ok (.aload_n 0, 1) := by decide +kernel
theorem dL_isRefused_360 : decode cL_isRefused 360 = .ok (.iconst 0, 1) := by decide +kernel
theorem dL_isRefused_361 : decode cL_isRefused 361 = .ok (.iload 5, 2) := by decide +kernel
theorem dL_isRefused_363 : decode cL_isRefused 363 = .ok (.iconst 0, 1) := by decide +kernel
theorem dL_isRefused_364 : decode cL_isRefused 364 = .ok (.iconst 0, 1) := by decide +kernel
theorem dL_isRefused_365 : decode cL_isRefused 365 = .ok (.invokestatic 112, 3) := by decide +kernel
theorem dL_isRefused_368 : decode cL_isRefused 368 = .ok (.sipush (-1161), 3) := by decide +kernel
theorem dL_isRefused_371 : decode cL_isRefused 371 = .ok (.if_icmp .ne 163, 3) := by decide +kernel
theorem dL_isRefused_374 : decode cL_isRefused 374 = .ok (.aload_n 0, 1) := by decide +kernel
theorem dL_isRefused_375 : decode cL_isRefused 375 = .ok (.iconst 0, 1) := by decide +kernel
theorem dL_isRefused_376 : decode cL_isRefused 376 = .ok (.iconst (-1), 1) := by decide +kernel
theorem dL_isRefused_377 : decode cL_isRefused 377 = .ok (.iload 4, 2) := by decide +kernel
theorem dL_isRefused_379 : decode cL_isRefused 379 = .ok (.iconst 0, 1) := by decide +kernel
theorem dL_isRefused_380 : decode cL_isRefused 380 = .ok (.invokestatic 112, 3) := by decide +kernel
theorem dL_isRefused_383 : decode cL_isRefused 383 = .ok (.sipush (-1161), 3) := by decide +kernel
theorem dL_isRefused_386 : decode cL_isRefused 386 = .ok (.if_icmp .ne 148, 3) := by decide +kernel
theorem dL_isRefused_389 : decode cL_isRefused 389 = .ok (.aload_n 0, 1) := by decide +kernel
theorem dL_isRefused_390 : decode cL_isRefused 390 = .ok (.iconst 1, 1) := by decide +kernel
theorem dL_isRefused_391 : decode cL_isRefused 391 = .ok (.iload 5, 2) := by decide +kernel
theorem dL_isRefused_393 : decode cL_isRefused 393 = .ok (.iconst 0, 1) := by decide +kernel
theorem dL_isRefused_394 : decode cL_isRefused 394 = .ok (.iconst 0, 1) := by decide +kernel
theorem dL_isRefused_395 : decode cL_isRefused 395 = .ok (.invokestatic 112, 3) := by decide +kernel
theorem dL_isRefused_398 : decode cL_isRefused 398 = .ok (.sipush (-1161), 3) := by decide +kernel
theorem dL_isRefused_401 : decode cL_isRefused 401 = .ok (.if_icmp .ne 133, 3) := by decide +kernel
theorem dL_isRefused_404 : decode cL_isRefused 404 = .ok (.aload_n 0, 1) := by decide +kernel
theorem dL_isRefused_405 : decode cL_isRefused 405 = .ok (.iconst 1, 1) := by decide +kernel
theorem dL_isRefused_406 : decode cL_isRefused 406 = .ok (.aload_n 1, 1) := by decide +kernel
theorem dL_isRefused_407 : decode cL_isRefused 407 = .ok (.iconst 0, 1) := by decide +kernel
theorem dL_isRefused_408 : decode cL_isRefused 408 = .ok (.iaload, 1) := by decide +kernel
theorem dL_isRefused_409 : decode cL_isRefused 409 = .ok (.iload 4, 2) := by decide +kernel
theorem dL_isRefused_411 : decode cL_isRefused 411 = .ok (.iconst 0, 1) := by decide +kernel
theorem dL_isRefused_412 : decode cL_isRefused 412 = .ok (.invokestatic 112, 3) := by decide +kernel
theorem dL_isRefused_415 : decode cL_isRefused 415 = .ok (.sipush (-1161), 3) := by decide +kernel
theorem dL_isRefused_418 : decode cL_isRefused 418 = .ok (.if_icmp .ne 116, 3) := by decide +kernel
theorem dL_isRefused_421 : decode cL_isRefused 421 = .ok (.aload_n 0, 1) := by decide +kernel
theorem dL_isRefused_422 : decode cL_isRefused 422 = .ok (.iconst 1, 1) := by decide +kernel
theorem dL_isRefused_423 : decode cL_isRefused 423 = .ok (.iconst (-1), 1) := by decide +kernel
theorem dL_isRefused_424 : decode cL_isRefused 424 = .ok (.iconst 0, 1) := by decide +kernel
theorem dL_isRefused_425 : decode cL_isRefused 425 = .ok (.iload_n 3, 1) := by decide +kernel
theorem dL_isRefused_426 : decode cL_isRefused 426 = .ok (.ifCond .eq 12, 3) := by decide +kernel
theorem dL_isRefused_429 : decode cL_isRefused 429 = .ok (.iconst (-1), 1) := by decide +kernel
theorem dL_isRefused_430 : decode cL_isRefused 430 = .ok (.iload_n 2, 1) := by decide +kernel
theorem dL_isRefused_431 : decode cL_isRefused 431 = .ok (.bipush 30, 2) := by decide +kernel
theorem dL_isRefused_433 : decode cL_isRefused 433 = .ok (.irem, 1) := by decide +kernel
theorem dL_isRefused_434 : decode cL_isRefused 434 = .ok (.isub, 1) := by decide +kernel
theorem dL_isRefused_435 : decode cL_isRefused 435 = .ok (.goto 10, 3) := by decide +kernel
theorem dL_isRefused_438 : decode cL_isRefused 438 = .ok (.bipush 12, 2) := by decide +kernel
theorem dL_isRefused_440 : decode cL_isRefused 440 = .ok (.iload_n 2, 1) := by decide +kernel
theorem dL_isRefused_441 : decode cL_isRefused 441 = .ok (.bipush 30, 2) := by decide +kernel
theorem dL_isRefused_443 : decode cL_isRefused 443 = .ok (.irem, 1) := by decide +kernel
theorem dL_isRefused_444 : decode cL_isRefused 444 = .ok (.iadd, 1) := by decide +kernel
theorem dL_isRefused_445 : decode cL_isRefused 445 = .ok (.invokestatic 112, 3) := by decide +kernel
theorem dL_isRefused_448 : decode cL_isRefused 448 = .ok (.sipush (-1161), 3) := by decide +kernel
theorem dL_isRefused_451 : decode cL_isRefused 451 = .ok (.if_icmp .ne 83, 3) := by decide +kernel
theorem dL_isRefused_454 : decode cL_isRefused 454 = .ok (.aload_n 0, 1) := by decide +kernel
theorem dL_isRefused_455 : decode cL_isRefused 455 = .ok (.iconst 2, 1) := by decide +kernel
theorem dL_isRefused_456 : decode cL_isRefused 456 = .ok (.iload 5, 2) := by decide +kernel
theorem dL_isRefused_458 : decode cL_isRefused 458 = .ok (.iconst 0, 1) := by decide +kernel
theorem dL_isRefused_459 : decode cL_isRefused 459 = .ok (.iconst 0, 1) := by decide +kernel
theorem dL_isRefused_460 : decode cL_isRefused 460 = .ok (.invokestatic 112, 3) := by decide +kernel
theorem dL_isRefused_463 : decode cL_isRefused 463 = .ok (.sipush (-1161), 3) := by decide +kernel
theorem dL_isRefused_466 : decode cL_isRefused 466 = .ok (.if_icmp .ne 68, 3) := by decide +kernel
theorem dL_isRefused_469 : decode cL_isRefused 469 = .ok (.aload_n 0, 1) := by decide +kernel
theorem dL_isRefused_470 : decode cL_isRefused 470 = .ok (.iconst 2, 1) := by decide +kernel
theorem dL_isRefused_471 : decode cL_isRefused 471 = .ok (.iconst (-1), 1) := by decide +kernel
theorem dL_isRefused_472 : decode cL_isRefused 472 = .ok (.iload 4, 2) := by decide +kernel
theorem dL_isRefused_474 : decode cL_isRefused 474 = .ok (.iconst 0, 1) := by decide +kernel
theorem dL_isRefused_475 : decode cL_isRefused 475 = .ok (.invokestatic 112, 3) := by decide +kernel
theorem dL_isRefused_478 : decode cL_isRefused 478 = .ok (.sipush (-1161), 3) := by decide +kernel
theorem dL_isRefused_481 : decode cL_isRefused 481 = .ok (.if_icmp .ne 53, 3) := by decide +kernel
theorem dL_isRefused_484 : decode cL_isRefused 484 = .ok (.aload_n 0, 1) := by decide +kernel
theorem dL_isRefused_485 : decode cL_isRefused 485 = .ok (.iconst 3, 1) := by decide +kernel
theorem dL_isRefused_486 : decode cL_isRefused 486 = .ok (.iload 5, 2) := by decide +kernel
theorem dL_isRefused_488 : decode cL_isRefused 488 = .ok (.iconst 0, 1) := by decide +kernel
theorem dL_isRefused_489 : decode cL_isRefused 489 = .ok (.iconst 0, 1) := by decide +kernel
theorem dL_isRefused_490 : decode cL_isRefused 490 = .ok (.invokestatic 112, 3) := by decide +kernel
theorem dL_isRefused_493 : decode cL_isRefused 493 = .ok (.sipush (-1161), 3) := by decide +kernel
theorem dL_isRefused_496 : decode cL_isRefused 496 = .ok (.if_icmp .ne 38, 3) := by decide +kernel
theorem dL_isRefused_499 : decode cL_isRefused 499 = .ok (.aload_n 0, 1) := by decide +kernel
theorem dL_isRefused_500 : decode cL_isRefused 500 = .ok (.iconst 3, 1) := by decide +kernel
theorem dL_isRefused_501 : decode cL_isRefused 501 = .ok (.iconst (-1), 1) := by decide +kernel
theorem dL_isRefused_502 : decode cL_isRefused 502 = .ok (.iconst 0, 1) := by decide +kernel
theorem dL_isRefused_503 : decode cL_isRefused 503 = .ok (.iconst 0, 1) := by decide +kernel
theorem dL_isRefused_504 : decode cL_isRefused 504 = .ok (.invokestatic 112, 3) := by decide +kernel
theorem dL_isRefused_507 : decode cL_isRefused 507 = .ok (.sipush (-1161), 3) := by decide +kernel
theorem dL_isRefused_510 : decode cL_isRefused 510 = .ok (.if_icmp .ne 24, 3) := by decide +kernel
theorem dL_isRefused_513 : decode cL_isRefused 513 = .ok (.aload_n 0, 1) := by decide +kernel
theorem dL_isRefused_514 : decode cL_isRefused 514 = .ok (.iconst 3, 1) := by decide +kernel
theorem dL_isRefused_515 : decode cL_isRefused 515 = .ok (.aload_n 1, 1) := by decide +kernel
theorem dL_isRefused_516 : decode cL_isRefused 516 = .ok (.iconst 0, 1) := by decide +kernel
theorem dL_isRefused_517 : decode cL_isRefused 517 = .ok (.iaload, 1) := by decide +kernel
theorem dL_isRefused_518 : decode cL_isRefused 518 = .ok (.iload 4, 2) := by decide +kernel
theorem dL_isRefused_520 : decode cL_isRefused 520 = .ok (.iconst 0, 1) := by decide +kernel
theorem dL_isRefused_521 : decode cL_isRefused 521 = .ok (.invokestatic 112, 3) := by decide +kernel
theorem dL_isRefused_524 : decode cL_isRefused 524 = .ok (.sipush (-1161), 3) := by decide +kernel
theorem dL_isRefused_527 : decode cL_isRefused 527 = .ok (.if_icmp .ne 7, 3) := by decide +kernel
theorem dL_isRefused_530 : decode cL_isRefused 530 = .ok (.iconst 1, 1) := by decide +kernel
theorem dL_isRefused_531 : decode cL_isRefused 531 = .ok (.goto 4, 3) := by decide +kernel
theorem dL_isRefused_534 : decode cL_isRefused 534 = .ok (.iconst 0, 1) := by decide +kernel
theorem dL_isRefused_535 : decode cL_isRefused 535 = .ok (.istore 8, 2) := by decide +kernel
theorem dL_isRefused_537 : decode cL_isRefused 537 = .ok (.iconst 0, 1) := by decide +kernel
theorem dL_isRefused_538 : decode cL_isRefused 538 = .ok (.istore 9, 2) := by decide +kernel
theorem dL_isRefused_540 : decode cL_isRefused 540 = .ok (.iload 9, 2) := by decide +kernel
theorem dL_isRefused_542 : decode cL_isRefused 542 = .ok (.bipush 6, 2) := by decide +kernel
theorem dL_isRefused_544 : decode cL_isRefused 544 = .ok (.if_icmp .ge 269, 3) := by decide +kernel
theorem dL_isRefused_547 : decode cL_isRefused 547 = .ok (.iload 8, 2) := by decide +kernel
theorem dL_isRefused_549 : decode cL_isRefused 549 = .ok (.ifCond .eq 264, 3) := by decide +kernel
theorem dL_isRefused_552 : decode cL_isRefused 552 = .ok (.aload_n 0, 1) := by decide +kernel
theorem dL_isRefused_553 : decode cL_isRefused 553 = .ok (.iconst (-1), 1) := by decide +kernel
theorem dL_isRefused_554 : decode cL_isRefused 554 = .ok (.iload 9, 2) := by decide +kernel
theorem dL_isRefused_556 : decode cL_isRefused 556 = .ok (.invokevirtual 47, 3) := by decide +kernel
theorem dL_isRefused_559 : decode cL_isRefused 559 = .ok (.istore 10, 2) := by decide +kernel
theorem dL_isRefused_561 : decode cL_isRefused 561 = .ok (.aload_n 0, 1) := by decide +kernel
theorem dL_isRefused_562 : decode cL_isRefused 562 = .ok (.iconst (-1), 1) := by decide +kernel
theorem dL_isRefused_563 : decode cL_isRefused 563 = .ok (.iload 9, 2) := by decide +kernel
theorem dL_isRefused_565 : decode cL_isRefused 565 = .ok (.invokestatic 83, 3) := by decide +kernel
theorem dL_isRefused_568 : decode cL_isRefused 568 = .ok (.istore 11, 2) := by decide +kernel
theorem dL_isRefused_570 : decode cL_isRefused 570 = .ok (.iload 10, 2) := by decide +kernel
theorem dL_isRefused_572 : decode cL_isRefused 572 = .ok (.ifCond .ne 26, 3) := by decide +kernel
theorem dL_isRefused_575 : decode cL_isRefused 575 = .ok (.aload_n 0, 1) := by decide +kernel
theorem dL_isRefused_576 : decode cL_isRefused 576 = .ok (.iconst 5, 1) := by decide +kernel
theorem dL_isRefused_577 : decode cL_isRefused 577 = .ok (.iload 9, 2) := by decide +kernel
theorem dL_isRefused_579 : decode cL_isRefused 579 = .ok (.iconst (-1), 1) := by decide +kernel
theorem dL_isRefused_580 : decode cL_isRefused 580 = .ok (.iconst 0, 1) := by decide +kernel
theorem dL_isRefused_581 : decode cL_isRefused 581 = .ok (.invokestatic 108, 3) := by decide +kernel
theorem dL_isRefused_584 : decode cL_isRefused 584 = .ok (.sipush (-1163), 3) := by decide +kernel
theorem dL_isRefused_587 : decode cL_isRefused 587 = .ok (.if_icmp .ne 7, 3) := by decide +kernel
theorem dL_isRefused_590 : decode cL_isRefused 590 = .ok (.iconst 1, 1) := by decide +kernel
theorem dL_isRefused_591 : decode cL_isRefused 591 = .ok (.goto 46, 3) := by decide +kernel
theorem dL_isRefused_594 : decode cL_isRefused 594 = .ok (.iconst 0, 1) := by decide +kernel
theorem dL_isRefused_595 : decode cL_isRefused 595 = .ok (.goto 42, 3) := by decide +kernel
theorem dL_isRefused_598 : decode cL_isRefused 598 = .ok (.aload_n 0, 1) := by decide +kernel
theorem dL_isRefused_599 : decode cL_isRefused 599 = .ok (.iconst 5, 1) := by decide +kernel
theorem dL_isRefused_600 : decode cL_isRefused 600 = .ok (.iload 9, 2) := by decide +kernel
theorem dL_isRefused_602 : decode cL_isRefused 602 = .ok (.iload_n 3, 1) := by decide +kernel
theorem dL_isRefused_603 : decode cL_isRefused 603 = .ok (.ifCond .eq 12, 3) := by decide +kernel
theorem dL_isRefused_606 : decode cL_isRefused 606 = .ok (.iconst (-1), 1) := by decide +kernel
theorem dL_isRefused_607 : decode cL_isRefused 607 = .ok (.iload_n 2, 1) := by decide +kernel
theorem dL_isRefused_608 : decode cL_isRefused 608 = .ok (.bipush 30, 2) := by decide +kernel
theorem dL_isRefused_610 : decode cL_isRefused 610 = .ok (.irem, 1) := by decide +kernel
theorem dL_isRefused_611 : decode cL_isRefused 611 = .ok (.isub, 1) := by decide +kernel
theorem dL_isRefused_612 : decode cL_isRefused 612 = .ok (.goto 10, 3) := by decide +kernel
theorem dL_isRefused_615 : decode cL_isRefused 615 = .ok (.bipush 8, 2) := by decide +kernel
theorem dL_isRefused_617 : decode cL_isRefused 617 = .ok (.iload_n 2, 1) := by decide +kernel
theorem dL_isRefused_618 : decode cL_isRefused 618 = .ok (.bipush 30, 2) := by decide +kernel
theorem dL_isRefused_620 : decode cL_isRefused 620 = .ok (.irem, 1) := by decide +kernel
theorem dL_isRefused_621 : decode cL_isRefused 621 = .ok (.iadd, 1) := by decide +kernel
theorem dL_isRefused_622 : decode cL_isRefused 622 = .ok (.iconst 0, 1) := by decide +kernel
theorem dL_isRefused_623 : decode cL_isRefused 623 = .ok (.invokestatic 108, 3) := by decide +kernel
theorem dL_isRefused_626 : decode cL_isRefused 626 = .ok (.sipush (-1162), 3) := by decide +kernel
theorem dL_isRefused_629 : decode cL_isRefused 629 = .ok (.if_icmp .ne 7, 3) := by decide +kernel
theorem dL_isRefused_632 : decode cL_isRefused 632 = .ok (.iconst 1, 1) := by decide +kernel
theorem dL_isRefused_633 : decode cL_isRefused 633 = .ok (.goto 4, 3) := by decide +kernel
theorem dL_isRefused_636 : decode cL_isRefused 636 = .ok (.iconst 0, 1) := by decide +kernel
theorem dL_isRefused_637 : decode cL_isRefused 637 = .ok (.istore 8, 2) := by decide +kernel
theorem dL_isRefused_639 : decode cL_isRefused 639 = .ok (.iload 8, 2) := by decide +kernel
theorem dL_isRefused_641 : decode cL_isRefused 641 = .ok (.ifCond .eq 98, 3) := by decide +kernel
theorem dL_isRefused_644 : decode cL_isRefused 644 = .ok (.iload 10, 2) := by decide +kernel
theorem dL_isRefused_646 : decode cL_isRefused 646 = .ok (.iconst 1, 1) := by decide +kernel
theorem dL_isRefused_647 : decode cL_isRefused 647 = .ok (.if_icmp .ne 10, 3) := by decide +kernel
theorem dL_isRefused_650 : decode cL_isRefused 650 = .ok (.iload 11, 2) := by decide +kernel
theorem dL_isRefused_652 : decode cL_isRefused 652 = .ok (.bipush 12, 2) := by decide +kernel
theorem dL_isRefused_654 : decode cL_isRefused 654 = .ok (.if_icmp .ne 21, 3) := by decide +kernel
theorem dL_isRefused_657 : decode cL_isRefused 657 = .ok (.aload_n 0, 1) := by decide +kernel
theorem dL_isRefused_658 : decode cL_isRefused 658 = .ok (.iconst 3, 1) := by decide +kernel
theorem dL_isRefused_659 : decode cL_isRefused 659 = .ok (.iload 9, 2) := by decide +kernel
theorem dL_isRefused_661 : decode cL_isRefused 661 = .ok (.iconst (-1), 1) := by decide +kernel
theorem dL_isRefused_662 : decode cL_isRefused 662 = .ok (.iconst (-1), 1) := by decide +kernel
theorem dL_isRefused_663 : decode cL_isRefused 663 = .ok (.invokestatic 108, 3) := by decide +kernel
theorem dL_isRefused_666 : decode cL_isRefused 666 = .ok (.sipush (-1163), 3) := by decide +kernel
theorem dL_isRefused_669 : decode cL_isRefused 669 = .ok (.if_icmp .ne 70, 3) := by decide +kernel
theorem dL_isRefused_672 : decode cL_isRefused 672 = .ok (.goto 63, 3) := by decide +kernel
theorem dL_isRefused_675 : decode cL_isRefused 675 = .ok (.aload_n 0, 1) := by decide +kernel
theorem dL_isRefused_676 : decode cL_isRefused 676 = .ok (.iconst 3, 1) := by decide +kernel
theorem dL_isRefused_677 : decode cL_isRefused 677 = .ok (.iload 9, 2) := by decide +kernel
theorem dL_isRefused_679 : decode cL_isRefused 679 = .ok (.iload_n 3, 1) := by decide +kernel
theorem dL_isRefused_680 : decode cL_isRefused 680 = .ok (.ifCond .eq 7, 3) := by decide +kernel
theorem dL_isRefused_683 : decode cL_isRefused 683 = .ok (.iconst (-1), 1) := by decide +kernel
theorem dL_isRefused_684 : decode cL_isRefused 684 = .ok (.goto 12, 3) := by decide +kernel
theorem dL_isRefused_687 : decode cL_isRefused 687 = .ok (.iload 11, 2) := by decide +kernel
theorem dL_isRefused_689 : decode cL_isRefused 689 = .ok (.iconst 1, 1) := by decide +kernel
theorem dL_isRefused_690 : decode cL_isRefused 690 = .ok (.iadd, 1) := by decide +kernel
theorem dL_isRefused_691 : decode cL_isRefused 691 = .ok (.iload_n 2, 1) := by decide +kernel
theorem dL_isRefused_692 : decode cL_isRefused 692 = .ok (.bipush 30, 2) := by decide +kernel
theorem dL_isRefused_694 : decode cL_isRefused 694 = .ok (.irem, 1) := by decide +kernel
theorem dL_isRefused_695 : decode cL_isRefused 695 = .ok (.iadd, 1) := by decide +kernel
theorem dL_isRefused_696 : decode cL_isRefused 696 = .ok (.iconst 5, 1) := by decide +kernel
theorem dL_isRefused_697 : decode cL_isRefused 697 = .ok (.invokestatic 108, 3) := by decide +kernel
theorem dL_isRefused_700 : decode cL_isRefused 700 = .ok (.sipush (-1162), 3) := by decide +kernel
theorem dL_isRefused_703 : decode cL_isRefused 703 = .ok (.if_icmp .ne 36, 3) := by decide +kernel
theorem dL_isRefused_706 : decode cL_isRefused 706 = .ok (.aload_n 0, 1) := by decide +kernel
theorem dL_isRefused_707 : decode cL_isRefused 707 = .ok (.iconst 3, 1) := by decide +kernel
theorem dL_isRefused_708 : decode cL_isRefused 708 = .ok (.iload 9, 2) := by decide +kernel
theorem dL_isRefused_710 : decode cL_isRefused 710 = .ok (.iconst 0, 1) := by decide +kernel
theorem dL_isRefused_711 : decode cL_isRefused 711 = .ok (.iload_n 3, 1) := by decide +kernel
theorem dL_isRefused_712 : decode cL_isRefused 712 = .ok (.ifCond .eq 7, 3) := by decide +kernel
theorem dL_isRefused_715 : decode cL_isRefused 715 = .ok (.iconst (-1), 1) := by decide +kernel
theorem dL_isRefused_716 : decode cL_isRefused 716 = .ok (.goto 10, 3) := by decide +kernel
theorem dL_isRefused_719 : decode cL_isRefused 719 = .ok (.bipush 10, 2) := by decide +kernel
theorem dL_isRefused_721 : decode cL_isRefused 721 = .ok (.iload_n 2, 1) := by decide +kernel
theorem dL_isRefused_722 : decode cL_isRefused 722 = .ok (.bipush 30, 2) := by decide +kernel
theorem dL_isRefused_724 : decode cL_isRefused 724 = .ok (.irem, 1) := by decide +kernel
theorem dL_isRefused_725 : decode cL_isRefused 725 = .ok (.iadd, 1) := by decide +kernel
theorem dL_isRefused_726 : decode cL_isRefused 726 = .ok (.invokestatic 108, 3) := by decide +kernel
theorem dL_isRefused_729 : decode cL_isRefused 729 = .ok (.sipush (-1162), 3) := by decide +kernel
theorem dL_isRefused_732 : decode cL_isRefused 732 = .ok (.if_icmp .ne 7, 3) := by decide +kernel
theorem dL_isRefused_735 : decode cL_isRefused 735 = .ok (.iconst 1, 1) := by decide +kernel
theorem dL_isRefused_736 : decode cL_isRefused 736 = .ok (.goto 4, 3) := by decide +kernel
theorem dL_isRefused_739 : decode cL_isRefused 739 = .ok (.iconst 0, 1) := by decide +kernel
theorem dL_isRefused_740 : decode cL_isRefused 740 = .ok (.istore 8, 2) := by decide +kernel
theorem dL_isRefused_742 : decode cL_isRefused 742 = .ok (.iload 8, 2) := by decide +kernel
theorem dL_isRefused_744 : decode cL_isRefused 744 = .ok (.ifCond .eq 60, 3) := by decide +kernel
theorem dL_isRefused_747 : decode cL_isRefused 747 = .ok (.iload 10, 2) := by decide +kernel
theorem dL_isRefused_749 : decode cL_isRefused 749 = .ok (.iconst 1, 1) := by decide +kernel
theorem dL_isRefused_750 : decode cL_isRefused 750 = .ok (.if_icmp .eq 21, 3) := by decide +kernel
theorem dL_isRefused_753 : decode cL_isRefused 753 = .ok (.aload_n 0, 1) := by decide +kernel
theorem dL_isRefused_754 : decode cL_isRefused 754 = .ok (.iconst 4, 1) := by decide +kernel
theorem dL_isRefused_755 : decode cL_isRefused 755 = .ok (.iload 9, 2) := by decide +kernel
theorem dL_isRefused_757 : decode cL_isRefused 757 = .ok (.iconst (-1), 1) := by decide +kernel
theorem dL_isRefused_758 : decode cL_isRefused 758 = .ok (.iconst 0, 1) := by decide +kernel
theorem dL_isRefused_759 : decode cL_isRefused 759 = .ok (.invokestatic 108, 3) := by decide +kernel
theorem dL_isRefused_762 : decode cL_isRefused 762 = .ok (.sipush (-1163), 3) := by decide +kernel
theorem dL_isRefused_765 : decode cL_isRefused 765 = .ok (.if_icmp .ne 39, 3) := by decide +kernel
theorem dL_isRefused_768 : decode cL_isRefused 768 = .ok (.goto 32, 3) := by decide +kernel
theorem dL_isRefused_771 : decode cL_isRefused 771 = .ok (.aload_n 0, 1) := by decide +kernel
theorem dL_isRefused_772 : decode cL_isRefused 772 = .ok (.iconst 4, 1) := by decide +kernel
theorem dL_isRefused_773 : decode cL_isRefused 773 = .ok (.iload 9, 2) := by decide +kernel
theorem dL_isRefused_775 : decode cL_isRefused 775 = .ok (.iload_n 3, 1) := by decide +kernel
theorem dL_isRefused_776 : decode cL_isRefused 776 = .ok (.ifCond .eq 7, 3) := by decide +kernel
theorem dL_isRefused_779 : decode cL_isRefused 779 = .ok (.iconst (-1), 1) := by decide +kernel
theorem dL_isRefused_780 : decode cL_isRefused 780 = .ok (.goto 10, 3) := by decide +kernel
theorem dL_isRefused_783 : decode cL_isRefused 783 = .ok (.iload 11, 2) := by decide +kernel
theorem dL_isRefused_785 : decode cL_isRefused 785 = .ok (.iload_n 2, 1) := by decide +kernel
theorem dL_isRefused_786 : decode cL_isRefused 786 = .ok (.bipush 30, 2) := by decide +kernel
theorem dL_isRefused_788 : decode cL_isRefused 788 = .ok (.irem, 1) := by decide +kernel
theorem dL_isRefused_789 : decode cL_isRefused 789 = .ok (.iadd, 1) := by decide +kernel
theorem dL_isRefused_790 : decode cL_isRefused 790 = .ok (.iconst 0, 1) := by decide +kernel
theorem dL_isRefused_791 : decode cL_isRefused 791 = .ok (.invokestatic 108, 3) := by decide +kernel
theorem dL_isRefused_794 : decode cL_isRefused 794 = .ok (.sipush (-1162), 3) := by decide +kernel
theorem dL_isRefused_797 : decode cL_isRefused 797 = .ok (.if_icmp .ne 7, 3) := by decide +kernel
theorem dL_isRefused_800 : decode cL_isRefused 800 = .ok (.iconst 1, 1) := by decide +kernel
theorem dL_isRefused_801 : decode cL_isRefused 801 = .ok (.goto 4, 3) := by decide +kernel
theorem dL_isRefused_804 : decode cL_isRefused 804 = .ok (.iconst 0, 1) := by decide +kernel
theorem dL_isRefused_805 : decode cL_isRefused 805 = .ok (.istore 8, 2) := by decide +kernel
theorem dL_isRefused_807 : decode cL_isRefused 807 = .ok (.iinc 9 1, 3) := by decide +kernel
theorem dL_isRefused_810 : decode cL_isRefused 810 = .ok (.goto (-270), 3) := by decide +kernel
theorem dL_isRefused_813 : decode cL_isRefused 813 = .ok (.iload 8, 2) := by decide +kernel
theorem dL_isRefused_815 : decode cL_isRefused 815 = .ok (.ifCond .eq 17, 3) := by decide +kernel
theorem dL_isRefused_818 : decode cL_isRefused 818 = .ok (.aload_n 0, 1) := by decide +kernel
theorem dL_isRefused_819 : decode cL_isRefused 819 = .ok (.invokestatic 104, 3) := by decide +kernel
theorem dL_isRefused_822 : decode cL_isRefused 822 = .ok (.lload 6, 2) := by decide +kernel
theorem dL_isRefused_824 : decode cL_isRefused 824 = .ok (.lcmp, 1) := by decide +kernel
theorem dL_isRefused_825 : decode cL_isRefused 825 = .ok (.ifCond .ne 7, 3) := by decide +kernel
theorem dL_isRefused_828 : decode cL_isRefused 828 = .ok (.iconst 1, 1) := by decide +kernel
theorem dL_isRefused_829 : decode cL_isRefused 829 = .ok (.goto 4, 3) := by decide +kernel
theorem dL_isRefused_832 : decode cL_isRefused 832 = .ok (.iconst 0, 1) := by decide +kernel
theorem dL_isRefused_833 : decode cL_isRefused 833 = .ok (.ireturn, 1) := by decide +kernel
set_option maxRecDepth 20000 in
theorem ggL_isEdited_X1_kindAt : GoodIn wsL_isEdited wsX1_kindAt := goodIn_ca (goodIn_r _ [5, 6, 7, 8, 9, 4, 10, 11, 12, 13, 14, 15, 16, 17, 18, 19, 20, 21, 22, 23, 24, 25, 26, 137, 138, 139, 140, 141, 142, 143, 144, 145] (by decide +kernel) (by decide +kernel)) (goodIn_sub (fun _ h => List.mem_cons_of_mem _ (List.mem_append_left _ (List.mem_append_left _ (List.mem_append_right _ h)))) (by decide +kernel))
set_option maxRecDepth 20000 in
theorem gL_isEdited_X1_kindAt : GoodIn wsL_isEdited (wsV RL 47 RX1 yX1_kindAt wsX1_kindAt) := goodIn_app (goodIn_of _ (by decide +kernel)) ggL_isEdited_X1_kindAt
set_option maxRecDepth 20000 in
theorem ggL_isEdited_X1_rightsAt : GoodIn wsL_isEdited wsX1_rightsAt := goodIn_ca (goodIn_r _ [30, 31, 7, 8, 9, 4, 10, 11, 12, 13, 14, 15, 16, 17, 18, 19, 20, 21, 22, 23, 24, 25, 26, 137, 138, 139, 140, 141, 142, 143, 144, 145] (by decide +kernel) (by decide +kernel)) (goodIn_sub (fun _ h => List.mem_cons_of_mem _ (List.mem_append_left _ (List.mem_append_left _ (List.mem_append_right _ h)))) (by decide +kernel))
set_option maxRecDepth 20000 in
theorem gL_isEdited_X1_rightsAt : GoodIn wsL_isEdited (wsV RL 53 RX1 yX1_rightsAt wsX1_rightsAt) := goodIn_app (goodIn_of _ (by decide +kernel)) ggL_isEdited_X1_rightsAt
set_option maxRecDepth 20000 in
theorem ggL_isEdited_L_length : GoodIn wsL_isEdited wsL_length := goodIn_ca (goodIn_r _ [35, 36, 37, 38, 4, 39, 17, 18, 40, 7, 8, 9, 10, 11, 12, 13, 14, 15, 16, 19, 20, 21, 22, 23, 24, 25, 26, 137, 138, 139, 140, 141, 142, 143, 144, 145] (by decide +kernel) (by decide +kernel)) (goodIn_sub (fun _ h => List.mem_cons_of_mem _ (List.mem_append_left _ (List.mem_append_left _ (List.mem_append_right _ h)))) (by decide +kernel))
set_option maxRecDepth 20000 in
theorem gL_isEdited_L_length : GoodIn wsL_isEdited (va_wsS RL 83 yL_length wsL_length) := goodIn_app (goodIn_of _ (by decide +kernel)) ggL_isEdited_L_length
set_option maxRecDepth 20000 in
theorem ggL_isEdited_X1_numberAt : GoodIn wsL_isEdited wsX1_numberAt := goodIn_ca (goodIn_r _ [39, 17, 18, 40, 7, 8, 9, 4, 10, 11, 12, 13, 14, 15, 16, 19, 20, 21, 22, 23, 24, 25, 26, 137, 138, 139, 140, 141, 142, 143, 144, 145] (by decide +kernel) (by decide +kernel)) (goodIn_sub (fun _ h => List.mem_cons_of_mem _ (List.mem_append_left _ (List.mem_append_left _ (List.mem_append_right _ h)))) (by decide +kernel))
set_option maxRecDepth 20000 in
theorem gL_isEdited_X1_numberAt : GoodIn wsL_isEdited (wsV RL 50 RX1 yX1_numberAt wsX1_numberAt) := goodIn_app (goodIn_of _ (by decide +kernel)) ggL_isEdited_X1_numberAt
set_option maxRecDepth 20000 in
theorem ggL_isEdited_L_act : GoodIn wsL_isEdited wsL_act := goodIn_ca (goodIn_ca (goodIn_ca (goodIn_r _ [43, 44, 45, 46, 47, 48, 49, 4, 50, 51, 52, 53, 54, 21, 22, 23, 17, 18, 55, 56, 57, 58, 59, 60, 61, 62, 63, 64, 65, 66, 67, 11, 6, 68, 69, 70, 71, 72, 73, 74, 75, 76, 77, 78, 79, 80, 81, 82, 83, 40, 31, 84, 85, 86, 87, 88, 89, 90, 91, 92, 93, 94, 95, 96, 97, 98, 99, 100, 101, 20, 102, 103, 12, 104, 105, 106, 107, 108, 109, 110, 111, 24, 25, 26, 112, 113, 114, 115, 116, 117, 118, 119, 120, 121, 122, 123, 124, 19, 125, 126, 127, 128, 13, 14, 15, 16, 137, 138, 139, 140, 141, 142, 143, 144, 145] (by decide +kernel) (by decide +kernel)) (goodIn_sub (fun _ h => List.mem_cons_of_mem _ (List.mem_append_left _ (List.mem_append_left _ (List.mem_append_right _ h)))) (by decide +kernel))) (goodIn_sub (fun _ h => List.mem_cons_of_mem _ (List.mem_append_left _ (List.mem_append_right _ h))) (by decide +kernel))) (goodIn_sub (fun _ h => List.mem_cons_of_mem _ (List.mem_append_right _ h)) (by decide +kernel))
set_option maxRecDepth 20000 in
theorem gL_isEdited_L_act : GoodIn wsL_isEdited (va_wsS RL 108 yL_act wsL_act) := goodIn_app (goodIn_of _ (by decide +kernel)) ggL_isEdited_L_act
set_option maxRecDepth 20000 in
theorem ggL_isEdited_L_isOnly : GoodIn wsL_isEdited wsL_isOnly := goodIn_ca (goodIn_r _ [131, 132, 133, 34, 134, 135, 136, 1, 2, 3, 4, 5, 6, 7, 8, 9, 10, 11, 12, 13, 14, 15, 16, 17, 18, 19, 20, 21, 22, 23, 24, 25, 26, 27, 28, 29, 30, 31, 36, 37, 38, 39, 40, 137, 138, 139, 140, 141, 142, 143, 144, 145] (by decide +kernel) (by decide +kernel)) (goodIn_sub (fun _ h => List.mem_cons_of_mem _ (List.mem_append_left _ (List.mem_append_left _ (List.mem_append_right _ h)))) (by decide +kernel))
set_option maxRecDepth 20000 in
theorem gL_isEdited_L_isOnly : GoodIn wsL_isEdited (va_wsS RL 115 yL_isOnly wsL_isOnly) := goodIn_app (goodIn_of _ (by decide +kernel)) ggL_isEdited_L_isOnly
set_option maxRecDepth 20000 in
theorem ggL_isEdited_L_told : GoodIn wsL_isEdited wsL_told := goodIn_ca (goodIn_r _ [134, 135, 136, 1, 2, 3, 4, 5, 6, 7, 8, 9, 10, 11, 12, 13, 14, 15, 16, 17, 18, 19, 20, 21, 22, 23, 24, 25, 26, 27, 28, 29, 30, 31, 36, 37, 38, 39, 40, 137, 138, 139, 140, 141, 142, 143, 144, 145] (by decide +kernel) (by decide +kernel)) (goodIn_sub (fun _ h => List.mem_cons_of_mem _ (List.mem_append_left _ (List.mem_append_left _ (List.mem_append_right _ h)))) (by decide +kernel))
set_option maxRecDepth 20000 in
theorem gL_isEdited_L_told : GoodIn wsL_isEdited (va_wsS RL 63 yL_told wsL_told) := goodIn_app (goodIn_of _ (by decide +kernel)) ggL_isEdited_L_told
theorem dL_isEdited_0 : decode cL_isEdited 0 = .ok (.aload_n 0, 1) := by decide +kernel
theorem dL_isEdited_1 : decode cL_isEdited 1 = .ok (.iconst (-1), 1) := by decide +kernel
theorem dL_isEdited_2 : decode cL_isEdited 2 = .ok (.iload_n 2, 1) := by decide +kernel
theorem dL_isEdited_3 : decode cL_isEdited 3 = .ok (.invokevirtual 47, 3) := by decide +kernel
theorem dL_isEdited_6 : decode cL_isEdited 6 = .ok (.istore 5, 2) := by decide +kernel
theorem dL_isEdited_8 : decode cL_isEdited 8 = .ok (.aload_n 0, 1) := by decide +kernel
theorem dL_isEdited_9 : decode cL_isEdited 9 = .ok (.iconst (-1), 1) := by decide +kernel
theorem dL_isEdited_10 : decode cL_isEdited 10 = .ok (.iload_n 2, 1) := by decide +kernel
theorem dL_isEdited_11 : decode cL_isEdited 11 = .ok (.invokevirtual 53, 3) := by decide +kernel
theorem dL_isEdited_14 : decode cL_isEdited 14 = .ok (.istore 6, 2) := by decide +kernel
theorem dL_isEdited_16 : decode cL_isEdited 16 = .ok (.aload_n 0, 1) := by decide +kernel
theorem dL_isEdited_17 : decode cL_isEdited 17 = .ok (.iconst (-1), 1) := by decide +kernel
theorem dL_isEdited_18 : decode cL_isEdited 18 = .ok (.iload_n 2, 1) := by decide +kernel
theorem dL_isEdited_19 : decode cL_isEdited 19 = .ok (.invokestatic 83, 3) := by decide +kernel
theorem dL_isEdited_22 : decode cL_isEdited 22 = .ok (.istore 7, 2) := by decide +kernel
theorem dL_isEdited_24 : decode cL_isEdited 24 = .ok (.iload 5, 2) := by decide +kernel
theorem dL_isEdited_26 : decode cL_isEdited 26 = .ok (.ifCond .ne 7, 3) := by decide +kernel
theorem dL_isEdited_29 : decode cL_isEdited 29 = .ok (.iconst (-1), 1) := by decide +kernel
theorem dL_isEdited_30 : decode cL_isEdited 30 = .ok (.goto 14, 3) := by decide +kernel
theorem dL_isEdited_33 : decode cL_isEdited 33 = .ok (.aload_n 0, 1) := by decide +kernel
theorem dL_isEdited_34 : decode cL_isEdited 34 = .ok (.iconst (-1), 1) := by decide +kernel
theorem dL_isEdited_35 : decode cL_isEdited 35 = .ok (.iload_n 2, 1) := by decide +kernel
theorem dL_isEdited_36 : decode cL_isEdited 36 = .ok (.iload 4, 2) := by decide +kernel
theorem dL_isEdited_38 : decode cL_isEdited 38 = .ok (.bipush 12, 2) := by decide +kernel
theorem dL_isEdited_40 : decode cL_isEdited 40 = .ok (.irem, 1) := by decide +kernel
theorem dL_isEdited_41 : decode cL_isEdited 41 = .ok (.invokevirtual 50, 3) := by decide +kernel
theorem dL_isEdited_44 : decode cL_isEdited 44 = .ok (.istore 8, 2) := by decide +kernel
theorem dL_isEdited_46 : decode cL_isEdited 46 = .ok (.iconst 1, 1) := by decide +kernel
theorem dL_isEdited_47 : decode cL_isEdited 47 = .ok (.istore 9, 2) := by decide +kernel
theorem dL_isEdited_49 : decode cL_isEdited 49 = .ok (.iload_n 3, 1) := by decide +kernel
theorem dL_isEdited_50 : decode cL_isEdited 50 = .ok (.iconst 2, 1) := by decide +kernel
theorem dL_isEdited_51 : decode cL_isEdited 51 = .ok (.if_icmp .ge 54, 3) := by decide +kernel
theorem dL_isEdited_54 : decode cL_isEdited 54 = .ok (.aload_n 0, 1) := by decide +kernel
theorem dL_isEdited_55 : decode cL_isEdited 55 = .ok (.iconst 0, 1) := by decide +kernel
theorem dL_isEdited_56 : decode cL_isEdited 56 = .ok (.iload_n 2, 1) := by decide +kernel
theorem dL_isEdited_57 : decode cL_isEdited 57 = .ok (.iconst 0, 1) := by decide +kernel
theorem dL_isEdited_58 : decode cL_isEdited 58 = .ok (.iconst 0, 1) := by decide +kernel
theorem dL_isEdited_59 : decode cL_isEdited 59 = .ok (.invokestatic 108, 3) := by decide +kernel
theorem dL_isEdited_62 : decode cL_isEdited 62 = .ok (.iload 5, 2) := by decide +kernel
theorem dL_isEdited_64 : decode cL_isEdited 64 = .ok (.if_icmp .ne 35, 3) := by decide +kernel
theorem dL_isEdited_67 : decode cL_isEdited 67 = .ok (.aload_n 0, 1) := by decide +kernel
theorem dL_isEdited_68 : decode cL_isEdited 68 = .ok (.iconst (-1), 1) := by decide +kernel
theorem dL_isEdited_69 : decode cL_isEdited 69 = .ok (.iload_n 2, 1) := by decide +kernel
theorem dL_isEdited_70 : decode cL_isEdited 70 = .ok (.invokevirtual 47, 3) := by decide +kernel
theorem dL_isEdited_73 : decode cL_isEdited 73 = .ok (.iconst 1, 1) := by decide +kernel
theorem dL_isEdited_74 : decode cL_isEdited 74 = .ok (.if_icmp .ne 25, 3) := by decide +kernel
theorem dL_isEdited_77 : decode cL_isEdited 77 = .ok (.aload_n 0, 1) := by decide +kernel
theorem dL_isEdited_78 : decode cL_isEdited 78 = .ok (.iconst (-1), 1) := by decide +kernel
theorem dL_isEdited_79 : decode cL_isEdited 79 = .ok (.iload_n 2, 1) := by decide +kernel
theorem dL_isEdited_80 : decode cL_isEdited 80 = .ok (.invokestatic 83, 3) := by decide +kernel
theorem dL_isEdited_83 : decode cL_isEdited 83 = .ok (.ifCond .ne 16, 3) := by decide +kernel
theorem dL_isEdited_86 : decode cL_isEdited 86 = .ok (.aload_n 0, 1) := by decide +kernel
theorem dL_isEdited_87 : decode cL_isEdited 87 = .ok (.iconst (-1), 1) := by decide +kernel
theorem dL_isEdited_88 : decode cL_isEdited 88 = .ok (.iload_n 2, 1) := by decide +kernel
theorem dL_isEdited_89 : decode cL_isEdited 89 = .ok (.invokevirtual 53, 3) := by decide +kernel
theorem dL_isEdited_92 : decode cL_isEdited 92 = .ok (.ifCond .ne 7, 3) := by decide +kernel
theorem dL_isEdited_95 : decode cL_isEdited 95 = .ok (.iconst 1, 1) := by decide +kernel
theorem dL_isEdited_96 : decode cL_isEdited 96 = .ok (.goto 4, 3) := by decide +kernel
theorem dL_isEdited_99 : decode cL_isEdited 99 = .ok (.iconst 0, 1) := by decide +kernel
theorem dL_isEdited_100 : decode cL_isEdited 100 = .ok (.istore 9, 2) := by decide +kernel
theorem dL_isEdited_102 : decode cL_isEdited 102 = .ok (.goto 520, 3) := by decide +kernel
theorem dL_isEdited_105 : decode cL_isEdited 105 = .ok (.iload_n 3, 1) := by decide +kernel
theorem dL_isEdited_106 : decode cL_isEdited 106 = .ok (.iconst 2, 1) := by decide +kernel
theorem dL_isEdited_107 : decode cL_isEdited 107 = .ok (.if_icmp .ne 74, 3) := by decide +kernel
theorem dL_isEdited_110 : decode cL_isEdited 110 = .ok (.aload_n 0, 1) := by decide +kernel
theorem dL_isEdited_111 : decode cL_isEdited 111 = .ok (.iconst 1, 1) := by decide +kernel
theorem dL_isEdited_112 : decode cL_isEdited 112 = .ok (.iload_n 2, 1) := by decide +kernel
theorem dL_isEdited_113 : decode cL_isEdited 113 = .ok (.iload 4, 2) := by decide +kernel
theorem dL_isEdited_115 : decode cL_isEdited 115 = .ok (.bipush 6, 2) := by decide +kernel
theorem dL_isEdited_117 : decode cL_isEdited 117 = .ok (.irem, 1) := by decide +kernel
theorem dL_isEdited_118 : decode cL_isEdited 118 = .ok (.iconst 0, 1) := by decide +kernel
theorem dL_isEdited_119 : decode cL_isEdited 119 = .ok (.invokestatic 108, 3) := by decide +kernel
theorem dL_isEdited_122 : decode cL_isEdited 122 = .ok (.iload 5, 2) := by decide +kernel
theorem dL_isEdited_124 : decode cL_isEdited 124 = .ok (.if_icmp .ne 51, 3) := by decide +kernel
theorem dL_isEdited_127 : decode cL_isEdited 127 = .ok (.aload_n 0, 1) := by decide +kernel
theorem dL_isEdited_128 : decode cL_isEdited 128 = .ok (.iconst (-1), 1) := by decide +kernel
theorem dL_isEdited_129 : decode cL_isEdited 129 = .ok (.iload_n 2, 1) := by decide +kernel
theorem dL_isEdited_130 : decode cL_isEdited 130 = .ok (.invokevirtual 47, 3) := by decide +kernel
theorem dL_isEdited_133 : decode cL_isEdited 133 = .ok (.iconst 2, 1) := by decide +kernel
theorem dL_isEdited_134 : decode cL_isEdited 134 = .ok (.if_icmp .ne 41, 3) := by decide +kernel
theorem dL_isEdited_137 : decode cL_isEdited 137 = .ok (.aload_n 0, 1) := by decide +kernel
theorem dL_isEdited_138 : decode cL_isEdited 138 = .ok (.iconst (-1), 1) := by decide +kernel
theorem dL_isEdited_139 : decode cL_isEdited 139 = .ok (.iload_n 2, 1) := by decide +kernel
theorem dL_isEdited_140 : decode cL_isEdited 140 = .ok (.iconst 0, 1) := by decide +kernel
theorem dL_isEdited_141 : decode cL_isEdited 141 = .ok (.invokevirtual 50, 3) := by decide +kernel
theorem dL_isEdited_144 : decode cL_isEdited 144 = .ok (.iload 4, 2) := by decide +kernel
theorem dL_isEdited_146 : decode cL_isEdited 146 = .ok (.bipush 6, 2) := by decide +kernel
theorem dL_isEdited_148 : decode cL_isEdited 148 = .ok (.irem, 1) := by decide +kernel
theorem dL_isEdited_149 : decode cL_isEdited 149 = .ok (.if_icmp .ne 26, 3) := by decide +kernel
theorem dL_isEdited_152 : decode cL_isEdited 152 = .ok (.aload_n 0, 1) := by decide +kernel
theorem dL_isEdited_153 : decode cL_isEdited 153 = .ok (.iconst (-1), 1) := by decide +kernel
theorem dL_isEdited_154 : decode cL_isEdited 154 = .ok (.iload_n 2, 1) := by decide +kernel
theorem dL_isEdited_155 : decode cL_isEdited 155 = .ok (.invokestatic 83, 3) := by decide +kernel
theorem dL_isEdited_158 : decode cL_isEdited 158 = .ok (.iconst 1, 1) := by decide +kernel
theorem dL_isEdited_159 : decode cL_isEdited 159 = .ok (.if_icmp .ne 16, 3) := by decide +kernel
theorem dL_isEdited_162 : decode cL_isEdited 162 = .ok (.aload_n 0, 1) := by decide +kernel
theorem dL_isEdited_163 : decode cL_isEdited 163 = .ok (.iconst (-1), 1) := by decide +kernel
theorem dL_isEdited_164 : decode cL_isEdited 164 = .ok (.iload_n 2, 1) := by decide +kernel
theorem dL_isEdited_165 : decode cL_isEdited 165 = .ok (.invokevirtual 53, 3) := by decide +kernel
theorem dL_isEdited_168 : decode cL_isEdited 168 = .ok (.ifCond .ne 7, 3) := by decide +kernel
theorem dL_isEdited_171 : decode cL_isEdited 171 = .ok (.iconst 1, 1) := by decide +kernel
theorem dL_isEdited_172 : decode cL_isEdited 172 = .ok (.goto 4, 3) := by decide +kernel
theorem dL_isEdited_175 : decode cL_isEdited 175 = .ok (.iconst 0, 1) := by decide +kernel
theorem dL_isEdited_176 : decode cL_isEdited 176 = .ok (.istore 9, 2) := by decide +kernel
theorem dL_isEdited_178 : decode cL_isEdited 178 = .ok (.goto 444, 3) := by decide +kernel
theorem dL_isEdited_181 : decode cL_isEdited 181 = .ok (.iload_n 3, 1) := by decide +kernel
theorem dL_isEdited_182 : decode cL_isEdited 182 = .ok (.iconst 3, 1) := by decide +kernel
theorem dL_isEdited_183 : decode cL_isEdited 183 = .ok (.if_icmp .ne 53, 3) := by decide +kernel
theorem dL_isEdited_186 : decode cL_isEdited 186 = .ok (.aload_n 0, 1) := by decide +kernel
theorem dL_isEdited_187 : decode cL_isEdited 187 = .ok (.iconst 2, 1) := by decide +kernel
theorem dL_isEdited_188 : decode cL_isEdited 188 = .ok (.iload_n 2, 1) := by decide +kernel
theorem dL_isEdited_189 : decode cL_isEdited 189 = .ok (.iconst 0, 1) := by decide +kernel
theorem dL_isEdited_190 : decode cL_isEdited 190 = .ok (.iconst 0, 1) := by decide +kernel
theorem dL_isEdited_191 : decode cL_isEdited 191 = .ok (.invokestatic 108, 3) := by decide +kernel
theorem dL_isEdited_194 : decode cL_isEdited 194 = .ok (.iload 5, 2) := by decide +kernel
theorem dL_isEdited_196 : decode cL_isEdited 196 = .ok (.if_icmp .ne 34, 3) := by decide +kernel
theorem dL_isEdited_199 : decode cL_isEdited 199 = .ok (.aload_n 0, 1) := by decide +kernel
theorem dL_isEdited_200 : decode cL_isEdited 200 = .ok (.iconst (-1), 1) := by decide +kernel
theorem dL_isEdited_201 : decode cL_isEdited 201 = .ok (.iload_n 2, 1) := by decide +kernel
theorem dL_isEdited_202 : decode cL_isEdited 202 = .ok (.invokevirtual 47, 3) := by decide +kernel
theorem dL_isEdited_205 : decode cL_isEdited 205 = .ok (.ifCond .ne 25, 3) := by decide +kernel
theorem dL_isEdited_208 : decode cL_isEdited 208 = .ok (.aload_n 0, 1) := by decide +kernel
theorem dL_isEdited_209 : decode cL_isEdited 209 = .ok (.iconst (-1), 1) := by decide +kernel
theorem dL_isEdited_210 : decode cL_isEdited 210 = .ok (.iload_n 2, 1) := by decide +kernel
theorem dL_isEdited_211 : decode cL_isEdited 211 = .ok (.invokevirtual 53, 3) := by decide +kernel
theorem dL_isEdited_214 : decode cL_isEdited 214 = .ok (.ifCond .ne 16, 3) := by decide +kernel
theorem dL_isEdited_217 : decode cL_isEdited 217 = .ok (.aload_n 0, 1) := by decide +kernel
theorem dL_isEdited_218 : decode cL_isEdited 218 = .ok (.iconst (-1), 1) := by decide +kernel
theorem dL_isEdited_219 : decode cL_isEdited 219 = .ok (.iload_n 2, 1) := by decide +kernel
theorem dL_isEdited_220 : decode cL_isEdited 220 = .ok (.invokestatic 83, 3) := by decide +kernel
theorem dL_isEdited_223 : decode cL_isEdited 223 = .ok (.ifCond .ne 7, 3) := by decide +kernel
theorem dL_isEdited_226 : decode cL_isEdited 226 = .ok (.iconst 1, 1) := by decide +kernel
theorem dL_isEdited_227 : decode cL_isEdited 227 = .ok (.goto 4, 3) := by decide +kernel
theorem dL_isEdited_230 : decode cL_isEdited 230 = .ok (.iconst 0, 1) := by decide +kernel
theorem dL_isEdited_231 : decode cL_isEdited 231 = .ok (.istore 9, 2) := by decide +kernel
theorem dL_isEdited_233 : decode cL_isEdited 233 = .ok (.goto 389, 3) := by decide +kernel
theorem dL_isEdited_236 : decode cL_isEdited 236 = .ok (.iload_n 3, 1) := by decide +kernel
theorem dL_isEdited_237 : decode cL_isEdited 237 = .ok (.bipush 17, 2) := by decide +kernel
theorem dL_isEdited_239 : decode cL_isEdited 239 = .ok (.if_icmp .ge 179, 3) := by decide +kernel
theorem dL_isEdited_242 : decode cL_isEdited 242 = .ok (.iload 4, 2) := by decide +kernel
theorem dL_isEdited_244 : decode cL_isEdited 244 = .ok (.iload 7, 2) := by decide +kernel
theorem dL_isEdited_246 : decode cL_isEdited 246 = .ok (.iconst 1, 1) := by decide +kernel
theorem dL_isEdited_247 : decode cL_isEdited 247 = .ok (.iadd, 1) := by decide +kernel
theorem dL_isEdited_248 : decode cL_isEdited 248 = .ok (.irem, 1) := by decide +kernel
theorem dL_isEdited_249 : decode cL_isEdited 249 = .ok (.istore 10, 2) := by decide +kernel
theorem dL_isEdited_251 : decode cL_isEdited 251 = .ok (.iload 4, 2) := by decide +kernel
theorem dL_isEdited_253 : decode cL_isEdited 253 = .ok (.bipush 13, 2) := by decide +kernel
theorem dL_isEdited_255 : decode cL_isEdited 255 = .ok (.idiv, 1) := by decide +kernel
theorem dL_isEdited_256 : decode cL_isEdited 256 = .ok (.iload 4, 2) := by decide +kernel
theorem dL_isEdited_258 : decode cL_isEdited 258 = .ok (.iconst 5, 1) := by decide +kernel
theorem dL_isEdited_259 : decode cL_isEdited 259 = .ok (.irem, 1) := by decide +kernel
theorem dL_isEdited_260 : decode cL_isEdited 260 = .ok (.ifCond .ne 8, 3) := by decide +kernel
theorem dL_isEdited_263 : decode cL_isEdited 263 = .ok (.bipush 10, 2) := by decide +kernel
theorem dL_isEdited_265 : decode cL_isEdited 265 = .ok (.goto 4, 3) := by decide +kernel
theorem dL_isEdited_268 : decode cL_isEdited 268 = .ok (.iconst 3, 1) := by decide +kernel
theorem dL_isEdited_269 : decode cL_isEdited 269 = .ok (.irem, 1) := by decide +kernel
theorem dL_isEdited_270 : decode cL_isEdited 270 = .ok (.istore 11, 2) := by decide +kernel
theorem dL_isEdited_272 : decode cL_isEdited 272 = .ok (.aload_n 0, 1) := by decide +kernel
theorem dL_isEdited_273 : decode cL_isEdited 273 = .ok (.iconst 3, 1) := by decide +kernel
theorem dL_isEdited_274 : decode cL_isEdited 274 = .ok (.iload_n 2, 1) := by decide +kernel
theorem dL_isEdited_275 : decode cL_isEdited 275 = .ok (.iload 10, 2) := by decide +kernel
theorem dL_isEdited_277 : decode cL_isEdited 277 = .ok (.iload 11, 2) := by decide +kernel
theorem dL_isEdited_279 : decode cL_isEdited 279 = .ok (.invokestatic 108, 3) := by decide +kernel
theorem dL_isEdited_282 : decode cL_isEdited 282 = .ok (.istore 12, 2) := by decide +kernel
theorem dL_isEdited_284 : decode cL_isEdited 284 = .ok (.iload 5, 2) := by decide +kernel
theorem dL_isEdited_286 : decode cL_isEdited 286 = .ok (.iconst 1, 1) := by decide +kernel
theorem dL_isEdited_287 : decode cL_isEdited 287 = .ok (.if_icmp .ne 10, 3) := by decide +kernel
theorem dL_isEdited_290 : decode cL_isEdited 290 = .ok (.iload 7, 2) := by decide +kernel
theorem dL_isEdited_292 : decode cL_isEdited 292 = .ok (.bipush 12, 2) := by decide +kernel
theorem dL_isEdited_294 : decode cL_isEdited 294 = .ok (.if_icmp .ne 26, 3) := by decide +kernel
theorem dL_isEdited_297 : decode cL_isEdited 297 = .ok (.iload 12, 2) := by decide +kernel
theorem dL_isEdited_299 : decode cL_isEdited 299 = .ok (.sipush (-1163), 3) := by decide +kernel
theorem dL_isEdited_302 : decode cL_isEdited 302 = .ok (.if_icmp .ne 16, 3) := by decide +kernel
theorem dL_isEdited_305 : decode cL_isEdited 305 = .ok (.aload_n 0, 1) := by decide +kernel
theorem dL_isEdited_306 : decode cL_isEdited 306 = .ok (.aload_n 1, 1) := by decide +kernel
theorem dL_isEdited_307 : decode cL_isEdited 307 = .ok (.iconst (-1), 1) := by decide +kernel
theorem dL_isEdited_308 : decode cL_isEdited 308 = .ok (.invokestatic 115, 3) := by decide +kernel
theorem dL_isEdited_311 : decode cL_isEdited 311 = .ok (.ifCond .eq 7, 3) := by decide +kernel
theorem dL_isEdited_314 : decode cL_isEdited 314 = .ok (.iconst 1, 1) := by decide +kernel
theorem dL_isEdited_315 : decode cL_isEdited 315 = .ok (.goto 4, 3) := by decide +kernel
theorem dL_isEdited_318 : decode cL_isEdited 318 = .ok (.iconst 0, 1) := by decide +kernel
theorem dL_isEdited_319 : decode cL_isEdited 319 = .ok (.ireturn, 1) := by decide +kernel
theorem dL_isEdited_320 : decode cL_isEdited 320 = .ok (.aload_n 0, 1) := by decide +kernel
theorem dL_isEdited_321 : decode cL_isEdited 321 = .ok (.iconst (-1), 1) := by decide +kernel
theorem dL_isEdited_322 : decode cL_isEdited 322 = .ok (.iload_n 2, 1) := by decide +kernel
theorem dL_isEdited_323 : decode cL_isEdited 323 = .ok (.iload 10, 2) := by decide +kernel
theorem dL_isEdited_325 : decode cL_isEdited 325 = .ok (.invokevirtual 50, 3) := by decide +kernel
theorem dL_isEdited_328 : decode cL_isEdited 328 = .ok (.istore 13, 2) := by decide +kernel
theorem dL_isEdited_330 : decode cL_isEdited 330 = .ok (.iload 12, 2) := by decide +kernel
theorem dL_isEdited_332 : decode cL_isEdited 332 = .ok (.iload 7, 2) := by decide +kernel
theorem dL_isEdited_334 : decode cL_isEdited 334 = .ok (.iconst 1, 1) := by decide +kernel
theorem dL_isEdited_335 : decode cL_isEdited 335 = .ok (.iadd, 1) := by decide +kernel
theorem dL_isEdited_336 : decode cL_isEdited 336 = .ok (.if_icmp .ne 76, 3) := by decide +kernel
theorem dL_isEdited_339 : decode cL_isEdited 339 = .ok (.iload 13, 2) := by decide +kernel
theorem dL_isEdited_341 : decode cL_isEdited 341 = .ok (.iload 11, 2) := by decide +kernel
theorem dL_isEdited_343 : decode cL_isEdited 343 = .ok (.if_icmp .ne 69, 3) := by decide +kernel
theorem dL_isEdited_346 : decode cL_isEdited 346 = .ok (.aload_n 0, 1) := by decide +kernel
theorem dL_isEdited_347 : decode cL_isEdited 347 = .ok (.iconst (-1), 1) := by decide +kernel
theorem dL_isEdited_348 : decode cL_isEdited 348 = .ok (.iload_n 2, 1) := by decide +kernel
theorem dL_isEdited_349 : decode cL_isEdited 349 = .ok (.invokestatic 83, 3) := by decide +kernel
theorem dL_isEdited_352 : decode cL_isEdited 352 = .ok (.iload 7, 2) := by decide +kernel
theorem dL_isEdited_354 : decode cL_isEdited 354 = .ok (.iconst 1, 1) := by decide +kernel
theorem dL_isEdited_355 : decode cL_isEdited 355 = .ok (.iadd, 1) := by decide +kernel
theorem dL_isEdited_356 : decode cL_isEdited 356 = .ok (.if_icmp .ne 56, 3) := by decide +kernel
theorem dL_isEdited_359 : decode cL_isEdited 359 = .ok (.iload 10, 2) := by decide +kernel
theorem dL_isEdited_361 : decode cL_isEdited 361 = .ok (.iload 7, 2) := by decide +kernel
theorem dL_isEdited_363 : decode cL_isEdited 363 = .ok (.if_icmp .eq 45, 3) := by decide +kernel
theorem dL_isEdited_366 : decode cL_isEdited 366 = .ok (.aload_n 0, 1) := by decide +kernel
theorem dL_isEdited_367 : decode cL_isEdited 367 = .ok (.iconst 4, 1) := by decide +kernel
theorem dL_isEdited_368 : decode cL_isEdited 368 = .ok (.iload_n 2, 1) := by decide +kernel
theorem dL_isEdited_369 : decode cL_isEdited 369 = .ok (.iload 10, 2) := by decide +kernel
theorem dL_isEdited_371 : decode cL_isEdited 371 = .ok (.iconst 0, 1) := by decide +kernel
theorem dL_isEdited_372 : decode cL_isEdited 372 = .ok (.invokestatic 108, 3) := by decide +kernel
theorem dL_isEdited_375 : decode cL_isEdited 375 = .ok (.iload 11, 2) := by decide +kernel
theorem dL_isEdited_377 : decode cL_isEdited 377 = .ok (.if_icmp .ne 35, 3) := by decide +kernel
theorem dL_isEdited_380 : decode cL_isEdited 380 = .ok (.aload_n 0, 1) := by decide +kernel
theorem dL_isEdited_381 : decode cL_isEdited 381 = .ok (.iconst (-1), 1) := by decide +kernel
theorem dL_isEdited_382 : decode cL_isEdited 382 = .ok (.iload_n 2, 1) := by decide +kernel
theorem dL_isEdited_383 : decode cL_isEdited 383 = .ok (.invokestatic 63, 3) := by decide +kernel
theorem dL_isEdited_386 : decode cL_isEdited 386 = .ok (.aload_n 1, 1) := by decide +kernel
theorem dL_isEdited_387 : decode cL_isEdited 387 = .ok (.iload_n 2, 1) := by decide +kernel
theorem dL_isEdited_388 : decode cL_isEdited 388 = .ok (.laload, 1) := by decide +kernel
theorem dL_isEdited_389 : decode cL_isEdited 389 = .ok (.lcmp, 1) := by decide +kernel
theorem dL_isEdited_390 : decode cL_isEdited 390 = .ok (.ifCond .ne 22, 3) := by decide +kernel
theorem dL_isEdited_393 : decode cL_isEdited 393 = .ok (.aload_n 0, 1) := by decide +kernel
theorem dL_isEdited_394 : decode cL_isEdited 394 = .ok (.iconst 3, 1) := by decide +kernel
theorem dL_isEdited_395 : decode cL_isEdited 395 = .ok (.iload_n 2, 1) := by decide +kernel
theorem dL_isEdited_396 : decode cL_isEdited 396 = .ok (.iload 10, 2) := by decide +kernel
theorem dL_isEdited_398 : decode cL_isEdited 398 = .ok (.iload 11, 2) := by decide +kernel
theorem dL_isEdited_400 : decode cL_isEdited 400 = .ok (.invokestatic 108, 3) := by decide +kernel
theorem dL_isEdited_403 : decode cL_isEdited 403 = .ok (.iload 12, 2) := by decide +kernel
theorem dL_isEdited_405 : decode cL_isEdited 405 = .ok (.if_icmp .ne 7, 3) := by decide +kernel
theorem dL_isEdited_408 : decode cL_isEdited 408 = .ok (.iconst 1, 1) := by decide +kernel
theorem dL_isEdited_409 : decode cL_isEdited 409 = .ok (.goto 4, 3) := by decide +kernel
theorem dL_isEdited_412 : decode cL_isEdited 412 = .ok (.iconst 0, 1) := by decide +kernel
theorem dL_isEdited_413 : decode cL_isEdited 413 = .ok (.istore 9, 2) := by decide +kernel
theorem dL_isEdited_415 : decode cL_isEdited 415 = .ok (.goto 207, 3) := by decide +kernel
theorem dL_isEdited_418 : decode cL_isEdited 418 = .ok (.iload_n 3, 1) := by decide +kernel
theorem dL_isEdited_419 : decode cL_isEdited 419 = .ok (.bipush 21, 2) := by decide +kernel
theorem dL_isEdited_421 : decode cL_isEdited 421 = .ok (.if_icmp .ge 131, 3) := by decide +kernel
theorem dL_isEdited_424 : decode cL_isEdited 424 = .ok (.iload 7, 2) := by decide +kernel
theorem dL_isEdited_426 : decode cL_isEdited 426 = .ok (.ifCond .ne 7, 3) := by decide +kernel
theorem dL_isEdited_429 : decode cL_isEdited 429 = .ok (.iconst 0, 1) := by decide +kernel
theorem dL_isEdited_430 : decode cL_isEdited 430 = .ok (.goto 8, 3) := by decide +kernel
theorem dL_isEdited_433 : decode cL_isEdited 433 = .ok (.iload 4, 2) := by decide +kernel
theorem dL_isEdited_435 : decode cL_isEdited 435 = .ok (.iload 7, 2) := by decide +kernel
theorem dL_isEdited_437 : decode cL_isEdited 437 = .ok (.irem, 1) := by decide +kernel
theorem dL_isEdited_438 : decode cL_isEdited 438 = .ok (.istore 10, 2) := by decide +kernel
theorem dL_isEdited_440 : decode cL_isEdited 440 = .ok (.iload 5, 2) := by decide +kernel
theorem dL_isEdited_442 : decode cL_isEdited 442 = .ok (.iconst 1, 1) := by decide +kernel
theorem dL_isEdited_443 : decode cL_isEdited 443 = .ok (.if_icmp .ne 19, 3) := by decide +kernel
theorem dL_isEdited_446 : decode cL_isEdited 446 = .ok (.iload 7, 2) := by decide +kernel
theorem dL_isEdited_448 : decode cL_isEdited 448 = .ok (.ifCond .le 14, 3) := by decide +kernel
theorem dL_isEdited_451 : decode cL_isEdited 451 = .ok (.aload_n 0, 1) := by decide +kernel
theorem dL_isEdited_452 : decode cL_isEdited 452 = .ok (.iconst (-1), 1) := by decide +kernel
theorem dL_isEdited_453 : decode cL_isEdited 453 = .ok (.iload_n 2, 1) := by decide +kernel
theorem dL_isEdited_454 : decode cL_isEdited 454 = .ok (.iload 10, 2) := by decide +kernel
theorem dL_isEdited_456 : decode cL_isEdited 456 = .ok (.invokevirtual 50, 3) := by decide +kernel
theorem dL_isEdited_459 : decode cL_isEdited 459 = .ok (.goto 4, 3) := by decide +kernel
theorem dL_isEdited_462 : decode cL_isEdited 462 = .ok (.iconst (-1), 1) := by decide +kernel
theorem dL_isEdited_463 : decode cL_isEdited 463 = .ok (.istore 11, 2) := by decide +kernel
theorem dL_isEdited_465 : decode cL_isEdited 465 = .ok (.aload_n 0, 1) := by decide +kernel
theorem dL_isEdited_466 : decode cL_isEdited 466 = .ok (.iconst 4, 1) := by decide +kernel
theorem dL_isEdited_467 : decode cL_isEdited 467 = .ok (.iload_n 2, 1) := by decide +kernel
theorem dL_isEdited_468 : decode cL_isEdited 468 = .ok (.iload 10, 2) := by decide +kernel
theorem dL_isEdited_470 : decode cL_isEdited 470 = .ok (.iconst 0, 1) := by decide +kernel
theorem dL_isEdited_471 : decode cL_isEdited 471 = .ok (.invokestatic 108, 3) := by decide +kernel
theorem dL_isEdited_474 : decode cL_isEdited 474 = .ok (.istore 12, 2) := by decide +kernel
theorem dL_isEdited_476 : decode cL_isEdited 476 = .ok (.iload 5, 2) := by decide +kernel
theorem dL_isEdited_478 : decode cL_isEdited 478 = .ok (.iconst 1, 1) := by decide +kernel
theorem dL_isEdited_479 : decode cL_isEdited 479 = .ok (.if_icmp .ne 8, 3) := by decide +kernel
theorem dL_isEdited_482 : decode cL_isEdited 482 = .ok (.iload 7, 2) := by decide +kernel
theorem dL_isEdited_484 : decode cL_isEdited 484 = .ok (.ifCond .ne 38, 3) := by decide +kernel
theorem dL_isEdited_487 : decode cL_isEdited 487 = .ok (.iload 12, 2) := by decide +kernel
theorem dL_isEdited_489 : decode cL_isEdited 489 = .ok (.iload 5, 2) := by decide +kernel
theorem dL_isEdited_491 : decode cL_isEdited 491 = .ok (.iconst 1, 1) := by decide +kernel
theorem dL_isEdited_492 : decode cL_isEdited 492 = .ok (.if_icmp .eq 9, 3) := by decide +kernel
theorem dL_isEdited_495 : decode cL_isEdited 495 = .ok (.sipush (-1163), 3) := by decide +kernel
theorem dL_isEdited_498 : decode cL_isEdited 498 = .ok (.goto 6, 3) := by decide +kernel
theorem dL_isEdited_501 : decode cL_isEdited 501 = .ok (.sipush (-1162), 3) := by decide +kernel
theorem dL_isEdited_504 : decode cL_isEdited 504 = .ok (.if_icmp .ne 16, 3) := by decide +kernel
theorem dL_isEdited_507 : decode cL_isEdited 507 = .ok (.aload_n 0, 1) := by decide +kernel
theorem dL_isEdited_508 : decode cL_isEdited 508 = .ok (.aload_n 1, 1) := by decide +kernel
theorem dL_isEdited_509 : decode cL_isEdited 509 = .ok (.iconst (-1), 1) := by decide +kernel
theorem dL_isEdited_510 : decode cL_isEdited 510 = .ok (.invokestatic 115, 3) := by decide +kernel
theorem dL_isEdited_513 : decode cL_isEdited 513 = .ok (.ifCond .eq 7, 3) := by decide +kernel
theorem dL_isEdited_516 : decode cL_isEdited 516 = .ok (.iconst 1, 1) := by decide +kernel
theorem dL_isEdited_517 : decode cL_isEdited 517 = .ok (.goto 4, 3) := by decide +kernel
theorem dL_isEdited_520 : decode cL_isEdited 520 = .ok (.iconst 0, 1) := by decide +kernel
theorem dL_isEdited_521 : decode cL_isEdited 521 = .ok (.ireturn, 1) := by decide +kernel
theorem dL_isEdited_522 : decode cL_isEdited 522 = .ok (.iload 12, 2) := by decide +kernel
theorem dL_isEdited_524 : decode cL_isEdited 524 = .ok (.iload 11, 2) := by decide +kernel
theorem dL_isEdited_526 : decode cL_isEdited 526 = .ok (.if_icmp .ne 20, 3) := by decide +kernel
theorem dL_isEdited_529 : decode cL_isEdited 529 = .ok (.aload_n 0, 1) := by decide +kernel
theorem dL_isEdited_530 : decode cL_isEdited 530 = .ok (.iconst (-1), 1) := by decide +kernel
theorem dL_isEdited_531 : decode cL_isEdited 531 = .ok (.iload_n 2, 1) := by decide +kernel
theorem dL_isEdited_532 : decode cL_isEdited 532 = .ok (.invokestatic 83, 3) := by decide +kernel
theorem dL_isEdited_535 : decode cL_isEdited 535 = .ok (.iload 7, 2) := by decide +kernel
theorem dL_isEdited_537 : decode cL_isEdited 537 = .ok (.iconst 1, 1) := by decide +kernel
theorem dL_isEdited_538 : decode cL_isEdited 538 = .ok (.isub, 1) := by decide +kernel
theorem dL_isEdited_539 : decode cL_isEdited 539 = .ok (.if_icmp .ne 7, 3) := by decide +kernel
theorem dL_isEdited_542 : decode cL_isEdited 542 = .ok (.iconst 1, 1) := by decide +kernel
theorem dL_isEdited_543 : decode cL_isEdited 543 = .ok (.goto 4, 3) := by decide +kernel
theorem dL_isEdited_546 : decode cL_isEdited 546 = .ok (.iconst 0, 1) := by decide +kernel
theorem dL_isEdited_547 : decode cL_isEdited 547 = .ok (.istore 9, 2) := by decide +kernel
theorem dL_isEdited_549 : decode cL_isEdited 549 = .ok (.goto 73, 3) := by decide +kernel
theorem dL_isEdited_552 : decode cL_isEdited 552 = .ok (.aload_n 0, 1) := by decide +kernel
theorem dL_isEdited_553 : decode cL_isEdited 553 = .ok (.iconst 5, 1) := by decide +kernel
theorem dL_isEdited_554 : decode cL_isEdited 554 = .ok (.iload_n 2, 1) := by decide +kernel
theorem dL_isEdited_555 : decode cL_isEdited 555 = .ok (.iload 4, 2) := by decide +kernel
theorem dL_isEdited_557 : decode cL_isEdited 557 = .ok (.bipush 8, 2) := by decide +kernel
theorem dL_isEdited_559 : decode cL_isEdited 559 = .ok (.irem, 1) := by decide +kernel
theorem dL_isEdited_560 : decode cL_isEdited 560 = .ok (.iconst 0, 1) := by decide +kernel
theorem dL_isEdited_561 : decode cL_isEdited 561 = .ok (.invokestatic 108, 3) := by decide +kernel
theorem dL_isEdited_564 : decode cL_isEdited 564 = .ok (.iload 5, 2) := by decide +kernel
theorem dL_isEdited_566 : decode cL_isEdited 566 = .ok (.ifCond .ne 9, 3) := by decide +kernel
theorem dL_isEdited_569 : decode cL_isEdited 569 = .ok (.sipush (-1163), 3) := by decide +kernel
theorem dL_isEdited_572 : decode cL_isEdited 572 = .ok (.goto 5, 3) := by decide +kernel
theorem dL_isEdited_575 : decode cL_isEdited 575 = .ok (.iload 6, 2) := by decide +kernel
theorem dL_isEdited_577 : decode cL_isEdited 577 = .ok (.if_icmp .ne 42, 3) := by decide +kernel
theorem dL_isEdited_580 : decode cL_isEdited 580 = .ok (.iload 5, 2) := by decide +kernel
theorem dL_isEdited_582 : decode cL_isEdited 582 = .ok (.ifCond .eq 33, 3) := by decide +kernel
theorem dL_isEdited_585 : decode cL_isEdited 585 = .ok (.aload_n 0, 1) := by decide +kernel
theorem dL_isEdited_586 : decode cL_isEdited 586 = .ok (.iconst (-1), 1) := by decide +kernel
theorem dL_isEdited_587 : decode cL_isEdited 587 = .ok (.iload_n 2, 1) := by decide +kernel
theorem dL_isEdited_588 : decode cL_isEdited 588 = .ok (.invokevirtual 53, 3) := by decide +kernel
theorem dL_isEdited_591 : decode cL_isEdited 591 = .ok (.iload 4, 2) := by decide +kernel
theorem dL_isEdited_593 : decode cL_isEdited 593 = .ok (.bipush 8, 2) := by decide +kernel
theorem dL_isEdited_595 : decode cL_isEdited 595 = .ok (.irem, 1) := by decide +kernel
theorem dL_isEdited_596 : decode cL_isEdited 596 = .ok (.if_icmp .ne 23, 3) := by decide +kernel
theorem dL_isEdited_599 : decode cL_isEdited 599 = .ok (.aload_n 0, 1) := by decide +kernel
theorem dL_isEdited_600 : decode cL_isEdited 600 = .ok (.iconst (-1), 1) := by decide +kernel
theorem dL_isEdited_601 : decode cL_isEdited 601 = .ok (.iload_n 2, 1) := by decide +kernel
theorem dL_isEdited_602 : decode cL_isEdited 602 = .ok (.iload 4, 2) := by decide +kernel
theorem dL_isEdited_604 : decode cL_isEdited 604 = .ok (.bipush 12, 2) := by decide +kernel
theorem dL_isEdited_606 : decode cL_isEdited 606 = .ok (.irem, 1) := by decide +kernel
theorem dL_isEdited_607 : decode cL_isEdited 607 = .ok (.invokevirtual 50, 3) := by decide +kernel
theorem dL_isEdited_610 : decode cL_isEdited 610 = .ok (.iload 8, 2) := by decide +kernel
theorem dL_isEdited_612 : decode cL_isEdited 612 = .ok (.if_icmp .ne 7, 3) := by decide +kernel
theorem dL_isEdited_615 : decode cL_isEdited 615 = .ok (.iconst 1, 1) := by decide +kernel
theorem dL_isEdited_616 : decode cL_isEdited 616 = .ok (.goto 4, 3) := by decide +kernel
theorem dL_isEdited_619 : decode cL_isEdited 619 = .ok (.iconst 0, 1) := by decide +kernel
theorem dL_isEdited_620 : decode cL_isEdited 620 = .ok (.istore 9, 2) := by decide +kernel
theorem dL_isEdited_622 : decode cL_isEdited 622 = .ok (.iload 9, 2) := by decide +kernel
theorem dL_isEdited_624 : decode cL_isEdited 624 = .ok (.ifCond .eq 16, 3) := by decide +kernel
theorem dL_isEdited_627 : decode cL_isEdited 627 = .ok (.aload_n 0, 1) := by decide +kernel
theorem dL_isEdited_628 : decode cL_isEdited 628 = .ok (.aload_n 1, 1) := by decide +kernel
theorem dL_isEdited_629 : decode cL_isEdited 629 = .ok (.iload_n 2, 1) := by decide +kernel
theorem dL_isEdited_630 : decode cL_isEdited 630 = .ok (.invokestatic 115, 3) := by decide +kernel
theorem dL_isEdited_633 : decode cL_isEdited 633 = .ok (.ifCond .eq 7, 3) := by decide +kernel
theorem dL_isEdited_636 : decode cL_isEdited 636 = .ok (.iconst 1, 1) := by decide +kernel
theorem dL_isEdited_637 : decode cL_isEdited 637 = .ok (.goto 4, 3) := by decide +kernel
theorem dL_isEdited_640 : decode cL_isEdited 640 = .ok (.iconst 0, 1) := by decide +kernel
theorem dL_isEdited_641 : decode cL_isEdited 641 = .ok (.ireturn, 1) := by decide +kernel
set_option maxRecDepth 20000 in
theorem ggL_isRun_X1_needs : GoodIn wsL_isRun wsX1_needs := goodIn_r _ [5, 6, 7, 8, 4, 9, 10, 11, 12, 13, 14, 15, 16, 17, 18, 19, 20, 21, 22, 23, 24, 25, 26, 27, 28, 156, 157, 158, 159, 160, 161, 162, 163, 164] (by decide +kernel) (by decide +kernel)
set_option maxRecDepth 20000 in
theorem gL_isRun_X1_needs : GoodIn wsL_isRun (wsV RL 80 RX1 yX1_needs wsX1_needs) := goodIn_app (goodIn_of _ (by decide +kernel)) ggL_isRun_X1_needs
set_option maxRecDepth 20000 in
theorem ggL_isRun_X1_size : GoodIn wsL_isRun wsX1_size := goodIn_r _ [32, 33, 12, 34, 35, 36, 4, 37, 11, 38, 39, 40, 13, 14, 15, 16, 17, 18, 19, 20, 21, 22, 23, 24, 25, 26, 27, 28, 41, 42, 43, 44, 45, 46, 47, 48, 49, 50, 156, 157, 158, 159, 160, 161, 162, 163, 164] (by decide +kernel) (by decide +kernel)
set_option maxRecDepth 20000 in
theorem gL_isRun_X1_size : GoodIn wsL_isRun (wsV RL 91 RX1 yX1_size wsX1_size) := goodIn_app (goodIn_of _ (by decide +kernel)) ggL_isRun_X1_size
set_option maxRecDepth 20000 in
theorem ggL_isRun_L_act : GoodIn wsL_isRun wsL_act := goodIn_ca (goodIn_ca (goodIn_ca (goodIn_r _ [54, 55, 56, 57, 58, 59, 60, 4, 61, 62, 63, 19, 64, 65, 66, 67, 68, 69, 70, 71, 72, 73, 74, 75, 21, 22, 23, 76, 77, 78, 79, 10, 39, 80, 81, 82, 83, 84, 85, 86, 87, 88, 89, 90, 91, 92, 93, 94, 95, 40, 38, 96, 97, 98, 99, 100, 101, 102, 103, 104, 105, 106, 107, 108, 109, 110, 111, 112, 113, 12, 114, 115, 11, 116, 117, 118, 119, 6, 7, 8, 9, 13, 14, 15, 16, 17, 18, 20, 24, 25, 26, 27, 28, 120, 121, 122, 123, 33, 124, 125, 126, 127, 128, 129, 130, 131, 162, 163, 164, 156, 157, 158, 159, 160, 161] (by decide +kernel) (by decide +kernel)) (goodIn_sub (fun _ h => List.mem_cons_of_mem _ (List.mem_append_left _ (List.mem_append_left _ (List.mem_append_right _ h)))) (by decide +kernel))) (goodIn_sub (fun _ h => List.mem_cons_of_mem _ (List.mem_append_left _ (List.mem_append_right _ h))) (by decide +kernel))) (goodIn_sub (fun _ h => List.mem_cons_of_mem _ (List.mem_append_right _ h)) (by decide +kernel))
set_option maxRecDepth 20000 in
theorem gL_isRun_L_act : GoodIn wsL_isRun (va_wsS RL 108 yL_act wsL_act) := goodIn_app (goodIn_of _ (by decide +kernel)) ggL_isRun_L_act
set_option maxRecDepth 20000 in
theorem ggL_isRun_L_isOnly : GoodIn wsL_isRun wsL_isOnly := goodIn_ca (goodIn_r _ [134, 135, 136, 53, 137, 138, 139, 140, 141, 142, 4, 143, 39, 144, 145, 146, 147, 10, 11, 128, 129, 130, 131, 68, 69, 33, 12, 65, 66, 67, 13, 14, 15, 148, 149, 150, 151, 38, 152, 153, 154, 155, 40, 162, 163, 164, 156, 157, 158, 159, 160, 161] (by decide +kernel) (by decide +kernel)) (goodIn_sub (fun _ h => List.mem_cons_of_mem _ (List.mem_append_left _ (List.mem_append_left _ (List.mem_append_right _ h)))) (by decide +kernel))
set_option maxRecDepth 20000 in
theorem gL_isRun_L_isOnly : GoodIn wsL_isRun (va_wsS RL 115 yL_isOnly wsL_isOnly) := goodIn_app (goodIn_of _ (by decide +kernel)) ggL_isRun_L_isOnly
theorem dL_isRun_0 : decode cL_isRun 0 = .ok (.aload_n 0, 1) := by decide +kernel
theorem dL_isRun_1 : decode cL_isRun 1 = .ok (.invokevirtual 80, 3) := by decide +kernel
theorem dL_isRun_4 : decode cL_isRun 4 = .ok (.istore 5, 2) := by decide +kernel
theorem dL_isRun_6 : decode cL_isRun 6 = .ok (.aload_n 0, 1) := by decide +kernel
theorem dL_isRun_7 : decode cL_isRun 7 = .ok (.invokevirtual 91, 3) := by decide +kernel
theorem dL_isRun_10 : decode cL_isRun 10 = .ok (.istore 6, 2) := by decide +kernel
theorem dL_isRun_12 : decode cL_isRun 12 = .ok (.iload 4, 2) := by decide +kernel
theorem dL_isRun_14 : decode cL_isRun 14 = .ok (.iload 5, 2) := by decide +kernel
theorem dL_isRun_16 : decode cL_isRun 16 = .ok (.if_icmp .lt 7, 3) := by decide +kernel
theorem dL_isRun_19 : decode cL_isRun 19 = .ok (.iconst 1, 1) := by decide +kernel
theorem dL_isRun_20 : decode cL_isRun 20 = .ok (.goto 4, 3) := by decide +kernel
theorem dL_isRun_23 : decode cL_isRun 23 = .ok (.iconst 0, 1) := by decide +kernel
theorem dL_isRun_24 : decode cL_isRun 24 = .ok (.istore 7, 2) := by decide +kernel
theorem dL_isRun_26 : decode cL_isRun 26 = .ok (.aload_n 0, 1) := by decide +kernel
theorem dL_isRun_27 : decode cL_isRun 27 = .ok (.bipush 6, 2) := by decide +kernel
theorem dL_isRun_29 : decode cL_isRun 29 = .ok (.iload 4, 2) := by decide +kernel
theorem dL_isRun_31 : decode cL_isRun 31 = .ok (.iconst 0, 1) := by decide +kernel
theorem dL_isRun_32 : decode cL_isRun 32 = .ok (.iconst 0, 1) := by decide +kernel
theorem dL_isRun_33 : decode cL_isRun 33 = .ok (.invokestatic 108, 3) := by decide +kernel
theorem dL_isRun_36 : decode cL_isRun 36 = .ok (.istore 8, 2) := by decide +kernel
theorem dL_isRun_38 : decode cL_isRun 38 = .ok (.aload_n 3, 1) := by decide +kernel
theorem dL_isRun_39 : decode cL_isRun 39 = .ok (.iconst 2, 1) := by decide +kernel
theorem dL_isRun_40 : decode cL_isRun 40 = .ok (.iload 7, 2) := by decide +kernel
theorem dL_isRun_42 : decode cL_isRun 42 = .ok (.ifCond .eq 7, 3) := by decide +kernel
theorem dL_isRun_45 : decode cL_isRun 45 = .ok (.iconst (-1), 1) := by decide +kernel
theorem dL_isRun_46 : decode cL_isRun 46 = .ok (.goto 5, 3) := by decide +kernel
theorem dL_isRun_49 : decode cL_isRun 49 = .ok (.iload 4, 2) := by decide +kernel
theorem dL_isRun_51 : decode cL_isRun 51 = .ok (.iastore, 1) := by decide +kernel
theorem dL_isRun_52 : decode cL_isRun 52 = .ok (.aload_n 3, 1) := by decide +kernel
theorem dL_isRun_53 : decode cL_isRun 53 = .ok (.iconst 0, 1) := by decide +kernel
theorem dL_isRun_54 : decode cL_isRun 54 = .ok (.dup2, 1) := by decide +kernel
theorem dL_isRun_55 : decode cL_isRun 55 = .ok (.iaload, 1) := by decide +kernel
theorem dL_isRun_56 : decode cL_isRun 56 = .ok (.iload 7, 2) := by decide +kernel
theorem dL_isRun_58 : decode cL_isRun 58 = .ok (.ifCond .eq 7, 3) := by decide +kernel
theorem dL_isRun_61 : decode cL_isRun 61 = .ok (.iconst 1, 1) := by decide +kernel
theorem dL_isRun_62 : decode cL_isRun 62 = .ok (.goto 4, 3) := by decide +kernel
theorem dL_isRun_65 : decode cL_isRun 65 = .ok (.iconst 0, 1) := by decide +kernel
theorem dL_isRun_66 : decode cL_isRun 66 = .ok (.iadd, 1) := by decide +kernel
theorem dL_isRun_67 : decode cL_isRun 67 = .ok (.iastore, 1) := by decide +kernel
theorem dL_isRun_68 : decode cL_isRun 68 = .ok (.iconst 0, 1) := by decide +kernel
theorem dL_isRun_69 : decode cL_isRun 69 = .ok (.istore 9, 2) := by decide +kernel
theorem dL_isRun_71 : decode cL_isRun 71 = .ok (.iload 9, 2) := by decide +kernel
theorem dL_isRun_73 : decode cL_isRun 73 = .ok (.bipush 6, 2) := by decide +kernel
theorem dL_isRun_75 : decode cL_isRun 75 = .ok (.if_icmp .ge 32, 3) := by decide +kernel
theorem dL_isRun_78 : decode cL_isRun 78 = .ok (.iload 7, 2) := by decide +kernel
theorem dL_isRun_80 : decode cL_isRun 80 = .ok (.ifCond .eq 27, 3) := by decide +kernel
theorem dL_isRun_83 : decode cL_isRun 83 = .ok (.aload_n 1, 1) := by decide +kernel
theorem dL_isRun_84 : decode cL_isRun 84 = .ok (.bipush 6, 2) := by decide +kernel
theorem dL_isRun_86 : decode cL_isRun 86 = .ok (.aload_n 3, 1) := by decide +kernel
theorem dL_isRun_87 : decode cL_isRun 87 = .ok (.iconst 0, 1) := by decide +kernel
theorem dL_isRun_88 : decode cL_isRun 88 = .ok (.iaload, 1) := by decide +kernel
theorem dL_isRun_89 : decode cL_isRun 89 = .ok (.bipush 10, 2) := by decide +kernel
theorem dL_isRun_91 : decode cL_isRun 91 = .ok (.irem, 1) := by decide +kernel
theorem dL_isRun_92 : decode cL_isRun 92 = .ok (.imul, 1) := by decide +kernel
theorem dL_isRun_93 : decode cL_isRun 93 = .ok (.iload 9, 2) := by decide +kernel
theorem dL_isRun_95 : decode cL_isRun 95 = .ok (.iadd, 1) := by decide +kernel
theorem dL_isRun_96 : decode cL_isRun 96 = .ok (.aload_n 2, 1) := by decide +kernel
theorem dL_isRun_97 : decode cL_isRun 97 = .ok (.iload 9, 2) := by decide +kernel
theorem dL_isRun_99 : decode cL_isRun 99 = .ok (.laload, 1) := by decide +kernel
theorem dL_isRun_100 : decode cL_isRun 100 = .ok (.lastore, 1) := by decide +kernel
theorem dL_isRun_101 : decode cL_isRun 101 = .ok (.iinc 9 1, 3) := by decide +kernel
theorem dL_isRun_104 : decode cL_isRun 104 = .ok (.goto (-33), 3) := by decide +kernel
theorem dL_isRun_107 : decode cL_isRun 107 = .ok (.iload 8, 2) := by decide +kernel
theorem dL_isRun_109 : decode cL_isRun 109 = .ok (.iload 7, 2) := by decide +kernel
theorem dL_isRun_111 : decode cL_isRun 111 = .ok (.ifCond .eq 9, 3) := by decide +kernel
theorem dL_isRun_114 : decode cL_isRun 114 = .ok (.aload_n 3, 1) := by decide +kernel
theorem dL_isRun_115 : decode cL_isRun 115 = .ok (.iconst 0, 1) := by decide +kernel
theorem dL_isRun_116 : decode cL_isRun 116 = .ok (.iaload, 1) := by decide +kernel
theorem dL_isRun_117 : decode cL_isRun 117 = .ok (.goto 4, 3) := by decide +kernel
theorem dL_isRun_120 : decode cL_isRun 120 = .ok (.iconst (-1), 1) := by decide +kernel
theorem dL_isRun_121 : decode cL_isRun 121 = .ok (.if_icmp .ne 72, 3) := by decide +kernel
theorem dL_isRun_124 : decode cL_isRun 124 = .ok (.aload_n 0, 1) := by decide +kernel
theorem dL_isRun_125 : decode cL_isRun 125 = .ok (.aload_n 2, 1) := by decide +kernel
theorem dL_isRun_126 : decode cL_isRun 126 = .ok (.iconst (-1), 1) := by decide +kernel
theorem dL_isRun_127 : decode cL_isRun 127 = .ok (.invokestatic 115, 3) := by decide +kernel
theorem dL_isRun_130 : decode cL_isRun 130 = .ok (.ifCond .eq 63, 3) := by decide +kernel
theorem dL_isRun_133 : decode cL_isRun 133 = .ok (.iload 7, 2) := by decide +kernel
theorem dL_isRun_135 : decode cL_isRun 135 = .ok (.ifCond .eq 36, 3) := by decide +kernel
theorem dL_isRun_138 : decode cL_isRun 138 = .ok (.aload_n 0, 1) := by decide +kernel
theorem dL_isRun_139 : decode cL_isRun 139 = .ok (.invokevirtual 80, 3) := by decide +kernel
theorem dL_isRun_142 : decode cL_isRun 142 = .ok (.ifCond .ne 51, 3) := by decide +kernel
theorem dL_isRun_145 : decode cL_isRun 145 = .ok (.aload_n 0, 1) := by decide +kernel
theorem dL_isRun_146 : decode cL_isRun 146 = .ok (.invokevirtual 91, 3) := by decide +kernel
theorem dL_isRun_149 : decode cL_isRun 149 = .ok (.iload 6, 2) := by decide +kernel
theorem dL_isRun_151 : decode cL_isRun 151 = .ok (.if_icmp .lt 42, 3) := by decide +kernel
theorem dL_isRun_154 : decode cL_isRun 154 = .ok (.iload 5, 2) := by decide +kernel
theorem dL_isRun_156 : decode cL_isRun 156 = .ok (.ifCond .gt 33, 3) := by decide +kernel
theorem dL_isRun_159 : decode cL_isRun 159 = .ok (.aload_n 0, 1) := by decide +kernel
theorem dL_isRun_160 : decode cL_isRun 160 = .ok (.invokevirtual 91, 3) := by decide +kernel
theorem dL_isRun_163 : decode cL_isRun 163 = .ok (.iload 6, 2) := by decide +kernel
theorem dL_isRun_165 : decode cL_isRun 165 = .ok (.if_icmp .ne 28, 3) := by decide +kernel
theorem dL_isRun_168 : decode cL_isRun 168 = .ok (.goto 21, 3) := by decide +kernel
theorem dL_isRun_171 : decode cL_isRun 171 = .ok (.aload_n 0, 1) := by decide +kernel
theorem dL_isRun_172 : decode cL_isRun 172 = .ok (.invokevirtual 80, 3) := by decide +kernel
theorem dL_isRun_175 : decode cL_isRun 175 = .ok (.iload 5, 2) := by decide +kernel
theorem dL_isRun_177 : decode cL_isRun 177 = .ok (.if_icmp .ne 16, 3) := by decide +kernel
theorem dL_isRun_180 : decode cL_isRun 180 = .ok (.aload_n 0, 1) := by decide +kernel
theorem dL_isRun_181 : decode cL_isRun 181 = .ok (.invokevirtual 91, 3) := by decide +kernel
theorem dL_isRun_184 : decode cL_isRun 184 = .ok (.iload 6, 2) := by decide +kernel
theorem dL_isRun_186 : decode cL_isRun 186 = .ok (.if_icmp .ne 7, 3) := by decide +kernel
theorem dL_isRun_189 : decode cL_isRun 189 = .ok (.iconst 1, 1) := by decide +kernel
theorem dL_isRun_190 : decode cL_isRun 190 = .ok (.goto 4, 3) := by decide +kernel
theorem dL_isRun_193 : decode cL_isRun 193 = .ok (.iconst 0, 1) := by decide +kernel
theorem dL_isRun_194 : decode cL_isRun 194 = .ok (.ireturn, 1) := by decide +kernel
set_option maxRecDepth 20000 in
theorem ggL_law_X1_init : GoodIn wsL_law wsX1_init := goodIn_r _ [7, 8, 9, 10, 11, 12, 13, 4, 14, 15, 16, 17, 18, 19, 20, 21, 22, 23, 24, 25, 26, 231, 232, 233, 225, 226, 227, 228, 229, 230] (by decide +kernel) (by decide +kernel)
set_option maxRecDepth 20000 in
theorem gL_law_X1_init : GoodIn wsL_law (wsX1_init) := ggL_law_X1_init
set_option maxRecDepth 20000 in
theorem ggL_law_L_takes : GoodIn wsL_law wsL_takes := goodIn_ca (goodIn_r _ [30, 31, 32, 29, 33, 34, 35, 36, 37, 38, 2, 39, 40, 41, 42, 43, 44, 14, 15, 45, 46, 47, 48, 49, 50, 16, 17, 51, 52, 53, 54, 55, 56, 57, 58, 59, 60, 61, 62, 63, 64, 65, 66, 231, 232, 233, 225, 226, 227, 228, 229, 230] (by decide +kernel) (by decide +kernel)) (goodIn_sub (fun _ h => List.mem_append_left _ (List.mem_append_left _ (List.mem_append_right _ h))) (by decide +kernel))
set_option maxRecDepth 20000 in
theorem gL_law_L_takes : GoodIn wsL_law (va_wsS RL 120 yL_takes wsL_takes) := goodIn_app (goodIn_of _ (by decide +kernel)) ggL_law_L_takes
set_option maxRecDepth 20000 in
theorem ggL_law_L_isRefused : GoodIn wsL_law wsL_isRefused := goodIn_ca (goodIn_ca (goodIn_ca (goodIn_r _ [69, 70, 71, 29, 72, 73, 74, 75, 76, 77, 78, 79, 80, 2, 81, 17, 82, 83, 84, 85, 16, 86, 87, 88, 89, 90, 91, 92, 93, 14, 15, 54, 55, 56, 94, 95, 96, 13, 97, 24, 25, 26, 98, 99, 100, 101, 102, 103, 104, 105, 106, 107, 108, 109, 110, 61, 40, 66, 111, 112, 113, 114, 115, 116, 117, 118, 119, 120, 121, 122, 123, 124, 18, 31, 32, 33, 34, 35, 36, 37, 38, 39, 41, 42, 43, 44, 45, 46, 47, 48, 49, 50, 51, 52, 53, 57, 58, 59, 60, 62, 63, 64, 65, 125, 126, 127, 128, 129, 130, 131, 132, 133, 134, 11, 12, 4, 20, 21, 22, 23, 9, 10, 135, 136, 137, 138, 139, 140, 141, 142, 143, 144, 145, 146, 147, 148, 149, 150, 151, 152, 153, 154, 155, 156, 157, 158, 159, 160, 161, 162, 163, 164, 165, 166, 167, 168, 169, 170, 171, 172, 19, 173, 174, 175, 176, 177, 178, 179, 180, 181, 182, 183, 184, 185, 186, 187, 188, 189, 190, 191, 192, 193, 194, 225, 226, 227, 228, 229, 230, 231, 232, 233] (by decide +kernel) (by decide +kernel)) (goodIn_sub (fun _ h => List.mem_append_left _ (List.mem_append_left _ (List.mem_append_right _ h))) (by decide +kernel))) (goodIn_sub (fun _ h => List.mem_append_left _ (List.mem_append_right _ h)) (by decide +kernel))) (goodIn_sub (fun _ h => List.mem_append_right _ h) (by decide +kernel))
set_option maxRecDepth 20000 in
theorem gL_law_L_isRefused : GoodIn wsL_law (va_wsS RL 124 yL_isRefused wsL_isRefused) := goodIn_app (goodIn_of _ (by decide +kernel)) ggL_law_L_isRefused
set_option maxRecDepth 20000 in
theorem ggL_law_X1_mend : GoodIn wsL_law wsX1_mend := goodIn_r _ [198, 173, 174, 175, 2, 176, 19, 18, 225, 226, 227, 228, 229, 230] (by decide +kernel) (by decide +kernel)
set_option maxRecDepth 20000 in
theorem gL_law_X1_mend : GoodIn wsL_law (wsV RL 128 RX1 yX1_mend wsX1_mend) := goodIn_app (goodIn_of _ (by decide +kernel)) ggL_law_X1_mend
set_option maxRecDepth 20000 in
theorem ggL_law_L_dice : GoodIn wsL_law wsL_dice := goodIn_r _ [201, 202, 203] (by decide +kernel) (by decide +kernel)
set_option maxRecDepth 20000 in
theorem gL_law_L_dice : GoodIn wsL_law (va_wsS RL 131 yL_dice wsL_dice) := goodIn_app (goodIn_of _ (by decide +kernel)) ggL_law_L_dice
set_option maxRecDepth 20000 in
theorem ggL_law_L_isEdited : GoodIn wsL_law wsL_isEdited := goodIn_ca (goodIn_ca (goodIn_ca (goodIn_r _ [206, 36, 37, 38, 2, 39, 40, 41, 42, 43, 44, 14, 15, 45, 46, 47, 48, 49, 50, 16, 17, 51, 52, 53, 54, 55, 56, 57, 58, 59, 60, 61, 192, 193, 29, 194, 62, 63, 64, 65, 66, 125, 126, 127, 128, 129, 130, 131, 132, 133, 134, 11, 12, 13, 4, 20, 21, 22, 23, 9, 10, 24, 25, 26, 135, 136, 137, 138, 139, 140, 141, 142, 143, 144, 145, 146, 147, 148, 149, 150, 151, 152, 153, 154, 155, 156, 157, 158, 159, 160, 161, 162, 163, 164, 165, 166, 167, 168, 169, 170, 171, 172, 18, 19, 173, 174, 175, 176, 90, 91, 92, 93, 94, 95, 96, 97, 98, 99, 100, 101, 102, 177, 178, 179, 180, 181, 182, 183, 184, 207, 208, 209, 31, 32, 33, 34, 35, 231, 232, 233, 225, 226, 227, 228, 229, 230] (by decide +kernel) (by decide +kernel)) (goodIn_sub (fun _ h => List.mem_append_left _ (List.mem_append_left _ (List.mem_append_right _ h))) (by decide +kernel))) (goodIn_sub (fun _ h => List.mem_append_left _ (List.mem_append_right _ h)) (by decide +kernel))) (goodIn_sub (fun _ h => List.mem_append_right _ h) (by decide +kernel))
set_option maxRecDepth 20000 in
theorem gL_law_L_isEdited : GoodIn wsL_law (va_wsS RL 135 yL_isEdited wsL_isEdited) := goodIn_app (goodIn_of _ (by decide +kernel)) ggL_law_L_isEdited
set_option maxRecDepth 20000 in
theorem ggL_law_L_isRun : GoodIn wsL_law wsL_isRun := goodIn_ca (goodIn_ca (goodIn_ca (goodIn_r _ [212, 86, 87, 88, 2, 89, 90, 91, 92, 93, 14, 15, 17, 54, 55, 56, 94, 95, 96, 13, 97, 24, 25, 26, 98, 99, 100, 101, 102, 103, 104, 105, 106, 16, 107, 108, 109, 110, 61, 40, 66, 111, 112, 113, 114, 115, 116, 117, 118, 119, 120, 125, 126, 29, 127, 128, 129, 130, 131, 132, 133, 134, 11, 12, 4, 51, 52, 53, 49, 50, 20, 21, 22, 23, 9, 10, 135, 136, 137, 138, 139, 140, 141, 142, 143, 144, 145, 146, 147, 148, 149, 150, 151, 152, 153, 154, 155, 156, 157, 158, 159, 160, 161, 162, 163, 164, 165, 166, 167, 168, 169, 170, 171, 172, 18, 19, 173, 174, 175, 176, 177, 178, 179, 180, 181, 182, 183, 184, 45, 46, 47, 48, 207, 208, 209, 31, 32, 33, 34, 35, 36, 37, 38, 39, 41, 42, 43, 44, 57, 58, 59, 60, 62, 63, 64, 65, 225, 226, 227, 228, 229, 230, 231, 232, 233] (by decide +kernel) (by decide +kernel)) (goodIn_sub (fun _ h => List.mem_append_left _ (List.mem_append_left _ (List.mem_append_right _ h))) (by decide +kernel))) (goodIn_sub (fun _ h => List.mem_append_left _ (List.mem_append_right _ h)) (by decide +kernel))) (goodIn_sub (fun _ h => List.mem_append_right _ h) (by decide +kernel))
set_option maxRecDepth 20000 in
theorem gL_law_L_isRun : GoodIn wsL_law (va_wsS RL 139 yL_isRun wsL_isRun) := goodIn_app (goodIn_of _ (by decide +kernel)) ggL_law_L_isRun
set_option maxRecDepth 20000 in
theorem ggL_law_L_isOnly : GoodIn wsL_law wsL_isOnly := goodIn_ca (goodIn_r _ [209, 31, 32, 29, 33, 34, 35, 36, 37, 38, 2, 39, 40, 41, 42, 43, 44, 14, 15, 45, 46, 47, 48, 49, 50, 16, 17, 51, 52, 53, 54, 55, 56, 57, 58, 59, 60, 61, 62, 63, 64, 65, 66, 231, 232, 233, 225, 226, 227, 228, 229, 230] (by decide +kernel) (by decide +kernel)) (goodIn_sub (fun _ h => List.mem_append_left _ (List.mem_append_left _ (List.mem_append_right _ h))) (by decide +kernel))
set_option maxRecDepth 20000 in
theorem gL_law_L_isOnly : GoodIn wsL_law (va_wsS RL 115 yL_isOnly wsL_isOnly) := goodIn_app (goodIn_of _ (by decide +kernel)) ggL_law_L_isOnly
set_option maxRecDepth 20000 in
theorem ggL_law_L_act : GoodIn wsL_law wsL_act := goodIn_ca (goodIn_ca (goodIn_ca (goodIn_r _ [127, 128, 129, 130, 131, 132, 133, 2, 134, 11, 12, 13, 4, 51, 52, 53, 49, 50, 20, 21, 22, 23, 9, 10, 24, 25, 26, 135, 136, 137, 138, 14, 40, 139, 140, 141, 142, 143, 144, 145, 146, 147, 148, 149, 150, 151, 152, 153, 154, 66, 61, 155, 156, 157, 158, 159, 160, 161, 162, 163, 164, 165, 166, 167, 168, 169, 170, 171, 172, 17, 18, 19, 15, 173, 174, 175, 176, 90, 91, 92, 93, 54, 55, 56, 94, 95, 96, 97, 98, 99, 100, 101, 102, 177, 178, 179, 180, 16, 181, 182, 183, 184, 45, 46, 47, 48, 231, 232, 233, 225, 226, 227, 228, 229, 230] (by decide +kernel) (by decide +kernel)) (goodIn_sub (fun _ h => List.mem_append_left _ (List.mem_append_left _ (List.mem_append_right _ h))) (by decide +kernel))) (goodIn_sub (fun _ h => List.mem_append_left _ (List.mem_append_right _ h)) (by decide +kernel))) (goodIn_sub (fun _ h => List.mem_append_right _ h) (by decide +kernel))
set_option maxRecDepth 20000 in
theorem gL_law_L_act : GoodIn wsL_law (va_wsS RL 108 yL_act wsL_act) := goodIn_app (goodIn_of _ (by decide +kernel)) ggL_law_L_act
set_option maxRecDepth 20000 in
theorem ggL_law_L_told : GoodIn wsL_law wsL_told := goodIn_ca (goodIn_r _ [33, 34, 35, 36, 37, 38, 2, 39, 40, 41, 42, 43, 44, 14, 15, 45, 46, 47, 48, 49, 50, 16, 17, 51, 52, 53, 54, 55, 56, 57, 58, 59, 60, 61, 62, 63, 64, 65, 66, 231, 232, 233, 225, 226, 227, 228, 229, 230] (by decide +kernel) (by decide +kernel)) (goodIn_sub (fun _ h => List.mem_append_left _ (List.mem_append_left _ (List.mem_append_right _ h))) (by decide +kernel))
set_option maxRecDepth 20000 in
theorem gL_law_L_told : GoodIn wsL_law (va_wsS RL 63 yL_told wsL_told) := goodIn_app (goodIn_of _ (by decide +kernel)) ggL_law_L_told
set_option maxRecDepth 20000 in
theorem ggL_law_L_isHead : GoodIn wsL_law wsL_isHead := goodIn_ca (goodIn_r _ [215, 31, 32, 29, 33, 34, 35, 36, 37, 38, 2, 39, 40, 41, 42, 43, 44, 14, 15, 45, 46, 47, 48, 49, 50, 16, 17, 51, 52, 53, 54, 55, 56, 57, 58, 59, 60, 61, 62, 63, 64, 65, 66, 78, 79, 80, 81, 82, 83, 84, 85, 121, 122, 123, 124, 18, 86, 87, 88, 89, 90, 91, 92, 93, 94, 95, 96, 13, 97, 24, 25, 26, 98, 99, 100, 101, 102, 231, 232, 233, 225, 226, 227, 228, 229, 230] (by decide +kernel) (by decide +kernel)) (goodIn_sub (fun _ h => List.mem_append_left _ (List.mem_append_left _ (List.mem_append_right _ h))) (by decide +kernel))
set_option maxRecDepth 20000 in
theorem gL_law_L_isHead : GoodIn wsL_law (va_wsS RL 143 yL_isHead wsL_isHead) := goodIn_app (goodIn_of _ (by decide +kernel)) ggL_law_L_isHead
set_option maxRecDepth 20000 in
theorem ggL_law_L_isDate : GoodIn wsL_law wsL_isDate := goodIn_ca (goodIn_r _ [218, 36, 37, 38, 2, 39, 40, 41, 42, 43, 44, 14, 15, 45, 46, 47, 48, 49, 50, 16, 17, 51, 52, 53, 54, 55, 56, 31, 32, 29, 33, 34, 35, 57, 58, 59, 60, 61, 62, 63, 64, 65, 66, 192, 193, 194, 188, 189, 190, 191, 107, 108, 109, 110, 94, 95, 96, 13, 97, 24, 25, 26, 98, 99, 100, 101, 102, 111, 112, 113, 114, 115, 116, 117, 118, 119, 120, 219, 220, 221, 231, 232, 233, 225, 226, 227, 228, 229, 230] (by decide +kernel) (by decide +kernel)) (goodIn_sub (fun _ h => List.mem_append_left _ (List.mem_append_left _ (List.mem_append_right _ h))) (by decide +kernel))
set_option maxRecDepth 20000 in
theorem gL_law_L_isDate : GoodIn wsL_law (va_wsS RL 147 yL_isDate wsL_isDate) := goodIn_app (goodIn_of _ (by decide +kernel)) ggL_law_L_isDate
set_option maxRecDepth 20000 in
theorem ggL_law_L_isSum : GoodIn wsL_law wsL_isSum := goodIn_ca (goodIn_r _ [224, 82, 83, 84, 2, 85, 16, 78, 79, 80, 81, 17, 188, 189, 190, 191, 45, 46, 47, 48, 49, 50, 51, 52, 53, 107, 108, 109, 110, 15, 61, 40, 66, 54, 55, 56, 94, 95, 96, 13, 97, 24, 25, 26, 98, 99, 100, 101, 102, 111, 112, 113, 114, 115, 116, 117, 118, 119, 120, 103, 104, 105, 106, 225, 226, 227, 228, 229, 230, 231, 232, 233] (by decide +kernel) (by decide +kernel)) (goodIn_sub (fun _ h => List.mem_append_left _ (List.mem_append_left _ (List.mem_append_right _ h))) (by decide +kernel))
set_option maxRecDepth 20000 in
theorem gL_law_L_isSum : GoodIn wsL_law (va_wsS RL 151 yL_isSum wsL_isSum) := goodIn_app (goodIn_of _ (by decide +kernel)) ggL_law_L_isSum
theorem dL_law_0 : decode cL_law 0 = .ok (.new 10, 3) := by decide +kernel
theorem dL_law_3 : decode cL_law 3 = .ok (.dup, 1) := by decide +kernel
theorem dL_law_4 : decode cL_law 4 = .ok (.invokespecial 119, 3) := by decide +kernel
theorem dL_law_7 : decode cL_law 7 = .ok (.astore_n 1, 1) := by decide +kernel
theorem dL_law_8 : decode cL_law 8 = .ok (.bipush 60, 2) := by decide +kernel
theorem dL_law_10 : decode cL_law 10 = .ok (.newarray .long, 2) := by decide +kernel
theorem dL_law_12 : decode cL_law 12 = .ok (.astore_n 2, 1) := by decide +kernel
theorem dL_law_13 : decode cL_law 13 = .ok (.bipush 6, 2) := by decide +kernel
theorem dL_law_15 : decode cL_law 15 = .ok (.newarray .long, 2) := by decide +kernel
theorem dL_law_17 : decode cL_law 17 = .ok (.astore_n 3, 1) := by decide +kernel
theorem dL_law_18 : decode cL_law 18 = .ok (.iconst 3, 1) := by decide +kernel
theorem dL_law_19 : decode cL_law 19 = .ok (.newarray .int, 2) := by decide +kernel
theorem dL_law_21 : decode cL_law 21 = .ok (.astore 4, 2) := by decide +kernel
theorem dL_law_23 : decode cL_law 23 = .ok (.aload 4, 2) := by decide +kernel
theorem dL_law_25 : decode cL_law 25 = .ok (.iconst 2, 1) := by decide +kernel
theorem dL_law_26 : decode cL_law 26 = .ok (.iconst (-1), 1) := by decide +kernel
theorem dL_law_27 : decode cL_law 27 = .ok (.iastore, 1) := by decide +kernel
theorem dL_law_28 : decode cL_law 28 = .ok (.aload_n 1, 1) := by decide +kernel
theorem dL_law_29 : decode cL_law 29 = .ok (.aload_n 3, 1) := by decide +kernel
theorem dL_law_30 : decode cL_law 30 = .ok (.invokestatic 120, 3) := by decide +kernel
theorem dL_law_33 : decode cL_law 33 = .ok (.iconst 0, 1) := by decide +kernel
theorem dL_law_34 : decode cL_law 34 = .ok (.istore 5, 2) := by decide +kernel
theorem dL_law_36 : decode cL_law 36 = .ok (.iload 5, 2) := by decide +kernel
theorem dL_law_38 : decode cL_law 38 = .ok (.bipush 6, 2) := by decide +kernel
theorem dL_law_40 : decode cL_law 40 = .ok (.if_icmp .ge 17, 3) := by decide +kernel
theorem dL_law_43 : decode cL_law 43 = .ok (.aload_n 2, 1) := by decide +kernel
theorem dL_law_44 : decode cL_law 44 = .ok (.iload 5, 2) := by decide +kernel
theorem dL_law_46 : decode cL_law 46 = .ok (.aload_n 3, 1) := by decide +kernel
theorem dL_law_47 : decode cL_law 47 = .ok (.iload 5, 2) := by decide +kernel
theorem dL_law_49 : decode cL_law 49 = .ok (.laload, 1) := by decide +kernel
theorem dL_law_50 : decode cL_law 50 = .ok (.lastore, 1) := by decide +kernel
theorem dL_law_51 : decode cL_law 51 = .ok (.iinc 5 1, 3) := by decide +kernel
theorem dL_law_54 : decode cL_law 54 = .ok (.goto (-18), 3) := by decide +kernel
theorem dL_law_57 : decode cL_law 57 = .ok (.aload_n 1, 1) := by decide +kernel
theorem dL_law_58 : decode cL_law 58 = .ok (.aload 4, 2) := by decide +kernel
theorem dL_law_60 : decode cL_law 60 = .ok (.iconst 0, 1) := by decide +kernel
theorem dL_law_61 : decode cL_law 61 = .ok (.invokestatic 124, 3) := by decide +kernel
theorem dL_law_64 : decode cL_law 64 = .ok (.ifCond .eq 24, 3) := by decide +kernel
theorem dL_law_67 : decode cL_law 67 = .ok (.aload_n 1, 1) := by decide +kernel
theorem dL_law_68 : decode cL_law 68 = .ok (.aload 4, 2) := by decide +kernel
theorem dL_law_70 : decode cL_law 70 = .ok (.iconst 1, 1) := by decide +kernel
theorem dL_law_71 : decode cL_law 71 = .ok (.invokestatic 124, 3) := by decide +kernel
theorem dL_law_74 : decode cL_law 74 = .ok (.ifCond .eq 14, 3) := by decide +kernel
theorem dL_law_77 : decode cL_law 77 = .ok (.aload_n 1, 1) := by decide +kernel
theorem dL_law_78 : decode cL_law 78 = .ok (.invokevirtual 128, 3) := by decide +kernel
theorem dL_law_81 : decode cL_law 81 = .ok (.ifCond .ne 7, 3) := by decide +kernel
theorem dL_law_84 : decode cL_law 84 = .ok (.iconst 1, 1) := by decide +kernel
theorem dL_law_85 : decode cL_law 85 = .ok (.goto 4, 3) := by decide +kernel
theorem dL_law_88 : decode cL_law 88 = .ok (.iconst 0, 1) := by decide +kernel
theorem dL_law_89 : decode cL_law 89 = .ok (.istore 5, 2) := by decide +kernel
theorem dL_law_91 : decode cL_law 91 = .ok (.iconst 0, 1) := by decide +kernel
theorem dL_law_92 : decode cL_law 92 = .ok (.istore 6, 2) := by decide +kernel
theorem dL_law_94 : decode cL_law 94 = .ok (.iload 6, 2) := by decide +kernel
theorem dL_law_96 : decode cL_law 96 = .ok (.bipush 90, 2) := by decide +kernel
theorem dL_law_98 : decode cL_law 98 = .ok (.if_icmp .ge 589, 3) := by decide +kernel
theorem dL_law_101 : decode cL_law 101 = .ok (.iload 5, 2) := by decide +kernel
theorem dL_law_103 : decode cL_law 103 = .ok (.ifCond .eq 584, 3) := by decide +kernel
theorem dL_law_106 : decode cL_law 106 = .ok (.aload_n 0, 1) := by decide +kernel
theorem dL_law_107 : decode cL_law 107 = .ok (.iload 6, 2) := by decide +kernel
theorem dL_law_109 : decode cL_law 109 = .ok (.invokestatic 131, 3) := by decide +kernel
theorem dL_law_112 : decode cL_law 112 = .ok (.istore 7, 2) := by decide +kernel
theorem dL_law_114 : decode cL_law 114 = .ok (.iload 7, 2) := by decide +kernel
theorem dL_law_116 : decode cL_law 116 = .ok (.bipush 32, 2) := by decide +kernel
theorem dL_law_118 : decode cL_law 118 = .ok (.idiv, 1) := by decide +kernel
theorem dL_law_119 : decode cL_law 119 = .ok (.istore 8, 2) := by decide +kernel
theorem dL_law_121 : decode cL_law 121 = .ok (.iload 7, 2) := by decide +kernel
theorem dL_law_123 : decode cL_law 123 = .ok (.bipush 32, 2) := by decide +kernel
theorem dL_law_125 : decode cL_law 125 = .ok (.irem, 1) := by decide +kernel
theorem dL_law_126 : decode cL_law 126 = .ok (.istore 9, 2) := by decide +kernel
theorem dL_law_128 : decode cL_law 128 = .ok (.iload 8, 2) := by decide +kernel
theorem dL_law_130 : decode cL_law 130 = .ok (.bipush 12, 2) := by decide +kernel
theorem dL_law_132 : decode cL_law 132 = .ok (.idiv, 1) := by decide +kernel
theorem dL_law_133 : decode cL_law 133 = .ok (.istore 10, 2) := by decide +kernel
theorem dL_law_135 : decode cL_law 135 = .ok (.aload_n 1, 1) := by decide +kernel
theorem dL_law_136 : decode cL_law 136 = .ok (.aload_n 3, 1) := by decide +kernel
theorem dL_law_137 : decode cL_law 137 = .ok (.invokestatic 120, 3) := by decide +kernel
theorem dL_law_140 : decode cL_law 140 = .ok (.iload 9, 2) := by decide +kernel
theorem dL_law_142 : decode cL_law 142 = .ok (.bipush 22, 2) := by decide +kernel
theorem dL_law_144 : decode cL_law 144 = .ok (.if_icmp .ge 41, 3) := by decide +kernel
theorem dL_law_147 : decode cL_law 147 = .ok (.aload_n 1, 1) := by decide +kernel
theorem dL_law_148 : decode cL_law 148 = .ok (.aload_n 3, 1) := by decide +kernel
theorem dL_law_149 : decode cL_law 149 = .ok (.iload 8, 2) := by decide +kernel
theorem dL_law_151 : decode cL_law 151 = .ok (.iconst 4, 1) := by decide +kernel
theorem dL_law_152 : decode cL_law 152 = .ok (.irem, 1) := by decide +kernel
theorem dL_law_153 : decode cL_law 153 = .ok (.iconst 3, 1) := by decide +kernel
theorem dL_law_154 : decode cL_law 154 = .ok (.if_icmp .ge 12, 3) := by decide +kernel
theorem dL_law_157 : decode cL_law 157 = .ok (.iload 8, 2) := by decide +kernel
theorem dL_law_159 : decode cL_law 159 = .ok (.iconst 4, 1) := by decide +kernel
theorem dL_law_160 : decode cL_law 160 = .ok (.idiv, 1) := by decide +kernel
theorem dL_law_161 : decode cL_law 161 = .ok (.iconst 3, 1) := by decide +kernel
theorem dL_law_162 : decode cL_law 162 = .ok (.irem, 1) := by decide +kernel
theorem dL_law_163 : decode cL_law 163 = .ok (.goto 10, 3) := by decide +kernel
theorem dL_law_166 : decode cL_law 166 = .ok (.iload 8, 2) := by decide +kernel
theorem dL_law_168 : decode cL_law 168 = .ok (.iconst 4, 1) := by decide +kernel
theorem dL_law_169 : decode cL_law 169 = .ok (.idiv, 1) := by decide +kernel
theorem dL_law_170 : decode cL_law 170 = .ok (.bipush 6, 2) := by decide +kernel
theorem dL_law_172 : decode cL_law 172 = .ok (.irem, 1) := by decide +kernel
theorem dL_law_173 : decode cL_law 173 = .ok (.iload 9, 2) := by decide +kernel
theorem dL_law_175 : decode cL_law 175 = .ok (.iload 10, 2) := by decide +kernel
theorem dL_law_177 : decode cL_law 177 = .ok (.invokestatic 135, 3) := by decide +kernel
theorem dL_law_180 : decode cL_law 180 = .ok (.istore 5, 2) := by decide +kernel
theorem dL_law_182 : decode cL_law 182 = .ok (.goto 405, 3) := by decide +kernel
theorem dL_law_185 : decode cL_law 185 = .ok (.iload 9, 2) := by decide +kernel
theorem dL_law_187 : decode cL_law 187 = .ok (.bipush 27, 2) := by decide +kernel
theorem dL_law_189 : decode cL_law 189 = .ok (.if_icmp .ge 66, 3) := by decide +kernel
theorem dL_law_192 : decode cL_law 192 = .ok (.aload 4, 2) := by decide +kernel
theorem dL_law_194 : decode cL_law 194 = .ok (.iconst 0, 1) := by decide +kernel
theorem dL_law_195 : decode cL_law 195 = .ok (.iaload, 1) := by decide +kernel
theorem dL_law_196 : decode cL_law 196 = .ok (.aload 4, 2) := by decide +kernel
theorem dL_law_198 : decode cL_law 198 = .ok (.iconst 1, 1) := by decide +kernel
theorem dL_law_199 : decode cL_law 199 = .ok (.iaload, 1) := by decide +kernel
theorem dL_law_200 : decode cL_law 200 = .ok (.isub, 1) := by decide +kernel
theorem dL_law_201 : decode cL_law 201 = .ok (.bipush 8, 2) := by decide +kernel
theorem dL_law_203 : decode cL_law 203 = .ok (.if_icmp .gt 42, 3) := by decide +kernel
theorem dL_law_206 : decode cL_law 206 = .ok (.aload 4, 2) := by decide +kernel
theorem dL_law_208 : decode cL_law 208 = .ok (.iconst 0, 1) := by decide +kernel
theorem dL_law_209 : decode cL_law 209 = .ok (.iaload, 1) := by decide +kernel
theorem dL_law_210 : decode cL_law 210 = .ok (.bipush 40, 2) := by decide +kernel
theorem dL_law_212 : decode cL_law 212 = .ok (.if_icmp .eq 33, 3) := by decide +kernel
theorem dL_law_215 : decode cL_law 215 = .ok (.aload_n 1, 1) := by decide +kernel
theorem dL_law_216 : decode cL_law 216 = .ok (.aload_n 2, 1) := by decide +kernel
theorem dL_law_217 : decode cL_law 217 = .ok (.aload_n 3, 1) := by decide +kernel
theorem dL_law_218 : decode cL_law 218 = .ok (.aload 4, 2) := by decide +kernel
theorem dL_law_220 : decode cL_law 220 = .ok (.iload 10, 2) := by decide +kernel
theorem dL_law_222 : decode cL_law 222 = .ok (.iconst 3, 1) := by decide +kernel
theorem dL_law_223 : decode cL_law 223 = .ok (.irem, 1) := by decide +kernel
theorem dL_law_224 : decode cL_law 224 = .ok (.ifCond .ne 13, 3) := by decide +kernel
theorem dL_law_227 : decode cL_law 227 = .ok (.iload 10, 2) := by decide +kernel
theorem dL_law_229 : decode cL_law 229 = .ok (.iconst 3, 1) := by decide +kernel
theorem dL_law_230 : decode cL_law 230 = .ok (.idiv, 1) := by decide +kernel
theorem dL_law_231 : decode cL_law 231 = .ok (.bipush 7, 2) := by decide +kernel
theorem dL_law_233 : decode cL_law 233 = .ok (.irem, 1) := by decide +kernel
theorem dL_law_234 : decode cL_law 234 = .ok (.goto 5, 3) := by decide +kernel
theorem dL_law_237 : decode cL_law 237 = .ok (.bipush 6, 2) := by decide +kernel
theorem dL_law_239 : decode cL_law 239 = .ok (.invokestatic 139, 3) := by decide +kernel
theorem dL_law_242 : decode cL_law 242 = .ok (.ifCond .eq 7, 3) := by decide +kernel
theorem dL_law_245 : decode cL_law 245 = .ok (.iconst 1, 1) := by decide +kernel
theorem dL_law_246 : decode cL_law 246 = .ok (.goto 4, 3) := by decide +kernel
theorem dL_law_249 : decode cL_law 249 = .ok (.iconst 0, 1) := by decide +kernel
theorem dL_law_250 : decode cL_law 250 = .ok (.istore 5, 2) := by decide +kernel
theorem dL_law_252 : decode cL_law 252 = .ok (.goto 335, 3) := by decide +kernel
theorem dL_law_255 : decode cL_law 255 = .ok (.iload 9, 2) := by decide +kernel
theorem dL_law_257 : decode cL_law 257 = .ok (.bipush 29, 2) := by decide +kernel
theorem dL_law_259 : decode cL_law 259 = .ok (.if_icmp .ge 60, 3) := by decide +kernel
theorem dL_law_262 : decode cL_law 262 = .ok (.aload 4, 2) := by decide +kernel
theorem dL_law_264 : decode cL_law 264 = .ok (.iconst 2, 1) := by decide +kernel
theorem dL_law_265 : decode cL_law 265 = .ok (.iaload, 1) := by decide +kernel
theorem dL_law_266 : decode cL_law 266 = .ok (.ifCond .ge 7, 3) := by decide +kernel
theorem dL_law_269 : decode cL_law 269 = .ok (.iconst 0, 1) := by decide +kernel
theorem dL_law_270 : decode cL_law 270 = .ok (.goto 7, 3) := by decide +kernel
theorem dL_law_273 : decode cL_law 273 = .ok (.aload 4, 2) := by decide +kernel
theorem dL_law_275 : decode cL_law 275 = .ok (.iconst 2, 1) := by decide +kernel
theorem dL_law_276 : decode cL_law 276 = .ok (.iaload, 1) := by decide +kernel
theorem dL_law_277 : decode cL_law 277 = .ok (.istore 11, 2) := by decide +kernel
theorem dL_law_279 : decode cL_law 279 = .ok (.aload 4, 2) := by decide +kernel
theorem dL_law_281 : decode cL_law 281 = .ok (.iconst 2, 1) := by decide +kernel
theorem dL_law_282 : decode cL_law 282 = .ok (.iconst (-1), 1) := by decide +kernel
theorem dL_law_283 : decode cL_law 283 = .ok (.iastore, 1) := by decide +kernel
theorem dL_law_284 : decode cL_law 284 = .ok (.aload_n 1, 1) := by decide +kernel
theorem dL_law_285 : decode cL_law 285 = .ok (.invokevirtual 128, 3) := by decide +kernel
theorem dL_law_288 : decode cL_law 288 = .ok (.iload 11, 2) := by decide +kernel
theorem dL_law_290 : decode cL_law 290 = .ok (.if_icmp .ne 23, 3) := by decide +kernel
theorem dL_law_293 : decode cL_law 293 = .ok (.aload_n 1, 1) := by decide +kernel
theorem dL_law_294 : decode cL_law 294 = .ok (.aload_n 3, 1) := by decide +kernel
theorem dL_law_295 : decode cL_law 295 = .ok (.iconst (-1), 1) := by decide +kernel
theorem dL_law_296 : decode cL_law 296 = .ok (.invokestatic 115, 3) := by decide +kernel
theorem dL_law_299 : decode cL_law 299 = .ok (.ifCond .eq 14, 3) := by decide +kernel
theorem dL_law_302 : decode cL_law 302 = .ok (.aload_n 1, 1) := by decide +kernel
theorem dL_law_303 : decode cL_law 303 = .ok (.invokevirtual 128, 3) := by decide +kernel
theorem dL_law_306 : decode cL_law 306 = .ok (.ifCond .ne 7, 3) := by decide +kernel
theorem dL_law_309 : decode cL_law 309 = .ok (.iconst 1, 1) := by decide +kernel
theorem dL_law_310 : decode cL_law 310 = .ok (.goto 4, 3) := by decide +kernel
theorem dL_law_313 : decode cL_law 313 = .ok (.iconst 0, 1) := by decide +kernel
theorem dL_law_314 : decode cL_law 314 = .ok (.istore 5, 2) := by decide +kernel
theorem dL_law_316 : decode cL_law 316 = .ok (.goto 271, 3) := by decide +kernel
theorem dL_law_319 : decode cL_law 319 = .ok (.iload 9, 2) := by decide +kernel
theorem dL_law_321 : decode cL_law 321 = .ok (.bipush 29, 2) := by decide +kernel
theorem dL_law_323 : decode cL_law 323 = .ok (.if_icmp .ne 114, 3) := by decide +kernel
theorem dL_law_326 : decode cL_law 326 = .ok (.iconst 1, 1) := by decide +kernel
theorem dL_law_327 : decode cL_law 327 = .ok (.iload 10, 2) := by decide +kernel
theorem dL_law_329 : decode cL_law 329 = .ok (.iconst 3, 1) := by decide +kernel
theorem dL_law_330 : decode cL_law 330 = .ok (.irem, 1) := by decide +kernel
theorem dL_law_331 : decode cL_law 331 = .ok (.iadd, 1) := by decide +kernel
theorem dL_law_332 : decode cL_law 332 = .ok (.istore 11, 2) := by decide +kernel
theorem dL_law_334 : decode cL_law 334 = .ok (.aload 4, 2) := by decide +kernel
theorem dL_law_336 : decode cL_law 336 = .ok (.iconst 1, 1) := by decide +kernel
theorem dL_law_337 : decode cL_law 337 = .ok (.iaload, 1) := by decide +kernel
theorem dL_law_338 : decode cL_law 338 = .ok (.iload 11, 2) := by decide +kernel
theorem dL_law_340 : decode cL_law 340 = .ok (.iadd, 1) := by decide +kernel
theorem dL_law_341 : decode cL_law 341 = .ok (.aload 4, 2) := by decide +kernel
theorem dL_law_343 : decode cL_law 343 = .ok (.iconst 0, 1) := by decide +kernel
theorem dL_law_344 : decode cL_law 344 = .ok (.iaload, 1) := by decide +kernel
theorem dL_law_345 : decode cL_law 345 = .ok (.if_icmp .gt 7, 3) := by decide +kernel
theorem dL_law_348 : decode cL_law 348 = .ok (.iconst 1, 1) := by decide +kernel
theorem dL_law_349 : decode cL_law 349 = .ok (.goto 4, 3) := by decide +kernel
theorem dL_law_352 : decode cL_law 352 = .ok (.iconst 0, 1) := by decide +kernel
theorem dL_law_353 : decode cL_law 353 = .ok (.istore 12, 2) := by decide +kernel
theorem dL_law_355 : decode cL_law 355 = .ok (.aload 4, 2) := by decide +kernel
theorem dL_law_357 : decode cL_law 357 = .ok (.iconst 1, 1) := by decide +kernel
theorem dL_law_358 : decode cL_law 358 = .ok (.dup2, 1) := by decide +kernel
theorem dL_law_359 : decode cL_law 359 = .ok (.iaload, 1) := by decide +kernel
theorem dL_law_360 : decode cL_law 360 = .ok (.iload 12, 2) := by decide +kernel
theorem dL_law_362 : decode cL_law 362 = .ok (.ifCond .eq 8, 3) := by decide +kernel
theorem dL_law_365 : decode cL_law 365 = .ok (.iload 11, 2) := by decide +kernel
theorem dL_law_367 : decode cL_law 367 = .ok (.goto 4, 3) := by decide +kernel
theorem dL_law_370 : decode cL_law 370 = .ok (.iconst 0, 1) := by decide +kernel
theorem dL_law_371 : decode cL_law 371 = .ok (.iadd, 1) := by decide +kernel
theorem dL_law_372 : decode cL_law 372 = .ok (.iastore, 1) := by decide +kernel
theorem dL_law_373 : decode cL_law 373 = .ok (.aload 4, 2) := by decide +kernel
theorem dL_law_375 : decode cL_law 375 = .ok (.iconst 2, 1) := by decide +kernel
theorem dL_law_376 : decode cL_law 376 = .ok (.iload 12, 2) := by decide +kernel
theorem dL_law_378 : decode cL_law 378 = .ok (.ifCond .eq 7, 3) := by decide +kernel
theorem dL_law_381 : decode cL_law 381 = .ok (.iconst (-1), 1) := by decide +kernel
theorem dL_law_382 : decode cL_law 382 = .ok (.goto 7, 3) := by decide +kernel
theorem dL_law_385 : decode cL_law 385 = .ok (.aload 4, 2) := by decide +kernel
theorem dL_law_387 : decode cL_law 387 = .ok (.iconst 2, 1) := by decide +kernel
theorem dL_law_388 : decode cL_law 388 = .ok (.iaload, 1) := by decide +kernel
theorem dL_law_389 : decode cL_law 389 = .ok (.iastore, 1) := by decide +kernel
theorem dL_law_390 : decode cL_law 390 = .ok (.aload_n 1, 1) := by decide +kernel
theorem dL_law_391 : decode cL_law 391 = .ok (.bipush 7, 2) := by decide +kernel
theorem dL_law_393 : decode cL_law 393 = .ok (.iload 11, 2) := by decide +kernel
theorem dL_law_395 : decode cL_law 395 = .ok (.iconst 0, 1) := by decide +kernel
theorem dL_law_396 : decode cL_law 396 = .ok (.iconst 0, 1) := by decide +kernel
theorem dL_law_397 : decode cL_law 397 = .ok (.invokestatic 108, 3) := by decide +kernel
theorem dL_law_400 : decode cL_law 400 = .ok (.iload 12, 2) := by decide +kernel
theorem dL_law_402 : decode cL_law 402 = .ok (.ifCond .eq 10, 3) := by decide +kernel
theorem dL_law_405 : decode cL_law 405 = .ok (.aload 4, 2) := by decide +kernel
theorem dL_law_407 : decode cL_law 407 = .ok (.iconst 1, 1) := by decide +kernel
theorem dL_law_408 : decode cL_law 408 = .ok (.iaload, 1) := by decide +kernel
theorem dL_law_409 : decode cL_law 409 = .ok (.goto 6, 3) := by decide +kernel
theorem dL_law_412 : decode cL_law 412 = .ok (.sipush (-1163), 3) := by decide +kernel
theorem dL_law_415 : decode cL_law 415 = .ok (.if_icmp .ne 16, 3) := by decide +kernel
theorem dL_law_418 : decode cL_law 418 = .ok (.aload_n 1, 1) := by decide +kernel
theorem dL_law_419 : decode cL_law 419 = .ok (.aload_n 3, 1) := by decide +kernel
theorem dL_law_420 : decode cL_law 420 = .ok (.iconst (-1), 1) := by decide +kernel
theorem dL_law_421 : decode cL_law 421 = .ok (.invokestatic 115, 3) := by decide +kernel
theorem dL_law_424 : decode cL_law 424 = .ok (.ifCond .eq 7, 3) := by decide +kernel
theorem dL_law_427 : decode cL_law 427 = .ok (.iconst 1, 1) := by decide +kernel
theorem dL_law_428 : decode cL_law 428 = .ok (.goto 4, 3) := by decide +kernel
theorem dL_law_431 : decode cL_law 431 = .ok (.iconst 0, 1) := by decide +kernel
theorem dL_law_432 : decode cL_law 432 = .ok (.istore 5, 2) := by decide +kernel
theorem dL_law_434 : decode cL_law 434 = .ok (.goto 153, 3) := by decide +kernel
theorem dL_law_437 : decode cL_law 437 = .ok (.aload 4, 2) := by decide +kernel
theorem dL_law_439 : decode cL_law 439 = .ok (.iconst 1, 1) := by decide +kernel
theorem dL_law_440 : decode cL_law 440 = .ok (.iaload, 1) := by decide +kernel
theorem dL_law_441 : decode cL_law 441 = .ok (.iload 10, 2) := by decide +kernel
theorem dL_law_443 : decode cL_law 443 = .ok (.aload 4, 2) := by decide +kernel
theorem dL_law_445 : decode cL_law 445 = .ok (.iconst 0, 1) := by decide +kernel
theorem dL_law_446 : decode cL_law 446 = .ok (.iaload, 1) := by decide +kernel
theorem dL_law_447 : decode cL_law 447 = .ok (.aload 4, 2) := by decide +kernel
theorem dL_law_449 : decode cL_law 449 = .ok (.iconst 1, 1) := by decide +kernel
theorem dL_law_450 : decode cL_law 450 = .ok (.iaload, 1) := by decide +kernel
theorem dL_law_451 : decode cL_law 451 = .ok (.isub, 1) := by decide +kernel
theorem dL_law_452 : decode cL_law 452 = .ok (.iconst 1, 1) := by decide +kernel
theorem dL_law_453 : decode cL_law 453 = .ok (.iadd, 1) := by decide +kernel
theorem dL_law_454 : decode cL_law 454 = .ok (.irem, 1) := by decide +kernel
theorem dL_law_455 : decode cL_law 455 = .ok (.iadd, 1) := by decide +kernel
theorem dL_law_456 : decode cL_law 456 = .ok (.istore 11, 2) := by decide +kernel
theorem dL_law_458 : decode cL_law 458 = .ok (.iconst 0, 1) := by decide +kernel
theorem dL_law_459 : decode cL_law 459 = .ok (.istore 12, 2) := by decide +kernel
theorem dL_law_461 : decode cL_law 461 = .ok (.iconst 0, 1) := by decide +kernel
theorem dL_law_462 : decode cL_law 462 = .ok (.istore 13, 2) := by decide +kernel
theorem dL_law_464 : decode cL_law 464 = .ok (.iload 13, 2) := by decide +kernel
theorem dL_law_466 : decode cL_law 466 = .ok (.bipush 6, 2) := by decide +kernel
theorem dL_law_468 : decode cL_law 468 = .ok (.if_icmp .ge 40, 3) := by decide +kernel
theorem dL_law_471 : decode cL_law 471 = .ok (.iload 12, 2) := by decide +kernel
theorem dL_law_473 : decode cL_law 473 = .ok (.aload_n 2, 1) := by decide +kernel
theorem dL_law_474 : decode cL_law 474 = .ok (.bipush 6, 2) := by decide +kernel
theorem dL_law_476 : decode cL_law 476 = .ok (.iload 11, 2) := by decide +kernel
theorem dL_law_478 : decode cL_law 478 = .ok (.bipush 10, 2) := by decide +kernel
theorem dL_law_480 : decode cL_law 480 = .ok (.irem, 1) := by decide +kernel
theorem dL_law_481 : decode cL_law 481 = .ok (.imul, 1) := by decide +kernel
theorem dL_law_482 : decode cL_law 482 = .ok (.iload 13, 2) := by decide +kernel
theorem dL_law_484 : decode cL_law 484 = .ok (.iadd, 1) := by decide +kernel
theorem dL_law_485 : decode cL_law 485 = .ok (.laload, 1) := by decide +kernel
theorem dL_law_486 : decode cL_law 486 = .ok (.aload_n 3, 1) := by decide +kernel
theorem dL_law_487 : decode cL_law 487 = .ok (.iload 13, 2) := by decide +kernel
theorem dL_law_489 : decode cL_law 489 = .ok (.laload, 1) := by decide +kernel
theorem dL_law_490 : decode cL_law 490 = .ok (.lcmp, 1) := by decide +kernel
theorem dL_law_491 : decode cL_law 491 = .ok (.ifCond .ne 7, 3) := by decide +kernel
theorem dL_law_494 : decode cL_law 494 = .ok (.iconst 0, 1) := by decide +kernel
theorem dL_law_495 : decode cL_law 495 = .ok (.goto 4, 3) := by decide +kernel
theorem dL_law_498 : decode cL_law 498 = .ok (.iconst 1, 1) := by decide +kernel
theorem dL_law_499 : decode cL_law 499 = .ok (.iadd, 1) := by decide +kernel
theorem dL_law_500 : decode cL_law 500 = .ok (.istore 12, 2) := by decide +kernel
theorem dL_law_502 : decode cL_law 502 = .ok (.iinc 13 1, 3) := by decide +kernel
theorem dL_law_505 : decode cL_law 505 = .ok (.goto (-41), 3) := by decide +kernel
theorem dL_law_508 : decode cL_law 508 = .ok (.aload 4, 2) := by decide +kernel
theorem dL_law_510 : decode cL_law 510 = .ok (.iconst 2, 1) := by decide +kernel
theorem dL_law_511 : decode cL_law 511 = .ok (.iconst (-1), 1) := by decide +kernel
theorem dL_law_512 : decode cL_law 512 = .ok (.iastore, 1) := by decide +kernel
theorem dL_law_513 : decode cL_law 513 = .ok (.aload_n 1, 1) := by decide +kernel
theorem dL_law_514 : decode cL_law 514 = .ok (.bipush 8, 2) := by decide +kernel
theorem dL_law_516 : decode cL_law 516 = .ok (.iload 11, 2) := by decide +kernel
theorem dL_law_518 : decode cL_law 518 = .ok (.iconst 0, 1) := by decide +kernel
theorem dL_law_519 : decode cL_law 519 = .ok (.iconst 0, 1) := by decide +kernel
theorem dL_law_520 : decode cL_law 520 = .ok (.invokestatic 108, 3) := by decide +kernel
theorem dL_law_523 : decode cL_law 523 = .ok (.iload 12, 2) := by decide +kernel
theorem dL_law_525 : decode cL_law 525 = .ok (.if_icmp .ne 7, 3) := by decide +kernel
theorem dL_law_528 : decode cL_law 528 = .ok (.iconst 1, 1) := by decide +kernel
theorem dL_law_529 : decode cL_law 529 = .ok (.goto 4, 3) := by decide +kernel
theorem dL_law_532 : decode cL_law 532 = .ok (.iconst 0, 1) := by decide +kernel
theorem dL_law_533 : decode cL_law 533 = .ok (.istore 5, 2) := by decide +kernel
theorem dL_law_535 : decode cL_law 535 = .ok (.iconst 0, 1) := by decide +kernel
theorem dL_law_536 : decode cL_law 536 = .ok (.istore 13, 2) := by decide +kernel
theorem dL_law_538 : decode cL_law 538 = .ok (.iload 13, 2) := by decide +kernel
theorem dL_law_540 : decode cL_law 540 = .ok (.bipush 6, 2) := by decide +kernel
theorem dL_law_542 : decode cL_law 542 = .ok (.if_icmp .ge 45, 3) := by decide +kernel
theorem dL_law_545 : decode cL_law 545 = .ok (.iload 5, 2) := by decide +kernel
theorem dL_law_547 : decode cL_law 547 = .ok (.ifCond .eq 40, 3) := by decide +kernel
theorem dL_law_550 : decode cL_law 550 = .ok (.aload_n 1, 1) := by decide +kernel
theorem dL_law_551 : decode cL_law 551 = .ok (.iconst (-1), 1) := by decide +kernel
theorem dL_law_552 : decode cL_law 552 = .ok (.iload 13, 2) := by decide +kernel
theorem dL_law_554 : decode cL_law 554 = .ok (.invokestatic 63, 3) := by decide +kernel
theorem dL_law_557 : decode cL_law 557 = .ok (.aload_n 2, 1) := by decide +kernel
theorem dL_law_558 : decode cL_law 558 = .ok (.bipush 6, 2) := by decide +kernel
theorem dL_law_560 : decode cL_law 560 = .ok (.iload 11, 2) := by decide +kernel
theorem dL_law_562 : decode cL_law 562 = .ok (.bipush 10, 2) := by decide +kernel
theorem dL_law_564 : decode cL_law 564 = .ok (.irem, 1) := by decide +kernel
theorem dL_law_565 : decode cL_law 565 = .ok (.imul, 1) := by decide +kernel
theorem dL_law_566 : decode cL_law 566 = .ok (.iload 13, 2) := by decide +kernel
theorem dL_law_568 : decode cL_law 568 = .ok (.iadd, 1) := by decide +kernel
theorem dL_law_569 : decode cL_law 569 = .ok (.laload, 1) := by decide +kernel
theorem dL_law_570 : decode cL_law 570 = .ok (.lcmp, 1) := by decide +kernel
theorem dL_law_571 : decode cL_law 571 = .ok (.ifCond .ne 7, 3) := by decide +kernel
theorem dL_law_574 : decode cL_law 574 = .ok (.iconst 1, 1) := by decide +kernel
theorem dL_law_575 : decode cL_law 575 = .ok (.goto 4, 3) := by decide +kernel
theorem dL_law_578 : decode cL_law 578 = .ok (.iconst 0, 1) := by decide +kernel
theorem dL_law_579 : decode cL_law 579 = .ok (.istore 5, 2) := by decide +kernel
theorem dL_law_581 : decode cL_law 581 = .ok (.iinc 13 1, 3) := by decide +kernel
theorem dL_law_584 : decode cL_law 584 = .ok (.goto (-46), 3) := by decide +kernel
theorem dL_law_587 : decode cL_law 587 = .ok (.iload 5, 2) := by decide +kernel
theorem dL_law_589 : decode cL_law 589 = .ok (.ifCond .eq 89, 3) := by decide +kernel
theorem dL_law_592 : decode cL_law 592 = .ok (.aload_n 1, 1) := by decide +kernel
theorem dL_law_593 : decode cL_law 593 = .ok (.aload_n 2, 1) := by decide +kernel
theorem dL_law_594 : decode cL_law 594 = .ok (.aload 4, 2) := by decide +kernel
theorem dL_law_596 : decode cL_law 596 = .ok (.invokestatic 143, 3) := by decide +kernel
theorem dL_law_599 : decode cL_law 599 = .ok (.ifCond .eq 79, 3) := by decide +kernel
theorem dL_law_602 : decode cL_law 602 = .ok (.iload 6, 2) := by decide +kernel
theorem dL_law_604 : decode cL_law 604 = .ok (.iconst 3, 1) := by decide +kernel
theorem dL_law_605 : decode cL_law 605 = .ok (.irem, 1) := by decide +kernel
theorem dL_law_606 : decode cL_law 606 = .ok (.ifCond .gt 32, 3) := by decide +kernel
theorem dL_law_609 : decode cL_law 609 = .ok (.aload_n 1, 1) := by decide +kernel
theorem dL_law_610 : decode cL_law 610 = .ok (.aload_n 2, 1) := by decide +kernel
theorem dL_law_611 : decode cL_law 611 = .ok (.aload 4, 2) := by decide +kernel
theorem dL_law_613 : decode cL_law 613 = .ok (.aload 4, 2) := by decide +kernel
theorem dL_law_615 : decode cL_law 615 = .ok (.iconst 1, 1) := by decide +kernel
theorem dL_law_616 : decode cL_law 616 = .ok (.iaload, 1) := by decide +kernel
theorem dL_law_617 : decode cL_law 617 = .ok (.iload 8, 2) := by decide +kernel
theorem dL_law_619 : decode cL_law 619 = .ok (.aload 4, 2) := by decide +kernel
theorem dL_law_621 : decode cL_law 621 = .ok (.iconst 0, 1) := by decide +kernel
theorem dL_law_622 : decode cL_law 622 = .ok (.iaload, 1) := by decide +kernel
theorem dL_law_623 : decode cL_law 623 = .ok (.aload 4, 2) := by decide +kernel
theorem dL_law_625 : decode cL_law 625 = .ok (.iconst 1, 1) := by decide +kernel
theorem dL_law_626 : decode cL_law 626 = .ok (.iaload, 1) := by decide +kernel
theorem dL_law_627 : decode cL_law 627 = .ok (.isub, 1) := by decide +kernel
theorem dL_law_628 : decode cL_law 628 = .ok (.iconst 1, 1) := by decide +kernel
theorem dL_law_629 : decode cL_law 629 = .ok (.iadd, 1) := by decide +kernel
theorem dL_law_630 : decode cL_law 630 = .ok (.irem, 1) := by decide +kernel
theorem dL_law_631 : decode cL_law 631 = .ok (.iadd, 1) := by decide +kernel
theorem dL_law_632 : decode cL_law 632 = .ok (.invokestatic 147, 3) := by decide +kernel
theorem dL_law_635 : decode cL_law 635 = .ok (.ifCond .eq 43, 3) := by decide +kernel
theorem dL_law_638 : decode cL_law 638 = .ok (.iload 6, 2) := by decide +kernel
theorem dL_law_640 : decode cL_law 640 = .ok (.bipush 6, 2) := by decide +kernel
theorem dL_law_642 : decode cL_law 642 = .ok (.irem, 1) := by decide +kernel
theorem dL_law_643 : decode cL_law 643 = .ok (.ifCond .gt 10, 3) := by decide +kernel
theorem dL_law_646 : decode cL_law 646 = .ok (.aload_n 1, 1) := by decide +kernel
theorem dL_law_647 : decode cL_law 647 = .ok (.invokestatic 151, 3) := by decide +kernel
theorem dL_law_650 : decode cL_law 650 = .ok (.ifCond .eq 28, 3) := by decide +kernel
theorem dL_law_653 : decode cL_law 653 = .ok (.iload 6, 2) := by decide +kernel
theorem dL_law_655 : decode cL_law 655 = .ok (.bipush 20, 2) := by decide +kernel
theorem dL_law_657 : decode cL_law 657 = .ok (.irem, 1) := by decide +kernel
theorem dL_law_658 : decode cL_law 658 = .ok (.ifCond .gt 16, 3) := by decide +kernel
theorem dL_law_661 : decode cL_law 661 = .ok (.aload_n 1, 1) := by decide +kernel
theorem dL_law_662 : decode cL_law 662 = .ok (.aload 4, 2) := by decide +kernel
theorem dL_law_664 : decode cL_law 664 = .ok (.iload 7, 2) := by decide +kernel
theorem dL_law_666 : decode cL_law 666 = .ok (.iconst 3, 1) := by decide +kernel
theorem dL_law_667 : decode cL_law 667 = .ok (.idiv, 1) := by decide +kernel
theorem dL_law_668 : decode cL_law 668 = .ok (.invokestatic 124, 3) := by decide +kernel
theorem dL_law_671 : decode cL_law 671 = .ok (.ifCond .eq 7, 3) := by decide +kernel
theorem dL_law_674 : decode cL_law 674 = .ok (.iconst 1, 1) := by decide +kernel
theorem dL_law_675 : decode cL_law 675 = .ok (.goto 4, 3) := by decide +kernel
theorem dL_law_678 : decode cL_law 678 = .ok (.iconst 0, 1) := by decide +kernel
theorem dL_law_679 : decode cL_law 679 = .ok (.istore 5, 2) := by decide +kernel
theorem dL_law_681 : decode cL_law 681 = .ok (.iinc 6 1, 3) := by decide +kernel
theorem dL_law_684 : decode cL_law 684 = .ok (.goto (-590), 3) := by decide +kernel
theorem dL_law_687 : decode cL_law 687 = .ok (.iload 5, 2) := by decide +kernel
theorem dL_law_689 : decode cL_law 689 = .ok (.ifCond .eq 14, 3) := by decide +kernel
theorem dL_law_692 : decode cL_law 692 = .ok (.aload_n 1, 1) := by decide +kernel
theorem dL_law_693 : decode cL_law 693 = .ok (.invokestatic 151, 3) := by decide +kernel
theorem dL_law_696 : decode cL_law 696 = .ok (.ifCond .eq 7, 3) := by decide +kernel
theorem dL_law_699 : decode cL_law 699 = .ok (.iconst 1, 1) := by decide +kernel
theorem dL_law_700 : decode cL_law 700 = .ok (.goto 4, 3) := by decide +kernel
theorem dL_law_703 : decode cL_law 703 = .ok (.iconst 0, 1) := by decide +kernel
theorem dL_law_704 : decode cL_law 704 = .ok (.ireturn, 1) := by decide +kernel
abbrev vwCl : List vw_C := [(RX0, TX0, 3), (RX1, TX1, 6)]
end
section
/-! own rows: contracts that leave the heap as it is, loops, small numbers -/
section XINF
variable {p : Program} {l : Launch} {e : Env} {R : Room} {s : State} {m : MethodId} {args : Array Value} {below : List Frame} {meth : Method} {c : Code} {H : Heap} {locs : List Loc} {cells slots : Nat} {Q : State → Prop}
variable {pc : Nat} {ls : Array Slot} {rest st0 : List Value} {a : Array Value}
/-- an int (or a boolean) comes back, the heap is the same -/
def XSi (post : Int32 → Prop) : Array Value → State → Outcome → State → Prop := fun _ st oc t => ∃ r : Int32, oc = .returned (some (.int r)) ∧ post r ∧ t.heap = st.heap
theorem xc_si {post : Int32 → Prop} (hr : va_Run p l e R s m args below meth c H locs cells slots 0 0 (F0 m pc ls st0) rest (XSi post a) (fun _ => False))
    (kk : ∀ r : Int32, post r → W p l e R s m args below meth c H locs cells slots Q (F0 m (pc + 3) ls (.int r :: rest))) : W p l e R s m args below meth c H locs cells slots Q (F0 m pc ls st0) := by
  intro T hT X
  obtain ⟨v, st₀, t, T', L, h0, X', hL, e1, e2, ⟨r, hv, hp, hh⟩, st⟩ := hr T hT X
  cases hv
  obtain ⟨t2, a1, b1⟩ := kk r hp T' (by rw [e1, hh, h0]) (Stand.forget X' (fun q h => (hL q h).elim))
  exact ⟨t2, st t2 a1, b1⟩
theorem xc_sie {v : Int32} (hr : va_Run p l e R s m args below meth c H locs cells slots 0 0 (F0 m pc ls st0) rest (XSi (fun r => r = v) a) (fun _ => False))
    (kk : W p l e R s m args below meth c H locs cells slots Q (F0 m (pc + 3) ls (.int v :: rest))) : W p l e R s m args below meth c H locs cells slots Q (F0 m pc ls st0) := xc_si hr (fun r hr => by rw [hr]; exact kk)
/-- a loop over one heap -/
theorem x_loopP (Inv : Nat → Array Slot → Prop) (n0 : Nat) (h0 : Inv n0 ls) (hz : ∀ ls, Inv 0 ls → False)
    (step : ∀ n ls, Inv (n + 1) ls → (∀ ls', Inv n ls' → W p l e R s m args below meth c H locs cells slots Q (F0 m pc ls' [])) → W p l e R s m args below meth c H locs cells slots Q (F0 m pc ls [])) :
    W p l e R s m args below meth c H locs cells slots Q (F0 m pc ls []) := by
  have key : ∀ n ls, Inv n ls → W p l e R s m args below meth c H locs cells slots Q (F0 m pc ls []) := by
    intro n
    induction n with
    | zero => intro ls h; exact (hz ls h).elim
    | succ n ih => intro ls h; exact step n ls h ih
  exact key n0 ls h0
/-- a loop that may change the heap -/
theorem x_loop (Inv : Nat → Heap → List Loc → Array Slot → Prop) (n0 : Nat) (h0 : Inv n0 H locs ls) (hz : ∀ H locs ls, Inv 0 H locs ls → False)
    (step : ∀ n H locs ls, Inv (n + 1) H locs ls → (∀ H' locs' ls', Inv n H' locs' ls' → W p l e R s m args below meth c H' locs' cells slots Q (F0 m pc ls' [])) → W p l e R s m args below meth c H locs cells slots Q (F0 m pc ls [])) :
    W p l e R s m args below meth c H locs cells slots Q (F0 m pc ls []) := by
  have key : ∀ n H locs ls, Inv n H locs ls → W p l e R s m args below meth c H locs cells slots Q (F0 m pc ls []) := by
    intro n
    induction n with
    | zero => intro H locs ls h; exact (hz H locs ls h).elim
    | succ n ih => intro H locs ls h; exact step n H locs ls h ih
  exact key n0 H locs ls h0
/-- the top of the stack by another name -/
theorem x_top {x : Int32} (y : Int32) (h : x = y) (k : W p l e R s m args below meth c H locs cells slots Q (F0 m pc ls (.int y :: rest))) : W p l e R s m args below meth c H locs cells slots Q (F0 m pc ls (.int x :: rest)) := h ▸ k
theorem x_toprf {x : Option Nat} {y : Nat} (h : x = some y) (k : W p l e R s m args below meth c H locs cells slots Q (F0 m pc ls (.ref y :: rest))) : W p l e R s m args below meth c H locs cells slots Q (F0 m pc ls (va_rf x :: rest)) := by
  subst h; exact k
end XINF
/-- the array classes: ints, Things, longs -/
abbrev TY (cI cT cJ : ClassId) : List (ClassId × FieldType) := [(cI, .int), (cT, .object "BackMirror$Thing"), (cJ, .long)]
/-- what every method may ask of the tables beside its words -/
def XE (D : va_G) (cI cT cJ : ClassId) (U : State) : Prop := va_K D vwCl (TY cI cT cJ) U ∧ va_Nw (.methodLinkNest RX0 20 yX1_isSameRow RX1) U ∧ va_AO "BackMirror$Thing" U
theorem XE.warm {D : va_G} {cI cT cJ : ClassId} {s U : State} (hW : s.WarmedH U.vm) (h : XE D cI cT cJ s) : XE D cI cT cJ U := ⟨va_K.moved hW.alike h.1, va_Nw.warmM hW h.2.1, va_AO.moved hW.alike h.2.2⟩
theorem XE.same {D : va_G} {cI cT cJ : ClassId} {s U : State} (hW : s.vm = U.vm) (h : XE D cI cT cJ s) : XE D cI cT cJ U := ⟨va_K.moved (by rw [hW]; exact Vm.Alike.refl _) h.1, va_Nw.same rfl hW h.2.1, va_AO.moved (by rw [hW]; exact Vm.Alike.refl _) h.2.2⟩
/-- what a method is given: its arguments, what the heap holds, the classes -/
def XP (D : va_G) (cI cT cJ : ClassId) (av : List Value) (F : Heap → Prop) : Array Value → State → Prop := va_Pc av (fun U => F U.heap ∧ XE D cI cT cJ U)
theorem XP_blind {D : va_G} {cI cT cJ : ClassId} {av : List Value} {F : Heap → Prop} : FrameBlind (XP D cI cT cJ av F) := fun a U g mk q => ⟨q.1, q.2.1, XE.same (s := U) (U := U.calling g mk a) rfl q.2.2⟩
theorem XP_pre {D : va_G} {cI cT cJ : ClassId} {av : List Value} {F : Heap → Prop} {s : State} {H : Heap} (hE : XE D cI cT cJ s) (hF : F H) : ∀ U : State, U.heap = H → s.WarmedH U.vm → XP D cI cT cJ av F av.toArray U := fun U hU hW => ⟨rfl, by rw [hU]; exact hF, XE.warm hW hE⟩
/-- rooms by depth -/
abbrev rmD (d mc ms : Nat) : Room := { frames := d, cells := mc, slots := ms, locals := 30 * d }
theorem xle {a b : Nat} (ha : a < 2 ^ 31) (hb : b < 2 ^ 31) : nI a ≤ nI b ↔ a ≤ b := ⟨fun h => (Nat.lt_or_ge b a).elim (fun g => (nI_ge g ha h).elim) id, fun h => nI_le h hb⟩
theorem xlt {a b : Nat} (ha : a < 2 ^ 31) (hb : b < 2 ^ 31) : nI a < nI b ↔ a < b := ⟨fun h => (Nat.lt_or_ge a b).elim id (fun g => (nI_nlt g ha h).elim), fun h => nI_lt h hb⟩
theorem xeq {a b : Nat} (ha : a < 2 ^ 31) (hb : b < 2 ^ 31) : nI a = nI b ↔ a = b := nI_eq ha hb
theorem xin {k n : Nat} (h : k < n) (hn : n < 2 ^ 31) : vp_in (nI k) n := nI_in h hn
theorem xsub {a b : Nat} (h : b ≤ a) : nI a - nI b = nI (a - b) := pk_sub h
theorem xlt0 {n : Nat} (h : n < 2 ^ 31) : ¬ nI n < 0 := nI_pos h
/-- a cell of a world, alone -/
theorem x1 {D : va_G} {cl : List vw_C} {ws : va_W} {H : Heap} {q : Nat × va_E} (hP : va_P D cl ws H) (hm : q ∈ ws) : va_P D cl [q] H := by
  intro k x hx
  obtain ⟨i, hi⟩ := List.getElem?_of_mem hm
  cases k with
  | zero => cases hx; exact hP i q hi
  | succ k => simp at hx
theorem xP_iff {D : va_G} {cl : List vw_C} {ws : va_W} {H : Heap} : va_P D cl ws H ↔ ∀ q ∈ ws, va_at D cl q H := ⟨fun h q hq => (List.getElem?_of_mem hq).elim fun i hi => h i q hi, fun h k q hk => h q (List.mem_of_getElem? hk)⟩
theorem xD_iff {A : Nat → Prop} {ws : va_W} : va_D A ws ↔ (ws.map (·.1)).Nodup ∧ ∀ q ∈ ws, A q.1 := by
  refine ⟨fun h => ⟨?_, fun q hq => (List.getElem?_of_mem hq).elim fun i hi => h.2 i q hi⟩, fun h => ⟨?_, fun k q hk => h.2 q (List.mem_of_getElem? hk)⟩⟩
  · refine List.pairwise_iff_getElem.mpr fun i j hi hj hij he => ?_
    rw [List.length_map] at hi hj
    rw [List.getElem_map, List.getElem_map] at he
    have := h.1 i j _ _ (List.getElem?_eq_getElem hi) (List.getElem?_eq_getElem hj) he
    omega
  · intro i j p q hp hq hpq
    have hi : i < (ws.map (·.1)).length := by rw [List.length_map]; exact (List.getElem?_eq_some_iff.mp hp).1
    exact (List.getElem?_inj hi h.1).mp (by rw [List.getElem?_map, List.getElem?_map, hp, hq]; simp [hpq])
theorem xP_perm {D : va_G} {cl : List vw_C} {ws w2 : va_W} {H : Heap} (hp : ws.Perm w2) (h : va_P D cl ws H) : va_P D cl w2 H := xP_iff.mpr fun q hq => xP_iff.mp h q (hp.mem_iff.mpr hq)
theorem xD_perm {A : Nat → Prop} {ws w2 : va_W} (hp : ws.Perm w2) (h : va_D A ws) : va_D A w2 := xD_iff.mpr ⟨((hp.map _).nodup_iff).mp (xD_iff.mp h).1, fun q hq => (xD_iff.mp h).2 q (hp.mem_iff.mpr hq)⟩
/-- a part of a world (in its order) -/
theorem xD_sub {A : Nat → Prop} {ws w2 : va_W} (hp : w2.Sublist ws) (h : va_D A ws) : va_D A w2 := xD_iff.mpr ⟨((hp.map _).nodup (xD_iff.mp h).1), fun q hq => (xD_iff.mp h).2 q (hp.subset hq)⟩
theorem xP_sub {D : va_G} {cl : List vw_C} {ws w2 : va_W} {H : Heap} (hp : ∀ q ∈ w2, q ∈ ws) (h : va_P D cl ws H) : va_P D cl w2 H := xP_iff.mpr fun q hq => xP_iff.mp h q (hp q hq)
theorem xA_iff {ws : va_W} {sz q : Nat} : va_A ws sz q ↔ (∃ x ∈ ws, x.1 = q) ∨ sz ≤ q := by
  refine ⟨fun h => ?_, fun h => ?_⟩
  · rcases h with ⟨k, e, h⟩ | h
    · exact Or.inl ⟨_, List.mem_of_getElem? h, rfl⟩
    · exact Or.inr h
  · rcases h with ⟨⟨q', e⟩, h, rfl⟩ | h
    · obtain ⟨k, hk⟩ := List.getElem?_of_mem h
      exact Or.inl ⟨k, e, hk⟩
    · exact Or.inr h
/-- what a callee may change is the caller's -/
theorem xfree {A0 : Nat → Prop} {ws wc : va_W} {H0 H : Heap} {locs : List Loc} (hD : va_D A0 ws) (hS : va_S A0 H0 H locs) (hA : ∀ q, H0.size ≤ q → A0 q) (hC : ∀ q ∈ wc, q ∈ ws) : ∀ q, va_A wc H.size q → A0 q := by
  intro q h
  rcases xA_iff.mp h with ⟨x, hx, rfl⟩ | h
  · exact (xD_iff.mp hD).2 x (hC x hx)
  · exact hA q (Nat.le_trans hS.1 h)
/-- behind a call: the caller's other cells wr, and what the callee made of wc -/
theorem xjoin {A0 : Nat → Prop} {D : va_G} {cl : List vw_C} {wr wc w1 : va_W} {H H1 : Heap} (hP : va_P D cl (wr ++ wc) H) (hD : va_D A0 (wr ++ wc))
    (hk : ∀ q : Nat, q < H.size → ¬ va_A wc H.size q → H1[q]? = H[q]?) (hF : ∀ q, va_A wc H.size q → A0 q) (hP1 : va_P D cl w1 H1) (hD1 : va_D (va_A wc H.size) w1) : va_P D cl (wr ++ w1) H1 ∧ va_D A0 (wr ++ w1) := by
  have hn := (xD_iff.mp hD).1
  rw [List.map_append] at hn
  have apart : ∀ q ∈ wr, q.1 < H.size ∧ ¬ va_A wc H.size q.1 := by
    intro q hq
    have hl := (xP_iff.mp hP q (List.mem_append_left _ hq)).lt
    refine ⟨hl, fun h => ?_⟩
    rcases xA_iff.mp h with ⟨x, hx, e⟩ | h
    · exact (List.nodup_append.mp hn).2.2 q.1 (List.mem_map.mpr ⟨q, hq, rfl⟩) x.1 (List.mem_map.mpr ⟨x, hx, rfl⟩) e.symm
    · omega
  refine ⟨xP_iff.mpr fun q hq => ?_, xD_iff.mpr ⟨?_, fun q hq => ?_⟩⟩
  · rcases List.mem_append.mp hq with h | h
    · exact (xP_iff.mp hP q (List.mem_append_left _ h)).kept (hk q.1 (apart q h).1 (apart q h).2)
    · exact xP_iff.mp hP1 q h
  · rw [List.map_append]
    refine List.nodup_append.mpr ⟨(List.nodup_append.mp hn).1, (xD_iff.mp hD1).1, fun a ha b hb e => ?_⟩
    obtain ⟨q, hq, rfl⟩ := List.mem_map.mp ha
    obtain ⟨x, hx, rfl⟩ := List.mem_map.mp hb
    exact (apart q hq).2 (by rw [e]; exact (xD_iff.mp hD1).2 x hx)
  · rcases List.mem_append.mp hq with h | h
    · exact (xD_iff.mp hD).2 q (List.mem_append_left _ h)
    · exact hF q.1 ((xD_iff.mp hD1).2 q h)
/-- an int array's class is one -/
theorem xcI {D : va_G} {cl : List vw_C} {t1 t2 : List (ClassId × FieldType)} {U : State} {c1 c2 : ClassId} {ty : FieldType} (h1 : va_K D cl t1 U) (h2 : va_K D cl t2 U) (i j : Nat) (e1 : t1[i]? = some (c1, ty)) (e2 : t2[j]? = some (c2, ty)) : c1 = c2 := by
  have g1 := (h1.2 i _ e1).2
  have g2 := (h2.2 j _ e2).2
  cases ty with
  | object C =>
    obtain ⟨-, -, -, -, -, a⟩ := g1
    obtain ⟨-, -, -, -, -, b⟩ := g2
    exact Option.some.inj (a.symm.trans b)
  | _ => exact Option.some.inj (g1.symm.trans g2)
theorem xinc (k n : Nat) (z : Int) (h : Int32.ofInt z = nI n) : nI k + Int32.ofInt z = nI (k + n) := by rw [h]; exact nI_add k n
theorem xdec (k : Nat) (z : Int) (h : Int32.ofInt z = -1) : nI (k + 1) + Int32.ofInt z = nI k := by rw [h]; exact pk_m1 k
def bN (b : Bool) : Nat := if b then 1 else 0
theorem bN_le (b : Bool) : bN b ≤ 1 := by cases b <;> decide
theorem bN_t {b : Bool} (h : ¬ nI (bN b) = nI 0) : b = true := by
  cases b
  · exact absurd rfl h
  · rfl
theorem bN_f {b : Bool} (h : nI (bN b) = nI 0) : b = false := by
  cases b
  · rfl
  · exact absurd h (by decide)
theorem xnb (k : Nat) (h : k ≤ 1) : narrow .boolean (.int (nI k)) = .int (nI k) := by
  have : k = 0 ∨ k = 1 := by omega
  rcases this with rfl | rfl <;> rfl
theorem xadd {a b c : Nat} (h : a + b = c) : nI a + nI b = nI c := by rw [← h]; exact nI_add a b
end
section
/-! the numbers behind the class and the reference: what is alike, what a difference takes -/
/-- what is at a place: kind, rights, how many numbers, the numbers -/
abbrev Tv : Type := Int32 × Int32 × Nat × (Nat → Int32)
/-- how long a row of numbers from s and t on is shared, k steps at most, i found -/
def shl (f g : Nat → Int32) (n1 n2 s t : Nat) : Nat → Nat → Nat
  | 0, i => i
  | k + 1, i => if s + i < n1 ∧ t + i < n2 ∧ f (s + i) = g (t + i) then shl f g n1 n2 s t k (i + 1) else i
def shL (f g : Nat → Int32) (n1 n2 s t : Nat) : Nat := shl f g n1 n2 s t n1 0
def lng (f g : Nat → Int32) (n1 n2 s : Nat) : Nat → Nat
  | 0 => 0
  | t + 1 => if lng f g n1 n2 s t < shL f g n1 n2 s t then shL f g n1 n2 s t else lng f g n1 n2 s t
def tak (f g : Nat → Int32) (n1 n2 : Nat) : Nat → Nat → Nat
  | 0, _ => 0
  | k + 1, s => if s < n1 then (if lng f g n1 n2 s n2 < 3 then 1 + tak f g n1 n2 k (s + 1) else 2 + tak f g n1 n2 k (s + lng f g n1 n2 s n2)) else 0
def rowB (n1 n2 : Nat) (f g : Nat → Int32) : Bool := decide (n1 = n2 ∧ ∀ j, j < n1 → f j = g j)
def sameB (a b : Tv) : Bool := decide (a.1 = b.1) && decide (a.2.1 = b.2.1) && rowB a.2.2.1 b.2.2.1 a.2.2.2 b.2.2.2
/-- at how many of the first k places a date differs from the live tree -/
def dfN (G : Nat → Tv) (d : Nat) : Nat → Nat
  | 0 => 0
  | k + 1 => dfN G d k + bN (!sameB (G (6 * d + k)) (G (246 + k)))
def dif (a b : Tv) : Nat := if sameB a b = true then 0 else (if a.1 = nI 1 ∧ b.1 = nI 1 then tak a.2.2.2 b.2.2.2 a.2.2.1 b.2.2.1 a.2.2.1 0 else if a.1 = nI 1 then a.2.2.1 + 1 else 1) + (if a.2.1 = b.2.1 then 0 else 1)
/-- the differences of n places from place k0 on, by the flat numbers of dates and places -/
def szN (G : Nat → Tv) (k0 : Nat) : Nat → Nat
  | 0 => 0
  | n + 1 => szN G k0 n + dif (G (k0 + n)) (G (k0 + n + 6))
theorem shl_stop {f g : Nat → Int32} {n1 n2 s t : Nat} (k i : Nat) (h : ¬ (s + i < n1 ∧ t + i < n2 ∧ f (s + i) = g (t + i))) : shl f g n1 n2 s t k i = i := by
  cases k with
  | zero => rfl
  | succ k => simp only [shl, if_neg h]
theorem shl_step {f g : Nat → Int32} {n1 n2 s t : Nat} (k i : Nat) (h : s + i < n1 ∧ t + i < n2 ∧ f (s + i) = g (t + i)) : shl f g n1 n2 s t (k + 1) i = shl f g n1 n2 s t k (i + 1) := by simp only [shl, if_pos h]
theorem shl_le {f g : Nat → Int32} {n1 n2 s t : Nat} : ∀ k i, s + i ≤ n1 → s + shl f g n1 n2 s t k i ≤ n1 := by
  intro k
  induction k with
  | zero => intro i h; exact h
  | succ k ih =>
    intro i h
    simp only [shl]
    split
    · rename_i c; exact ih (i + 1) (by omega)
    · exact h
theorem shL_le {f g : Nat → Int32} {n1 n2 s t : Nat} (h : s ≤ n1) : s + shL f g n1 n2 s t ≤ n1 := shl_le n1 0 h
theorem lng_le {f g : Nat → Int32} {n1 n2 s : Nat} (h : s ≤ n1) : ∀ t, s + lng f g n1 n2 s t ≤ n1 := by
  intro t
  induction t with
  | zero => exact h
  | succ t ih =>
    simp only [lng]
    split
    · exact shL_le h
    · exact ih
theorem tak_le {f g : Nat → Int32} {n1 n2 : Nat} : ∀ k s, tak f g n1 n2 k s ≤ 2 * k := by
  intro k
  induction k with
  | zero => intro s; exact Nat.le_refl _
  | succ k ih =>
    intro s
    simp only [tak]
    split
    · split
      · have := ih (s + 1); omega
      · have := ih (s + lng f g n1 n2 s n2); omega
    · omega
theorem shl_congr {f g f' g' : Nat → Int32} {n1 n2 s t : Nat} (hf : ∀ j, j < n1 → f j = f' j) (hg : ∀ j, j < n2 → g j = g' j) : ∀ k i, shl f g n1 n2 s t k i = shl f' g' n1 n2 s t k i := by
  intro k
  induction k with
  | zero => intro i; rfl
  | succ k ih =>
    intro i
    by_cases c : s + i < n1 ∧ t + i < n2 ∧ f (s + i) = g (t + i)
    · rw [shl_step k i c, shl_step k i ⟨c.1, c.2.1, by rw [← hf _ c.1, ← hg _ c.2.1]; exact c.2.2⟩]; exact ih _
    · rw [shl_stop _ i c, shl_stop _ i (fun h => c ⟨h.1, h.2.1, by rw [hf _ h.1, hg _ h.2.1]; exact h.2.2⟩)]
theorem lng_congr {f g f' g' : Nat → Int32} {n1 n2 s : Nat} (hf : ∀ j, j < n1 → f j = f' j) (hg : ∀ j, j < n2 → g j = g' j) : ∀ t, lng f g n1 n2 s t = lng f' g' n1 n2 s t := by
  intro t
  induction t with
  | zero => rfl
  | succ t ih =>
    have e : shL f g n1 n2 s t = shL f' g' n1 n2 s t := shl_congr hf hg _ _
    simp only [lng]
    rw [ih, e]
theorem tak_congr {f g f' g' : Nat → Int32} {n1 n2 : Nat} (hf : ∀ j, j < n1 → f j = f' j) (hg : ∀ j, j < n2 → g j = g' j) : ∀ k s, tak f g n1 n2 k s = tak f' g' n1 n2 k s := by
  intro k
  induction k with
  | zero => intro s; rfl
  | succ k ih => intro s; simp only [tak, ih, lng_congr hf hg]
theorem rowB_congr {f g f' g' : Nat → Int32} {n1 n2 : Nat} (hf : ∀ j, j < n1 → f j = f' j) (hg : ∀ j, j < n2 → g j = g' j) : rowB n1 n2 f g = rowB n1 n2 f' g' := by
  unfold rowB
  refine decide_eq_decide.mpr ⟨fun h => ⟨h.1, fun j hj => ?_⟩, fun h => ⟨h.1, fun j hj => ?_⟩⟩
  · rw [← hf j hj, ← hg j (by omega)]; exact h.2 j hj
  · rw [hf j hj, hg j (by omega)]; exact h.2 j hj
/-- all of a row is shared just when the rows are the same -/
theorem shl_all {f g : Nat → Int32} {n : Nat} : ∀ k i, n ≤ i + k → i ≤ n → (shl f g n n 0 0 k i = n ↔ ∀ j, i ≤ j → j < n → f j = g j) := by
  intro k
  induction k with
  | zero => intro i h1 h2; simp only [shl]; exact ⟨fun _ j h3 h4 => absurd h4 (by omega), fun _ => by omega⟩
  | succ k ih =>
    intro i h1 h2
    by_cases c : i < n ∧ f i = g i
    · rw [shl_step k i (by simp only [Nat.zero_add]; exact ⟨c.1, c.1, c.2⟩), ih (i + 1) (by omega) c.1]
      refine ⟨fun h j h3 h4 => ?_, fun h j h3 h4 => h j (by omega) h4⟩
      by_cases e : j = i
      · rw [e]; exact c.2
      · exact h j (by omega) h4
    · rw [shl_stop _ i (by simp only [Nat.zero_add]; exact fun h => c ⟨h.1, h.2.2⟩)]
      refine ⟨fun h j h3 h4 => by omega, fun h => ?_⟩
      by_cases e : i < n
      · exact absurd ⟨e, h i (Nat.le_refl _) e⟩ c
      · omega
theorem shL_all {f g : Nat → Int32} {n : Nat} : shL f g n n 0 0 = n ↔ ∀ j, j < n → f j = g j := (shl_all n 0 (by omega) (Nat.zero_le _)).trans ⟨fun h j hj => h j (Nat.zero_le _) hj, fun h j _ hj => h j hj⟩
theorem dfN_le {G : Nat → Tv} {d : Nat} : ∀ k, dfN G d k ≤ k := by
  intro k
  induction k with
  | zero => exact Nat.le_refl _
  | succ k ih => simp only [dfN]; have := bN_le (!sameB (G (6 * d + k)) (G (246 + k))); omega
theorem dif_le {a b : Tv} : dif a b ≤ 2 * a.2.2.1 + 2 := by
  unfold dif
  have := tak_le (f := a.2.2.2) (g := b.2.2.2) (n1 := a.2.2.1) (n2 := b.2.2.1) a.2.2.1 0
  split
  · omega
  · split <;> split <;> (try split) <;> omega
end
section
/-! the class, rows of numbers: sharedLength, isSameRow, longestCopy, rowTakes, keptIndex -/

theorem rowB_f1 {n1 n2 : Nat} {f g : Nat → Int32} (h : ¬ n1 = n2) : rowB n1 n2 f g = false := decide_eq_false fun c => h c.1
theorem rowB_t {n1 n2 : Nat} {f g : Nat → Int32} (h : n1 = n2) (h2 : shL f g n1 n2 0 0 = n1) : rowB n1 n2 f g = true := by
  subst h
  exact decide_eq_true ⟨rfl, shL_all.mp h2⟩
theorem rowB_f2 {n1 n2 : Nat} {f g : Nat → Int32} (h : n1 = n2) (h2 : ¬ shL f g n1 n2 0 0 = n1) : rowB n1 n2 f g = false := by
  subst h
  exact decide_eq_false fun c => h2 (shL_all.mpr c.2)

set_option maxHeartbeats 4000000 in
set_option maxRecDepth 100000 in
theorem c_X1_keptIndex (l : Launch) {D : va_G} {cI cT cJ : ClassId} (d q : Nat) : Met l yX1_keptIndex wsX1_keptIndex (rmD 1 0 0) (XP D cI cT cJ [.int (nI d), .int (nI q)] (fun _ => True)) (XSi (fun r => r = nI (6 * d + q))) 0 0 (fun _ => False) := by
  refine Met.ofW (cc := cX1_keptIndex) (maxL := 2) (ret := (some .int)) (by decide) rfl ?_
  intro p e s m args below meth c s₁ B hml hv
  obtain ⟨rfl, hF, hE⟩ := hv
  have hx := B.exec
  have hb := B.bytes
  have hr := B.returns
  have hts := atoms_spec (ws := wsX1_keptIndex) B.pre
  have hown : s.vm.findClass RX1 = some m.cls := findClass_of_methodNamed B.named
  have hlocks := B.notSynchronized
  have hl := lv_entry ([.int (nI d), .int (nI q)]) (n := 2) (Nat.le_of_ble_eq_true rfl)
  rw [lg_entry_eq]
  generalize (lg_sl ([.int (nI d), .int (nI q)]) ++ List.replicate (2 - (lg_sl ([.int (nI d), .int (nI q)])).length) Slot.unset).toArray = ls at hl ⊢
  have hl : lv_has ls 2 [(0, .int (nI d)), (1, .int (nI q))] := hl
  refine lv_iload_n hx hb dX1_keptIndex_0 rfl (lv_at hl 0 rfl) ?_
  refine lv_bipush (v := nI 6) hx hb dX1_keptIndex_1 (by decide) ?_
  refine lv_imul hx hb dX1_keptIndex_3 ?_
  refine x_top (nI (d * 6)) (pk_mul _ _) ?_
  refine lv_iload_n hx hb dX1_keptIndex_4 rfl (lv_at hl 1 rfl) ?_
  refine lv_iadd hx hb dX1_keptIndex_5 ?_
  refine x_top (nI ((d * 6) + q)) (xadd (by omega)) ?_
  exact W.iret hx hb hr (fun t9 ht9 hW9 => ⟨_, rfl, by rw [Nat.mul_comm], ht9⟩) (fun _ h => nomatch h) dX1_keptIndex_6

set_option maxHeartbeats 4000000 in
set_option maxRecDepth 100000 in
theorem c_X1_sharedLength (l : Launch) {D : va_G} {cI cT cJ : ClassId} (a b n1 n2 x y : Nat) (f g : Nat → Int32) (hn1 : n1 ≤ 1000) (hn2 : n2 ≤ 1000) (hxx : x ≤ n1) (hyy : y ≤ n2) : Met l yX1_sharedLength wsX1_sharedLength (rmD 1 0 0) (XP D cI cT cJ [.ref a, .int (nI x), .ref b, .int (nI y)] (fun H => va_P D vwCl [(a, .inl (cI, n1, .inl f)), (b, .inl (cI, n2, .inl g))] H)) (XSi (fun r => r = nI (shL f g n1 n2 x y))) 0 0 (fun _ => False) := by
  refine Met.ofW (cc := cX1_sharedLength) (maxL := 5) (ret := (some .int)) (by decide) rfl ?_
  intro p e s m args below meth c s₁ B hml hv
  obtain ⟨rfl, hP, hE⟩ := hv
  have hx := B.exec
  have hb := B.bytes
  have hr := B.returns
  have hts := atoms_spec (ws := wsX1_sharedLength) B.pre
  have hown : s.vm.findClass RX1 = some m.cls := findClass_of_methodNamed B.named
  have hlocks := B.notSynchronized
  have hl := lv_entry ([.ref a, .int (nI x), .ref b, .int (nI y)]) (n := 5) (Nat.le_of_ble_eq_true rfl)
  rw [lg_entry_eq]
  generalize (lg_sl ([.ref a, .int (nI x), .ref b, .int (nI y)]) ++ List.replicate (5 - (lg_sl ([.ref a, .int (nI x), .ref b, .int (nI y)])).length) Slot.unset).toArray = ls at hl ⊢
  have hl : lv_has ls 5 [(0, .ref a), (1, .int (nI x)), (2, .ref b), (3, .int (nI y))] := hl
  have hK := hE.1
  refine lv_iconst (v := nI 0) hx hb dX1_sharedLength_0 (by decide) ?_
  refine lv_istore (lv' := [(4, .int (nI 0)), (0, .ref a), (1, .int (nI x)), (2, .ref b), (3, .int (nI y))]) hx hb dX1_sharedLength_1 hl (by decide) rfl (fun ls hl => ?_)
  refine x_loopP (fun n ls => ∃ i k : Nat, (k + 1 = n) ∧ (n1 ≤ x + i + k) ∧ (x + i ≤ n1) ∧ (y + i ≤ n2) ∧ (shl f g n1 n2 x y k i = shL f g n1 n2 x y) ∧ lv_has ls 5 [(4, .int (nI i)), (0, .ref a), (1, .int (nI x)), (2, .ref b), (3, .int (nI y))]) (n1 + 1) ⟨0, n1, rfl, by omega, by omega, by omega, rfl, lv_sub hl [0, 1, 2, 3, 4] rfl⟩ (fun ls h => by obtain ⟨i, k, hk, h1, h2, h3, hv, -⟩ := h; omega) (fun n ls h ih => ?_)
  obtain ⟨i, k, hk, h1, h2, h3, hv, hl⟩ := h
  refine lv_iload_n hx hb dX1_sharedLength_3 rfl (lv_at hl 2 rfl) ?_
  refine lv_iload hx hb dX1_sharedLength_4 (lv_at hl 0 rfl) ?_
  refine lv_iadd hx hb dX1_sharedLength_6 ?_
  refine x_top (nI (x + i)) (xadd (by omega)) ?_
  refine lv_aload_n hx hb dX1_sharedLength_7 rfl (lv_at hl 1 rfl) ?_
  refine va_alen hx hb hK hP 0 0 rfl rfl (v := nI n1) rfl dX1_sharedLength_8 ?_
  refine lv_icmp_ge (tgt := 42) hx hb dX1_sharedLength_9 (by decide) (fun c9 => ?_) (fun c9 => ?_)
  · have c9 : n1 ≤ (x + i) := (xle (by omega) (by omega)).mp c9
    refine lv_iload hx hb dX1_sharedLength_42 (lv_at hl 0 rfl) ?_
    exact W.iret hx hb hr (fun t9 ht9 hW9 => ⟨_, rfl, by rw [← hv, shl_stop _ _ (fun h => by first | omega | exact c33 h.2.2)], ht9⟩) (fun _ h => nomatch h) dX1_sharedLength_44
  · have c9 : ¬ n1 ≤ (x + i) := fun h => c9 ((xle (by omega) (by omega)).mpr h)
    refine lv_iload_n hx hb dX1_sharedLength_12 rfl (lv_at hl 4 rfl) ?_
    refine lv_iload hx hb dX1_sharedLength_13 (lv_at hl 0 rfl) ?_
    refine lv_iadd hx hb dX1_sharedLength_15 ?_
    refine x_top (nI (y + i)) (xadd (by omega)) ?_
    refine lv_aload_n hx hb dX1_sharedLength_16 rfl (lv_at hl 3 rfl) ?_
    refine va_alen hx hb hK hP 1 0 rfl rfl (v := nI n2) rfl dX1_sharedLength_17 ?_
    refine lv_icmp_ge (tgt := 42) hx hb dX1_sharedLength_18 (by decide) (fun c18 => ?_) (fun c18 => ?_)
    · have c18 : n2 ≤ (y + i) := (xle (by omega) (by omega)).mp c18
      refine lv_iload hx hb dX1_sharedLength_42 (lv_at hl 0 rfl) ?_
      exact W.iret hx hb hr (fun t9 ht9 hW9 => ⟨_, rfl, by rw [← hv, shl_stop _ _ (fun h => by first | omega | exact c33 h.2.2)], ht9⟩) (fun _ h => nomatch h) dX1_sharedLength_44
    · have c18 : ¬ n2 ≤ (y + i) := fun h => c18 ((xle (by omega) (by omega)).mpr h)
      refine lv_aload_n hx hb dX1_sharedLength_21 rfl (lv_at hl 1 rfl) ?_
      refine lv_iload_n hx hb dX1_sharedLength_22 rfl (lv_at hl 2 rfl) ?_
      refine lv_iload hx hb dX1_sharedLength_23 (lv_at hl 0 rfl) ?_
      refine lv_iadd hx hb dX1_sharedLength_25 ?_
      refine x_top (nI (x + i)) (xadd (by omega)) ?_
      refine va_iald hx hb hK hP 0 0 rfl rfl (xin (by omega) (by omega)) dX1_sharedLength_26 ?_
      refine x_top (f (x + i)) (by rw [nI_clamp (by omega)]) ?_
      refine lv_aload_n hx hb dX1_sharedLength_27 rfl (lv_at hl 3 rfl) ?_
      refine lv_iload_n hx hb dX1_sharedLength_28 rfl (lv_at hl 4 rfl) ?_
      refine lv_iload hx hb dX1_sharedLength_29 (lv_at hl 0 rfl) ?_
      refine lv_iadd hx hb dX1_sharedLength_31 ?_
      refine x_top (nI (y + i)) (xadd (by omega)) ?_
      refine va_iald hx hb hK hP 1 0 rfl rfl (xin (by omega) (by omega)) dX1_sharedLength_32 ?_
      refine x_top (g (y + i)) (by rw [nI_clamp (by omega)]) ?_
      refine lv_icmp_ne (tgt := 42) hx hb dX1_sharedLength_33 (by decide) (fun c33 => ?_) (fun c33 => ?_)
      · refine lv_iload hx hb dX1_sharedLength_42 (lv_at hl 0 rfl) ?_
        exact W.iret hx hb hr (fun t9 ht9 hW9 => ⟨_, rfl, by rw [← hv, shl_stop _ _ (fun h => by first | omega | exact c33 h.2.2)], ht9⟩) (fun _ h => nomatch h) dX1_sharedLength_44
      · refine lv_iinc (v := nI (i + 1)) (lv' := [(4, .int (nI (i + 1))), (0, .ref a), (1, .int (nI x)), (2, .ref b), (3, .int (nI y))]) hx hb dX1_sharedLength_36 hl (k := 0) rfl (xinc _ 1 _ (by decide)) (by decide) rfl (fun ls hl => ?_)
        refine lv_goto (tgt := 3) hx hb dX1_sharedLength_39 (by decide) ?_
        obtain ⟨k, rfl⟩ : ∃ j, k = j + 1 := ⟨k - 1, by omega⟩
        exact ih _ ⟨i + 1, k, by omega, by omega, by omega, by omega, by rw [← hv, shl_step _ _ ⟨by omega, by omega, c33⟩], lv_sub hl [0, 1, 2, 3, 4] rfl⟩

set_option maxHeartbeats 4000000 in
set_option maxRecDepth 100000 in
theorem c_X1_isSameRow (l : Launch) {D : va_G} {cI cT cJ : ClassId} (a b n1 n2 : Nat) (f g : Nat → Int32) (hn1 : n1 ≤ 1000) (hn2 : n2 ≤ 1000) : Met l yX1_isSameRow wsX1_isSameRow (rmD 2 0 0) (XP D cI cT cJ [.ref a, .ref b] (fun H => va_P D vwCl [(a, .inl (cI, n1, .inl f)), (b, .inl (cI, n2, .inl g))] H)) (XSi (fun r => r = nI (bN (rowB n1 n2 f g)))) 0 0 (fun _ => False) := by
  refine Met.ofW (cc := cX1_isSameRow) (maxL := 2) (ret := (some .boolean)) (by decide) rfl ?_
  intro p e s m args below meth c s₁ B hml hv
  obtain ⟨rfl, hP, hE⟩ := hv
  have hx := B.exec
  have hb := B.bytes
  have hr := B.returns
  have hts := atoms_spec (ws := wsX1_isSameRow) B.pre
  have hown : s.vm.findClass RX1 = some m.cls := findClass_of_methodNamed B.named
  have hlocks := B.notSynchronized
  have hl := lv_entry ([.ref a, .ref b]) (n := 2) (Nat.le_of_ble_eq_true rfl)
  rw [lg_entry_eq]
  generalize (lg_sl ([.ref a, .ref b]) ++ List.replicate (2 - (lg_sl ([.ref a, .ref b])).length) Slot.unset).toArray = ls at hl ⊢
  have hl : lv_has ls 2 [(0, .ref a), (1, .ref b)] := hl
  have hK := hE.1
  have hsh := shL_le (f := f) (g := g) (n1 := n1) (n2 := n2) (s := 0) (t := 0) (Nat.zero_le _)
  refine lv_aload_n hx hb dX1_isSameRow_0 rfl (lv_at hl 0 rfl) ?_
  refine va_alen hx hb hK hP 0 0 rfl rfl (v := nI n1) rfl dX1_isSameRow_1 ?_
  refine lv_aload_n hx hb dX1_isSameRow_2 rfl (lv_at hl 1 rfl) ?_
  refine va_alen hx hb hK hP 1 0 rfl rfl (v := nI n2) rfl dX1_isSameRow_3 ?_
  refine lv_icmp_ne (tgt := 23) hx hb dX1_isSameRow_4 (by decide) (fun c4 => ?_) (fun c4 => ?_)
  · have c4 : ¬ n1 = n2 := fun h => c4 ((xeq (by omega) (by omega)).mpr h)
    refine lv_iconst (v := nI 0) hx hb dX1_isSameRow_23 (by decide) ?_
    exact W.zret hx hb hr (xnb _ (by omega)) (fun t9 ht9 hW9 => ⟨_, rfl, by first | (rw [rowB_t (by omega) (by omega)]; rfl) | (rw [rowB_f1 (by omega)]; rfl) | (rw [rowB_f2 (by omega) (by omega)]; rfl), ht9⟩) (fun _ h => nomatch h) dX1_isSameRow_24
  · have c4 : n1 = n2 := (xeq (by omega) (by omega)).mp c4
    refine lv_aload_n hx hb dX1_isSameRow_7 rfl (lv_at hl 0 rfl) ?_
    refine lv_iconst (v := nI 0) hx hb dX1_isSameRow_8 (by decide) ?_
    refine lv_aload_n hx hb dX1_isSameRow_9 rfl (lv_at hl 1 rfl) ?_
    refine lv_iconst (v := nI 0) hx hb dX1_isSameRow_10 (by decide) ?_
    refine xc_sie (va_runS (As := [.ref a, .int (nI 0), .ref b, .int (nI 0)]) (rest := []) ⟨hx, hb, hml, hown, hts⟩ (c_X1_sharedLength l a b n1 n2 0 0 f g (by omega) (by omega) (by omega) (by omega)) (va_cwS 4 hts gX1_isSameRow_X1_sharedLength rfl rfl rfl (by decide +kernel) ⟨(Nat.le_of_ble_eq_true rfl), (Nat.le_of_ble_eq_true rfl)⟩) ⟨XP_blind, XP_pre hE hP⟩ rfl rfl hl.1 rfl (lv_room (Nat.le_of_ble_eq_true rfl)) dX1_isSameRow_11 ⟨Nat.le_of_ble_eq_true rfl, Nat.le_of_ble_eq_true rfl⟩) ?_
    refine lv_aload_n hx hb dX1_isSameRow_14 rfl (lv_at hl 0 rfl) ?_
    refine va_alen hx hb hK hP 0 0 rfl rfl (v := nI n1) rfl dX1_isSameRow_15 ?_
    refine lv_icmp_ne (tgt := 23) hx hb dX1_isSameRow_16 (by decide) (fun c16 => ?_) (fun c16 => ?_)
    · have c16 : ¬ (shL f g n1 n2 0 0) = n1 := fun h => c16 ((xeq (by omega) (by omega)).mpr h)
      refine lv_iconst (v := nI 0) hx hb dX1_isSameRow_23 (by decide) ?_
      exact W.zret hx hb hr (xnb _ (by omega)) (fun t9 ht9 hW9 => ⟨_, rfl, by first | (rw [rowB_t (by omega) (by omega)]; rfl) | (rw [rowB_f1 (by omega)]; rfl) | (rw [rowB_f2 (by omega) (by omega)]; rfl), ht9⟩) (fun _ h => nomatch h) dX1_isSameRow_24
    · have c16 : (shL f g n1 n2 0 0) = n1 := (xeq (by omega) (by omega)).mp c16
      refine lv_iconst (v := nI 1) hx hb dX1_isSameRow_19 (by decide) ?_
      refine lv_goto (tgt := 24) hx hb dX1_isSameRow_20 (by decide) ?_
      exact W.zret hx hb hr (xnb _ (by omega)) (fun t9 ht9 hW9 => ⟨_, rfl, by first | (rw [rowB_t (by omega) (by omega)]; rfl) | (rw [rowB_f1 (by omega)]; rfl) | (rw [rowB_f2 (by omega) (by omega)]; rfl), ht9⟩) (fun _ h => nomatch h) dX1_isSameRow_24

set_option maxHeartbeats 4000000 in
set_option maxRecDepth 100000 in
theorem c_X1_longestCopy (l : Launch) {D : va_G} {cI cT cJ : ClassId} (a b n1 n2 x : Nat) (f g : Nat → Int32) (hn1 : n1 ≤ 1000) (hn2 : n2 ≤ 1000) (hxx : x ≤ n1) : Met l yX1_longestCopy wsX1_longestCopy (rmD 2 0 0) (XP D cI cT cJ [.ref a, .int (nI x), .ref b] (fun H => va_P D vwCl [(a, .inl (cI, n1, .inl f)), (b, .inl (cI, n2, .inl g))] H)) (XSi (fun r => r = nI (lng f g n1 n2 x n2))) 0 0 (fun _ => False) := by
  refine Met.ofW (cc := cX1_longestCopy) (maxL := 5) (ret := (some .int)) (by decide) rfl ?_
  intro p e s m args below meth c s₁ B hml hv
  obtain ⟨rfl, hP, hE⟩ := hv
  have hx := B.exec
  have hb := B.bytes
  have hr := B.returns
  have hts := atoms_spec (ws := wsX1_longestCopy) B.pre
  have hown : s.vm.findClass RX1 = some m.cls := findClass_of_methodNamed B.named
  have hlocks := B.notSynchronized
  have hl := lv_entry ([.ref a, .int (nI x), .ref b]) (n := 5) (Nat.le_of_ble_eq_true rfl)
  rw [lg_entry_eq]
  generalize (lg_sl ([.ref a, .int (nI x), .ref b]) ++ List.replicate (5 - (lg_sl ([.ref a, .int (nI x), .ref b])).length) Slot.unset).toArray = ls at hl ⊢
  have hl : lv_has ls 5 [(0, .ref a), (1, .int (nI x)), (2, .ref b)] := hl
  have hK := hE.1
  refine lv_iconst (v := nI 0) hx hb dX1_longestCopy_0 (by decide) ?_
  refine lv_istore_n (lv' := [(3, .int (nI 0)), (0, .ref a), (1, .int (nI x)), (2, .ref b)]) hx hb dX1_longestCopy_1 rfl hl (by decide) rfl (fun ls hl => ?_)
  refine lv_iconst (v := nI 0) hx hb dX1_longestCopy_2 (by decide) ?_
  refine lv_istore (lv' := [(4, .int (nI 0)), (3, .int (nI 0)), (0, .ref a), (1, .int (nI x)), (2, .ref b)]) hx hb dX1_longestCopy_3 hl (by decide) rfl (fun ls hl => ?_)
  refine x_loopP (fun n ls => ∃ t k : Nat, (k + 1 = n) ∧ (n2 ≤ t + k) ∧ (t ≤ n2) ∧ lv_has ls 5 [(4, .int (nI t)), (3, .int (nI (lng f g n1 n2 x t))), (0, .ref a), (1, .int (nI x)), (2, .ref b)]) (n2 + 1) ⟨0, n2, rfl, by omega, by omega, lv_sub hl [0, 1, 2, 3, 4] rfl⟩ (fun ls h => by obtain ⟨t, k, hk, h1, h2, -⟩ := h; omega) (fun n ls h ih => ?_)
  obtain ⟨t, k, hk, h1, h2, hl⟩ := h
  have hg1 := lng_le (f := f) (g := g) (n2 := n2) hxx t
  have hg2 := shL_le (f := f) (g := g) (n2 := n2) (t := t) hxx
  refine lv_iload hx hb dX1_longestCopy_5 (lv_at hl 0 rfl) ?_
  refine lv_aload_n hx hb dX1_longestCopy_7 rfl (lv_at hl 4 rfl) ?_
  refine va_alen hx hb hK hP 1 0 rfl rfl (v := nI n2) rfl dX1_longestCopy_8 ?_
  refine lv_icmp_ge (tgt := 31) hx hb dX1_longestCopy_9 (by decide) (fun c9 => ?_) (fun c9 => ?_)
  · have c9 : n2 ≤ t := (xle (by omega) (by omega)).mp c9
    refine lv_iload_n hx hb dX1_longestCopy_31 rfl (lv_at hl 1 rfl) ?_
    exact W.iret hx hb hr (fun t9 ht9 hW9 => ⟨_, rfl, by rw [show t = n2 by omega], ht9⟩) (fun _ h => nomatch h) dX1_longestCopy_32
  · have c9 : ¬ n2 ≤ t := fun h => c9 ((xle (by omega) (by omega)).mpr h)
    refine lv_iload_n hx hb dX1_longestCopy_12 rfl (lv_at hl 1 rfl) ?_
    refine lv_aload_n hx hb dX1_longestCopy_13 rfl (lv_at hl 2 rfl) ?_
    refine lv_iload_n hx hb dX1_longestCopy_14 rfl (lv_at hl 3 rfl) ?_
    refine lv_aload_n hx hb dX1_longestCopy_15 rfl (lv_at hl 4 rfl) ?_
    refine lv_iload hx hb dX1_longestCopy_16 (lv_at hl 0 rfl) ?_
    refine xc_sie (va_runS (As := [.ref a, .int (nI x), .ref b, .int (nI t)]) (rest := [.int (nI (lng f g n1 n2 x t))]) ⟨hx, hb, hml, hown, hts⟩ (c_X1_sharedLength l a b n1 n2 x t f g (by omega) (by omega) (by omega) (by omega)) (va_cwS 4 hts gX1_longestCopy_X1_sharedLength rfl rfl rfl (by decide +kernel) ⟨(Nat.le_of_ble_eq_true rfl), (Nat.le_of_ble_eq_true rfl)⟩) ⟨XP_blind, XP_pre hE hP⟩ rfl rfl hl.1 rfl (lv_room (Nat.le_of_ble_eq_true rfl)) dX1_longestCopy_18 ⟨Nat.le_of_ble_eq_true rfl, Nat.le_of_ble_eq_true rfl⟩) ?_
    refine va_mmax hx hb (hml.trans hl.1.symm) hown (hts (.methodLink RX1 133 Lib.Math.max.name) (by decide +kernel)) (hts (.static Lib.Math.max.name) (by decide +kernel)) (hts (.initialized "java/lang/Math") (by decide +kernel)) (hts (.code Lib.Math.max.name Lib.Math.max.code 2 (some .int)) (by decide +kernel)) (Nat.le_of_ble_eq_true rfl) (Nat.le_of_ble_eq_true rfl) (Nat.le_of_ble_eq_true rfl) (Nat.le_of_ble_eq_true rfl) dX1_longestCopy_21 ?_
    refine x_top (nI (lng f g n1 n2 x (t + 1))) (by simp only [lng, xlt (show lng f g n1 n2 x t < 2 ^ 31 by omega) (show shL f g n1 n2 x t < 2 ^ 31 by omega)]; split <;> rfl) ?_
    refine lv_istore_n (lv' := [(3, .int (nI (lng f g n1 n2 x (t + 1)))), (4, .int (nI t)), (0, .ref a), (1, .int (nI x)), (2, .ref b)]) hx hb dX1_longestCopy_24 rfl hl (by decide) rfl (fun ls hl => ?_)
    refine lv_iinc (v := nI (t + 1)) (lv' := [(4, .int (nI (t + 1))), (3, .int (nI (lng f g n1 n2 x (t + 1)))), (0, .ref a), (1, .int (nI x)), (2, .ref b)]) hx hb dX1_longestCopy_25 hl (k := 1) rfl (xinc _ 1 _ (by decide)) (by decide) rfl (fun ls hl => ?_)
    refine lv_goto (tgt := 5) hx hb dX1_longestCopy_28 (by decide) ?_
    exact ih _ ⟨t + 1, k - 1, by omega, by omega, by omega, lv_sub hl [0, 1, 2, 3, 4] rfl⟩

set_option maxHeartbeats 4000000 in
set_option maxRecDepth 100000 in
theorem c_X1_rowTakes (l : Launch) {D : va_G} {cI cT cJ : ClassId} (a b n1 n2 : Nat) (f g : Nat → Int32) (hn1 : n1 ≤ 1000) (hn2 : n2 ≤ 1000) : Met l yX1_rowTakes wsX1_rowTakes (rmD 3 0 0) (XP D cI cT cJ [.ref a, .ref b] (fun H => va_P D vwCl [(a, .inl (cI, n1, .inl f)), (b, .inl (cI, n2, .inl g))] H)) (XSi (fun r => r = nI (tak f g n1 n2 n1 0))) 0 0 (fun _ => False) := by
  refine Met.ofW (cc := cX1_rowTakes) (maxL := 5) (ret := (some .int)) (by decide) rfl ?_
  intro p e s m args below meth c s₁ B hml hv
  obtain ⟨rfl, hP, hE⟩ := hv
  have hx := B.exec
  have hb := B.bytes
  have hr := B.returns
  have hts := atoms_spec (ws := wsX1_rowTakes) B.pre
  have hown : s.vm.findClass RX1 = some m.cls := findClass_of_methodNamed B.named
  have hlocks := B.notSynchronized
  have hl := lv_entry ([.ref a, .ref b]) (n := 5) (Nat.le_of_ble_eq_true rfl)
  rw [lg_entry_eq]
  generalize (lg_sl ([.ref a, .ref b]) ++ List.replicate (5 - (lg_sl ([.ref a, .ref b])).length) Slot.unset).toArray = ls at hl ⊢
  have hl : lv_has ls 5 [(0, .ref a), (1, .ref b)] := hl
  have hK := hE.1
  refine lv_iconst (v := nI 0) hx hb dX1_rowTakes_0 (by decide) ?_
  refine lv_istore_n (lv' := [(2, .int (nI 0)), (0, .ref a), (1, .ref b)]) hx hb dX1_rowTakes_1 rfl hl (by decide) rfl (fun ls hl => ?_)
  refine lv_iconst (v := nI 0) hx hb dX1_rowTakes_2 (by decide) ?_
  refine lv_istore_n (lv' := [(3, .int (nI 0)), (2, .int (nI 0)), (0, .ref a), (1, .ref b)]) hx hb dX1_rowTakes_3 rfl hl (by decide) rfl (fun ls hl => ?_)
  refine x_loopP (fun n ls => ∃ x w k : Nat, (k + 1 = n) ∧ (n1 ≤ x + k) ∧ (x ≤ n1) ∧ (w + tak f g n1 n2 k x = tak f g n1 n2 n1 0) ∧ lv_has ls 5 [(3, .int (nI x)), (2, .int (nI w)), (0, .ref a), (1, .ref b)]) (n1 + 1) ⟨0, 0, n1, rfl, by omega, by omega, by omega, lv_sub hl [0, 1, 2, 3] rfl⟩ (fun ls h => by obtain ⟨x, w, k, hk, h1, h2, hv, -⟩ := h; omega) (fun n ls h ih => ?_)
  obtain ⟨x, w, k, hk, h1, h2, hv, hl⟩ := h
  have hg3 := fun h => lng_le (f := f) (g := g) (n1 := n1) (n2 := n2) (s := x) h n2
  have hg4 := tak_le (f := f) (g := g) (n1 := n1) (n2 := n2) k x
  have hg5 := tak_le (f := f) (g := g) (n1 := n1) (n2 := n2) n1 0
  refine lv_iload_n hx hb dX1_rowTakes_4 rfl (lv_at hl 0 rfl) ?_
  refine lv_aload_n hx hb dX1_rowTakes_5 rfl (lv_at hl 2 rfl) ?_
  refine va_alen hx hb hK hP 0 0 rfl rfl (v := nI n1) rfl dX1_rowTakes_6 ?_
  refine lv_icmp_ge (tgt := 44) hx hb dX1_rowTakes_7 (by decide) (fun c7 => ?_) (fun c7 => ?_)
  · have c7 : n1 ≤ x := (xle (by omega) (by omega)).mp c7
    refine lv_iload_n hx hb dX1_rowTakes_44 rfl (lv_at hl 1 rfl) ?_
    exact W.iret hx hb hr (fun t9 ht9 hW9 => ⟨_, rfl, by rw [← hv, show x = n1 by omega]; cases k <;> simp [tak], ht9⟩) (fun _ h => nomatch h) dX1_rowTakes_45
  · have c7 : ¬ n1 ≤ x := fun h => c7 ((xle (by omega) (by omega)).mpr h)
    refine lv_aload_n hx hb dX1_rowTakes_10 rfl (lv_at hl 2 rfl) ?_
    refine lv_iload_n hx hb dX1_rowTakes_11 rfl (lv_at hl 0 rfl) ?_
    refine lv_aload_n hx hb dX1_rowTakes_12 rfl (lv_at hl 3 rfl) ?_
    refine xc_sie (va_runS (As := [.ref a, .int (nI x), .ref b]) (rest := []) ⟨hx, hb, hml, hown, hts⟩ (c_X1_longestCopy l a b n1 n2 x f g hn1 hn2 (by omega)) (va_cwS 3 hts gX1_rowTakes_X1_longestCopy rfl rfl rfl (by decide +kernel) ⟨(Nat.le_of_ble_eq_true rfl), (Nat.le_of_ble_eq_true rfl)⟩) ⟨XP_blind, XP_pre hE hP⟩ rfl rfl hl.1 rfl (lv_room (Nat.le_of_ble_eq_true rfl)) dX1_rowTakes_13 ⟨Nat.le_of_ble_eq_true rfl, Nat.le_of_ble_eq_true rfl⟩) ?_
    refine lv_istore (lv' := [(4, .int (nI (lng f g n1 n2 x n2))), (3, .int (nI x)), (2, .int (nI w)), (0, .ref a), (1, .ref b)]) hx hb dX1_rowTakes_16 hl (by decide) rfl (fun ls hl => ?_)
    refine lv_iload hx hb dX1_rowTakes_18 (lv_at hl 0 rfl) ?_
    refine lv_iconst (v := nI 3) hx hb dX1_rowTakes_20 (by decide) ?_
    refine lv_icmp_lt (tgt := 35) hx hb dX1_rowTakes_21 (by decide) (fun c21 => ?_) (fun c21 => ?_)
    · have c21 : (lng f g n1 n2 x n2) < 3 := (xlt (by omega) (by omega)).mp c21
      refine lv_iinc (v := nI (w + 1)) (lv' := [(2, .int (nI (w + 1))), (4, .int (nI (lng f g n1 n2 x n2))), (3, .int (nI x)), (0, .ref a), (1, .ref b)]) hx hb dX1_rowTakes_35 hl (k := 2) rfl (xinc _ 1 _ (by decide)) (by decide) rfl (fun ls hl => ?_)
      refine lv_iinc (v := nI (x + 1)) (lv' := [(3, .int (nI (x + 1))), (2, .int (nI (w + 1))), (4, .int (nI (lng f g n1 n2 x n2))), (0, .ref a), (1, .ref b)]) hx hb dX1_rowTakes_38 hl (k := 2) rfl (xinc _ 1 _ (by decide)) (by decide) rfl (fun ls hl => ?_)
      refine lv_goto (tgt := 4) hx hb dX1_rowTakes_41 (by decide) ?_
      obtain ⟨k, rfl⟩ : ∃ j, k = j + 1 := ⟨k - 1, by omega⟩
      exact ih _ ⟨x + 1, w + 1, k, by omega, by omega, by omega, by rw [← hv]; simp only [tak]; rw [if_pos (by omega)]; first | rw [if_pos (by omega)]; omega | rw [if_neg (by omega)]; omega, lv_sub hl [0, 1, 3, 4] rfl⟩
    · have c21 : ¬ (lng f g n1 n2 x n2) < 3 := fun h => c21 ((xlt (by omega) (by omega)).mpr h)
      refine lv_iinc (v := nI (w + 2)) (lv' := [(2, .int (nI (w + 2))), (4, .int (nI (lng f g n1 n2 x n2))), (3, .int (nI x)), (0, .ref a), (1, .ref b)]) hx hb dX1_rowTakes_24 hl (k := 2) rfl (xinc _ 2 _ (by decide)) (by decide) rfl (fun ls hl => ?_)
      refine lv_iload_n hx hb dX1_rowTakes_27 rfl (lv_at hl 2 rfl) ?_
      refine lv_iload hx hb dX1_rowTakes_28 (lv_at hl 1 rfl) ?_
      refine lv_iadd hx hb dX1_rowTakes_30 ?_
      refine x_top (nI (x + (lng f g n1 n2 x n2))) (xadd (by omega)) ?_
      refine lv_istore_n (lv' := [(3, .int (nI (x + (lng f g n1 n2 x n2)))), (2, .int (nI (w + 2))), (4, .int (nI (lng f g n1 n2 x n2))), (0, .ref a), (1, .ref b)]) hx hb dX1_rowTakes_31 rfl hl (by decide) rfl (fun ls hl => ?_)
      refine lv_goto (tgt := 41) hx hb dX1_rowTakes_32 (by decide) ?_
      refine lv_goto (tgt := 4) hx hb dX1_rowTakes_41 (by decide) ?_
      obtain ⟨k, rfl⟩ : ∃ j, k = j + 1 := ⟨k - 1, by omega⟩
      exact ih _ ⟨x + (lng f g n1 n2 x n2), w + 2, k, by omega, by omega, by omega, by rw [← hv]; simp only [tak]; rw [if_pos (by omega)]; first | rw [if_pos (by omega)]; omega | rw [if_neg (by omega)]; omega, lv_sub hl [0, 1, 3, 4] rfl⟩
end
section
/-! Thing: its constructor, isLike -/
theorem sameB_t {a b : Tv} (h1 : a.1 = b.1) (h2 : a.2.1 = b.2.1) (h3 : rowB a.2.2.1 b.2.2.1 a.2.2.2 b.2.2.2 = true) : sameB a b = true := by simp only [sameB, h1, h2, h3, decide_true, Bool.and_self]
theorem sameB_f1 {a b : Tv} (h1 : ¬ a.1 = b.1) : sameB a b = false := by simp only [sameB, h1, decide_false, Bool.false_and]
theorem sameB_f2 {a b : Tv} (h1 : ¬ a.2.1 = b.2.1) : sameB a b = false := by simp only [sameB, h1, decide_false, Bool.and_false, Bool.false_and]
theorem sameB_f3 {a b : Tv} (h3 : rowB a.2.2.1 b.2.2.1 a.2.2.2 b.2.2.2 = false) : sameB a b = false := by simp only [sameB, h3, Bool.and_false]

theorem iw_X0init_X0 : ∀ w ∈ u_ws RX0 TX0 3, w ∈ wsX0_init := by decide +kernel
set_option maxHeartbeats 4000000 in
set_option maxRecDepth 100000 in
theorem c_X0_init (l : Launch) {D : va_G} {cI cT cJ : ClassId} (h q sz : Nat) (k r : Int32) : Met l yX0_init wsX0_init (rmD 2 0 0) (XP D cI cT cJ [.ref h, .int k, .int r, .ref q] (fun H => H.size = sz ∧ va_P D vwCl [(h, .inr (0, [.int 0, .int 0, .null]))] H ∧ va_D (fun _ => True) [(h, .inr (0, [.int 0, .int 0, .null]))])) (va_Qv (S := Unit) (fun _ => True) (fun _ t => va_P D vwCl [(h, .inr (0, [.int k, .int r, .ref q]))] t.heap ∧ va_D (va_A [(h, .inr (0, [.int 0, .int 0, .null]))] sz) [(h, .inr (0, [.int k, .int r, .ref q]))]) (va_A [(h, .inr (0, [.int 0, .int 0, .null]))] sz)) 0 0 (va_A [(h, .inr (0, [.int 0, .int 0, .null]))] sz) := by
  refine Met.ofW (cc := cX0_init) (maxL := 4) (ret := none) (by decide) rfl ?_
  intro p e s m args below meth c s₁ B hml hv
  obtain ⟨rfl, ⟨hsz, hP, hD0⟩, hE⟩ := hv
  have hx := B.exec
  have hb := B.bytes
  have hr := B.returns
  have hts := atoms_spec (ws := wsX0_init) B.pre
  have hown : s.vm.findClass RX0 = some m.cls := findClass_of_methodNamed B.named
  have hlocks := B.notSynchronized
  have hin : meth.name = "<init>" := (name_of_methodNamed B.named B.method).1
  have hl := lv_entry ([.ref h, .int k, .int r, .ref q]) (n := 4) (Nat.le_of_ble_eq_true rfl)
  rw [lg_entry_eq]
  generalize (lg_sl ([.ref h, .int k, .int r, .ref q]) ++ List.replicate (4 - (lg_sl ([.ref h, .int k, .int r, .ref q])).length) Slot.unset).toArray = ls at hl ⊢
  have hl : lv_has ls 4 [(0, .ref h), (1, .int k), (2, .int r), (3, .ref q)] := hl
  have hK := hE.1
  subst hsz
  have hD := hD0.self (sz := s.heap.size)
  generalize hAe : va_A ([(h, .inr (0, [.int 0, .int 0, .null]))]) s.heap.size = A at hD ⊢
  have hA : ∀ q : Nat, s.heap.size ≤ q → A q := fun q h => by rw [← hAe]; exact Or.inr h
  have hS : va_S A s.heap s.heap [] := va_S.rf
  refine lv_aload_n hx hb dX0_init_0 rfl (lv_at hl 0 rfl) ?_
  refine W.objInit hx hb hown (hts (.methodLink RX0 1 objectInit) (by decide +kernel)) (hts (.instanceMethod objectInit) (by decide +kernel)) (hts (.code objectInit ⟨#[0xb1]⟩ 1 none) (by decide +kernel)) rfl (by rw [hml]; exact hl.1) rfl dX0_init_1 (Nat.le_of_ble_eq_true rfl) (Nat.le_of_ble_eq_true rfl) ?_
  refine W.eq (g2 := F0 m 4 ls []) rfl ?_
  refine lv_aload_n hx hb dX0_init_4 rfl (lv_at hl 0 rfl) ?_
  refine lv_iload_n hx hb dX0_init_5 rfl (lv_at hl 1 rfl) ?_
  refine va_putF (ci := 0) (v := .int k) (ty := .int) (C := RX0) (T := TX0) (N := 3) hx hb hts iw_X0init_X0 tyX0 tyX0_ok nmX0 hown hK hP hD hS 0 rfl rfl 0 (by decide) (hts (.fieldLink RX0 7 "BackMirror$Thing" "kind" "I") (by decide +kernel)) (fun _ h9 => h9) rfl hin rfl (by decide +kernel) rfl rfl (Nat.le_of_ble_eq_true rfl) dX0_init_6 (fun H locs hP hD hS => ?_)
  have hP : va_P D vwCl [(h, .inr (0, [.int k, .int 0, .null]))] H := hP
  have hD : va_D A [(h, .inr (0, [.int k, .int 0, .null]))] := hD
  refine lv_aload_n hx hb dX0_init_9 rfl (lv_at hl 0 rfl) ?_
  refine lv_iload_n hx hb dX0_init_10 rfl (lv_at hl 2 rfl) ?_
  refine va_putF (ci := 0) (v := .int r) (ty := .int) (C := RX0) (T := TX0) (N := 3) hx hb hts iw_X0init_X0 tyX0 tyX0_ok nmX0 hown hK hP hD hS 0 rfl rfl 1 (by decide) (hts (.fieldLink RX0 13 "BackMirror$Thing" "rights" "I") (by decide +kernel)) (fun _ h9 => h9) rfl hin rfl (by decide +kernel) rfl rfl (Nat.le_of_ble_eq_true rfl) dX0_init_11 (fun H locs hP hD hS => ?_)
  have hP : va_P D vwCl [(h, .inr (0, [.int k, .int r, .null]))] H := hP
  have hD : va_D A [(h, .inr (0, [.int k, .int r, .null]))] := hD
  refine lv_aload_n hx hb dX0_init_14 rfl (lv_at hl 0 rfl) ?_
  refine lv_aload_n hx hb dX0_init_15 rfl (lv_at hl 3 rfl) ?_
  refine va_putF (ci := 0) (v := .ref q) (ty := .array .int) (C := RX0) (T := TX0) (N := 3) hx hb hts iw_X0init_X0 tyX0 tyX0_ok nmX0 hown hK hP hD hS 0 rfl rfl 2 (by decide) (hts (.fieldLink RX0 16 "BackMirror$Thing" "numbers" "[I") (by decide +kernel)) (fun _ h9 => h9) rfl hin rfl (by decide +kernel) rfl rfl (Nat.le_of_ble_eq_true rfl) dX0_init_16 (fun H locs hP hD hS => ?_)
  have hP : va_P D vwCl [(h, .inr (0, [.int k, .int r, .ref q]))] H := hP
  have hD : va_D A [(h, .inr (0, [.int k, .int r, .ref q]))] := hD
  exact W.vret hx hb hr (fun t9 ht9 hW9 => ⟨⟨(), rfl, trivial, by rw [ht9]; exact hP, hD⟩, hS.F ht9⟩) hS.2.2 dX0_init_19

theorem iw_X0isLike_X0 : ∀ w ∈ u_ws RX0 TX0 3, w ∈ wsX0_isLike := by decide +kernel
set_option maxHeartbeats 4000000 in
set_option maxRecDepth 100000 in
theorem c_X0_isLike (l : Launch) {D : va_G} {cI cT cJ : ClassId} (a q1 b q2 n1 n2 : Nat) (k1 r1 k2 r2 : Int32) (f g : Nat → Int32) (hn1 : n1 ≤ 1000) (hn2 : n2 ≤ 1000) : Met l yX0_isLike wsX0_isLike (rmD 3 0 0) (XP D cI cT cJ [.ref a, .ref b] (fun H => va_P D vwCl [(a, .inr (0, [.int k1, .int r1, .ref q1])), (q1, .inl (cI, n1, .inl f)), (b, .inr (0, [.int k2, .int r2, .ref q2])), (q2, .inl (cI, n2, .inl g))] H)) (XSi (fun r => r = nI (bN (sameB (k1, r1, n1, f) (k2, r2, n2, g))))) 0 0 (fun _ => False) := by
  refine Met.ofW (cc := cX0_isLike) (maxL := 2) (ret := (some .boolean)) (by decide) rfl ?_
  intro p e s m args below meth c s₁ B hml hv
  obtain ⟨rfl, hP, hE⟩ := hv
  have hx := B.exec
  have hb := B.bytes
  have hr := B.returns
  have hts := atoms_spec (ws := wsX0_isLike) B.pre
  have hown : s.vm.findClass RX0 = some m.cls := findClass_of_methodNamed B.named
  have hlocks := B.notSynchronized
  have hl := lv_entry ([.ref a, .ref b]) (n := 2) (Nat.le_of_ble_eq_true rfl)
  rw [lg_entry_eq]
  generalize (lg_sl ([.ref a, .ref b]) ++ List.replicate (2 - (lg_sl ([.ref a, .ref b])).length) Slot.unset).toArray = ls at hl ⊢
  have hl : lv_has ls 2 [(0, .ref a), (1, .ref b)] := hl
  have hK := hE.1
  refine lv_aload_n hx hb dX0_isLike_0 rfl (lv_at hl 0 rfl) ?_
  refine va_get (ci := 0) (v := .int k1) (C := RX0) (T := TX0) (N := 3) hx hb hts iw_X0isLike_X0 hown hK hP 0 rfl rfl 0 (by decide) (hts (.fieldLink RX0 7 "BackMirror$Thing" "kind" "I") (by decide +kernel)) (fun _ h9 => h9) rfl dX0_isLike_1 ?_
  refine lv_aload_n hx hb dX0_isLike_4 rfl (lv_at hl 1 rfl) ?_
  refine va_get (ci := 0) (v := .int k2) (C := RX0) (T := TX0) (N := 3) hx hb hts iw_X0isLike_X0 hown hK hP 2 rfl rfl 0 (by decide) (hts (.fieldLink RX0 7 "BackMirror$Thing" "kind" "I") (by decide +kernel)) (fun _ h9 => h9) rfl dX0_isLike_5 ?_
  refine lv_icmp_ne (tgt := 40) hx hb dX0_isLike_8 (by decide) (fun c8 => ?_) (fun c8 => ?_)
  · refine lv_iconst (v := nI 0) hx hb dX0_isLike_40 (by decide) ?_
    exact W.zret hx hb hr (xnb _ (by omega)) (fun t9 ht9 hW9 => ⟨_, rfl, by first | (rw [sameB_t (a := (k1, r1, n1, f)) (b := (k2, r2, n2, g)) (by assumption) (by assumption) (by assumption)]; rfl) | (rw [sameB_f1 (a := (k1, r1, n1, f)) (b := (k2, r2, n2, g)) (by assumption)]; rfl) | (rw [sameB_f2 (a := (k1, r1, n1, f)) (b := (k2, r2, n2, g)) (by assumption)]; rfl) | (rw [sameB_f3 (a := (k1, r1, n1, f)) (b := (k2, r2, n2, g)) (by assumption)]; rfl), ht9⟩) (fun _ h => nomatch h) dX0_isLike_41
  · refine lv_aload_n hx hb dX0_isLike_11 rfl (lv_at hl 0 rfl) ?_
    refine va_get (ci := 0) (v := .int r1) (C := RX0) (T := TX0) (N := 3) hx hb hts iw_X0isLike_X0 hown hK hP 0 rfl rfl 1 (by decide) (hts (.fieldLink RX0 13 "BackMirror$Thing" "rights" "I") (by decide +kernel)) (fun _ h9 => h9) rfl dX0_isLike_12 ?_
    refine lv_aload_n hx hb dX0_isLike_15 rfl (lv_at hl 1 rfl) ?_
    refine va_get (ci := 0) (v := .int r2) (C := RX0) (T := TX0) (N := 3) hx hb hts iw_X0isLike_X0 hown hK hP 2 rfl rfl 1 (by decide) (hts (.fieldLink RX0 13 "BackMirror$Thing" "rights" "I") (by decide +kernel)) (fun _ h9 => h9) rfl dX0_isLike_16 ?_
    refine lv_icmp_ne (tgt := 40) hx hb dX0_isLike_19 (by decide) (fun c19 => ?_) (fun c19 => ?_)
    · refine lv_iconst (v := nI 0) hx hb dX0_isLike_40 (by decide) ?_
      exact W.zret hx hb hr (xnb _ (by omega)) (fun t9 ht9 hW9 => ⟨_, rfl, by first | (rw [sameB_t (a := (k1, r1, n1, f)) (b := (k2, r2, n2, g)) (by assumption) (by assumption) (by assumption)]; rfl) | (rw [sameB_f1 (a := (k1, r1, n1, f)) (b := (k2, r2, n2, g)) (by assumption)]; rfl) | (rw [sameB_f2 (a := (k1, r1, n1, f)) (b := (k2, r2, n2, g)) (by assumption)]; rfl) | (rw [sameB_f3 (a := (k1, r1, n1, f)) (b := (k2, r2, n2, g)) (by assumption)]; rfl), ht9⟩) (fun _ h => nomatch h) dX0_isLike_41
    · refine lv_aload_n hx hb dX0_isLike_22 rfl (lv_at hl 0 rfl) ?_
      refine va_get (ci := 0) (v := .ref q1) (C := RX0) (T := TX0) (N := 3) hx hb hts iw_X0isLike_X0 hown hK hP 0 rfl rfl 2 (by decide) (hts (.fieldLink RX0 16 "BackMirror$Thing" "numbers" "[I") (by decide +kernel)) (fun _ h9 => h9) rfl dX0_isLike_23 ?_
      refine lv_aload_n hx hb dX0_isLike_26 rfl (lv_at hl 1 rfl) ?_
      refine va_get (ci := 0) (v := .ref q2) (C := RX0) (T := TX0) (N := 3) hx hb hts iw_X0isLike_X0 hown hK hP 2 rfl rfl 2 (by decide) (hts (.fieldLink RX0 16 "BackMirror$Thing" "numbers" "[I") (by decide +kernel)) (fun _ h9 => h9) rfl dX0_isLike_27 ?_
      refine xc_sie (va_runSN (As := [.ref q1, .ref q2]) (rest := []) ⟨hx, hb, hml, hown, hts⟩ (c_X1_isSameRow l q1 q2 n1 n2 f g hn1 hn2) ⟨va_cnB 2 hts gX0_isLike_X1_isSameRow_n20 rfl rfl rfl hE.2.1 (hts (.initialized RX1) (by decide +kernel)) (by decide +kernel) ⟨(Nat.le_of_ble_eq_true rfl), (Nat.le_of_ble_eq_true rfl)⟩, hts (.static yX1_isSameRow) (by decide +kernel), trivial⟩ ⟨XP_blind, XP_pre hE (hP.sub [1, 3] rfl)⟩ rfl rfl hl.1 rfl (lv_room (Nat.le_of_ble_eq_true rfl)) dX0_isLike_30 ⟨Nat.le_of_ble_eq_true rfl, Nat.le_of_ble_eq_true rfl⟩) ?_
      refine lv_if_eq (tgt := 40) hx hb dX0_isLike_33 (by decide) (fun c33 => ?_) (fun c33 => ?_)
      · have c33 : (rowB n1 n2 f g) = false := bN_f c33
        refine lv_iconst (v := nI 0) hx hb dX0_isLike_40 (by decide) ?_
        exact W.zret hx hb hr (xnb _ (by omega)) (fun t9 ht9 hW9 => ⟨_, rfl, by first | (rw [sameB_t (a := (k1, r1, n1, f)) (b := (k2, r2, n2, g)) (by assumption) (by assumption) (by assumption)]; rfl) | (rw [sameB_f1 (a := (k1, r1, n1, f)) (b := (k2, r2, n2, g)) (by assumption)]; rfl) | (rw [sameB_f2 (a := (k1, r1, n1, f)) (b := (k2, r2, n2, g)) (by assumption)]; rfl) | (rw [sameB_f3 (a := (k1, r1, n1, f)) (b := (k2, r2, n2, g)) (by assumption)]; rfl), ht9⟩) (fun _ h => nomatch h) dX0_isLike_41
      · have c33 : (rowB n1 n2 f g) = true := bN_t c33
        refine lv_iconst (v := nI 1) hx hb dX0_isLike_36 (by decide) ?_
        refine lv_goto (tgt := 41) hx hb dX0_isLike_37 (by decide) ?_
        exact W.zret hx hb hr (xnb _ (by omega)) (fun t9 ht9 hW9 => ⟨_, rfl, by first | (rw [sameB_t (a := (k1, r1, n1, f)) (b := (k2, r2, n2, g)) (by assumption) (by assumption) (by assumption)]; rfl) | (rw [sameB_f1 (a := (k1, r1, n1, f)) (b := (k2, r2, n2, g)) (by assumption)]; rfl) | (rw [sameB_f2 (a := (k1, r1, n1, f)) (b := (k2, r2, n2, g)) (by assumption)]; rfl) | (rw [sameB_f3 (a := (k1, r1, n1, f)) (b := (k2, r2, n2, g)) (by assumption)]; rfl), ht9⟩) (fun _ h => nomatch h) dX0_isLike_41
end
section
/-! rowWith, rowWithout: a new row at the world's end -/
theorem xlast (ws : va_W) (c : Nat × va_E) : (ws ++ [c])[ws.length]? = some c := by simp
theorem xsetl (ws : va_W) (c e : Nat × va_E) : (ws ++ [c]).set ws.length e = ws ++ [e] := by simp
def insR (f : Nat → Int32) (sp : Nat) (x : Int32) : Nat → Int32 := fun j => if j < sp then f j else if j = sp then x else f (j - 1)
def delR (f : Nat → Int32) (sp : Nat) : Nat → Int32 := fun j => if j < sp then f j else f (j + 1)

set_option maxHeartbeats 4000000 in
set_option maxRecDepth 100000 in
theorem c_X1_rowWith (l : Launch) {D : va_G} {cI cT cJ : ClassId} (ws : va_W) (a n1 sp sz : Nat) (x : Int32) (f : Nat → Int32) (hm : (a, .inl (cI, n1, .inl f)) ∈ ws) (hn : n1 < 12) (hsp : sp ≤ n1) : Met l yX1_rowWith wsX1_rowWith (rmD 1 1 12) (XP D cI cT cJ [.ref a, .int (nI sp), .int x] (fun H => H.size = sz ∧ va_P D vwCl ws H ∧ va_D (fun _ => True) ws)) (va_Qr (S := Unit) (fun _ => True) (fun _ q t => ∃ f', (∀ j, j < n1 + 1 → f' j = insR f sp x j) ∧ va_P D vwCl (ws ++ [(q, .inl (cI, n1 + 1, .inl f'))]) t.heap ∧ va_D (va_A ws sz) (ws ++ [(q, .inl (cI, n1 + 1, .inl f'))])) (va_A ws sz)) 1 12 (va_A ws sz) := by
  refine Met.ofW (cc := cX1_rowWith) (maxL := 5) (ret := (some (.array .int))) (by decide) rfl ?_
  intro p e s m args below meth c s₁ B hml hv
  obtain ⟨rfl, ⟨hsz, hP, hD0⟩, hE⟩ := hv
  have hx := B.exec
  have hb := B.bytes
  have hr := B.returns
  have hts := atoms_spec (ws := wsX1_rowWith) B.pre
  have hown : s.vm.findClass RX1 = some m.cls := findClass_of_methodNamed B.named
  have hlocks := B.notSynchronized
  have hl := lv_entry ([.ref a, .int (nI sp), .int x]) (n := 5) (Nat.le_of_ble_eq_true rfl)
  rw [lg_entry_eq]
  generalize (lg_sl ([.ref a, .int (nI sp), .int x]) ++ List.replicate (5 - (lg_sl ([.ref a, .int (nI sp), .int x])).length) Slot.unset).toArray = ls at hl ⊢
  have hl : lv_has ls 5 [(0, .ref a), (1, .int (nI sp)), (2, .int x)] := hl
  have hK := hE.1
  subst hsz
  have hD := hD0.self (sz := s.heap.size)
  generalize hAe : va_A ws s.heap.size = A at hD ⊢
  have hA : ∀ q : Nat, s.heap.size ≤ q → A q := fun q h => by rw [← hAe]; exact Or.inr h
  have hS : va_S A s.heap s.heap [] := va_S.rf
  refine lv_aload_n hx hb dX1_rowWith_0 rfl (lv_at hl 0 rfl) ?_
  refine va_alen hx hb hK (x1 hP hm) 0 0 rfl rfl (v := nI n1) rfl dX1_rowWith_1 ?_
  refine lv_iconst (v := nI 1) hx hb dX1_rowWith_2 (by decide) ?_
  refine lv_iadd hx hb dX1_rowWith_3 ?_
  refine x_top (nI (n1 + 1)) (xadd (by omega)) ?_
  refine va_newa (atype := .int) (a0 := (n1 + 1, .inl (fun _ => 0))) hx hb (hts (.arrayClass .int) (by decide +kernel)) rfl hK hP hD hS hA (fun _ => rfl) (xlt0 (by omega)) (nI_clamp (by omega)) (by show _ * 4 ≤ _; omega) (by first | exact Nat.le_of_ble_eq_true rfl | (show _ + _ ≤ 1; omega)) (by first | exact Nat.le_of_ble_eq_true rfl | (show _ + _ ≤ 12; omega)) dX1_rowWith_4 (fun q cA9 H hK9 hP hD hS => ?_)
  have hc9 := xcI hK9 hK 3 0 rfl rfl
  rw [hc9] at hP hD
  clear hK9 hc9
  have hP : va_P D vwCl ((ws ++ [(q, .inl (cI, n1 + 1, .inl (fun _ => 0)))])) H := hP
  have hD : va_D A ((ws ++ [(q, .inl (cI, n1 + 1, .inl (fun _ => 0)))])) := hD
  refine lv_astore_n (lv' := [(3, .ref q), (0, .ref a), (1, .int (nI sp)), (2, .int x)]) hx hb dX1_rowWith_6 rfl hl (by decide) rfl (fun ls hl => ?_)
  refine lv_iconst (v := nI 0) hx hb dX1_rowWith_7 (by decide) ?_
  refine lv_istore (lv' := [(4, .int (nI 0)), (3, .ref q), (0, .ref a), (1, .int (nI sp)), (2, .int x)]) hx hb dX1_rowWith_8 hl (by decide) rfl (fun ls hl => ?_)
  refine x_loop (fun n H locs ls => ∃ (i k : Nat) (f' : Nat → Int32), (k + 1 = n) ∧ (n1 + 1 ≤ i + k) ∧ (i ≤ n1 + 1) ∧ (∀ j, j < i → f' j = insR f sp x j) ∧ va_P D vwCl ((ws ++ [(q, .inl (cI, n1 + 1, .inl f'))])) H ∧ va_D A ((ws ++ [(q, .inl (cI, n1 + 1, .inl f'))])) ∧ va_S A s.heap H locs ∧ lv_has ls 5 [(4, .int (nI i)), (3, .ref q), (0, .ref a), (1, .int (nI sp)), (2, .int x)]) (n1 + 1 + 1) ⟨0, n1 + 1, fun _ => 0, rfl, by omega, by omega, fun j hj => absurd hj (Nat.not_lt_zero j), hP, hD, hS, lv_sub hl [0, 1, 2, 3, 4] rfl⟩ (fun H locs ls h => by obtain ⟨i, k, f', hk, h1, h2, hv, -⟩ := h; omega) (fun n H locs ls h ih => ?_)
  obtain ⟨i, k, f', hk, h1, h2, hv, hP, hD, hS, hl⟩ := h
  refine lv_iload hx hb dX1_rowWith_10 (lv_at hl 0 rfl) ?_
  refine lv_aload_n hx hb dX1_rowWith_12 rfl (lv_at hl 1 rfl) ?_
  refine va_alen hx hb hK hP ws.length 0 (xlast _ _) rfl (v := nI (n1 + 1)) rfl dX1_rowWith_13 ?_
  refine lv_icmp_ge (tgt := 58) hx hb dX1_rowWith_14 (by decide) (fun c14 => ?_) (fun c14 => ?_)
  · have c14 : (n1 + 1) ≤ i := (xle (by omega) (by omega)).mp c14
    refine lv_aload_n hx hb dX1_rowWith_58 rfl (lv_at hl 1 rfl) ?_
    refine W.widen (k := 1) (n := 12) (Nat.le_refl _) (by show 0 + _ ≤ _; omega) ?_
    exact W.aret hx hb hr (Or.inr ⟨_, rfl⟩) (Or.inr ⟨_, rfl⟩) (fun t9 ht9 hW9 => ⟨⟨(), q, rfl, trivial, f', fun j hj => hv j (by omega), by rw [ht9]; exact hP, hD⟩, hS.F ht9⟩) hS.2.2 dX1_rowWith_59
  · have c14 : ¬ (n1 + 1) ≤ i := fun h => c14 ((xle (by omega) (by omega)).mpr h)
    refine lv_iload hx hb dX1_rowWith_17 (lv_at hl 0 rfl) ?_
    refine lv_iload_n hx hb dX1_rowWith_19 rfl (lv_at hl 3 rfl) ?_
    refine lv_icmp_ne (tgt := 31) hx hb dX1_rowWith_20 (by decide) (fun c20 => ?_) (fun c20 => ?_)
    · have c20 : ¬ i = sp := fun h => c20 ((xeq (by omega) (by omega)).mpr h)
      refine lv_aload_n hx hb dX1_rowWith_31 rfl (lv_at hl 1 rfl) ?_
      refine lv_iload hx hb dX1_rowWith_32 (lv_at hl 0 rfl) ?_
      refine lv_aload_n hx hb dX1_rowWith_34 rfl (lv_at hl 2 rfl) ?_
      refine lv_iload hx hb dX1_rowWith_35 (lv_at hl 0 rfl) ?_
      refine lv_iload_n hx hb dX1_rowWith_37 rfl (lv_at hl 3 rfl) ?_
      refine lv_icmp_ge (tgt := 46) hx hb dX1_rowWith_38 (by decide) (fun c38 => ?_) (fun c38 => ?_)
      · have c38 : sp ≤ i := (xle (by omega) (by omega)).mp c38
        refine lv_iload hx hb dX1_rowWith_46 (lv_at hl 0 rfl) ?_
        refine lv_iconst (v := nI 1) hx hb dX1_rowWith_48 (by decide) ?_
        refine lv_isub hx hb dX1_rowWith_49 ?_
        refine x_top (nI (i - 1)) (xsub (by omega)) ?_
        refine va_iald hx hb hK (x1 hP (List.mem_append_left _ hm)) 0 0 rfl rfl (xin (by omega) (by omega)) dX1_rowWith_50 ?_
        refine x_top (f (i - 1)) (by rw [nI_clamp (by omega)]) ?_
        refine va_iast hx hb hK hP hD hS ws.length 0 (xlast _ _) rfl (xin (by omega) (by omega)) dX1_rowWith_51 (fun H locs hP hD hS => ?_)
        rw [nI_clamp (show i < 2 ^ 31 by omega)] at hP hD
        rw [xsetl] at hP hD
        have hP : va_P D vwCl ((ws ++ [(q, .inl (cI, n1 + 1, .inl (upd f' i (f (i - 1)))))])) H := hP
        have hD : va_D A ((ws ++ [(q, .inl (cI, n1 + 1, .inl (upd f' i (f (i - 1)))))])) := hD
        refine lv_iinc (v := nI (i + 1)) (lv' := [(4, .int (nI (i + 1))), (3, .ref q), (0, .ref a), (1, .int (nI sp)), (2, .int x)]) hx hb dX1_rowWith_52 hl (k := 0) rfl (xinc _ 1 _ (by decide)) (by decide) rfl (fun ls hl => ?_)
        refine lv_goto (tgt := 10) hx hb dX1_rowWith_55 (by decide) ?_
        refine ih _ _ _ ⟨i + 1, k - 1, (upd f' i (f (i - 1))), by omega, by omega, by omega, fun j hj => ?_, hP, hD, hS, lv_sub hl [0, 1, 2, 3, 4] rfl⟩
        by_cases e : j = i
        · rw [e, pk_us]; show (f (i - 1)) = insR f sp x i; unfold insR; first | (rw [if_pos (by omega)]; done) | (rw [if_neg (by omega), if_pos (by omega)]; done) | (rw [if_neg (by omega), if_neg (by omega)]; done) | (rw [if_neg (by omega)]; done)
        · rw [pk_un e]; exact hv j (by omega)
      · have c38 : ¬ sp ≤ i := fun h => c38 ((xle (by omega) (by omega)).mpr h)
        refine lv_iload hx hb dX1_rowWith_41 (lv_at hl 0 rfl) ?_
        refine lv_goto (tgt := 50) hx hb dX1_rowWith_43 (by decide) ?_
        refine va_iald hx hb hK (x1 hP (List.mem_append_left _ hm)) 0 0 rfl rfl (xin (by omega) (by omega)) dX1_rowWith_50 ?_
        refine x_top (f i) (by rw [nI_clamp (by omega)]) ?_
        refine va_iast hx hb hK hP hD hS ws.length 0 (xlast _ _) rfl (xin (by omega) (by omega)) dX1_rowWith_51 (fun H locs hP hD hS => ?_)
        rw [nI_clamp (show i < 2 ^ 31 by omega)] at hP hD
        rw [xsetl] at hP hD
        have hP : va_P D vwCl ((ws ++ [(q, .inl (cI, n1 + 1, .inl (upd f' i (f i))))])) H := hP
        have hD : va_D A ((ws ++ [(q, .inl (cI, n1 + 1, .inl (upd f' i (f i))))])) := hD
        refine lv_iinc (v := nI (i + 1)) (lv' := [(4, .int (nI (i + 1))), (3, .ref q), (0, .ref a), (1, .int (nI sp)), (2, .int x)]) hx hb dX1_rowWith_52 hl (k := 0) rfl (xinc _ 1 _ (by decide)) (by decide) rfl (fun ls hl => ?_)
        refine lv_goto (tgt := 10) hx hb dX1_rowWith_55 (by decide) ?_
        refine ih _ _ _ ⟨i + 1, k - 1, (upd f' i (f i)), by omega, by omega, by omega, fun j hj => ?_, hP, hD, hS, lv_sub hl [0, 1, 2, 3, 4] rfl⟩
        by_cases e : j = i
        · rw [e, pk_us]; show (f i) = insR f sp x i; unfold insR; first | (rw [if_pos (by omega)]; done) | (rw [if_neg (by omega), if_pos (by omega)]; done) | (rw [if_neg (by omega), if_neg (by omega)]; done) | (rw [if_neg (by omega)]; done)
        · rw [pk_un e]; exact hv j (by omega)
    · have c20 : i = sp := (xeq (by omega) (by omega)).mp c20
      refine lv_aload_n hx hb dX1_rowWith_23 rfl (lv_at hl 1 rfl) ?_
      refine lv_iload hx hb dX1_rowWith_24 (lv_at hl 0 rfl) ?_
      refine lv_iload_n hx hb dX1_rowWith_26 rfl (lv_at hl 4 rfl) ?_
      refine va_iast hx hb hK hP hD hS ws.length 0 (xlast _ _) rfl (xin (by omega) (by omega)) dX1_rowWith_27 (fun H locs hP hD hS => ?_)
      rw [nI_clamp (show i < 2 ^ 31 by omega)] at hP hD
      rw [xsetl] at hP hD
      have hP : va_P D vwCl ((ws ++ [(q, .inl (cI, n1 + 1, .inl (upd f' i x)))])) H := hP
      have hD : va_D A ((ws ++ [(q, .inl (cI, n1 + 1, .inl (upd f' i x)))])) := hD
      refine lv_goto (tgt := 52) hx hb dX1_rowWith_28 (by decide) ?_
      refine lv_iinc (v := nI (i + 1)) (lv' := [(4, .int (nI (i + 1))), (3, .ref q), (0, .ref a), (1, .int (nI sp)), (2, .int x)]) hx hb dX1_rowWith_52 hl (k := 0) rfl (xinc _ 1 _ (by decide)) (by decide) rfl (fun ls hl => ?_)
      refine lv_goto (tgt := 10) hx hb dX1_rowWith_55 (by decide) ?_
      refine ih _ _ _ ⟨i + 1, k - 1, (upd f' i x), by omega, by omega, by omega, fun j hj => ?_, hP, hD, hS, lv_sub hl [0, 1, 2, 3, 4] rfl⟩
      by_cases e : j = i
      · rw [e, pk_us]; show x = insR f sp x i; unfold insR; first | (rw [if_pos (by omega)]; done) | (rw [if_neg (by omega), if_pos (by omega)]; done) | (rw [if_neg (by omega), if_neg (by omega)]; done) | (rw [if_neg (by omega)]; done)
      · rw [pk_un e]; exact hv j (by omega)

set_option maxHeartbeats 4000000 in
set_option maxRecDepth 100000 in
theorem c_X1_rowWithout (l : Launch) {D : va_G} {cI cT cJ : ClassId} (ws : va_W) (a n1 sp sz : Nat) (f : Nat → Int32) (hm : (a, .inl (cI, n1, .inl f)) ∈ ws) (hn : n1 ≤ 12) (hsp : sp < n1) : Met l yX1_rowWithout wsX1_rowWithout (rmD 1 1 12) (XP D cI cT cJ [.ref a, .int (nI sp)] (fun H => H.size = sz ∧ va_P D vwCl ws H ∧ va_D (fun _ => True) ws)) (va_Qr (S := Unit) (fun _ => True) (fun _ q t => ∃ f', (∀ j, j < n1 - 1 → f' j = delR f sp j) ∧ va_P D vwCl (ws ++ [(q, .inl (cI, n1 - 1, .inl f'))]) t.heap ∧ va_D (va_A ws sz) (ws ++ [(q, .inl (cI, n1 - 1, .inl f'))])) (va_A ws sz)) 1 12 (va_A ws sz) := by
  refine Met.ofW (cc := cX1_rowWithout) (maxL := 4) (ret := (some (.array .int))) (by decide) rfl ?_
  intro p e s m args below meth c s₁ B hml hv
  obtain ⟨rfl, ⟨hsz, hP, hD0⟩, hE⟩ := hv
  have hx := B.exec
  have hb := B.bytes
  have hr := B.returns
  have hts := atoms_spec (ws := wsX1_rowWithout) B.pre
  have hown : s.vm.findClass RX1 = some m.cls := findClass_of_methodNamed B.named
  have hlocks := B.notSynchronized
  have hl := lv_entry ([.ref a, .int (nI sp)]) (n := 4) (Nat.le_of_ble_eq_true rfl)
  rw [lg_entry_eq]
  generalize (lg_sl ([.ref a, .int (nI sp)]) ++ List.replicate (4 - (lg_sl ([.ref a, .int (nI sp)])).length) Slot.unset).toArray = ls at hl ⊢
  have hl : lv_has ls 4 [(0, .ref a), (1, .int (nI sp))] := hl
  have hK := hE.1
  subst hsz
  have hD := hD0.self (sz := s.heap.size)
  generalize hAe : va_A ws s.heap.size = A at hD ⊢
  have hA : ∀ q : Nat, s.heap.size ≤ q → A q := fun q h => by rw [← hAe]; exact Or.inr h
  have hS : va_S A s.heap s.heap [] := va_S.rf
  refine lv_aload_n hx hb dX1_rowWithout_0 rfl (lv_at hl 0 rfl) ?_
  refine va_alen hx hb hK (x1 hP hm) 0 0 rfl rfl (v := nI n1) rfl dX1_rowWithout_1 ?_
  refine lv_iconst (v := nI 1) hx hb dX1_rowWithout_2 (by decide) ?_
  refine lv_isub hx hb dX1_rowWithout_3 ?_
  refine x_top (nI (n1 - 1)) (xsub (by omega)) ?_
  refine va_newa (atype := .int) (a0 := (n1 - 1, .inl (fun _ => 0))) hx hb (hts (.arrayClass .int) (by decide +kernel)) rfl hK hP hD hS hA (fun _ => rfl) (xlt0 (by omega)) (nI_clamp (by omega)) (by show _ * 4 ≤ _; omega) (by first | exact Nat.le_of_ble_eq_true rfl | (show _ + _ ≤ 1; omega)) (by first | exact Nat.le_of_ble_eq_true rfl | (show _ + _ ≤ 12; omega)) dX1_rowWithout_4 (fun q cA9 H hK9 hP hD hS => ?_)
  have hc9 := xcI hK9 hK 3 0 rfl rfl
  rw [hc9] at hP hD
  clear hK9 hc9
  have hP : va_P D vwCl ((ws ++ [(q, .inl (cI, n1 - 1, .inl (fun _ => 0)))])) H := hP
  have hD : va_D A ((ws ++ [(q, .inl (cI, n1 - 1, .inl (fun _ => 0)))])) := hD
  refine lv_astore_n (lv' := [(2, .ref q), (0, .ref a), (1, .int (nI sp))]) hx hb dX1_rowWithout_6 rfl hl (by decide) rfl (fun ls hl => ?_)
  refine lv_iconst (v := nI 0) hx hb dX1_rowWithout_7 (by decide) ?_
  refine lv_istore_n (lv' := [(3, .int (nI 0)), (2, .ref q), (0, .ref a), (1, .int (nI sp))]) hx hb dX1_rowWithout_8 rfl hl (by decide) rfl (fun ls hl => ?_)
  refine x_loop (fun n H locs ls => ∃ (i k : Nat) (f' : Nat → Int32), (k + 1 = n) ∧ (n1 - 1 ≤ i + k) ∧ (i ≤ n1 - 1) ∧ (∀ j, j < i → f' j = delR f sp j) ∧ va_P D vwCl ((ws ++ [(q, .inl (cI, n1 - 1, .inl f'))])) H ∧ va_D A ((ws ++ [(q, .inl (cI, n1 - 1, .inl f'))])) ∧ va_S A s.heap H locs ∧ lv_has ls 4 [(3, .int (nI i)), (2, .ref q), (0, .ref a), (1, .int (nI sp))]) (n1 - 1 + 1) ⟨0, n1 - 1, fun _ => 0, rfl, by omega, by omega, fun j hj => absurd hj (Nat.not_lt_zero j), hP, hD, hS, lv_sub hl [0, 1, 2, 3] rfl⟩ (fun H locs ls h => by obtain ⟨i, k, f', hk, h1, h2, hv, -⟩ := h; omega) (fun n H locs ls h ih => ?_)
  obtain ⟨i, k, f', hk, h1, h2, hv, hP, hD, hS, hl⟩ := h
  refine lv_iload_n hx hb dX1_rowWithout_9 rfl (lv_at hl 0 rfl) ?_
  refine lv_aload_n hx hb dX1_rowWithout_10 rfl (lv_at hl 1 rfl) ?_
  refine va_alen hx hb hK hP ws.length 0 (xlast _ _) rfl (v := nI (n1 - 1)) rfl dX1_rowWithout_11 ?_
  refine lv_icmp_ge (tgt := 38) hx hb dX1_rowWithout_12 (by decide) (fun c12 => ?_) (fun c12 => ?_)
  · have c12 : (n1 - 1) ≤ i := (xle (by omega) (by omega)).mp c12
    refine lv_aload_n hx hb dX1_rowWithout_38 rfl (lv_at hl 1 rfl) ?_
    refine W.widen (k := 1) (n := 12) (Nat.le_refl _) (by show 0 + _ ≤ _; omega) ?_
    exact W.aret hx hb hr (Or.inr ⟨_, rfl⟩) (Or.inr ⟨_, rfl⟩) (fun t9 ht9 hW9 => ⟨⟨(), q, rfl, trivial, f', fun j hj => hv j (by omega), by rw [ht9]; exact hP, hD⟩, hS.F ht9⟩) hS.2.2 dX1_rowWithout_39
  · have c12 : ¬ (n1 - 1) ≤ i := fun h => c12 ((xle (by omega) (by omega)).mpr h)
    refine lv_aload_n hx hb dX1_rowWithout_15 rfl (lv_at hl 1 rfl) ?_
    refine lv_iload_n hx hb dX1_rowWithout_16 rfl (lv_at hl 0 rfl) ?_
    refine lv_aload_n hx hb dX1_rowWithout_17 rfl (lv_at hl 2 rfl) ?_
    refine lv_iload_n hx hb dX1_rowWithout_18 rfl (lv_at hl 0 rfl) ?_
    refine lv_iload_n hx hb dX1_rowWithout_19 rfl (lv_at hl 3 rfl) ?_
    refine lv_icmp_ge (tgt := 27) hx hb dX1_rowWithout_20 (by decide) (fun c20 => ?_) (fun c20 => ?_)
    · have c20 : sp ≤ i := (xle (by omega) (by omega)).mp c20
      refine lv_iload_n hx hb dX1_rowWithout_27 rfl (lv_at hl 0 rfl) ?_
      refine lv_iconst (v := nI 1) hx hb dX1_rowWithout_28 (by decide) ?_
      refine lv_iadd hx hb dX1_rowWithout_29 ?_
      refine x_top (nI (i + 1)) (xadd (by omega)) ?_
      refine va_iald hx hb hK (x1 hP (List.mem_append_left _ hm)) 0 0 rfl rfl (xin (by omega) (by omega)) dX1_rowWithout_30 ?_
      refine x_top (f (i + 1)) (by rw [nI_clamp (by omega)]) ?_
      refine va_iast hx hb hK hP hD hS ws.length 0 (xlast _ _) rfl (xin (by omega) (by omega)) dX1_rowWithout_31 (fun H locs hP hD hS => ?_)
      rw [nI_clamp (show i < 2 ^ 31 by omega)] at hP hD
      rw [xsetl] at hP hD
      have hP : va_P D vwCl ((ws ++ [(q, .inl (cI, n1 - 1, .inl (upd f' i (f (i + 1)))))])) H := hP
      have hD : va_D A ((ws ++ [(q, .inl (cI, n1 - 1, .inl (upd f' i (f (i + 1)))))])) := hD
      refine lv_iinc (v := nI (i + 1)) (lv' := [(3, .int (nI (i + 1))), (2, .ref q), (0, .ref a), (1, .int (nI sp))]) hx hb dX1_rowWithout_32 hl (k := 0) rfl (xinc _ 1 _ (by decide)) (by decide) rfl (fun ls hl => ?_)
      refine lv_goto (tgt := 9) hx hb dX1_rowWithout_35 (by decide) ?_
      refine ih _ _ _ ⟨i + 1, k - 1, (upd f' i (f (i + 1))), by omega, by omega, by omega, fun j hj => ?_, hP, hD, hS, lv_sub hl [0, 1, 2, 3] rfl⟩
      by_cases e : j = i
      · rw [e, pk_us]; show (f (i + 1)) = delR f sp i; unfold delR; first | (rw [if_pos (by omega)]; done) | (rw [if_neg (by omega), if_pos (by omega)]; done) | (rw [if_neg (by omega), if_neg (by omega)]; done) | (rw [if_neg (by omega)]; done)
      · rw [pk_un e]; exact hv j (by omega)
    · have c20 : ¬ sp ≤ i := fun h => c20 ((xle (by omega) (by omega)).mpr h)
      refine lv_iload_n hx hb dX1_rowWithout_23 rfl (lv_at hl 0 rfl) ?_
      refine lv_goto (tgt := 30) hx hb dX1_rowWithout_24 (by decide) ?_
      refine va_iald hx hb hK (x1 hP (List.mem_append_left _ hm)) 0 0 rfl rfl (xin (by omega) (by omega)) dX1_rowWithout_30 ?_
      refine x_top (f i) (by rw [nI_clamp (by omega)]) ?_
      refine va_iast hx hb hK hP hD hS ws.length 0 (xlast _ _) rfl (xin (by omega) (by omega)) dX1_rowWithout_31 (fun H locs hP hD hS => ?_)
      rw [nI_clamp (show i < 2 ^ 31 by omega)] at hP hD
      rw [xsetl] at hP hD
      have hP : va_P D vwCl ((ws ++ [(q, .inl (cI, n1 - 1, .inl (upd f' i (f i))))])) H := hP
      have hD : va_D A ((ws ++ [(q, .inl (cI, n1 - 1, .inl (upd f' i (f i))))])) := hD
      refine lv_iinc (v := nI (i + 1)) (lv' := [(3, .int (nI (i + 1))), (2, .ref q), (0, .ref a), (1, .int (nI sp))]) hx hb dX1_rowWithout_32 hl (k := 0) rfl (xinc _ 1 _ (by decide)) (by decide) rfl (fun ls hl => ?_)
      refine lv_goto (tgt := 9) hx hb dX1_rowWithout_35 (by decide) ?_
      refine ih _ _ _ ⟨i + 1, k - 1, (upd f' i (f i)), by omega, by omega, by omega, fun j hj => ?_, hP, hD, hS, lv_sub hl [0, 1, 2, 3] rfl⟩
      by_cases e : j = i
      · rw [e, pk_us]; show (f i) = delR f sp i; unfold delR; first | (rw [if_pos (by omega)]; done) | (rw [if_neg (by omega), if_pos (by omega)]; done) | (rw [if_neg (by omega), if_neg (by omega)]; done) | (rw [if_neg (by omega)]; done)
      · rw [pk_un e]; exact hv j (by omega)
end
section
/-! what a BackMirror is: its object, the rows of the live tree and of the dates, and the Things (never changed) in FZ -/
/-- at the address a stands the Thing v, its row too -/
def TH (cI : ClassId) (FZ : va_W) (a : Nat) (v : Tv) : Prop := v.2.2.1 ≤ 12 ∧ ∃ (q : Nat) (f : Nat → Int32), (a, .inr (0, [.int v.1, .int v.2.1, .ref q])) ∈ FZ ∧ (q, .inl (cI, v.2.2.1, .inl f)) ∈ FZ ∧ ∀ j, j < v.2.2.1 → f j = v.2.2.2 j
theorem TH.app {cI : ClassId} {FZ F2 : va_W} {a : Nat} {v : Tv} (h : TH cI FZ a v) : TH cI (FZ ++ F2) a v := by
  obtain ⟨h0, q, f, h1, h2, h3⟩ := h
  exact ⟨h0, q, f, List.mem_append_left _ h1, List.mem_append_left _ h2, h3⟩
/-- the dates' places (0 to 245) and the live tree's (246 to 251) -/
def CA (cI : ClassId) (FZ : va_W) (fL fK : Nat → Option Nat) (G : Nat → Tv) : Prop := (∀ i, i < 246 → ∃ a, fK i = some a ∧ TH cI FZ a (G i)) ∧ ∀ i, i < 6 → ∃ a, fL i = some a ∧ TH cI FZ a (G (246 + i))
theorem CA.app {cI : ClassId} {FZ F2 : va_W} {fL fK : Nat → Option Nat} {G : Nat → Tv} (h : CA cI FZ fL fK G) : CA cI (FZ ++ F2) fL fK G :=
  ⟨fun i hi => (h.1 i hi).elim fun a ha => ⟨a, ha.1, ha.2.app⟩, fun i hi => (h.2 i hi).elim fun a ha => ⟨a, ha.1, ha.2.app⟩⟩
theorem xm3 {α : Type} {a b c q : α} {l : List α} (h : q ∈ l) : q ∈ a :: b :: c :: l := List.mem_cons_of_mem _ (List.mem_cons_of_mem _ (List.mem_cons_of_mem _ h))
theorem x2 {D : va_G} {cl : List vw_C} {ws : va_W} {H : Heap} {a b : Nat × va_E} (hP : va_P D cl ws H) (h1 : a ∈ ws) (h2 : b ∈ ws) : va_P D cl [a, b] H := (x1 hP h1).app (x1 hP h2)
theorem x4 {D : va_G} {cl : List vw_C} {ws : va_W} {H : Heap} {a b c d : Nat × va_E} (hP : va_P D cl ws H) (h1 : a ∈ ws) (h2 : b ∈ ws) (h3 : c ∈ ws) (h4 : d ∈ ws) : va_P D cl [a, b, c, d] H := (x2 hP h1 h2).app (x2 hP h3 h4)
theorem sameB_congr {v w : Tv} {f g : Nat → Int32} (hf : ∀ j, j < v.2.2.1 → f j = v.2.2.2 j) (hg : ∀ j, j < w.2.2.1 → g j = w.2.2.2 j) : sameB (v.1, v.2.1, v.2.2.1, f) (w.1, w.2.1, w.2.2.1, g) = sameB v w := by
  simp only [sameB]
  rw [rowB_congr hf hg]
/-- what sizeAt answers -/
def difW (G : Nat → Tv) (ld d p : Nat) : Nat := if ld ≤ d then 0 else dif (G (6 * d + p)) (G (6 * (d + 1) + p))
/-- the cells of a BackMirror -/
abbrev CW (cT : ClassId) (x lv kp : Nat) (fL fK : Nat → Option Nat) (o ld b k : Nat) (FZ : va_W) : va_W := (x, .inr (1, [.ref lv, .ref kp, .int (nI o), .int (nI ld), .int (nI b), .int (nI k)])) :: (lv, .inl (cT, 6, .inr (.inr (.inr (.inr fL))))) :: (kp, .inl (cT, 246, .inr (.inr (.inr (.inr fK))))) :: FZ

theorem iw_X1last_X1 : ∀ w ∈ u_ws RX1 TX1 6, w ∈ wsX1_last := by decide +kernel
set_option maxHeartbeats 4000000 in
set_option maxRecDepth 100000 in
theorem c_X1_last (l : Launch) {D : va_G} {cI cT cJ : ClassId} (x lv kp : Nat) (fL fK : Nat → Option Nat) (o ld b k : Nat) (FZ : va_W)  : Met l yX1_last wsX1_last (rmD 1 0 0) (XP D cI cT cJ [.ref x] (fun H => va_P D vwCl (CW cT x lv kp fL fK o ld b k FZ) H)) (XSi (fun r => r = nI ld)) 0 0 (fun _ => False) := by
  refine Met.ofW (cc := cX1_last) (maxL := 1) (ret := (some .int)) (by decide) rfl ?_
  intro p e s m args below meth c s₁ B hml hv
  obtain ⟨rfl, hP, hE⟩ := hv
  have hx := B.exec
  have hb := B.bytes
  have hr := B.returns
  have hts := atoms_spec (ws := wsX1_last) B.pre
  have hown : s.vm.findClass RX1 = some m.cls := findClass_of_methodNamed B.named
  have hlocks := B.notSynchronized
  have hl := lv_entry ([.ref x]) (n := 1) (Nat.le_of_ble_eq_true rfl)
  rw [lg_entry_eq]
  generalize (lg_sl ([.ref x]) ++ List.replicate (1 - (lg_sl ([.ref x])).length) Slot.unset).toArray = ls at hl ⊢
  have hl : lv_has ls 1 [(0, .ref x)] := hl
  have hK := hE.1
  refine lv_aload_n hx hb dX1_last_0 rfl (lv_at hl 0 rfl) ?_
  refine va_get (ci := 1) (v := .int (nI ld)) (C := RX1) (T := TX1) (N := 6) hx hb hts iw_X1last_X1 hown hK hP 0 rfl rfl 3 (by decide) (hts (.fieldLink RX1 25 "BackMirror" "lastDate" "I") (by decide +kernel)) (fun _ h9 => h9) rfl dX1_last_1 ?_
  exact W.iret hx hb hr (fun t9 ht9 hW9 => ⟨_, rfl, rfl, ht9⟩) (fun _ h => nomatch h) dX1_last_4

theorem iw_X1oldest_X1 : ∀ w ∈ u_ws RX1 TX1 6, w ∈ wsX1_oldest := by decide +kernel
set_option maxHeartbeats 4000000 in
set_option maxRecDepth 100000 in
theorem c_X1_oldest (l : Launch) {D : va_G} {cI cT cJ : ClassId} (x lv kp : Nat) (fL fK : Nat → Option Nat) (o ld b k : Nat) (FZ : va_W)  : Met l yX1_oldest wsX1_oldest (rmD 1 0 0) (XP D cI cT cJ [.ref x] (fun H => va_P D vwCl (CW cT x lv kp fL fK o ld b k FZ) H)) (XSi (fun r => r = nI o)) 0 0 (fun _ => False) := by
  refine Met.ofW (cc := cX1_oldest) (maxL := 1) (ret := (some .int)) (by decide) rfl ?_
  intro p e s m args below meth c s₁ B hml hv
  obtain ⟨rfl, hP, hE⟩ := hv
  have hx := B.exec
  have hb := B.bytes
  have hr := B.returns
  have hts := atoms_spec (ws := wsX1_oldest) B.pre
  have hown : s.vm.findClass RX1 = some m.cls := findClass_of_methodNamed B.named
  have hlocks := B.notSynchronized
  have hl := lv_entry ([.ref x]) (n := 1) (Nat.le_of_ble_eq_true rfl)
  rw [lg_entry_eq]
  generalize (lg_sl ([.ref x]) ++ List.replicate (1 - (lg_sl ([.ref x])).length) Slot.unset).toArray = ls at hl ⊢
  have hl : lv_has ls 1 [(0, .ref x)] := hl
  have hK := hE.1
  refine lv_aload_n hx hb dX1_oldest_0 rfl (lv_at hl 0 rfl) ?_
  refine va_get (ci := 1) (v := .int (nI o)) (C := RX1) (T := TX1) (N := 6) hx hb hts iw_X1oldest_X1 hown hK hP 0 rfl rfl 2 (by decide) (hts (.fieldLink RX1 21 "BackMirror" "oldestDate" "I") (by decide +kernel)) (fun _ h9 => h9) rfl dX1_oldest_1 ?_
  exact W.iret hx hb hr (fun t9 ht9 hW9 => ⟨_, rfl, rfl, ht9⟩) (fun _ h => nomatch h) dX1_oldest_4

theorem iw_X1isBroken_X1 : ∀ w ∈ u_ws RX1 TX1 6, w ∈ wsX1_isBroken := by decide +kernel
set_option maxHeartbeats 4000000 in
set_option maxRecDepth 100000 in
theorem c_X1_isBroken (l : Launch) {D : va_G} {cI cT cJ : ClassId} (x lv kp : Nat) (fL fK : Nat → Option Nat) (o ld b k : Nat) (FZ : va_W) (hbb : b ≤ 1) : Met l yX1_isBroken wsX1_isBroken (rmD 1 0 0) (XP D cI cT cJ [.ref x] (fun H => va_P D vwCl (CW cT x lv kp fL fK o ld b k FZ) H)) (XSi (fun r => r = nI b)) 0 0 (fun _ => False) := by
  refine Met.ofW (cc := cX1_isBroken) (maxL := 1) (ret := (some .boolean)) (by decide) rfl ?_
  intro p e s m args below meth c s₁ B hml hv
  obtain ⟨rfl, hP, hE⟩ := hv
  have hx := B.exec
  have hb := B.bytes
  have hr := B.returns
  have hts := atoms_spec (ws := wsX1_isBroken) B.pre
  have hown : s.vm.findClass RX1 = some m.cls := findClass_of_methodNamed B.named
  have hlocks := B.notSynchronized
  have hl := lv_entry ([.ref x]) (n := 1) (Nat.le_of_ble_eq_true rfl)
  rw [lg_entry_eq]
  generalize (lg_sl ([.ref x]) ++ List.replicate (1 - (lg_sl ([.ref x])).length) Slot.unset).toArray = ls at hl ⊢
  have hl : lv_has ls 1 [(0, .ref x)] := hl
  have hK := hE.1
  refine lv_aload_n hx hb dX1_isBroken_0 rfl (lv_at hl 0 rfl) ?_
  refine va_get (ci := 1) (v := .int (nI b)) (C := RX1) (T := TX1) (N := 6) hx hb hts iw_X1isBroken_X1 hown hK hP 0 rfl rfl 4 (by decide) (hts (.fieldLink RX1 28 "BackMirror" "broken" "Z") (by decide +kernel)) (fun _ h9 => h9) rfl dX1_isBroken_1 ?_
  exact W.zret hx hb hr (xnb _ (by omega)) (fun t9 ht9 hW9 => ⟨_, rfl, rfl, ht9⟩) (fun _ h => nomatch h) dX1_isBroken_4

theorem iw_X1exchange_X0 : ∀ w ∈ u_ws RX0 TX0 3, w ∈ wsX1_exchange := by decide +kernel
theorem iw_X1exchange_X1 : ∀ w ∈ u_ws RX1 TX1 6, w ∈ wsX1_exchange := by decide +kernel
set_option maxHeartbeats 4000000 in
set_option maxRecDepth 100000 in
theorem c_X1_exchange (l : Launch) {D : va_G} {cI cT cJ : ClassId} (x lv kp : Nat) (fL fK : Nat → Option Nat) (o ld b k : Nat) (FZ : va_W) (G : Nat → Tv) (hC : CA cI FZ fL fK G) (i y sz : Nat) (vs : List Value) (hi : i < 6) (hy : (y, .inr (0, vs)) ∈ FZ) : Met l yX1_exchange wsX1_exchange (rmD 1 0 0) (XP D cI cT cJ [.ref x, .int (nI i), .ref y] (fun H => H.size = sz ∧ va_P D vwCl (CW cT x lv kp fL fK o ld b k FZ) H ∧ va_D (fun _ => True) (CW cT x lv kp fL fK o ld b k FZ))) (va_Qi (S := Unit) (fun r _ => r = (G (246 + i)).1) (fun _ t => va_P D vwCl (CW cT x lv kp (va_up fL i (some y)) fK o ld b k FZ) t.heap ∧ va_D (va_A (CW cT x lv kp fL fK o ld b k FZ) sz) (CW cT x lv kp (va_up fL i (some y)) fK o ld b k FZ)) (va_A (CW cT x lv kp fL fK o ld b k FZ) sz)) 0 0 (va_A (CW cT x lv kp fL fK o ld b k FZ) sz) := by
  refine Met.ofW (cc := cX1_exchange) (maxL := 4) (ret := (some .int)) (by decide) rfl ?_
  intro p e s m args below meth c s₁ B hml hv
  obtain ⟨rfl, ⟨hsz, hP, hD0⟩, hE⟩ := hv
  have hx := B.exec
  have hb := B.bytes
  have hr := B.returns
  have hts := atoms_spec (ws := wsX1_exchange) B.pre
  have hown : s.vm.findClass RX1 = some m.cls := findClass_of_methodNamed B.named
  have hlocks := B.notSynchronized
  have hl := lv_entry ([.ref x, .int (nI i), .ref y]) (n := 4) (Nat.le_of_ble_eq_true rfl)
  rw [lg_entry_eq]
  generalize (lg_sl ([.ref x, .int (nI i), .ref y]) ++ List.replicate (4 - (lg_sl ([.ref x, .int (nI i), .ref y])).length) Slot.unset).toArray = ls at hl ⊢
  have hl : lv_has ls 4 [(0, .ref x), (1, .int (nI i)), (2, .ref y)] := hl
  have hK := hE.1
  subst hsz
  have hD := hD0.self (sz := s.heap.size)
  generalize hAe : va_A ((CW cT x lv kp fL fK o ld b k FZ)) s.heap.size = A at hD ⊢
  have hA : ∀ q : Nat, s.heap.size ≤ q → A q := fun q h => by rw [← hAe]; exact Or.inr h
  have hS : va_S A s.heap s.heap [] := va_S.rf
  refine lv_aload_n hx hb dX1_exchange_0 rfl (lv_at hl 0 rfl) ?_
  refine va_get (ci := 1) (v := .ref lv) (C := RX1) (T := TX1) (N := 6) hx hb hts iw_X1exchange_X1 hown hK hP 0 rfl rfl 0 (by decide) (hts (.fieldLink RX1 14 "BackMirror" "live" "[LBackMirror$Thing;") (by decide +kernel)) (fun _ h9 => h9) rfl dX1_exchange_1 ?_
  refine lv_iload_n hx hb dX1_exchange_4 rfl (lv_at hl 1 rfl) ?_
  refine va_aldq hx hb hK hP 1 1 rfl rfl (xin (by omega) (by omega)) dX1_exchange_5 ?_
  obtain ⟨a1, ha1, hT1⟩ := hC.2 (i) (by omega)
  refine x_toprf (y := a1) (by rw [nI_clamp (by omega)]; exact ha1) ?_
  obtain ⟨hz1, q1, f1, hm1, hr1, he1⟩ := hT1
  refine va_get (ci := 0) (v := .int ((G (246 + i)).1)) (C := RX0) (T := TX0) (N := 3) hx hb hts iw_X1exchange_X0 hown hK (x1 hP (xm3 hm1)) 0 rfl rfl 0 (by decide) (hts (.fieldLink RX1 47 "BackMirror$Thing" "kind" "I") (by decide +kernel)) (fun _ h9 => h9) rfl dX1_exchange_6 ?_
  refine lv_istore_n (lv' := [(3, .int ((G (246 + i)).1)), (0, .ref x), (1, .int (nI i)), (2, .ref y)]) hx hb dX1_exchange_9 rfl hl (by decide) rfl (fun ls hl => ?_)
  refine lv_aload_n hx hb dX1_exchange_10 rfl (lv_at hl 1 rfl) ?_
  refine va_get (ci := 1) (v := .ref lv) (C := RX1) (T := TX1) (N := 6) hx hb hts iw_X1exchange_X1 hown hK hP 0 rfl rfl 0 (by decide) (hts (.fieldLink RX1 14 "BackMirror" "live" "[LBackMirror$Thing;") (by decide +kernel)) (fun _ h9 => h9) rfl dX1_exchange_11 ?_
  refine lv_iload_n hx hb dX1_exchange_14 rfl (lv_at hl 2 rfl) ?_
  refine lv_aload_n hx hb dX1_exchange_15 rfl (lv_at hl 3 rfl) ?_
  obtain ⟨j9, hj9⟩ := List.getElem?_of_mem hy
  refine va_astq (r := (RX0, TX0, 3)) hx hb hK hP hD hS 1 1 (j9 + 3) 0 rfl rfl hj9 rfl (xin (by omega) (by omega)) dX1_exchange_16 (fun H locs hP hD hS => ?_)
  rw [nI_clamp (show i < 2 ^ 31 by omega)] at hP hD
  have hP : va_P D vwCl ((x, .inr (1, [.ref lv, .ref kp, .int (nI o), .int (nI ld), .int (nI b), .int (nI k)])) :: (lv, .inl (cT, 6, .inr (.inr (.inr (.inr (va_up fL i (some y))))))) :: (kp, .inl (cT, 246, .inr (.inr (.inr (.inr fK))))) :: FZ) H := hP
  have hD : va_D A ((x, .inr (1, [.ref lv, .ref kp, .int (nI o), .int (nI ld), .int (nI b), .int (nI k)])) :: (lv, .inl (cT, 6, .inr (.inr (.inr (.inr (va_up fL i (some y))))))) :: (kp, .inl (cT, 246, .inr (.inr (.inr (.inr fK))))) :: FZ) := hD
  refine lv_iload_n hx hb dX1_exchange_17 rfl (lv_at hl 0 rfl) ?_
  exact W.iret hx hb hr (fun t9 ht9 hW9 => ⟨⟨_, (), rfl, rfl, by rw [ht9]; exact hP, hD⟩, hS.F ht9⟩) hS.2.2 dX1_exchange_18

theorem iw_X1undoBrokenRun_X1 : ∀ w ∈ u_ws RX1 TX1 6, w ∈ wsX1_undoBrokenRun := by decide +kernel
set_option maxHeartbeats 4000000 in
set_option maxRecDepth 100000 in
theorem c_X1_undoBrokenRun (l : Launch) {D : va_G} {cI cT cJ : ClassId} (x lv kp : Nat) (fL fK : Nat → Option Nat) (o ld b k : Nat) (FZ : va_W) (sz : Nat) : Met l yX1_undoBrokenRun wsX1_undoBrokenRun (rmD 1 0 0) (XP D cI cT cJ [.ref x] (fun H => H.size = sz ∧ va_P D vwCl (CW cT x lv kp fL fK o ld b k FZ) H ∧ va_D (fun _ => True) (CW cT x lv kp fL fK o ld b k FZ))) (va_Qi (S := Unit) (fun r _ => r = nI k) (fun _ t => va_P D vwCl (CW cT x lv kp fL fK o ld 0 0 FZ) t.heap ∧ va_D (va_A (CW cT x lv kp fL fK o ld b k FZ) sz) (CW cT x lv kp fL fK o ld 0 0 FZ)) (va_A (CW cT x lv kp fL fK o ld b k FZ) sz)) 0 0 (va_A (CW cT x lv kp fL fK o ld b k FZ) sz) := by
  refine Met.ofW (cc := cX1_undoBrokenRun) (maxL := 2) (ret := (some .int)) (by decide) rfl ?_
  intro p e s m args below meth c s₁ B hml hv
  obtain ⟨rfl, ⟨hsz, hP, hD0⟩, hE⟩ := hv
  have hx := B.exec
  have hb := B.bytes
  have hr := B.returns
  have hts := atoms_spec (ws := wsX1_undoBrokenRun) B.pre
  have hown : s.vm.findClass RX1 = some m.cls := findClass_of_methodNamed B.named
  have hlocks := B.notSynchronized
  have hl := lv_entry ([.ref x]) (n := 2) (Nat.le_of_ble_eq_true rfl)
  rw [lg_entry_eq]
  generalize (lg_sl ([.ref x]) ++ List.replicate (2 - (lg_sl ([.ref x])).length) Slot.unset).toArray = ls at hl ⊢
  have hl : lv_has ls 2 [(0, .ref x)] := hl
  have hK := hE.1
  subst hsz
  have hD := hD0.self (sz := s.heap.size)
  generalize hAe : va_A ((CW cT x lv kp fL fK o ld b k FZ)) s.heap.size = A at hD ⊢
  have hA : ∀ q : Nat, s.heap.size ≤ q → A q := fun q h => by rw [← hAe]; exact Or.inr h
  have hS : va_S A s.heap s.heap [] := va_S.rf
  refine lv_aload_n hx hb dX1_undoBrokenRun_0 rfl (lv_at hl 0 rfl) ?_
  refine va_get (ci := 1) (v := .int (nI k)) (C := RX1) (T := TX1) (N := 6) hx hb hts iw_X1undoBrokenRun_X1 hown hK hP 0 rfl rfl 5 (by decide) (hts (.fieldLink RX1 32 "BackMirror" "brokenSteps" "I") (by decide +kernel)) (fun _ h9 => h9) rfl dX1_undoBrokenRun_1 ?_
  refine lv_istore_n (lv' := [(1, .int (nI k)), (0, .ref x)]) hx hb dX1_undoBrokenRun_4 rfl hl (by decide) rfl (fun ls hl => ?_)
  refine lv_aload_n hx hb dX1_undoBrokenRun_5 rfl (lv_at hl 1 rfl) ?_
  refine lv_iconst (v := nI 0) hx hb dX1_undoBrokenRun_6 (by decide) ?_
  refine va_put (ci := 1) (v := .int (nI 0)) (ty := .boolean) (C := RX1) (T := TX1) (N := 6) hx hb hts iw_X1undoBrokenRun_X1 tyX1 tyX1_ok nmX1 hown hK hP hD hS 0 rfl rfl 4 (by decide) (hts (.fieldLink RX1 28 "BackMirror" "broken" "Z") (by decide +kernel)) (fun _ h9 => h9) rfl (by decide +kernel) (by decide) rfl (Nat.le_of_ble_eq_true rfl) dX1_undoBrokenRun_7 (fun H locs hP hD hS => ?_)
  have hP : va_P D vwCl ((x, .inr (1, [.ref lv, .ref kp, .int (nI o), .int (nI ld), .int (nI 0), .int (nI k)])) :: (lv, .inl (cT, 6, .inr (.inr (.inr (.inr fL))))) :: (kp, .inl (cT, 246, .inr (.inr (.inr (.inr fK))))) :: FZ) H := hP
  have hD : va_D A ((x, .inr (1, [.ref lv, .ref kp, .int (nI o), .int (nI ld), .int (nI 0), .int (nI k)])) :: (lv, .inl (cT, 6, .inr (.inr (.inr (.inr fL))))) :: (kp, .inl (cT, 246, .inr (.inr (.inr (.inr fK))))) :: FZ) := hD
  refine lv_aload_n hx hb dX1_undoBrokenRun_10 rfl (lv_at hl 1 rfl) ?_
  refine lv_iconst (v := nI 0) hx hb dX1_undoBrokenRun_11 (by decide) ?_
  refine va_put (ci := 1) (v := .int (nI 0)) (ty := .int) (C := RX1) (T := TX1) (N := 6) hx hb hts iw_X1undoBrokenRun_X1 tyX1 tyX1_ok nmX1 hown hK hP hD hS 0 rfl rfl 5 (by decide) (hts (.fieldLink RX1 32 "BackMirror" "brokenSteps" "I") (by decide +kernel)) (fun _ h9 => h9) rfl (by decide +kernel) rfl rfl (Nat.le_of_ble_eq_true rfl) dX1_undoBrokenRun_12 (fun H locs hP hD hS => ?_)
  have hP : va_P D vwCl ((x, .inr (1, [.ref lv, .ref kp, .int (nI o), .int (nI ld), .int (nI 0), .int (nI 0)])) :: (lv, .inl (cT, 6, .inr (.inr (.inr (.inr fL))))) :: (kp, .inl (cT, 246, .inr (.inr (.inr (.inr fK))))) :: FZ) H := hP
  have hD : va_D A ((x, .inr (1, [.ref lv, .ref kp, .int (nI o), .int (nI ld), .int (nI 0), .int (nI 0)])) :: (lv, .inl (cT, 6, .inr (.inr (.inr (.inr fL))))) :: (kp, .inl (cT, 246, .inr (.inr (.inr (.inr fK))))) :: FZ) := hD
  refine lv_iload_n hx hb dX1_undoBrokenRun_15 rfl (lv_at hl 0 rfl) ?_
  exact W.iret hx hb hr (fun t9 ht9 hW9 => ⟨⟨_, (), rfl, rfl, by rw [ht9]; exact hP, hD⟩, hS.F ht9⟩) hS.2.2 dX1_undoBrokenRun_16

set_option maxHeartbeats 4000000 in
set_option maxRecDepth 100000 in
theorem c_X1_mend (l : Launch) {D : va_G} {cI cT cJ : ClassId} (x lv kp : Nat) (fL fK : Nat → Option Nat) (o ld b k : Nat) (FZ : va_W) (sz : Nat) : Met l yX1_mend wsX1_mend (rmD 2 0 0) (XP D cI cT cJ [.ref x] (fun H => H.size = sz ∧ va_P D vwCl (CW cT x lv kp fL fK o ld b k FZ) H ∧ va_D (fun _ => True) (CW cT x lv kp fL fK o ld b k FZ))) (va_Qi (S := Unit) (fun r _ => r = nI k) (fun _ t => va_P D vwCl (CW cT x lv kp fL fK o ld 0 0 FZ) t.heap ∧ va_D (va_A (CW cT x lv kp fL fK o ld b k FZ) sz) (CW cT x lv kp fL fK o ld 0 0 FZ)) (va_A (CW cT x lv kp fL fK o ld b k FZ) sz)) 0 0 (va_A (CW cT x lv kp fL fK o ld b k FZ) sz) := by
  refine Met.ofW (cc := cX1_mend) (maxL := 1) (ret := (some .int)) (by decide) rfl ?_
  intro p e s m args below meth c s₁ B hml hv
  obtain ⟨rfl, ⟨hsz, hP, hD0⟩, hE⟩ := hv
  have hx := B.exec
  have hb := B.bytes
  have hr := B.returns
  have hts := atoms_spec (ws := wsX1_mend) B.pre
  have hown : s.vm.findClass RX1 = some m.cls := findClass_of_methodNamed B.named
  have hlocks := B.notSynchronized
  have hl := lv_entry ([.ref x]) (n := 1) (Nat.le_of_ble_eq_true rfl)
  rw [lg_entry_eq]
  generalize (lg_sl ([.ref x]) ++ List.replicate (1 - (lg_sl ([.ref x])).length) Slot.unset).toArray = ls at hl ⊢
  have hl : lv_has ls 1 [(0, .ref x)] := hl
  have hK := hE.1
  subst hsz
  have hD := hD0.self (sz := s.heap.size)
  generalize hAe : va_A ((CW cT x lv kp fL fK o ld b k FZ)) s.heap.size = A at hD ⊢
  have hA : ∀ q : Nat, s.heap.size ≤ q → A q := fun q h => by rw [← hAe]; exact Or.inr h
  have hS : va_S A s.heap s.heap [] := va_S.rf
  refine lv_aload_n hx hb dX1_mend_0 rfl (lv_at hl 0 rfl) ?_
  have hP : va_P D vwCl ([] ++ (CW cT x lv kp fL fK o ld b k FZ)) s.heap := hP
  have hD : va_D A ([] ++ (CW cT x lv kp fL fK o ld b k FZ)) := hD
  have hFc := xfree (wc := (CW cT x lv kp fL fK o ld b k FZ)) hD hS hA (fun _ h => List.mem_append_right _ h)
  have hPc := xP_sub (w2 := (CW cT x lv kp fL fK o ld b k FZ)) (fun _ h => List.mem_append_right _ h) hP
  have hDc : va_D (fun _ => True) (CW cT x lv kp fL fK o ld b k FZ) := (xD_sub (List.sublist_append_right _ _) hD).weaken (fun _ _ _ _ => trivial)
  refine va_calli (va_runV (As := []) (rest := []) ⟨hx, hb, hml, hown, hts⟩ (c_X1_undoBrokenRun l x lv kp fL fK o ld b k FZ s.heap.size) (cwV 0 hts gX1_mend_X1_undoBrokenRun rfl rfl rfl (by decide +kernel) ⟨(Nat.le_of_ble_eq_true rfl), (Nat.le_of_ble_eq_true rfl)⟩) ⟨XP_blind, va_recv hK hP (ci := 1) (q0 := 0) rfl rfl, XP_pre hE ⟨rfl, hPc, hDc⟩⟩ rfl rfl hl.1 rfl (lv_room (Nat.le_of_ble_eq_true rfl)) dX1_mend_1 ⟨by first | exact Nat.le_of_ble_eq_true rfl | (show _ + _ ≤ _; omega), by first | exact Nat.le_of_ble_eq_true rfl | (show _ + _ ≤ _; omega)⟩) hS (fun q9 _ h => hFc q9 h) hFc (fun r9 u t9 H1 locs ht9 hvm9 hw9 hB9 hzc hkc hS => ?_)
  obtain ⟨hP1, hD1⟩ := hB9
  rw [ht9] at hP1
  obtain ⟨hP, hD⟩ := xjoin (wr := []) (wc := (CW cT x lv kp fL fK o ld b k FZ)) (w1 := (CW cT x lv kp fL fK o ld 0 0 FZ)) hP hD hkc hFc hP1 hD1
  generalize H1 = H at hP hS ⊢
  subst hw9
  have hP : va_P D vwCl ((x, .inr (1, [.ref lv, .ref kp, .int (nI o), .int (nI ld), .int (nI 0), .int (nI 0)])) :: (lv, .inl (cT, 6, .inr (.inr (.inr (.inr fL))))) :: (kp, .inl (cT, 246, .inr (.inr (.inr (.inr fK))))) :: FZ) H := hP
  have hD : va_D A ((x, .inr (1, [.ref lv, .ref kp, .int (nI o), .int (nI ld), .int (nI 0), .int (nI 0)])) :: (lv, .inl (cT, 6, .inr (.inr (.inr (.inr fL))))) :: (kp, .inl (cT, 246, .inr (.inr (.inr (.inr fK))))) :: FZ) := hD
  exact W.iret hx hb hr (fun t9 ht9 hW9 => ⟨⟨_, (), rfl, rfl, by rw [ht9]; exact hP, hD⟩, hS.F ht9⟩) hS.2.2 dX1_mend_4

theorem rowB_comm {n1 n2 : Nat} {f g : Nat → Int32} : rowB n1 n2 f g = rowB n2 n1 g f := by
  unfold rowB
  exact decide_eq_decide.mpr ⟨fun h => ⟨h.1.symm, fun j hj => (h.2 j (by omega)).symm⟩, fun h => ⟨h.1.symm, fun j hj => (h.2 j (by omega)).symm⟩⟩
theorem sameB_comm {a b : Tv} : sameB a b = sameB b a := by
  simp only [sameB, @eq_comm _ a.1 b.1, @eq_comm _ a.2.1 b.2.1]
  rw [rowB_comm]

theorem iw_X1stepsNeeded_X1 : ∀ w ∈ u_ws RX1 TX1 6, w ∈ wsX1_stepsNeeded := by decide +kernel
set_option maxHeartbeats 4000000 in
set_option maxRecDepth 100000 in
theorem c_X1_stepsNeeded (l : Launch) {D : va_G} {cI cT cJ : ClassId} (x lv kp : Nat) (fL fK : Nat → Option Nat) (o ld b k : Nat) (FZ : va_W) (G : Nat → Tv) (hC : CA cI FZ fL fK G) (hld : ld ≤ 40) : Met l yX1_stepsNeeded wsX1_stepsNeeded (rmD 4 0 0) (XP D cI cT cJ [.ref x] (fun H => va_P D vwCl (CW cT x lv kp fL fK o ld b k FZ) H)) (XSi (fun r => r = nI (dfN G ld 6))) 0 0 (fun _ => False) := by
  refine Met.ofW (cc := cX1_stepsNeeded) (maxL := 3) (ret := (some .int)) (by decide) rfl ?_
  intro p e s m args below meth c s₁ B hml hv
  obtain ⟨rfl, hP, hE⟩ := hv
  have hx := B.exec
  have hb := B.bytes
  have hr := B.returns
  have hts := atoms_spec (ws := wsX1_stepsNeeded) B.pre
  have hown : s.vm.findClass RX1 = some m.cls := findClass_of_methodNamed B.named
  have hlocks := B.notSynchronized
  have hl := lv_entry ([.ref x]) (n := 3) (Nat.le_of_ble_eq_true rfl)
  rw [lg_entry_eq]
  generalize (lg_sl ([.ref x]) ++ List.replicate (3 - (lg_sl ([.ref x])).length) Slot.unset).toArray = ls at hl ⊢
  have hl : lv_has ls 3 [(0, .ref x)] := hl
  have hK := hE.1
  refine lv_iconst (v := nI 0) hx hb dX1_stepsNeeded_0 (by decide) ?_
  refine lv_istore_n (lv' := [(1, .int (nI 0)), (0, .ref x)]) hx hb dX1_stepsNeeded_1 rfl hl (by decide) rfl (fun ls hl => ?_)
  refine lv_iconst (v := nI 0) hx hb dX1_stepsNeeded_2 (by decide) ?_
  refine lv_istore_n (lv' := [(2, .int (nI 0)), (1, .int (nI 0)), (0, .ref x)]) hx hb dX1_stepsNeeded_3 rfl hl (by decide) rfl (fun ls hl => ?_)
  refine x_loopP (fun n ls => ∃ p j : Nat, (j + 1 = n) ∧ (6 ≤ p + j) ∧ (p ≤ 6) ∧ lv_has ls 3 [(2, .int (nI p)), (1, .int (nI (dfN G ld p))), (0, .ref x)]) (7) ⟨0, 6, rfl, by omega, by omega, lv_sub hl [0, 1, 2] rfl⟩ (fun ls h => by obtain ⟨p, j, hk, h1, h2, -⟩ := h; omega) (fun n ls h ih => ?_)
  obtain ⟨p, j, hk, h1, h2, hl⟩ := h
  have hg1 := dfN_le (G := G) (d := ld) p
  refine lv_iload_n hx hb dX1_stepsNeeded_4 rfl (lv_at hl 0 rfl) ?_
  refine lv_bipush (v := nI 6) hx hb dX1_stepsNeeded_5 (by decide) ?_
  refine lv_icmp_ge (tgt := 44) hx hb dX1_stepsNeeded_7 (by decide) (fun c7 => ?_) (fun c7 => ?_)
  · have c7 : 6 ≤ p := (xle (by omega) (by omega)).mp c7
    refine lv_iload_n hx hb dX1_stepsNeeded_44 rfl (lv_at hl 1 rfl) ?_
    exact W.iret hx hb hr (fun t9 ht9 hW9 => ⟨_, rfl, by rw [show p = 6 by omega], ht9⟩) (fun _ h => nomatch h) dX1_stepsNeeded_45
  · have c7 : ¬ 6 ≤ p := fun h => c7 ((xle (by omega) (by omega)).mpr h)
    refine lv_aload_n hx hb dX1_stepsNeeded_10 rfl (lv_at hl 2 rfl) ?_
    refine va_get (ci := 1) (v := .ref lv) (C := RX1) (T := TX1) (N := 6) hx hb hts iw_X1stepsNeeded_X1 hown hK hP 0 rfl rfl 0 (by decide) (hts (.fieldLink RX1 14 "BackMirror" "live" "[LBackMirror$Thing;") (by decide +kernel)) (fun _ h9 => h9) rfl dX1_stepsNeeded_11 ?_
    refine lv_iload_n hx hb dX1_stepsNeeded_14 rfl (lv_at hl 0 rfl) ?_
    refine va_aldq hx hb hK hP 1 1 rfl rfl (xin (by omega) (by omega)) dX1_stepsNeeded_15 ?_
    obtain ⟨a1, ha1, hT1⟩ := hC.2 (p) (by omega)
    refine x_toprf (y := a1) (by rw [nI_clamp (by omega)]; exact ha1) ?_
    obtain ⟨hz1, q1, f1, hm1, hr1, he1⟩ := hT1
    refine lv_aload_n hx hb dX1_stepsNeeded_16 rfl (lv_at hl 2 rfl) ?_
    refine va_get (ci := 1) (v := .ref kp) (C := RX1) (T := TX1) (N := 6) hx hb hts iw_X1stepsNeeded_X1 hown hK hP 0 rfl rfl 1 (by decide) (hts (.fieldLink RX1 18 "BackMirror" "kept" "[LBackMirror$Thing;") (by decide +kernel)) (fun _ h9 => h9) rfl dX1_stepsNeeded_17 ?_
    refine lv_aload_n hx hb dX1_stepsNeeded_20 rfl (lv_at hl 2 rfl) ?_
    refine va_get (ci := 1) (v := .int (nI ld)) (C := RX1) (T := TX1) (N := 6) hx hb hts iw_X1stepsNeeded_X1 hown hK hP 0 rfl rfl 3 (by decide) (hts (.fieldLink RX1 25 "BackMirror" "lastDate" "I") (by decide +kernel)) (fun _ h9 => h9) rfl dX1_stepsNeeded_21 ?_
    refine lv_iload_n hx hb dX1_stepsNeeded_24 rfl (lv_at hl 0 rfl) ?_
    refine xc_sie (va_runS (As := [.int (nI ld), .int (nI p)]) (rest := [.ref kp, .ref a1]) ⟨hx, hb, hml, hown, hts⟩ (c_X1_keptIndex l ld p) (va_cwS 2 hts gX1_stepsNeeded_X1_keptIndex rfl rfl rfl (by decide +kernel) ⟨(Nat.le_of_ble_eq_true rfl), (Nat.le_of_ble_eq_true rfl)⟩) ⟨XP_blind, XP_pre hE trivial⟩ rfl rfl hl.1 rfl (lv_room (Nat.le_of_ble_eq_true rfl)) dX1_stepsNeeded_25 ⟨Nat.le_of_ble_eq_true rfl, Nat.le_of_ble_eq_true rfl⟩) ?_
    refine va_aldq hx hb hK hP 2 1 rfl rfl (xin (by omega) (by omega)) dX1_stepsNeeded_28 ?_
    obtain ⟨a2, ha2, hT2⟩ := hC.1 (6 * ld + p) (by omega)
    refine x_toprf (y := a2) (by rw [nI_clamp (by omega)]; exact ha2) ?_
    obtain ⟨hz2, q2, f2, hm2, hr2, he2⟩ := hT2
    refine xc_sie (va_runV (As := [.ref a2]) (rest := []) ⟨hx, hb, hml, hown, hts⟩ (c_X0_isLike l a1 q1 a2 q2 ((G (246 + p)).2.2.1) ((G (6 * ld + p)).2.2.1) ((G (246 + p)).1) ((G (246 + p)).2.1) ((G (6 * ld + p)).1) ((G (6 * ld + p)).2.1) f1 f2 (by omega) (by omega)) (cwV 1 hts gX1_stepsNeeded_X0_isLike rfl rfl rfl (by decide +kernel) ⟨(Nat.le_of_ble_eq_true rfl), (Nat.le_of_ble_eq_true rfl)⟩) ⟨XP_blind, va_recv hK (x1 hP (xm3 hm1)) (ci := 0) (q0 := 0) rfl rfl, XP_pre hE (x4 hP (xm3 hm1) (xm3 hr1) (xm3 hm2) (xm3 hr2))⟩ rfl rfl hl.1 rfl (lv_room (Nat.le_of_ble_eq_true rfl)) dX1_stepsNeeded_29 ⟨Nat.le_of_ble_eq_true rfl, Nat.le_of_ble_eq_true rfl⟩) ?_
    refine x_top (nI (bN (sameB (G (246 + p)) (G (6 * ld + p))))) (by rw [sameB_congr he1 he2]) ?_
    refine lv_if_ne (tgt := 38) hx hb dX1_stepsNeeded_32 (by decide) (fun c32 => ?_) (fun c32 => ?_)
    · have c32 : (sameB (G (246 + p)) (G (6 * ld + p))) = true := bN_t c32
      refine lv_iinc (v := nI (p + 1)) (lv' := [(2, .int (nI (p + 1))), (1, .int (nI (dfN G ld p))), (0, .ref x)]) hx hb dX1_stepsNeeded_38 hl (k := 0) rfl (xinc _ 1 _ (by decide)) (by decide) rfl (fun ls hl => ?_)
      refine lv_goto (tgt := 4) hx hb dX1_stepsNeeded_41 (by decide) ?_
      have hw : dfN G ld p = dfN G ld (p + 1) := by simp only [dfN]; rw [sameB_comm, c32]; rfl
      rw [hw] at hl
      exact ih _ ⟨p + 1, j - 1, by omega, by omega, by omega, lv_sub hl [0, 1, 2] rfl⟩
    · have c32 : (sameB (G (246 + p)) (G (6 * ld + p))) = false := bN_f c32
      refine lv_iinc (v := nI (dfN G ld p + 1)) (lv' := [(1, .int (nI (dfN G ld p + 1))), (2, .int (nI p)), (0, .ref x)]) hx hb dX1_stepsNeeded_35 hl (k := 1) rfl (xinc _ 1 _ (by decide)) (by decide) rfl (fun ls hl => ?_)
      refine lv_iinc (v := nI (p + 1)) (lv' := [(2, .int (nI (p + 1))), (1, .int (nI (dfN G ld p + 1))), (0, .ref x)]) hx hb dX1_stepsNeeded_38 hl (k := 1) rfl (xinc _ 1 _ (by decide)) (by decide) rfl (fun ls hl => ?_)
      refine lv_goto (tgt := 4) hx hb dX1_stepsNeeded_41 (by decide) ?_
      have hw : dfN G ld p + 1 = dfN G ld (p + 1) := by simp only [dfN]; rw [sameB_comm, c32]; rfl
      rw [hw] at hl
      exact ih _ ⟨p + 1, j - 1, by omega, by omega, by omega, lv_sub hl [0, 1, 2] rfl⟩

set_option maxHeartbeats 4000000 in
set_option maxRecDepth 100000 in
theorem c_X1_needs (l : Launch) {D : va_G} {cI cT cJ : ClassId} (x lv kp : Nat) (fL fK : Nat → Option Nat) (o ld b k : Nat) (FZ : va_W) (G : Nat → Tv) (hC : CA cI FZ fL fK G) (hld : ld ≤ 40) : Met l yX1_needs wsX1_needs (rmD 5 0 0) (XP D cI cT cJ [.ref x] (fun H => va_P D vwCl (CW cT x lv kp fL fK o ld b k FZ) H)) (XSi (fun r => r = nI (dfN G ld 6))) 0 0 (fun _ => False) := by
  refine Met.ofW (cc := cX1_needs) (maxL := 1) (ret := (some .int)) (by decide) rfl ?_
  intro p e s m args below meth c s₁ B hml hv
  obtain ⟨rfl, hP, hE⟩ := hv
  have hx := B.exec
  have hb := B.bytes
  have hr := B.returns
  have hts := atoms_spec (ws := wsX1_needs) B.pre
  have hown : s.vm.findClass RX1 = some m.cls := findClass_of_methodNamed B.named
  have hlocks := B.notSynchronized
  have hl := lv_entry ([.ref x]) (n := 1) (Nat.le_of_ble_eq_true rfl)
  rw [lg_entry_eq]
  generalize (lg_sl ([.ref x]) ++ List.replicate (1 - (lg_sl ([.ref x])).length) Slot.unset).toArray = ls at hl ⊢
  have hl : lv_has ls 1 [(0, .ref x)] := hl
  have hK := hE.1
  refine lv_aload_n hx hb dX1_needs_0 rfl (lv_at hl 0 rfl) ?_
  refine xc_sie (va_runV (As := []) (rest := []) ⟨hx, hb, hml, hown, hts⟩ (c_X1_stepsNeeded l x lv kp fL fK o ld b k FZ G hC (by omega)) (cwV 0 hts gX1_needs_X1_stepsNeeded rfl rfl rfl (by decide +kernel) ⟨(Nat.le_of_ble_eq_true rfl), (Nat.le_of_ble_eq_true rfl)⟩) ⟨XP_blind, va_recv hK hP (ci := 1) (q0 := 0) rfl rfl, XP_pre hE hP⟩ rfl rfl hl.1 rfl (lv_room (Nat.le_of_ble_eq_true rfl)) dX1_needs_1 ⟨Nat.le_of_ble_eq_true rfl, Nat.le_of_ble_eq_true rfl⟩) ?_
  exact W.iret hx hb hr (fun t9 ht9 hW9 => ⟨_, rfl, rfl, ht9⟩) (fun _ h => nomatch h) dX1_needs_4

theorem iw_X1differenceTakes_X0 : ∀ w ∈ u_ws RX0 TX0 3, w ∈ wsX1_differenceTakes := by decide +kernel
theorem iw_X1differenceTakes_X1 : ∀ w ∈ u_ws RX1 TX1 6, w ∈ wsX1_differenceTakes := by decide +kernel
set_option maxHeartbeats 4000000 in
set_option maxRecDepth 100000 in
theorem c_X1_differenceTakes (l : Launch) {D : va_G} {cI cT cJ : ClassId} (x lv kp : Nat) (fL fK : Nat → Option Nat) (o ld b k : Nat) (FZ : va_W) (G : Nat → Tv) (hC : CA cI FZ fL fK G) (d w : Nat) (hld : ld ≤ 40) (hdd : d ≤ 40) (hpp : w < 6) : Met l yX1_differenceTakes wsX1_differenceTakes (rmD 5 0 0) (XP D cI cT cJ [.ref x, .int (nI d), .int (nI w)] (fun H => va_P D vwCl (CW cT x lv kp fL fK o ld b k FZ) H)) (XSi (fun r => r = nI (difW G ld d w))) 0 0 (fun _ => False) := by
  refine Met.ofW (cc := cX1_differenceTakes) (maxL := 6) (ret := (some .int)) (by decide) rfl ?_
  intro p e s m args below meth c s₁ B hml hv
  obtain ⟨rfl, hP, hE⟩ := hv
  have hx := B.exec
  have hb := B.bytes
  have hr := B.returns
  have hts := atoms_spec (ws := wsX1_differenceTakes) B.pre
  have hown : s.vm.findClass RX1 = some m.cls := findClass_of_methodNamed B.named
  have hlocks := B.notSynchronized
  have hl := lv_entry ([.ref x, .int (nI d), .int (nI w)]) (n := 6) (Nat.le_of_ble_eq_true rfl)
  rw [lg_entry_eq]
  generalize (lg_sl ([.ref x, .int (nI d), .int (nI w)]) ++ List.replicate (6 - (lg_sl ([.ref x, .int (nI d), .int (nI w)])).length) Slot.unset).toArray = ls at hl ⊢
  have hl : lv_has ls 6 [(0, .ref x), (1, .int (nI d)), (2, .int (nI w))] := hl
  have hK := hE.1
  refine lv_iload_n hx hb dX1_differenceTakes_0 rfl (lv_at hl 1 rfl) ?_
  refine lv_aload_n hx hb dX1_differenceTakes_1 rfl (lv_at hl 0 rfl) ?_
  refine va_get (ci := 1) (v := .int (nI ld)) (C := RX1) (T := TX1) (N := 6) hx hb hts iw_X1differenceTakes_X1 hown hK hP 0 rfl rfl 3 (by decide) (hts (.fieldLink RX1 25 "BackMirror" "lastDate" "I") (by decide +kernel)) (fun _ h9 => h9) rfl dX1_differenceTakes_2 ?_
  refine lv_icmp_lt (tgt := 10) hx hb dX1_differenceTakes_5 (by decide) (fun c5 => ?_) (fun c5 => ?_)
  · have c5 : d < ld := (xlt (by omega) (by omega)).mp c5
    refine lv_aload_n hx hb dX1_differenceTakes_10 rfl (lv_at hl 0 rfl) ?_
    refine va_get (ci := 1) (v := .ref kp) (C := RX1) (T := TX1) (N := 6) hx hb hts iw_X1differenceTakes_X1 hown hK hP 0 rfl rfl 1 (by decide) (hts (.fieldLink RX1 18 "BackMirror" "kept" "[LBackMirror$Thing;") (by decide +kernel)) (fun _ h9 => h9) rfl dX1_differenceTakes_11 ?_
    refine lv_iload_n hx hb dX1_differenceTakes_14 rfl (lv_at hl 1 rfl) ?_
    refine lv_iload_n hx hb dX1_differenceTakes_15 rfl (lv_at hl 2 rfl) ?_
    refine xc_sie (va_runS (As := [.int (nI d), .int (nI w)]) (rest := [.ref kp]) ⟨hx, hb, hml, hown, hts⟩ (c_X1_keptIndex l d w) (va_cwS 2 hts gX1_differenceTakes_X1_keptIndex rfl rfl rfl (by decide +kernel) ⟨(Nat.le_of_ble_eq_true rfl), (Nat.le_of_ble_eq_true rfl)⟩) ⟨XP_blind, XP_pre hE trivial⟩ rfl rfl hl.1 rfl (lv_room (Nat.le_of_ble_eq_true rfl)) dX1_differenceTakes_16 ⟨Nat.le_of_ble_eq_true rfl, Nat.le_of_ble_eq_true rfl⟩) ?_
    refine va_aldq hx hb hK hP 2 1 rfl rfl (xin (by omega) (by omega)) dX1_differenceTakes_19 ?_
    obtain ⟨a1, ha1, hT1⟩ := hC.1 (6 * d + w) (by omega)
    refine x_toprf (y := a1) (by rw [nI_clamp (by omega)]; exact ha1) ?_
    obtain ⟨hz1, q1, f1, hm1, hr1, he1⟩ := hT1
    refine lv_astore_n (lv' := [(3, .ref a1), (0, .ref x), (1, .int (nI d)), (2, .int (nI w))]) hx hb dX1_differenceTakes_20 rfl hl (by decide) rfl (fun ls hl => ?_)
    refine lv_aload_n hx hb dX1_differenceTakes_21 rfl (lv_at hl 1 rfl) ?_
    refine va_get (ci := 1) (v := .ref kp) (C := RX1) (T := TX1) (N := 6) hx hb hts iw_X1differenceTakes_X1 hown hK hP 0 rfl rfl 1 (by decide) (hts (.fieldLink RX1 18 "BackMirror" "kept" "[LBackMirror$Thing;") (by decide +kernel)) (fun _ h9 => h9) rfl dX1_differenceTakes_22 ?_
    refine lv_iload_n hx hb dX1_differenceTakes_25 rfl (lv_at hl 2 rfl) ?_
    refine lv_iconst (v := nI 1) hx hb dX1_differenceTakes_26 (by decide) ?_
    refine lv_iadd hx hb dX1_differenceTakes_27 ?_
    refine x_top (nI (d + 1)) (xadd (by omega)) ?_
    refine lv_iload_n hx hb dX1_differenceTakes_28 rfl (lv_at hl 3 rfl) ?_
    refine xc_sie (va_runS (As := [.int (nI (d + 1)), .int (nI w)]) (rest := [.ref kp]) ⟨hx, hb, hml, hown, hts⟩ (c_X1_keptIndex l (d + 1) w) (va_cwS 2 hts gX1_differenceTakes_X1_keptIndex rfl rfl rfl (by decide +kernel) ⟨(Nat.le_of_ble_eq_true rfl), (Nat.le_of_ble_eq_true rfl)⟩) ⟨XP_blind, XP_pre hE trivial⟩ rfl rfl hl.1 rfl (lv_room (Nat.le_of_ble_eq_true rfl)) dX1_differenceTakes_29 ⟨Nat.le_of_ble_eq_true rfl, Nat.le_of_ble_eq_true rfl⟩) ?_
    refine va_aldq hx hb hK hP 2 1 rfl rfl (xin (by omega) (by omega)) dX1_differenceTakes_32 ?_
    obtain ⟨a2, ha2, hT2⟩ := hC.1 (6 * (d + 1) + w) (by omega)
    refine x_toprf (y := a2) (by rw [nI_clamp (by omega)]; exact ha2) ?_
    obtain ⟨hz2, q2, f2, hm2, hr2, he2⟩ := hT2
    refine lv_astore (lv' := [(4, .ref a2), (3, .ref a1), (0, .ref x), (1, .int (nI d)), (2, .int (nI w))]) hx hb dX1_differenceTakes_33 hl (by decide) rfl (fun ls hl => ?_)
    refine lv_aload_n hx hb dX1_differenceTakes_35 rfl (lv_at hl 1 rfl) ?_
    refine lv_aload hx hb dX1_differenceTakes_36 (lv_at hl 0 rfl) ?_
    refine xc_sie (va_runV (As := [.ref a2]) (rest := []) ⟨hx, hb, hml, hown, hts⟩ (c_X0_isLike l a1 q1 a2 q2 ((G (6 * d + w)).2.2.1) ((G (6 * (d + 1) + w)).2.2.1) ((G (6 * d + w)).1) ((G (6 * d + w)).2.1) ((G (6 * (d + 1) + w)).1) ((G (6 * (d + 1) + w)).2.1) f1 f2 (by omega) (by omega)) (cwV 1 hts gX1_differenceTakes_X0_isLike rfl rfl rfl (by decide +kernel) ⟨(Nat.le_of_ble_eq_true rfl), (Nat.le_of_ble_eq_true rfl)⟩) ⟨XP_blind, va_recv hK (x1 hP (xm3 hm1)) (ci := 0) (q0 := 0) rfl rfl, XP_pre hE (x4 hP (xm3 hm1) (xm3 hr1) (xm3 hm2) (xm3 hr2))⟩ rfl rfl hl.1 rfl (lv_room (Nat.le_of_ble_eq_true rfl)) dX1_differenceTakes_38 ⟨Nat.le_of_ble_eq_true rfl, Nat.le_of_ble_eq_true rfl⟩) ?_
    refine x_top (nI (bN (sameB (G (6 * d + w)) (G (6 * (d + 1) + w))))) (by rw [sameB_congr he1 he2]) ?_
    refine lv_if_eq (tgt := 46) hx hb dX1_differenceTakes_41 (by decide) (fun c41 => ?_) (fun c41 => ?_)
    · have c41 : (sameB (G (6 * d + w)) (G (6 * (d + 1) + w))) = false := bN_f c41
      refine lv_aload_n hx hb dX1_differenceTakes_46 rfl (lv_at hl 1 rfl) ?_
      refine va_get (ci := 0) (v := .int ((G (6 * d + w)).2.1)) (C := RX0) (T := TX0) (N := 3) hx hb hts iw_X1differenceTakes_X0 hown hK (x1 hP (xm3 hm1)) 0 rfl rfl 1 (by decide) (hts (.fieldLink RX1 62 "BackMirror$Thing" "rights" "I") (by decide +kernel)) (fun _ h9 => h9) rfl dX1_differenceTakes_47 ?_
      refine lv_aload hx hb dX1_differenceTakes_50 (lv_at hl 0 rfl) ?_
      refine va_get (ci := 0) (v := .int ((G (6 * (d + 1) + w)).2.1)) (C := RX0) (T := TX0) (N := 3) hx hb hts iw_X1differenceTakes_X0 hown hK (x1 hP (xm3 hm2)) 0 rfl rfl 1 (by decide) (hts (.fieldLink RX1 62 "BackMirror$Thing" "rights" "I") (by decide +kernel)) (fun _ h9 => h9) rfl dX1_differenceTakes_52 ?_
      refine lv_icmp_ne (tgt := 62) hx hb dX1_differenceTakes_55 (by decide) (fun c55 => ?_) (fun c55 => ?_)
      · refine lv_iconst (v := nI 1) hx hb dX1_differenceTakes_62 (by decide) ?_
        refine lv_istore (lv' := [(5, .int (nI 1)), (4, .ref a2), (3, .ref a1), (0, .ref x), (1, .int (nI d)), (2, .int (nI w))]) hx hb dX1_differenceTakes_63 hl (by decide) rfl (fun ls hl => ?_)
        refine lv_aload_n hx hb dX1_differenceTakes_65 rfl (lv_at hl 2 rfl) ?_
        refine va_get (ci := 0) (v := .int ((G (6 * d + w)).1)) (C := RX0) (T := TX0) (N := 3) hx hb hts iw_X1differenceTakes_X0 hown hK (x1 hP (xm3 hm1)) 0 rfl rfl 0 (by decide) (hts (.fieldLink RX1 47 "BackMirror$Thing" "kind" "I") (by decide +kernel)) (fun _ h9 => h9) rfl dX1_differenceTakes_66 ?_
        refine lv_iconst (v := nI 1) hx hb dX1_differenceTakes_69 (by decide) ?_
        refine lv_icmp_ne (tgt := 98) hx hb dX1_differenceTakes_70 (by decide) (fun c70 => ?_) (fun c70 => ?_)
        · refine lv_iload hx hb dX1_differenceTakes_98 (lv_at hl 0 rfl) ?_
          refine lv_aload_n hx hb dX1_differenceTakes_100 rfl (lv_at hl 2 rfl) ?_
          refine va_get (ci := 0) (v := .int ((G (6 * d + w)).1)) (C := RX0) (T := TX0) (N := 3) hx hb hts iw_X1differenceTakes_X0 hown hK (x1 hP (xm3 hm1)) 0 rfl rfl 0 (by decide) (hts (.fieldLink RX1 47 "BackMirror$Thing" "kind" "I") (by decide +kernel)) (fun _ h9 => h9) rfl dX1_differenceTakes_101 ?_
          refine lv_iconst (v := nI 1) hx hb dX1_differenceTakes_104 (by decide) ?_
          refine lv_icmp_ne (tgt := 118) hx hb dX1_differenceTakes_105 (by decide) (fun c105 => ?_) (fun c105 => ?_)
          · refine lv_iconst (v := nI 1) hx hb dX1_differenceTakes_118 (by decide) ?_
            refine lv_iadd hx hb dX1_differenceTakes_119 ?_
            refine x_top (nI 2) (xadd (by omega)) ?_
            exact W.iret hx hb hr (fun t9 ht9 hW9 => ⟨_, rfl, by first | exact absurd c70 c105 | exact absurd c105 c70 | (unfold difW dif; (repeat (first | rw [if_pos (by first | assumption | omega)] | rw [if_neg (by first | assumption | omega)] | rw [if_neg (by rw [c41]; decide)] | rw [if_pos ⟨by assumption, by assumption⟩] | rw [if_neg (fun h => absurd h.1 (by assumption))] | rw [if_neg (fun h => absurd h.2 (by assumption))])); all_goals (first | rfl | (congr 1; omega))), ht9⟩) (fun _ h => nomatch h) dX1_differenceTakes_120
          · refine lv_aload_n hx hb dX1_differenceTakes_108 rfl (lv_at hl 2 rfl) ?_
            refine va_get (ci := 0) (v := .ref q1) (C := RX0) (T := TX0) (N := 3) hx hb hts iw_X1differenceTakes_X0 hown hK (x1 hP (xm3 hm1)) 0 rfl rfl 2 (by decide) (hts (.fieldLink RX1 43 "BackMirror$Thing" "numbers" "[I") (by decide +kernel)) (fun _ h9 => h9) rfl dX1_differenceTakes_109 ?_
            refine va_alen hx hb hK (x1 hP (xm3 hr1)) 0 0 rfl rfl (v := nI ((G (6 * d + w)).2.2.1)) rfl dX1_differenceTakes_112 ?_
            refine lv_iconst (v := nI 1) hx hb dX1_differenceTakes_113 (by decide) ?_
            refine lv_iadd hx hb dX1_differenceTakes_114 ?_
            refine x_top (nI (((G (6 * d + w)).2.2.1) + 1)) (xadd (by omega)) ?_
            refine lv_goto (tgt := 119) hx hb dX1_differenceTakes_115 (by decide) ?_
            refine lv_iadd hx hb dX1_differenceTakes_119 ?_
            refine x_top (nI (1 + (((G (6 * d + w)).2.2.1) + 1))) (xadd (by omega)) ?_
            exact W.iret hx hb hr (fun t9 ht9 hW9 => ⟨_, rfl, by first | exact absurd c70 c105 | exact absurd c105 c70 | (unfold difW dif; (repeat (first | rw [if_pos (by first | assumption | omega)] | rw [if_neg (by first | assumption | omega)] | rw [if_neg (by rw [c41]; decide)] | rw [if_pos ⟨by assumption, by assumption⟩] | rw [if_neg (fun h => absurd h.1 (by assumption))] | rw [if_neg (fun h => absurd h.2 (by assumption))])); all_goals (first | rfl | (congr 1; omega))), ht9⟩) (fun _ h => nomatch h) dX1_differenceTakes_120
        · refine lv_aload hx hb dX1_differenceTakes_73 (lv_at hl 1 rfl) ?_
          refine va_get (ci := 0) (v := .int ((G (6 * (d + 1) + w)).1)) (C := RX0) (T := TX0) (N := 3) hx hb hts iw_X1differenceTakes_X0 hown hK (x1 hP (xm3 hm2)) 0 rfl rfl 0 (by decide) (hts (.fieldLink RX1 47 "BackMirror$Thing" "kind" "I") (by decide +kernel)) (fun _ h9 => h9) rfl dX1_differenceTakes_75 ?_
          refine lv_iconst (v := nI 1) hx hb dX1_differenceTakes_78 (by decide) ?_
          refine lv_icmp_ne (tgt := 98) hx hb dX1_differenceTakes_79 (by decide) (fun c79 => ?_) (fun c79 => ?_)
          · refine lv_iload hx hb dX1_differenceTakes_98 (lv_at hl 0 rfl) ?_
            refine lv_aload_n hx hb dX1_differenceTakes_100 rfl (lv_at hl 2 rfl) ?_
            refine va_get (ci := 0) (v := .int ((G (6 * d + w)).1)) (C := RX0) (T := TX0) (N := 3) hx hb hts iw_X1differenceTakes_X0 hown hK (x1 hP (xm3 hm1)) 0 rfl rfl 0 (by decide) (hts (.fieldLink RX1 47 "BackMirror$Thing" "kind" "I") (by decide +kernel)) (fun _ h9 => h9) rfl dX1_differenceTakes_101 ?_
            refine lv_iconst (v := nI 1) hx hb dX1_differenceTakes_104 (by decide) ?_
            refine lv_icmp_ne (tgt := 118) hx hb dX1_differenceTakes_105 (by decide) (fun c105 => ?_) (fun c105 => ?_)
            · refine lv_iconst (v := nI 1) hx hb dX1_differenceTakes_118 (by decide) ?_
              refine lv_iadd hx hb dX1_differenceTakes_119 ?_
              refine x_top (nI 2) (xadd (by omega)) ?_
              exact W.iret hx hb hr (fun t9 ht9 hW9 => ⟨_, rfl, by first | exact absurd c70 c105 | exact absurd c105 c70 | (unfold difW dif; (repeat (first | rw [if_pos (by first | assumption | omega)] | rw [if_neg (by first | assumption | omega)] | rw [if_neg (by rw [c41]; decide)] | rw [if_pos ⟨by assumption, by assumption⟩] | rw [if_neg (fun h => absurd h.1 (by assumption))] | rw [if_neg (fun h => absurd h.2 (by assumption))])); all_goals (first | rfl | (congr 1; omega))), ht9⟩) (fun _ h => nomatch h) dX1_differenceTakes_120
            · refine lv_aload_n hx hb dX1_differenceTakes_108 rfl (lv_at hl 2 rfl) ?_
              refine va_get (ci := 0) (v := .ref q1) (C := RX0) (T := TX0) (N := 3) hx hb hts iw_X1differenceTakes_X0 hown hK (x1 hP (xm3 hm1)) 0 rfl rfl 2 (by decide) (hts (.fieldLink RX1 43 "BackMirror$Thing" "numbers" "[I") (by decide +kernel)) (fun _ h9 => h9) rfl dX1_differenceTakes_109 ?_
              refine va_alen hx hb hK (x1 hP (xm3 hr1)) 0 0 rfl rfl (v := nI ((G (6 * d + w)).2.2.1)) rfl dX1_differenceTakes_112 ?_
              refine lv_iconst (v := nI 1) hx hb dX1_differenceTakes_113 (by decide) ?_
              refine lv_iadd hx hb dX1_differenceTakes_114 ?_
              refine x_top (nI (((G (6 * d + w)).2.2.1) + 1)) (xadd (by omega)) ?_
              refine lv_goto (tgt := 119) hx hb dX1_differenceTakes_115 (by decide) ?_
              refine lv_iadd hx hb dX1_differenceTakes_119 ?_
              refine x_top (nI (1 + (((G (6 * d + w)).2.2.1) + 1))) (xadd (by omega)) ?_
              exact W.iret hx hb hr (fun t9 ht9 hW9 => ⟨_, rfl, by first | exact absurd c70 c105 | exact absurd c105 c70 | (unfold difW dif; (repeat (first | rw [if_pos (by first | assumption | omega)] | rw [if_neg (by first | assumption | omega)] | rw [if_neg (by rw [c41]; decide)] | rw [if_pos ⟨by assumption, by assumption⟩] | rw [if_neg (fun h => absurd h.1 (by assumption))] | rw [if_neg (fun h => absurd h.2 (by assumption))])); all_goals (first | rfl | (congr 1; omega))), ht9⟩) (fun _ h => nomatch h) dX1_differenceTakes_120
          · refine lv_iload hx hb dX1_differenceTakes_82 (lv_at hl 0 rfl) ?_
            refine lv_aload_n hx hb dX1_differenceTakes_84 rfl (lv_at hl 2 rfl) ?_
            refine va_get (ci := 0) (v := .ref q1) (C := RX0) (T := TX0) (N := 3) hx hb hts iw_X1differenceTakes_X0 hown hK (x1 hP (xm3 hm1)) 0 rfl rfl 2 (by decide) (hts (.fieldLink RX1 43 "BackMirror$Thing" "numbers" "[I") (by decide +kernel)) (fun _ h9 => h9) rfl dX1_differenceTakes_85 ?_
            refine lv_aload hx hb dX1_differenceTakes_88 (lv_at hl 1 rfl) ?_
            refine va_get (ci := 0) (v := .ref q2) (C := RX0) (T := TX0) (N := 3) hx hb hts iw_X1differenceTakes_X0 hown hK (x1 hP (xm3 hm2)) 0 rfl rfl 2 (by decide) (hts (.fieldLink RX1 43 "BackMirror$Thing" "numbers" "[I") (by decide +kernel)) (fun _ h9 => h9) rfl dX1_differenceTakes_90 ?_
            refine xc_sie (va_runS (As := [.ref q1, .ref q2]) (rest := [.int (nI 1)]) ⟨hx, hb, hml, hown, hts⟩ (c_X1_rowTakes l q1 q2 (G (6 * d + w)).2.2.1 (G (6 * (d + 1) + w)).2.2.1 f1 f2 (by omega) (by omega)) (va_cwS 2 hts gX1_differenceTakes_X1_rowTakes rfl rfl rfl (by decide +kernel) ⟨(Nat.le_of_ble_eq_true rfl), (Nat.le_of_ble_eq_true rfl)⟩) ⟨XP_blind, XP_pre hE (x2 hP (xm3 hr1) (xm3 hr2))⟩ rfl rfl hl.1 rfl (lv_room (Nat.le_of_ble_eq_true rfl)) dX1_differenceTakes_93 ⟨Nat.le_of_ble_eq_true rfl, Nat.le_of_ble_eq_true rfl⟩) ?_
            refine x_top (nI (tak (G (6 * d + w)).2.2.2 (G (6 * (d + 1) + w)).2.2.2 (G (6 * d + w)).2.2.1 (G (6 * (d + 1) + w)).2.2.1 (G (6 * d + w)).2.2.1 0)) (by rw [tak_congr he1 he2]) ?_
            refine lv_iadd hx hb dX1_differenceTakes_96 ?_
            refine x_top (nI (1 + (tak (G (6 * d + w)).2.2.2 (G (6 * (d + 1) + w)).2.2.2 (G (6 * d + w)).2.2.1 (G (6 * (d + 1) + w)).2.2.1 (G (6 * d + w)).2.2.1 0))) (xadd (by omega)) ?_
            exact W.iret hx hb hr (fun t9 ht9 hW9 => ⟨_, rfl, by first | exact absurd c70 c105 | exact absurd c105 c70 | (unfold difW dif; (repeat (first | rw [if_pos (by first | assumption | omega)] | rw [if_neg (by first | assumption | omega)] | rw [if_neg (by rw [c41]; decide)] | rw [if_pos ⟨by assumption, by assumption⟩] | rw [if_neg (fun h => absurd h.1 (by assumption))] | rw [if_neg (fun h => absurd h.2 (by assumption))])); all_goals (first | rfl | (congr 1; omega))), ht9⟩) (fun _ h => nomatch h) dX1_differenceTakes_97
      · refine lv_iconst (v := nI 0) hx hb dX1_differenceTakes_58 (by decide) ?_
        refine lv_goto (tgt := 63) hx hb dX1_differenceTakes_59 (by decide) ?_
        refine lv_istore (lv' := [(5, .int (nI 0)), (4, .ref a2), (3, .ref a1), (0, .ref x), (1, .int (nI d)), (2, .int (nI w))]) hx hb dX1_differenceTakes_63 hl (by decide) rfl (fun ls hl => ?_)
        refine lv_aload_n hx hb dX1_differenceTakes_65 rfl (lv_at hl 2 rfl) ?_
        refine va_get (ci := 0) (v := .int ((G (6 * d + w)).1)) (C := RX0) (T := TX0) (N := 3) hx hb hts iw_X1differenceTakes_X0 hown hK (x1 hP (xm3 hm1)) 0 rfl rfl 0 (by decide) (hts (.fieldLink RX1 47 "BackMirror$Thing" "kind" "I") (by decide +kernel)) (fun _ h9 => h9) rfl dX1_differenceTakes_66 ?_
        refine lv_iconst (v := nI 1) hx hb dX1_differenceTakes_69 (by decide) ?_
        refine lv_icmp_ne (tgt := 98) hx hb dX1_differenceTakes_70 (by decide) (fun c70 => ?_) (fun c70 => ?_)
        · refine lv_iload hx hb dX1_differenceTakes_98 (lv_at hl 0 rfl) ?_
          refine lv_aload_n hx hb dX1_differenceTakes_100 rfl (lv_at hl 2 rfl) ?_
          refine va_get (ci := 0) (v := .int ((G (6 * d + w)).1)) (C := RX0) (T := TX0) (N := 3) hx hb hts iw_X1differenceTakes_X0 hown hK (x1 hP (xm3 hm1)) 0 rfl rfl 0 (by decide) (hts (.fieldLink RX1 47 "BackMirror$Thing" "kind" "I") (by decide +kernel)) (fun _ h9 => h9) rfl dX1_differenceTakes_101 ?_
          refine lv_iconst (v := nI 1) hx hb dX1_differenceTakes_104 (by decide) ?_
          refine lv_icmp_ne (tgt := 118) hx hb dX1_differenceTakes_105 (by decide) (fun c105 => ?_) (fun c105 => ?_)
          · refine lv_iconst (v := nI 1) hx hb dX1_differenceTakes_118 (by decide) ?_
            refine lv_iadd hx hb dX1_differenceTakes_119 ?_
            refine x_top (nI 1) (xadd (by omega)) ?_
            exact W.iret hx hb hr (fun t9 ht9 hW9 => ⟨_, rfl, by first | exact absurd c70 c105 | exact absurd c105 c70 | (unfold difW dif; (repeat (first | rw [if_pos (by first | assumption | omega)] | rw [if_neg (by first | assumption | omega)] | rw [if_neg (by rw [c41]; decide)] | rw [if_pos ⟨by assumption, by assumption⟩] | rw [if_neg (fun h => absurd h.1 (by assumption))] | rw [if_neg (fun h => absurd h.2 (by assumption))])); all_goals (first | rfl | (congr 1; omega))), ht9⟩) (fun _ h => nomatch h) dX1_differenceTakes_120
          · refine lv_aload_n hx hb dX1_differenceTakes_108 rfl (lv_at hl 2 rfl) ?_
            refine va_get (ci := 0) (v := .ref q1) (C := RX0) (T := TX0) (N := 3) hx hb hts iw_X1differenceTakes_X0 hown hK (x1 hP (xm3 hm1)) 0 rfl rfl 2 (by decide) (hts (.fieldLink RX1 43 "BackMirror$Thing" "numbers" "[I") (by decide +kernel)) (fun _ h9 => h9) rfl dX1_differenceTakes_109 ?_
            refine va_alen hx hb hK (x1 hP (xm3 hr1)) 0 0 rfl rfl (v := nI ((G (6 * d + w)).2.2.1)) rfl dX1_differenceTakes_112 ?_
            refine lv_iconst (v := nI 1) hx hb dX1_differenceTakes_113 (by decide) ?_
            refine lv_iadd hx hb dX1_differenceTakes_114 ?_
            refine x_top (nI (((G (6 * d + w)).2.2.1) + 1)) (xadd (by omega)) ?_
            refine lv_goto (tgt := 119) hx hb dX1_differenceTakes_115 (by decide) ?_
            refine lv_iadd hx hb dX1_differenceTakes_119 ?_
            refine x_top (nI (((G (6 * d + w)).2.2.1) + 1)) (xadd (by omega)) ?_
            exact W.iret hx hb hr (fun t9 ht9 hW9 => ⟨_, rfl, by first | exact absurd c70 c105 | exact absurd c105 c70 | (unfold difW dif; (repeat (first | rw [if_pos (by first | assumption | omega)] | rw [if_neg (by first | assumption | omega)] | rw [if_neg (by rw [c41]; decide)] | rw [if_pos ⟨by assumption, by assumption⟩] | rw [if_neg (fun h => absurd h.1 (by assumption))] | rw [if_neg (fun h => absurd h.2 (by assumption))])); all_goals (first | rfl | (congr 1; omega))), ht9⟩) (fun _ h => nomatch h) dX1_differenceTakes_120
        · refine lv_aload hx hb dX1_differenceTakes_73 (lv_at hl 1 rfl) ?_
          refine va_get (ci := 0) (v := .int ((G (6 * (d + 1) + w)).1)) (C := RX0) (T := TX0) (N := 3) hx hb hts iw_X1differenceTakes_X0 hown hK (x1 hP (xm3 hm2)) 0 rfl rfl 0 (by decide) (hts (.fieldLink RX1 47 "BackMirror$Thing" "kind" "I") (by decide +kernel)) (fun _ h9 => h9) rfl dX1_differenceTakes_75 ?_
          refine lv_iconst (v := nI 1) hx hb dX1_differenceTakes_78 (by decide) ?_
          refine lv_icmp_ne (tgt := 98) hx hb dX1_differenceTakes_79 (by decide) (fun c79 => ?_) (fun c79 => ?_)
          · refine lv_iload hx hb dX1_differenceTakes_98 (lv_at hl 0 rfl) ?_
            refine lv_aload_n hx hb dX1_differenceTakes_100 rfl (lv_at hl 2 rfl) ?_
            refine va_get (ci := 0) (v := .int ((G (6 * d + w)).1)) (C := RX0) (T := TX0) (N := 3) hx hb hts iw_X1differenceTakes_X0 hown hK (x1 hP (xm3 hm1)) 0 rfl rfl 0 (by decide) (hts (.fieldLink RX1 47 "BackMirror$Thing" "kind" "I") (by decide +kernel)) (fun _ h9 => h9) rfl dX1_differenceTakes_101 ?_
            refine lv_iconst (v := nI 1) hx hb dX1_differenceTakes_104 (by decide) ?_
            refine lv_icmp_ne (tgt := 118) hx hb dX1_differenceTakes_105 (by decide) (fun c105 => ?_) (fun c105 => ?_)
            · refine lv_iconst (v := nI 1) hx hb dX1_differenceTakes_118 (by decide) ?_
              refine lv_iadd hx hb dX1_differenceTakes_119 ?_
              refine x_top (nI 1) (xadd (by omega)) ?_
              exact W.iret hx hb hr (fun t9 ht9 hW9 => ⟨_, rfl, by first | exact absurd c70 c105 | exact absurd c105 c70 | (unfold difW dif; (repeat (first | rw [if_pos (by first | assumption | omega)] | rw [if_neg (by first | assumption | omega)] | rw [if_neg (by rw [c41]; decide)] | rw [if_pos ⟨by assumption, by assumption⟩] | rw [if_neg (fun h => absurd h.1 (by assumption))] | rw [if_neg (fun h => absurd h.2 (by assumption))])); all_goals (first | rfl | (congr 1; omega))), ht9⟩) (fun _ h => nomatch h) dX1_differenceTakes_120
            · refine lv_aload_n hx hb dX1_differenceTakes_108 rfl (lv_at hl 2 rfl) ?_
              refine va_get (ci := 0) (v := .ref q1) (C := RX0) (T := TX0) (N := 3) hx hb hts iw_X1differenceTakes_X0 hown hK (x1 hP (xm3 hm1)) 0 rfl rfl 2 (by decide) (hts (.fieldLink RX1 43 "BackMirror$Thing" "numbers" "[I") (by decide +kernel)) (fun _ h9 => h9) rfl dX1_differenceTakes_109 ?_
              refine va_alen hx hb hK (x1 hP (xm3 hr1)) 0 0 rfl rfl (v := nI ((G (6 * d + w)).2.2.1)) rfl dX1_differenceTakes_112 ?_
              refine lv_iconst (v := nI 1) hx hb dX1_differenceTakes_113 (by decide) ?_
              refine lv_iadd hx hb dX1_differenceTakes_114 ?_
              refine x_top (nI (((G (6 * d + w)).2.2.1) + 1)) (xadd (by omega)) ?_
              refine lv_goto (tgt := 119) hx hb dX1_differenceTakes_115 (by decide) ?_
              refine lv_iadd hx hb dX1_differenceTakes_119 ?_
              refine x_top (nI (((G (6 * d + w)).2.2.1) + 1)) (xadd (by omega)) ?_
              exact W.iret hx hb hr (fun t9 ht9 hW9 => ⟨_, rfl, by first | exact absurd c70 c105 | exact absurd c105 c70 | (unfold difW dif; (repeat (first | rw [if_pos (by first | assumption | omega)] | rw [if_neg (by first | assumption | omega)] | rw [if_neg (by rw [c41]; decide)] | rw [if_pos ⟨by assumption, by assumption⟩] | rw [if_neg (fun h => absurd h.1 (by assumption))] | rw [if_neg (fun h => absurd h.2 (by assumption))])); all_goals (first | rfl | (congr 1; omega))), ht9⟩) (fun _ h => nomatch h) dX1_differenceTakes_120
          · refine lv_iload hx hb dX1_differenceTakes_82 (lv_at hl 0 rfl) ?_
            refine lv_aload_n hx hb dX1_differenceTakes_84 rfl (lv_at hl 2 rfl) ?_
            refine va_get (ci := 0) (v := .ref q1) (C := RX0) (T := TX0) (N := 3) hx hb hts iw_X1differenceTakes_X0 hown hK (x1 hP (xm3 hm1)) 0 rfl rfl 2 (by decide) (hts (.fieldLink RX1 43 "BackMirror$Thing" "numbers" "[I") (by decide +kernel)) (fun _ h9 => h9) rfl dX1_differenceTakes_85 ?_
            refine lv_aload hx hb dX1_differenceTakes_88 (lv_at hl 1 rfl) ?_
            refine va_get (ci := 0) (v := .ref q2) (C := RX0) (T := TX0) (N := 3) hx hb hts iw_X1differenceTakes_X0 hown hK (x1 hP (xm3 hm2)) 0 rfl rfl 2 (by decide) (hts (.fieldLink RX1 43 "BackMirror$Thing" "numbers" "[I") (by decide +kernel)) (fun _ h9 => h9) rfl dX1_differenceTakes_90 ?_
            refine xc_sie (va_runS (As := [.ref q1, .ref q2]) (rest := [.int (nI 0)]) ⟨hx, hb, hml, hown, hts⟩ (c_X1_rowTakes l q1 q2 (G (6 * d + w)).2.2.1 (G (6 * (d + 1) + w)).2.2.1 f1 f2 (by omega) (by omega)) (va_cwS 2 hts gX1_differenceTakes_X1_rowTakes rfl rfl rfl (by decide +kernel) ⟨(Nat.le_of_ble_eq_true rfl), (Nat.le_of_ble_eq_true rfl)⟩) ⟨XP_blind, XP_pre hE (x2 hP (xm3 hr1) (xm3 hr2))⟩ rfl rfl hl.1 rfl (lv_room (Nat.le_of_ble_eq_true rfl)) dX1_differenceTakes_93 ⟨Nat.le_of_ble_eq_true rfl, Nat.le_of_ble_eq_true rfl⟩) ?_
            refine x_top (nI (tak (G (6 * d + w)).2.2.2 (G (6 * (d + 1) + w)).2.2.2 (G (6 * d + w)).2.2.1 (G (6 * (d + 1) + w)).2.2.1 (G (6 * d + w)).2.2.1 0)) (by rw [tak_congr he1 he2]) ?_
            refine lv_iadd hx hb dX1_differenceTakes_96 ?_
            refine x_top (nI (tak (G (6 * d + w)).2.2.2 (G (6 * (d + 1) + w)).2.2.2 (G (6 * d + w)).2.2.1 (G (6 * (d + 1) + w)).2.2.1 (G (6 * d + w)).2.2.1 0)) (xadd (by omega)) ?_
            exact W.iret hx hb hr (fun t9 ht9 hW9 => ⟨_, rfl, by first | exact absurd c70 c105 | exact absurd c105 c70 | (unfold difW dif; (repeat (first | rw [if_pos (by first | assumption | omega)] | rw [if_neg (by first | assumption | omega)] | rw [if_neg (by rw [c41]; decide)] | rw [if_pos ⟨by assumption, by assumption⟩] | rw [if_neg (fun h => absurd h.1 (by assumption))] | rw [if_neg (fun h => absurd h.2 (by assumption))])); all_goals (first | rfl | (congr 1; omega))), ht9⟩) (fun _ h => nomatch h) dX1_differenceTakes_97
    · have c41 : (sameB (G (6 * d + w)) (G (6 * (d + 1) + w))) = true := bN_t c41
      refine lv_iconst (v := nI 0) hx hb dX1_differenceTakes_44 (by decide) ?_
      exact W.iret hx hb hr (fun t9 ht9 hW9 => ⟨_, rfl, by first | exact absurd c70 c105 | exact absurd c105 c70 | (unfold difW dif; (repeat (first | rw [if_pos (by first | assumption | omega)] | rw [if_neg (by first | assumption | omega)] | rw [if_neg (by rw [c41]; decide)] | rw [if_pos ⟨by assumption, by assumption⟩] | rw [if_neg (fun h => absurd h.1 (by assumption))] | rw [if_neg (fun h => absurd h.2 (by assumption))])); all_goals (first | rfl | (congr 1; omega))), ht9⟩) (fun _ h => nomatch h) dX1_differenceTakes_45
  · have c5 : ¬ d < ld := fun h => c5 ((xlt (by omega) (by omega)).mpr h)
    refine lv_iconst (v := nI 0) hx hb dX1_differenceTakes_8 (by decide) ?_
    exact W.iret hx hb hr (fun t9 ht9 hW9 => ⟨_, rfl, by first | exact absurd c70 c105 | exact absurd c105 c70 | (unfold difW dif; (repeat (first | rw [if_pos (by first | assumption | omega)] | rw [if_neg (by first | assumption | omega)] | rw [if_neg (by rw [c41]; decide)] | rw [if_pos ⟨by assumption, by assumption⟩] | rw [if_neg (fun h => absurd h.1 (by assumption))] | rw [if_neg (fun h => absurd h.2 (by assumption))])); all_goals (first | rfl | (congr 1; omega))), ht9⟩) (fun _ h => nomatch h) dX1_differenceTakes_9

theorem iw_X1size_X1 : ∀ w ∈ u_ws RX1 TX1 6, w ∈ wsX1_size := by decide +kernel
set_option maxHeartbeats 4000000 in
set_option maxRecDepth 100000 in
theorem c_X1_size (l : Launch) {D : va_G} {cI cT cJ : ClassId} (x lv kp : Nat) (fL fK : Nat → Option Nat) (o ld b k : Nat) (FZ : va_W) (G : Nat → Tv) (hC : CA cI FZ fL fK G) (hld : ld ≤ 40) (hold : o ≤ ld) : Met l yX1_size wsX1_size (rmD 6 0 0) (XP D cI cT cJ [.ref x] (fun H => va_P D vwCl (CW cT x lv kp fL fK o ld b k FZ) H)) (XSi (fun r => r = nI (szN G (6 * o) (6 * (ld - o))))) 0 0 (fun _ => False) := by
  refine Met.ofW (cc := cX1_size) (maxL := 4) (ret := (some .int)) (by decide) rfl ?_
  intro p e s m args below meth c s₁ B hml hv
  obtain ⟨rfl, hP, hE⟩ := hv
  have hx := B.exec
  have hb := B.bytes
  have hr := B.returns
  have hts := atoms_spec (ws := wsX1_size) B.pre
  have hown : s.vm.findClass RX1 = some m.cls := findClass_of_methodNamed B.named
  have hlocks := B.notSynchronized
  have hl := lv_entry ([.ref x]) (n := 4) (Nat.le_of_ble_eq_true rfl)
  rw [lg_entry_eq]
  generalize (lg_sl ([.ref x]) ++ List.replicate (4 - (lg_sl ([.ref x])).length) Slot.unset).toArray = ls at hl ⊢
  have hl : lv_has ls 4 [(0, .ref x)] := hl
  have hK := hE.1
  refine lv_iconst (v := nI 0) hx hb dX1_size_0 (by decide) ?_
  refine lv_istore_n (lv' := [(1, .int (nI 0)), (0, .ref x)]) hx hb dX1_size_1 rfl hl (by decide) rfl (fun ls hl => ?_)
  refine lv_aload_n hx hb dX1_size_2 rfl (lv_at hl 1 rfl) ?_
  refine va_get (ci := 1) (v := .int (nI o)) (C := RX1) (T := TX1) (N := 6) hx hb hts iw_X1size_X1 hown hK hP 0 rfl rfl 2 (by decide) (hts (.fieldLink RX1 21 "BackMirror" "oldestDate" "I") (by decide +kernel)) (fun _ h9 => h9) rfl dX1_size_3 ?_
  refine lv_istore_n (lv' := [(2, .int (nI o)), (1, .int (nI 0)), (0, .ref x)]) hx hb dX1_size_6 rfl hl (by decide) rfl (fun ls hl => ?_)
  have hl : lv_has ls 4 [(2, .int (nI o)), (1, .int (nI (szN G (6 * o) (6 * (o - o))))), (0, .ref x)] := by rw [Nat.sub_self]; exact hl
  refine x_loopP (fun n ls => ∃ d j : Nat, (j + 1 = n) ∧ (ld ≤ d + j) ∧ (d ≤ ld) ∧ (o ≤ d) ∧ lv_has ls 4 [(2, .int (nI d)), (1, .int (nI (szN G (6 * o) (6 * (d - o))))), (0, .ref x)]) (ld - o + 1) ⟨o, ld - o, rfl, by omega, by omega, by omega, lv_sub hl [0, 1, 2] rfl⟩ (fun ls h => by obtain ⟨d, j, hk, h1, h2, h3, -⟩ := h; omega) (fun n ls h ih => ?_)
  obtain ⟨d, j, hk, h1, h2, h3, hl⟩ := h
  refine lv_iload_n hx hb dX1_size_7 rfl (lv_at hl 0 rfl) ?_
  refine lv_aload_n hx hb dX1_size_8 rfl (lv_at hl 2 rfl) ?_
  refine va_get (ci := 1) (v := .int (nI ld)) (C := RX1) (T := TX1) (N := 6) hx hb hts iw_X1size_X1 hown hK hP 0 rfl rfl 3 (by decide) (hts (.fieldLink RX1 25 "BackMirror" "lastDate" "I") (by decide +kernel)) (fun _ h9 => h9) rfl dX1_size_9 ?_
  refine lv_icmp_ge (tgt := 44) hx hb dX1_size_12 (by decide) (fun c12 => ?_) (fun c12 => ?_)
  · have c12 : ld ≤ d := (xle (by omega) (by omega)).mp c12
    refine lv_iload_n hx hb dX1_size_44 rfl (lv_at hl 1 rfl) ?_
    exact W.iret hx hb hr (fun t9 ht9 hW9 => ⟨_, rfl, by rw [show d = ld by omega], ht9⟩) (fun _ h => nomatch h) dX1_size_45
  · have c12 : ¬ ld ≤ d := fun h => c12 ((xle (by omega) (by omega)).mpr h)
    refine lv_iconst (v := nI 0) hx hb dX1_size_15 (by decide) ?_
    refine lv_istore_n (lv' := [(3, .int (nI 0)), (2, .int (nI d)), (1, .int (nI (szN G (6 * o) (6 * (d - o))))), (0, .ref x)]) hx hb dX1_size_16 rfl hl (by decide) rfl (fun ls hl => ?_)
    have ih1 := ih
    clear ih
    refine x_loopP (fun n ls => ∃ p j2 : Nat, (j2 + 1 = n) ∧ (6 ≤ p + j2) ∧ (p ≤ 6) ∧ lv_has ls 4 [(3, .int (nI p)), (2, .int (nI d)), (1, .int (nI (szN G (6 * o) (6 * (d - o) + p)))), (0, .ref x)]) (7) ⟨0, 6, rfl, by omega, by omega, lv_sub hl [0, 1, 2, 3] rfl⟩ (fun ls h => by obtain ⟨p, j2, hk2, h12, h22, -⟩ := h; omega) (fun n ls h ih => ?_)
    obtain ⟨p, j2, hk2, h12, h22, hl⟩ := h
    refine lv_iload_n hx hb dX1_size_17 rfl (lv_at hl 0 rfl) ?_
    refine lv_bipush (v := nI 6) hx hb dX1_size_18 (by decide) ?_
    refine lv_icmp_ge (tgt := 38) hx hb dX1_size_20 (by decide) (fun c20 => ?_) (fun c20 => ?_)
    · have c20 : 6 ≤ p := (xle (by omega) (by omega)).mp c20
      refine lv_iinc (v := nI (d + 1)) (lv' := [(2, .int (nI (d + 1))), (3, .int (nI p)), (1, .int (nI (szN G (6 * o) (6 * (d - o) + p)))), (0, .ref x)]) hx hb dX1_size_38 hl (k := 1) rfl (xinc _ 1 _ (by decide)) (by decide) rfl (fun ls hl => ?_)
      refine lv_goto (tgt := 7) hx hb dX1_size_41 (by decide) ?_
      have hw : 6 * (d - o) + p = 6 * (d + 1 - o) := by omega
      rw [hw] at hl
      exact ih1 _ ⟨d + 1, j - 1, by omega, by omega, by omega, by omega, lv_sub hl [0, 2, 3] rfl⟩
    · have c20 : ¬ 6 ≤ p := fun h => c20 ((xle (by omega) (by omega)).mpr h)
      refine lv_iload_n hx hb dX1_size_23 rfl (lv_at hl 2 rfl) ?_
      refine lv_aload_n hx hb dX1_size_24 rfl (lv_at hl 3 rfl) ?_
      refine lv_iload_n hx hb dX1_size_25 rfl (lv_at hl 1 rfl) ?_
      refine lv_iload_n hx hb dX1_size_26 rfl (lv_at hl 0 rfl) ?_
      refine xc_sie (va_runV (As := [.int (nI d), .int (nI p)]) (rest := [.int (nI (szN G (6 * o) (6 * (d - o) + p)))]) ⟨hx, hb, hml, hown, hts⟩ (c_X1_differenceTakes l x lv kp fL fK o ld b k FZ G hC d p hld (by omega) (by omega)) (cwV 2 hts gX1_size_X1_differenceTakes rfl rfl rfl (by decide +kernel) ⟨(Nat.le_of_ble_eq_true rfl), (Nat.le_of_ble_eq_true rfl)⟩) ⟨XP_blind, va_recv hK hP (ci := 1) (q0 := 0) rfl rfl, XP_pre hE hP⟩ rfl rfl hl.1 rfl (lv_room (Nat.le_of_ble_eq_true rfl)) dX1_size_27 ⟨Nat.le_of_ble_eq_true rfl, Nat.le_of_ble_eq_true rfl⟩) ?_
      refine lv_iadd hx hb dX1_size_30 ?_
      refine x_top (nI ((szN G (6 * o) (6 * (d - o) + p)) + (difW G ld d p))) (xadd (by omega)) ?_
      refine lv_istore_n (lv' := [(1, .int (nI ((szN G (6 * o) (6 * (d - o) + p)) + (difW G ld d p)))), (3, .int (nI p)), (2, .int (nI d)), (0, .ref x)]) hx hb dX1_size_31 rfl hl (by decide) rfl (fun ls hl => ?_)
      refine lv_iinc (v := nI (p + 1)) (lv' := [(3, .int (nI (p + 1))), (1, .int (nI ((szN G (6 * o) (6 * (d - o) + p)) + (difW G ld d p)))), (2, .int (nI d)), (0, .ref x)]) hx hb dX1_size_32 hl (k := 1) rfl (xinc _ 1 _ (by decide)) (by decide) rfl (fun ls hl => ?_)
      refine lv_goto (tgt := 17) hx hb dX1_size_35 (by decide) ?_
      have hw : (szN G (6 * o) (6 * (d - o) + p)) + (difW G ld d p) = szN G (6 * o) (6 * (d - o) + (p + 1)) := by show _ = szN G (6 * o) (6 * (d - o) + p) + dif (G (6 * o + (6 * (d - o) + p))) (G (6 * o + (6 * (d - o) + p) + 6)); unfold difW; rw [if_neg (by omega), show 6 * o + (6 * (d - o) + p) = 6 * d + p by omega, show 6 * d + p + 6 = 6 * (d + 1) + p by omega]
      rw [hw] at hl
      exact ih _ ⟨p + 1, j2 - 1, by omega, by omega, by omega, lv_sub hl [0, 2, 1, 3] rfl⟩
end
section
/-! methods that throw: what they ask of the start, their calls -/
abbrev nIO : String := "java/lang/IndexOutOfBoundsException"
abbrev nIS : String := "java/lang/IllegalStateException"
abbrev nIA : String := "java/lang/IllegalArgumentException"
abbrev nUP2 : List String := ["java/lang/RuntimeException", "java/lang/Exception", Bundle.tN]
abbrev nUP : List String := ["java/lang/RuntimeException", "java/lang/Exception"]
/-- the texts of the exceptions, by their places -/
def XSTR : List (Nat × String) := [(52, "no file, or a full one"), (59, "no such spot or number"), (69, "no file"), (71, "no such spot"), (77, "nothing there"), (79, "no such rights"), (81, "no such number of steps"), (83, "all dates were made"), (96, "no such number of dates"), (98, "the last date stays"), (117, "no such place"), (119, "no date that is kept")]
/-- what a throw asks: the texts, the classes, Throwable's two statics -/
def XT (A : Nat → Prop) (U : State) (H : Heap) : Prop := (∀ q ∈ XSTR, ∃ sa, vk_R RX1 q.1 q.2 sa U) ∧ (∀ X ∈ [nIO, nIS, nIA], va_Nw (.castable X X) U) ∧ (∀ Y ∈ nUP2, va_Nw (.declares (Bundle.initS Y)) U) ∧ vx_Zq Bundle.tN "UNASSIGNED_STACK" Bundle.steD A U H ∧ vx_Zq Bundle.tN "SUPPRESSED_SENTINEL" Bundle.listD A U H
theorem XT.warm {A : Nat → Prop} {s U : State} {H : Heap} (hW : s.WarmedH U.vm) (h : XT A s H) : XT A U H := ⟨fun q hq => (h.1 q hq).elim fun sa hs => ⟨sa, vk_R.warm hW hs⟩, fun X hX => va_Nw.warmC hW (h.2.1 X hX), fun Y hY => va_Nw.warmD hW (h.2.2.1 Y hY), vx_Zq.moved hW.alike h.2.2.2.1, vx_Zq.moved hW.alike h.2.2.2.2⟩
theorem XT.same {A : Nat → Prop} {s U : State} {H : Heap} (hW : s.vm = U.vm) (h : XT A s H) : XT A U H := ⟨fun q hq => (h.1 q hq).elim fun sa hs => ⟨sa, vk_R.same hW.symm hs⟩, fun X hX => va_Nw.same rfl hW (h.2.1 X hX), fun Y hY => va_Nw.same rfl hW (h.2.2.1 Y hY), vx_Zq.moved (by rw [hW]; exact Vm.Alike.refl _) h.2.2.2.1, vx_Zq.moved (by rw [hW]; exact Vm.Alike.refl _) h.2.2.2.2⟩
theorem XT.kept {A : Nat → Prop} {U : State} {H H1 : Heap} (h : XT A U H) (hq : ∀ a : Nat, a < H.size → ¬ A a → H1[a]? = H[a]?) : XT A U H1 := ⟨h.1, h.2.1, h.2.2.1, vx_Zq.kept h.2.2.2.1 hq, vx_Zq.kept h.2.2.2.2 hq⟩
theorem XT.narrow {A B : Nat → Prop} {U : State} {H : Heap} (h : XT A U H) (hAB : ∀ q, B q → A q) : XT B U H := ⟨h.1, h.2.1, h.2.2.1, vx_Zq.narrow h.2.2.2.1 hAB, vx_Zq.narrow h.2.2.2.2 hAB⟩
def XPx (D : va_G) (cI cT cJ : ClassId) (A : Nat → Prop) (av : List Value) (F : Heap → Prop) : Array Value → State → Prop := va_Pc av (fun U => F U.heap ∧ XE D cI cT cJ U ∧ XT A U U.heap)
theorem XPx_blind {D : va_G} {cI cT cJ : ClassId} {A : Nat → Prop} {av : List Value} {F : Heap → Prop} : FrameBlind (XPx D cI cT cJ A av F) := fun a U g mk q => ⟨q.1, q.2.1, XE.same (s := U) (U := U.calling g mk a) rfl q.2.2.1, XT.same (s := U) (U := U.calling g mk a) rfl q.2.2.2⟩
theorem XPx_pre {D : va_G} {cI cT cJ : ClassId} {A : Nat → Prop} {av : List Value} {F : Heap → Prop} {s : State} {H : Heap} (hE : XE D cI cT cJ s) (hT : XT A s H) (hF : F H) : ∀ U : State, U.heap = H → s.WarmedH U.vm → XPx D cI cT cJ A av F av.toArray U := fun U hU hW => ⟨rfl, by rw [hU]; exact hF, XE.warm hW hE, XT.warm hW (by rw [hU]; exact hT)⟩
/-- it returns, the heap is the same -/
def XSg (P : Option Value → Prop) : Array Value → State → Outcome → State → Prop := fun _ st oc t => ∃ v : Option Value, oc = .returned v ∧ P v ∧ t.heap = st.heap
/-- it throws, no old cell is another -/
def XXc (P : String → Prop) : String → State → State → Prop := fun E st t => P E ∧ st.heap.size ≤ t.heap.size ∧ ∀ q : Nat, q < st.heap.size → t.heap[q]? = st.heap[q]?
section XTH
variable {p : Program} {l : Launch} {e : Env} {R : Room} {s : State} {m : MethodId} {args : Array Value} {below : List Frame} {meth : Method} {c : Code} {H : Heap} {locs : List Loc} {cells slots mc ms : Nat} {Q : State → Prop}
variable {pc : Nat} {ls : Array Slot} {rest st0 : List Value} {a : Array Value}
theorem xcx {P : Option Value → Prop} {PX : String → Prop} (hr : vx_Run p l e R s m args below meth c H locs cells slots mc ms (F0 m pc ls st0) rest (XSg P a) (XXc PX) (fun _ => False))
    (kx : ∀ (E : String) (ce : Cell) (q9 : Addr) (H1 : Heap), PX E → H.size ≤ H1.size → (∀ q : Nat, q < H.size → H1[q]? = H[q]?) → H1[q9]? = some ce → ce.vm = .none → s.vm.findClass E = some ce.cls → vx_W p l e R s m args below meth c H1 locs (cells + mc) (slots + ms) Q (F0 m pc ls rest) q9)
    (kk : ∀ v : Option Value, P v → W p l e R s m args below meth c H locs (cells + mc) (slots + ms) Q (F0 m (pc + 3) ls (v.toList ++ rest))) : W p l e R s m args below meth c H locs cells slots Q (F0 m pc ls st0) := by
  intro T hT X
  rcases hr T hT X with ⟨v, st₀, t, T', L, h0, X', hL, e1, e2, ⟨v', hv, hp, hh⟩, st⟩ | ⟨q, st₀, t, T', L, E, ce, h0, X', hL, e1, e2, ⟨hp, hz, hk⟩, hce, hcv, hcl, st⟩
  · cases hv
    obtain ⟨t2, a1, b1⟩ := kk v hp T' (by rw [e1, hh, h0]) (Stand.forget X' (fun q h => (hL q h).elim))
    exact ⟨t2, st t2 a1, b1⟩
  · rw [h0] at hz hk
    obtain ⟨t2, a1, b1⟩ := kx E ce q T'.heap hp (by rw [e1]; exact hz) (fun q hq => by rw [e1]; exact hk q hq) (by rw [e1]; exact hce) hcv hcl T' rfl (Stand.forget X' (fun q h => (hL q h).elim))
    exact ⟨t2, st.trans a1, b1⟩
end XTH
/-- behind a throw all is as it was -/
theorem xkept {D : va_G} {cl : List vw_C} {ws : va_W} {H H1 : Heap} (hP : va_P D cl ws H) (hk : ∀ q : Nat, q < H.size → H1[q]? = H[q]?) : va_P D cl ws H1 := hP.kept fun k q hq => hk q.1 (hP k q hq).lt
/-- what of a throw's words may not be handed on as it is -/
def xB (X : String) : List Cond := Cond.castable X X :: nUP2.map (fun Y => Cond.declares (Bundle.initS Y))
theorem XT.use {A : Nat → Prop} {s : State} {H : Heap} {args : Array Value} (h : XT A s H) {X : String} (hX : X ∈ [nIO, nIS, nIA]) : ∀ w ∈ xB X, w.before args s = true := by
  intro w hw
  rcases List.mem_cons.mp hw with e | e
  · rw [e]; exact va_Nw.use rfl (h.2.1 X hX)
  · obtain ⟨Y, hY, rfl⟩ := List.mem_map.mp e
    exact va_Nw.use rfl (h.2.2.1 Y hY)
theorem xg_IO : ∀ w ∈ Cond.classLink RX1 111 nIO :: Cond.initialized nIO :: vx_atS RX1 113 nIO nUP, vx_ot w = true := by decide +kernel
theorem xg_IS : ∀ w ∈ Cond.classLink RX1 50 nIS :: Cond.initialized nIS :: vx_atS RX1 54 nIS nUP, vx_ot w = true := by decide +kernel
theorem xg_IA : ∀ w ∈ Cond.classLink RX1 57 nIA :: Cond.initialized nIA :: vx_atS RX1 61 nIA nUP, vx_ot w = true := by decide +kernel
theorem xb_IO : ∀ w ∈ (vx_atS RX1 113 nIO nUP).filter (fun w => !goodWord w), w ∈ xB nIO := by decide +kernel
theorem xb_IS : ∀ w ∈ (vx_atS RX1 54 nIS nUP).filter (fun w => !goodWord w), w ∈ xB nIS := by decide +kernel
theorem xb_IA : ∀ w ∈ (vx_atS RX1 61 nIA nUP).filter (fun w => !goodWord w), w ∈ xB nIA := by decide +kernel
/-- a place; a date that is kept; which place of which date is asked for -/
def Pl (v : Int32) : Prop := ∃ j, j < 6 ∧ v = nI j
def Kp (o ld : Nat) (v : Int32) : Prop := ∃ d, o ≤ d ∧ d ≤ ld ∧ v = nI d
def AT (o ld : Nat) (v w : Int32) (i : Nat) : Prop := ∃ j, j < 6 ∧ w = nI j ∧ ((v = -1 ∧ i = 246 + j) ∨ ∃ d, o ≤ d ∧ d ≤ ld ∧ v = nI d ∧ i = 6 * d + j)
theorem xPl_f {v : Int32} (h : v < 0 ∨ nI 6 ≤ v) : ¬ Pl v := by
  rintro ⟨j, hj, rfl⟩
  rcases h with h | h
  · exact xlt0 (by omega) h
  · have := (xle (by omega) (by omega)).mp h; omega
theorem xPl_t {v : Int32} (h0 : ¬ v < 0) (h1 : v < nI 6) : Pl v := by
  rcases pk_ix v (n := 6) (by decide) with h | h | ⟨j, hj, rfl⟩
  · exact absurd h h0
  · exact absurd h1 (Int32.not_lt.mpr h)
  · exact ⟨j, hj, rfl⟩
theorem xKp_t {o ld : Nat} {v : Int32} (hld : ld ≤ 40) (h0 : ¬ v < nI o) (h1 : v ≤ nI ld) (ho : o ≤ ld) : Kp o ld v := by
  rcases pk_ix v (n := ld + 1) (by omega) with h | h | ⟨j, hj, rfl⟩
  · exact absurd (Int32.lt_of_lt_of_le h (show (0 : Int32) ≤ nI o from nI_pos' (by omega))) h0
  · have := (xle (by omega) (by omega)).mp (Int32.le_trans h h1); omega
  · exact ⟨j, Nat.le_of_not_lt fun g => h0 ((xlt (by omega) (by omega)).mpr g), by omega, rfl⟩
theorem xKp_f1 {o ld : Nat} {v : Int32} (hld : ld ≤ 40) (h : v < nI o) (ho : o ≤ ld) : ¬ Kp o ld v := by
  rintro ⟨d, h1, h2, rfl⟩
  have := (xlt (by omega) (by omega)).mp h; omega
theorem xKp_f2 {o ld : Nat} {v : Int32} (hld : ld ≤ 40) (h : ¬ v ≤ nI ld) : ¬ Kp o ld v := by
  rintro ⟨d, h1, h2, rfl⟩
  exact h ((xle (by omega) (by omega)).mpr h2)
theorem nI_m1 {d : Nat} (h : d < 2 ^ 31) : ¬ nI d = -1 := by
  intro e
  have h1 : ¬ nI d < 0 := xlt0 h
  rw [e] at h1
  exact h1 (by decide)
theorem xSp_t {v : Int32} (h0 : ¬ v < 0) (h1 : v < nI 12) : ∃ j, j < 12 ∧ v = nI j := by
  rcases pk_ix v (n := 12) (by decide) with h | h | ⟨j, hj, rfl⟩
  · exact absurd h h0
  · exact absurd h1 (Int32.not_lt.mpr h)
  · exact ⟨j, hj, rfl⟩

set_option maxHeartbeats 4000000 in
set_option maxRecDepth 100000 in
theorem c_X1_checkPlace (l : Launch) (hst : l.stackTraces = false) {D : va_G} {cI cT cJ : ClassId} (A : Nat → Prop) (v : Int32)  : vx_Met l yX1_checkPlace wsX1_checkPlace (rmD 6 1 6) (XPx D cI cT cJ A [.int v] (fun _ => True)) (XSg (fun v9 => v9 = none ∧ Pl v)) (XXc (fun E => E = nIO ∧ ¬ Pl v)) 1 6 (fun _ => False) := by
  refine vx_ofW (cc := cX1_checkPlace) (maxL := 1) (ret := none) (by decide) rfl ?_
  intro p e s m args below meth c s₁ B hml hnt hv
  obtain ⟨rfl, -, hE, hT⟩ := hv
  have hx := B.exec
  have hb := B.bytes
  have hr := B.returns
  have hts := atoms_spec (ws := wsX1_checkPlace) B.pre
  have hown : s.vm.findClass RX1 = some m.cls := findClass_of_methodNamed B.named
  have hlocks := B.notSynchronized
  have hl := lv_entry ([.int v]) (n := 1) (Nat.le_of_ble_eq_true rfl)
  rw [lg_entry_eq]
  generalize (lg_sl ([.int v]) ++ List.replicate (1 - (lg_sl ([.int v])).length) Slot.unset).toArray = ls at hl ⊢
  have hl : lv_has ls 1 [(0, .int v)] := hl
  have hK := hE.1
  have hS : va_S A s.heap s.heap [] := va_S.rf
  refine lv_iload_n hx hb dX1_checkPlace_0 rfl (lv_at hl 0 rfl) ?_
  refine lv_if_lt (tgt := 10) hx hb dX1_checkPlace_1 (by decide) (fun c1 => ?_) (fun c1 => ?_)
  · obtain ⟨sa9, hsa9⟩ := hT.1 (117, "no such place") (by decide)
    exact vx_throwS hx hb hst (own := RX1) (cls := nIO) (text := "no such place") (names := nUP) (ik := 111) (is := 117) (ic := 113) hown (by decide +kernel) (by decide +kernel) (hts (.classLink RX1 111 nIO) (by decide +kernel)) (hts (.initialized nIO) (by decide +kernel)) hsa9 (vx_hat (fun w h => hts w (List.mem_cons_of_mem _ (List.mem_append_right _ h))) xb_IO (hT.use (X := nIO) (by decide))) xg_IO hT.2.2.2.1 hT.2.2.2.2 va_S.rf (hl.1.trans hml.symm) dX1_checkPlace_10 dX1_checkPlace_13 dX1_checkPlace_14 dX1_checkPlace_16 dX1_checkPlace_19 (fun x h => (hnt x h).elim) (Nat.le_of_ble_eq_true rfl) (Nat.le_of_ble_eq_true rfl) (Nat.le_of_ble_eq_true rfl) (Nat.le_of_ble_eq_true rfl) hlocks (fun t9 _ hz9 hk9 => ⟨⟨rfl, xPl_f (by first | exact Or.inl c1 | exact Or.inr (Int32.not_lt.mp c7))⟩, hz9, hk9⟩) (fun _ h => nomatch h) (Nat.le_of_ble_eq_true rfl) (Nat.le_of_ble_eq_true rfl)
  · refine lv_iload_n hx hb dX1_checkPlace_4 rfl (lv_at hl 0 rfl) ?_
    refine lv_bipush (v := nI 6) hx hb dX1_checkPlace_5 (by decide) ?_
    refine lv_icmp_lt (tgt := 20) hx hb dX1_checkPlace_7 (by decide) (fun c7 => ?_) (fun c7 => ?_)
    · refine vx_ret ?_
      refine W.widen (k := 1) (n := 6) (Nat.le_of_ble_eq_true rfl) (Nat.le_of_ble_eq_true rfl) ?_
      exact W.vret hx hb hr (fun t9 ht9 hW9 => ⟨_, rfl, ⟨rfl, xPl_t c1 (by assumption)⟩, ht9⟩) (fun _ h => nomatch h) dX1_checkPlace_20
    · obtain ⟨sa9, hsa9⟩ := hT.1 (117, "no such place") (by decide)
      exact vx_throwS hx hb hst (own := RX1) (cls := nIO) (text := "no such place") (names := nUP) (ik := 111) (is := 117) (ic := 113) hown (by decide +kernel) (by decide +kernel) (hts (.classLink RX1 111 nIO) (by decide +kernel)) (hts (.initialized nIO) (by decide +kernel)) hsa9 (vx_hat (fun w h => hts w (List.mem_cons_of_mem _ (List.mem_append_right _ h))) xb_IO (hT.use (X := nIO) (by decide))) xg_IO hT.2.2.2.1 hT.2.2.2.2 va_S.rf (hl.1.trans hml.symm) dX1_checkPlace_10 dX1_checkPlace_13 dX1_checkPlace_14 dX1_checkPlace_16 dX1_checkPlace_19 (fun x h => (hnt x h).elim) (Nat.le_of_ble_eq_true rfl) (Nat.le_of_ble_eq_true rfl) (Nat.le_of_ble_eq_true rfl) (Nat.le_of_ble_eq_true rfl) hlocks (fun t9 _ hz9 hk9 => ⟨⟨rfl, xPl_f (by first | exact Or.inl c1 | exact Or.inr (Int32.not_lt.mp c7))⟩, hz9, hk9⟩) (fun _ h => nomatch h) (Nat.le_of_ble_eq_true rfl) (Nat.le_of_ble_eq_true rfl)

theorem iw_X1checkKept_X1 : ∀ w ∈ u_ws RX1 TX1 6, w ∈ wsX1_checkKept := by decide +kernel
set_option maxHeartbeats 4000000 in
set_option maxRecDepth 100000 in
theorem c_X1_checkKept (l : Launch) (hst : l.stackTraces = false) {D : va_G} {cI cT cJ : ClassId} (A : Nat → Prop) (x lv kp : Nat) (fL fK : Nat → Option Nat) (o ld b k : Nat) (FZ : va_W) (v : Int32) (hld : ld ≤ 40) (hold : o ≤ ld) : vx_Met l yX1_checkKept wsX1_checkKept (rmD 6 1 6) (XPx D cI cT cJ A [.ref x, .int v] (fun H => va_P D vwCl (CW cT x lv kp fL fK o ld b k FZ) H)) (XSg (fun v9 => v9 = none ∧ Kp o ld v)) (XXc (fun E => E = nIO ∧ ¬ Kp o ld v)) 1 6 (fun _ => False) := by
  refine vx_ofW (cc := cX1_checkKept) (maxL := 2) (ret := none) (by decide) rfl ?_
  intro p e s m args below meth c s₁ B hml hnt hv
  obtain ⟨rfl, hP, hE, hT⟩ := hv
  have hx := B.exec
  have hb := B.bytes
  have hr := B.returns
  have hts := atoms_spec (ws := wsX1_checkKept) B.pre
  have hown : s.vm.findClass RX1 = some m.cls := findClass_of_methodNamed B.named
  have hlocks := B.notSynchronized
  have hl := lv_entry ([.ref x, .int v]) (n := 2) (Nat.le_of_ble_eq_true rfl)
  rw [lg_entry_eq]
  generalize (lg_sl ([.ref x, .int v]) ++ List.replicate (2 - (lg_sl ([.ref x, .int v])).length) Slot.unset).toArray = ls at hl ⊢
  have hl : lv_has ls 2 [(0, .ref x), (1, .int v)] := hl
  have hK := hE.1
  have hS : va_S A s.heap s.heap [] := va_S.rf
  refine lv_iload_n hx hb dX1_checkKept_0 rfl (lv_at hl 1 rfl) ?_
  refine lv_aload_n hx hb dX1_checkKept_1 rfl (lv_at hl 0 rfl) ?_
  refine va_get (ci := 1) (v := .int (nI o)) (C := RX1) (T := TX1) (N := 6) hx hb hts iw_X1checkKept_X1 hown hK hP 0 rfl rfl 2 (by decide) (hts (.fieldLink RX1 21 "BackMirror" "oldestDate" "I") (by decide +kernel)) (fun _ h9 => h9) rfl dX1_checkKept_2 ?_
  refine lv_icmp_lt (tgt := 16) hx hb dX1_checkKept_5 (by decide) (fun c5 => ?_) (fun c5 => ?_)
  · obtain ⟨sa9, hsa9⟩ := hT.1 (119, "no date that is kept") (by decide)
    exact vx_throwS hx hb hst (own := RX1) (cls := nIO) (text := "no date that is kept") (names := nUP) (ik := 111) (is := 119) (ic := 113) hown (by decide +kernel) (by decide +kernel) (hts (.classLink RX1 111 nIO) (by decide +kernel)) (hts (.initialized nIO) (by decide +kernel)) hsa9 (vx_hat (fun w h => hts w (List.mem_cons_of_mem _ (List.mem_append_right _ h))) xb_IO (hT.use (X := nIO) (by decide))) xg_IO hT.2.2.2.1 hT.2.2.2.2 va_S.rf (hl.1.trans hml.symm) dX1_checkKept_16 dX1_checkKept_19 dX1_checkKept_20 dX1_checkKept_22 dX1_checkKept_25 (fun x h => (hnt x h).elim) (Nat.le_of_ble_eq_true rfl) (Nat.le_of_ble_eq_true rfl) (Nat.le_of_ble_eq_true rfl) (Nat.le_of_ble_eq_true rfl) hlocks (fun t9 _ hz9 hk9 => ⟨⟨rfl, by first | exact xKp_f1 hld c5 hold | exact xKp_f2 hld c13⟩, hz9, hk9⟩) (fun _ h => nomatch h) (Nat.le_of_ble_eq_true rfl) (Nat.le_of_ble_eq_true rfl)
  · refine lv_iload_n hx hb dX1_checkKept_8 rfl (lv_at hl 1 rfl) ?_
    refine lv_aload_n hx hb dX1_checkKept_9 rfl (lv_at hl 0 rfl) ?_
    refine va_get (ci := 1) (v := .int (nI ld)) (C := RX1) (T := TX1) (N := 6) hx hb hts iw_X1checkKept_X1 hown hK hP 0 rfl rfl 3 (by decide) (hts (.fieldLink RX1 25 "BackMirror" "lastDate" "I") (by decide +kernel)) (fun _ h9 => h9) rfl dX1_checkKept_10 ?_
    refine lv_icmp_le (tgt := 26) hx hb dX1_checkKept_13 (by decide) (fun c13 => ?_) (fun c13 => ?_)
    · refine vx_ret ?_
      refine W.widen (k := 1) (n := 6) (Nat.le_of_ble_eq_true rfl) (Nat.le_of_ble_eq_true rfl) ?_
      exact W.vret hx hb hr (fun t9 ht9 hW9 => ⟨_, rfl, ⟨rfl, xKp_t hld c5 c13 hold⟩, ht9⟩) (fun _ h => nomatch h) dX1_checkKept_26
    · obtain ⟨sa9, hsa9⟩ := hT.1 (119, "no date that is kept") (by decide)
      exact vx_throwS hx hb hst (own := RX1) (cls := nIO) (text := "no date that is kept") (names := nUP) (ik := 111) (is := 119) (ic := 113) hown (by decide +kernel) (by decide +kernel) (hts (.classLink RX1 111 nIO) (by decide +kernel)) (hts (.initialized nIO) (by decide +kernel)) hsa9 (vx_hat (fun w h => hts w (List.mem_cons_of_mem _ (List.mem_append_right _ h))) xb_IO (hT.use (X := nIO) (by decide))) xg_IO hT.2.2.2.1 hT.2.2.2.2 va_S.rf (hl.1.trans hml.symm) dX1_checkKept_16 dX1_checkKept_19 dX1_checkKept_20 dX1_checkKept_22 dX1_checkKept_25 (fun x h => (hnt x h).elim) (Nat.le_of_ble_eq_true rfl) (Nat.le_of_ble_eq_true rfl) (Nat.le_of_ble_eq_true rfl) (Nat.le_of_ble_eq_true rfl) hlocks (fun t9 _ hz9 hk9 => ⟨⟨rfl, by first | exact xKp_f1 hld c5 hold | exact xKp_f2 hld c13⟩, hz9, hk9⟩) (fun _ h => nomatch h) (Nat.le_of_ble_eq_true rfl) (Nat.le_of_ble_eq_true rfl)

theorem iw_X1thingOn_X1 : ∀ w ∈ u_ws RX1 TX1 6, w ∈ wsX1_thingOn := by decide +kernel
set_option maxHeartbeats 4000000 in
set_option maxRecDepth 100000 in
theorem c_X1_thingOn (l : Launch) (hst : l.stackTraces = false) {D : va_G} {cI cT cJ : ClassId} (A : Nat → Prop) (x lv kp : Nat) (fL fK : Nat → Option Nat) (o ld b k : Nat) (FZ : va_W) (G : Nat → Tv) (hC : CA cI FZ fL fK G) (v w : Int32) (hld : ld ≤ 40) (hold : o ≤ ld) : vx_Met l yX1_thingOn wsX1_thingOn (rmD 7 2 12) (XPx D cI cT cJ A [.ref x, .int v, .int w] (fun H => va_P D vwCl (CW cT x lv kp fL fK o ld b k FZ) H)) (XSg (fun v9 => ∃ (a i : Nat), v9 = some (.ref a) ∧ AT o ld v w i ∧ TH cI FZ a (G i))) (XXc (fun E => E = nIO ∧ ¬ ∃ i, AT o ld v w i)) 2 12 (fun _ => False) := by
  refine vx_ofW (cc := cX1_thingOn) (maxL := 3) (ret := (some (.object "BackMirror$Thing"))) (by decide) rfl ?_
  intro p e s m args below meth c s₁ B hml hnt hv
  obtain ⟨rfl, hP, hE, hT⟩ := hv
  have hx := B.exec
  have hb := B.bytes
  have hr := B.returns
  have hts := atoms_spec (ws := wsX1_thingOn) B.pre
  have hown : s.vm.findClass RX1 = some m.cls := findClass_of_methodNamed B.named
  have hlocks := B.notSynchronized
  have hl := lv_entry ([.ref x, .int v, .int w]) (n := 3) (Nat.le_of_ble_eq_true rfl)
  rw [lg_entry_eq]
  generalize (lg_sl ([.ref x, .int v, .int w]) ++ List.replicate (3 - (lg_sl ([.ref x, .int v, .int w])).length) Slot.unset).toArray = ls at hl ⊢
  have hl : lv_has ls 3 [(0, .ref x), (1, .int v), (2, .int w)] := hl
  have hK := hE.1
  have hS : va_S A s.heap s.heap [] := va_S.rf
  refine lv_iload_n hx hb dX1_thingOn_0 rfl (lv_at hl 1 rfl) ?_
  refine lv_iconst (v := (-1)) hx hb dX1_thingOn_1 (by decide) ?_
  refine lv_icmp_eq (tgt := 10) hx hb dX1_thingOn_2 (by decide) (fun c2 => ?_) (fun c2 => ?_)
  · have c2 : v = -1 := c2
    refine lv_iload_n hx hb dX1_thingOn_10 rfl (lv_at hl 2 rfl) ?_
    refine xcx (vx_runS (As := [.int w]) (rest := []) ⟨hx, hb, hml, hown, hts⟩ (c_X1_checkPlace l hst _ w) (va_cwS 1 hts gX1_thingOn_X1_checkPlace rfl rfl rfl (by decide +kernel) ⟨(Nat.le_of_ble_eq_true rfl), (Nat.le_of_ble_eq_true rfl)⟩) ⟨XPx_blind, XPx_pre hE hT trivial⟩ rfl rfl hl.1 rfl (lv_room (Nat.le_of_ble_eq_true rfl)) dX1_thingOn_11 ⟨Nat.le_of_ble_eq_true rfl, Nat.le_of_ble_eq_true rfl⟩) (fun E9 ce9 q9 H1 hp9 hz9 hk9 hc9 hv9 hcl9 => ?_) (fun v9 hw9 => ?_)
    · exact vx_out (fun x h => (hnt x h).elim) hlocks hc9 hv9 hcl9 (fun t9 ht9 _ => ⟨⟨hp9.1, fun ⟨i, j, h1, h2, h3⟩ => hp9.2 ⟨j, h1, h2⟩⟩, by rw [ht9]; exact hz9, fun q hq => by rw [ht9]; exact hk9 q hq⟩) (fun _ h => nomatch h) (Nat.le_of_ble_eq_true rfl) (Nat.le_of_ble_eq_true rfl)
    obtain ⟨rfl, ⟨j, hj, rfl⟩⟩ := hw9
    refine W.eq (g2 := F0 m 14 ls []) rfl ?_
    refine lv_iload_n hx hb dX1_thingOn_14 rfl (lv_at hl 1 rfl) ?_
    refine lv_iconst (v := (-1)) hx hb dX1_thingOn_15 (by decide) ?_
    refine lv_icmp_ne (tgt := 28) hx hb dX1_thingOn_16 (by decide) (fun c16 => ?_) (fun c16 => ?_)
    · exact absurd c2 c16
    · refine lv_aload_n hx hb dX1_thingOn_19 rfl (lv_at hl 0 rfl) ?_
      refine va_get (ci := 1) (v := .ref lv) (C := RX1) (T := TX1) (N := 6) hx hb hts iw_X1thingOn_X1 hown hK hP 0 rfl rfl 0 (by decide) (hts (.fieldLink RX1 14 "BackMirror" "live" "[LBackMirror$Thing;") (by decide +kernel)) (fun _ h9 => h9) rfl dX1_thingOn_20 ?_
      refine lv_iload_n hx hb dX1_thingOn_23 rfl (lv_at hl 2 rfl) ?_
      refine va_aldq hx hb hK hP 1 1 rfl rfl (xin (by omega) (by omega)) dX1_thingOn_24 ?_
      obtain ⟨a1, ha1, hT1⟩ := hC.2 (j) (by omega)
      refine x_toprf (y := a1) (by rw [nI_clamp (by omega)]; exact ha1) ?_
      obtain ⟨hz1, q1, f1, hm1, hr1, he1⟩ := hT1
      refine lv_goto (tgt := 38) hx hb dX1_thingOn_25 (by decide) ?_
      refine vx_ret ?_
      refine W.widen (k := 2) (n := 12) (Nat.le_of_ble_eq_true rfl) (Nat.le_of_ble_eq_true rfl) ?_
      exact W.aret hx hb hr (Or.inl ⟨_, rfl⟩) (Or.inr ⟨_, rfl⟩) (fun t9 ht9 hW9 => ⟨_, rfl, ⟨a1, 246 + j, rfl, ⟨j, hj, rfl, Or.inl ⟨c2, rfl⟩⟩, ⟨hz1, q1, f1, hm1, hr1, he1⟩⟩, ht9⟩) (fun _ h => nomatch h) dX1_thingOn_38
  · refine lv_aload_n hx hb dX1_thingOn_5 rfl (lv_at hl 0 rfl) ?_
    refine lv_iload_n hx hb dX1_thingOn_6 rfl (lv_at hl 1 rfl) ?_
    refine xcx (vx_runV (As := [.int v]) (rest := []) ⟨hx, hb, hml, hown, hts⟩ (c_X1_checkKept l hst _ x lv kp fL fK o ld b k FZ v hld hold) (cwV 1 hts gX1_thingOn_X1_checkKept rfl rfl rfl (by decide +kernel) ⟨(Nat.le_of_ble_eq_true rfl), (Nat.le_of_ble_eq_true rfl)⟩) ⟨XPx_blind, va_recv hK hP (ci := 1) (q0 := 0) rfl rfl, XPx_pre hE hT hP⟩ rfl rfl hl.1 rfl (lv_room (Nat.le_of_ble_eq_true rfl)) dX1_thingOn_7 ⟨Nat.le_of_ble_eq_true rfl, Nat.le_of_ble_eq_true rfl⟩) (fun E9 ce9 q9 H1 hp9 hz9 hk9 hc9 hv9 hcl9 => ?_) (fun v9 hw9 => ?_)
    · exact vx_out (fun x h => (hnt x h).elim) hlocks hc9 hv9 hcl9 (fun t9 ht9 _ => ⟨⟨hp9.1, fun ⟨i, j, h1, h2, h3⟩ => h3.elim (fun h => c2 h.1) (fun ⟨d, g1, g2, g3, _⟩ => hp9.2 ⟨d, g1, g2, g3⟩)⟩, by rw [ht9]; exact hz9, fun q hq => by rw [ht9]; exact hk9 q hq⟩) (fun _ h => nomatch h) (Nat.le_of_ble_eq_true rfl) (Nat.le_of_ble_eq_true rfl)
    obtain ⟨rfl, ⟨d, hd1, hd2, rfl⟩⟩ := hw9
    refine W.eq (g2 := F0 m 10 ls []) rfl ?_
    refine lv_iload_n hx hb dX1_thingOn_10 rfl (lv_at hl 2 rfl) ?_
    refine xcx (vx_runS (As := [.int w]) (rest := []) ⟨hx, hb, hml, hown, hts⟩ (c_X1_checkPlace l hst _ w) (va_cwS 1 hts gX1_thingOn_X1_checkPlace rfl rfl rfl (by decide +kernel) ⟨(Nat.le_of_ble_eq_true rfl), (Nat.le_of_ble_eq_true rfl)⟩) ⟨XPx_blind, XPx_pre hE hT trivial⟩ rfl rfl hl.1 rfl (lv_room (Nat.le_of_ble_eq_true rfl)) dX1_thingOn_11 ⟨Nat.le_of_ble_eq_true rfl, Nat.le_of_ble_eq_true rfl⟩) (fun E9 ce9 q9 H1 hp9 hz9 hk9 hc9 hv9 hcl9 => ?_) (fun v9 hw9 => ?_)
    · exact vx_out (fun x h => (hnt x h).elim) hlocks hc9 hv9 hcl9 (fun t9 ht9 _ => ⟨⟨hp9.1, fun ⟨i, j, h1, h2, h3⟩ => hp9.2 ⟨j, h1, h2⟩⟩, by rw [ht9]; exact hz9, fun q hq => by rw [ht9]; exact hk9 q hq⟩) (fun _ h => nomatch h) (Nat.le_of_ble_eq_true rfl) (Nat.le_of_ble_eq_true rfl)
    obtain ⟨rfl, ⟨j, hj, rfl⟩⟩ := hw9
    refine W.eq (g2 := F0 m 14 ls []) rfl ?_
    refine lv_iload_n hx hb dX1_thingOn_14 rfl (lv_at hl 1 rfl) ?_
    refine lv_iconst (v := (-1)) hx hb dX1_thingOn_15 (by decide) ?_
    refine lv_icmp_ne (tgt := 28) hx hb dX1_thingOn_16 (by decide) (fun c16 => ?_) (fun c16 => ?_)
    · refine lv_aload_n hx hb dX1_thingOn_28 rfl (lv_at hl 0 rfl) ?_
      refine va_get (ci := 1) (v := .ref kp) (C := RX1) (T := TX1) (N := 6) hx hb hts iw_X1thingOn_X1 hown hK hP 0 rfl rfl 1 (by decide) (hts (.fieldLink RX1 18 "BackMirror" "kept" "[LBackMirror$Thing;") (by decide +kernel)) (fun _ h9 => h9) rfl dX1_thingOn_29 ?_
      refine lv_iload_n hx hb dX1_thingOn_32 rfl (lv_at hl 1 rfl) ?_
      refine lv_iload_n hx hb dX1_thingOn_33 rfl (lv_at hl 2 rfl) ?_
      refine xc_sie (va_runS (As := [.int (nI d), .int (nI j)]) (rest := [.ref kp]) ⟨hx, hb, hml, hown, hts⟩ (c_X1_keptIndex l d j) (va_cwS 2 hts gX1_thingOn_X1_keptIndex rfl rfl rfl (by decide +kernel) ⟨(Nat.le_of_ble_eq_true rfl), (Nat.le_of_ble_eq_true rfl)⟩) ⟨XP_blind, XP_pre hE trivial⟩ rfl rfl hl.1 rfl (lv_room (Nat.le_of_ble_eq_true rfl)) dX1_thingOn_34 ⟨Nat.le_of_ble_eq_true rfl, Nat.le_of_ble_eq_true rfl⟩) ?_
      refine va_aldq hx hb hK hP 2 1 rfl rfl (xin (by omega) (by omega)) dX1_thingOn_37 ?_
      obtain ⟨a1, ha1, hT1⟩ := hC.1 (6 * d + j) (by omega)
      refine x_toprf (y := a1) (by rw [nI_clamp (by omega)]; exact ha1) ?_
      obtain ⟨hz1, q1, f1, hm1, hr1, he1⟩ := hT1
      refine vx_ret ?_
      refine W.widen (k := 2) (n := 12) (Nat.le_of_ble_eq_true rfl) (Nat.le_of_ble_eq_true rfl) ?_
      exact W.aret hx hb hr (Or.inl ⟨_, rfl⟩) (Or.inr ⟨_, rfl⟩) (fun t9 ht9 hW9 => ⟨_, rfl, ⟨a1, 6 * d + j, rfl, ⟨j, hj, rfl, Or.inr ⟨d, hd1, hd2, rfl, rfl⟩⟩, ⟨hz1, q1, f1, hm1, hr1, he1⟩⟩, ht9⟩) (fun _ h => nomatch h) dX1_thingOn_38
    · exact absurd c16 (nI_m1 (by omega))

theorem iw_X1kindAt_X0 : ∀ w ∈ u_ws RX0 TX0 3, w ∈ wsX1_kindAt := by decide +kernel
set_option maxHeartbeats 4000000 in
set_option maxRecDepth 100000 in
theorem c_X1_kindAt (l : Launch) (hst : l.stackTraces = false) {D : va_G} {cI cT cJ : ClassId} (A : Nat → Prop) (x lv kp : Nat) (fL fK : Nat → Option Nat) (o ld b k : Nat) (FZ : va_W) (G : Nat → Tv) (hC : CA cI FZ fL fK G) (v w : Int32) (hld : ld ≤ 40) (hold : o ≤ ld) : vx_Met l yX1_kindAt wsX1_kindAt (rmD 8 2 12) (XPx D cI cT cJ A [.ref x, .int v, .int w] (fun H => va_P D vwCl (CW cT x lv kp fL fK o ld b k FZ) H)) (XSg (fun v9 => ∃ i : Nat, v9 = some (.int (G i).1) ∧ AT o ld v w i)) (XXc (fun E => E = nIO ∧ ¬ ∃ i, AT o ld v w i)) 2 12 (fun _ => False) := by
  refine vx_ofW (cc := cX1_kindAt) (maxL := 3) (ret := (some .int)) (by decide) rfl ?_
  intro p e s m args below meth c s₁ B hml hnt hv
  obtain ⟨rfl, hP, hE, hT⟩ := hv
  have hx := B.exec
  have hb := B.bytes
  have hr := B.returns
  have hts := atoms_spec (ws := wsX1_kindAt) B.pre
  have hown : s.vm.findClass RX1 = some m.cls := findClass_of_methodNamed B.named
  have hlocks := B.notSynchronized
  have hl := lv_entry ([.ref x, .int v, .int w]) (n := 3) (Nat.le_of_ble_eq_true rfl)
  rw [lg_entry_eq]
  generalize (lg_sl ([.ref x, .int v, .int w]) ++ List.replicate (3 - (lg_sl ([.ref x, .int v, .int w])).length) Slot.unset).toArray = ls at hl ⊢
  have hl : lv_has ls 3 [(0, .ref x), (1, .int v), (2, .int w)] := hl
  have hK := hE.1
  have hS : va_S A s.heap s.heap [] := va_S.rf
  refine lv_aload_n hx hb dX1_kindAt_0 rfl (lv_at hl 0 rfl) ?_
  refine lv_iload_n hx hb dX1_kindAt_1 rfl (lv_at hl 1 rfl) ?_
  refine lv_iload_n hx hb dX1_kindAt_2 rfl (lv_at hl 2 rfl) ?_
  refine xcx (vx_runV (As := [.int v, .int w]) (rest := []) ⟨hx, hb, hml, hown, hts⟩ (c_X1_thingOn l hst _ x lv kp fL fK o ld b k FZ G hC v w hld hold) (cwV 2 hts gX1_kindAt_X1_thingOn rfl rfl rfl (by decide +kernel) ⟨(Nat.le_of_ble_eq_true rfl), (Nat.le_of_ble_eq_true rfl)⟩) ⟨XPx_blind, va_recv hK hP (ci := 1) (q0 := 0) rfl rfl, XPx_pre hE hT hP⟩ rfl rfl hl.1 rfl (lv_room (Nat.le_of_ble_eq_true rfl)) dX1_kindAt_3 ⟨Nat.le_of_ble_eq_true rfl, Nat.le_of_ble_eq_true rfl⟩) (fun E9 ce9 q9 H1 hp9 hz9 hk9 hc9 hv9 hcl9 => ?_) (fun v9 hw9 => ?_)
  · exact vx_out (fun x h => (hnt x h).elim) hlocks hc9 hv9 hcl9 (fun t9 ht9 _ => ⟨hp9, by rw [ht9]; exact hz9, fun q hq => by rw [ht9]; exact hk9 q hq⟩) (fun _ h => nomatch h) (Nat.le_of_ble_eq_true rfl) (Nat.le_of_ble_eq_true rfl)
  obtain ⟨a1, i, rfl, hat, hz1, q1, f1, hm1, hr1, he1⟩ := hw9
  refine W.eq (g2 := F0 m 6 ls [.ref a1]) rfl ?_
  refine va_get (ci := 0) (v := .int ((G i).1)) (C := RX0) (T := TX0) (N := 3) hx hb hts iw_X1kindAt_X0 hown hK (x1 hP (xm3 hm1)) 0 rfl rfl 0 (by decide) (hts (.fieldLink RX1 47 "BackMirror$Thing" "kind" "I") (by decide +kernel)) (fun _ h9 => h9) rfl dX1_kindAt_6 ?_
  refine vx_ret ?_
  refine W.widen (k := 2) (n := 12) (Nat.le_of_ble_eq_true rfl) (Nat.le_of_ble_eq_true rfl) ?_
  exact W.iret hx hb hr (fun t9 ht9 hW9 => ⟨_, rfl, ⟨i, rfl, hat⟩, ht9⟩) (fun _ h => nomatch h) dX1_kindAt_9

theorem iw_X1rightsAt_X0 : ∀ w ∈ u_ws RX0 TX0 3, w ∈ wsX1_rightsAt := by decide +kernel
set_option maxHeartbeats 4000000 in
set_option maxRecDepth 100000 in
theorem c_X1_rightsAt (l : Launch) (hst : l.stackTraces = false) {D : va_G} {cI cT cJ : ClassId} (A : Nat → Prop) (x lv kp : Nat) (fL fK : Nat → Option Nat) (o ld b k : Nat) (FZ : va_W) (G : Nat → Tv) (hC : CA cI FZ fL fK G) (v w : Int32) (hld : ld ≤ 40) (hold : o ≤ ld) : vx_Met l yX1_rightsAt wsX1_rightsAt (rmD 8 2 12) (XPx D cI cT cJ A [.ref x, .int v, .int w] (fun H => va_P D vwCl (CW cT x lv kp fL fK o ld b k FZ) H)) (XSg (fun v9 => ∃ i : Nat, v9 = some (.int (G i).2.1) ∧ AT o ld v w i)) (XXc (fun E => E = nIO ∧ ¬ ∃ i, AT o ld v w i)) 2 12 (fun _ => False) := by
  refine vx_ofW (cc := cX1_rightsAt) (maxL := 3) (ret := (some .int)) (by decide) rfl ?_
  intro p e s m args below meth c s₁ B hml hnt hv
  obtain ⟨rfl, hP, hE, hT⟩ := hv
  have hx := B.exec
  have hb := B.bytes
  have hr := B.returns
  have hts := atoms_spec (ws := wsX1_rightsAt) B.pre
  have hown : s.vm.findClass RX1 = some m.cls := findClass_of_methodNamed B.named
  have hlocks := B.notSynchronized
  have hl := lv_entry ([.ref x, .int v, .int w]) (n := 3) (Nat.le_of_ble_eq_true rfl)
  rw [lg_entry_eq]
  generalize (lg_sl ([.ref x, .int v, .int w]) ++ List.replicate (3 - (lg_sl ([.ref x, .int v, .int w])).length) Slot.unset).toArray = ls at hl ⊢
  have hl : lv_has ls 3 [(0, .ref x), (1, .int v), (2, .int w)] := hl
  have hK := hE.1
  have hS : va_S A s.heap s.heap [] := va_S.rf
  refine lv_aload_n hx hb dX1_rightsAt_0 rfl (lv_at hl 0 rfl) ?_
  refine lv_iload_n hx hb dX1_rightsAt_1 rfl (lv_at hl 1 rfl) ?_
  refine lv_iload_n hx hb dX1_rightsAt_2 rfl (lv_at hl 2 rfl) ?_
  refine xcx (vx_runV (As := [.int v, .int w]) (rest := []) ⟨hx, hb, hml, hown, hts⟩ (c_X1_thingOn l hst _ x lv kp fL fK o ld b k FZ G hC v w hld hold) (cwV 2 hts gX1_rightsAt_X1_thingOn rfl rfl rfl (by decide +kernel) ⟨(Nat.le_of_ble_eq_true rfl), (Nat.le_of_ble_eq_true rfl)⟩) ⟨XPx_blind, va_recv hK hP (ci := 1) (q0 := 0) rfl rfl, XPx_pre hE hT hP⟩ rfl rfl hl.1 rfl (lv_room (Nat.le_of_ble_eq_true rfl)) dX1_rightsAt_3 ⟨Nat.le_of_ble_eq_true rfl, Nat.le_of_ble_eq_true rfl⟩) (fun E9 ce9 q9 H1 hp9 hz9 hk9 hc9 hv9 hcl9 => ?_) (fun v9 hw9 => ?_)
  · exact vx_out (fun x h => (hnt x h).elim) hlocks hc9 hv9 hcl9 (fun t9 ht9 _ => ⟨hp9, by rw [ht9]; exact hz9, fun q hq => by rw [ht9]; exact hk9 q hq⟩) (fun _ h => nomatch h) (Nat.le_of_ble_eq_true rfl) (Nat.le_of_ble_eq_true rfl)
  obtain ⟨a1, i, rfl, hat, hz1, q1, f1, hm1, hr1, he1⟩ := hw9
  refine W.eq (g2 := F0 m 6 ls [.ref a1]) rfl ?_
  refine va_get (ci := 0) (v := .int ((G i).2.1)) (C := RX0) (T := TX0) (N := 3) hx hb hts iw_X1rightsAt_X0 hown hK (x1 hP (xm3 hm1)) 0 rfl rfl 1 (by decide) (hts (.fieldLink RX1 62 "BackMirror$Thing" "rights" "I") (by decide +kernel)) (fun _ h9 => h9) rfl dX1_rightsAt_6 ?_
  refine vx_ret ?_
  refine W.widen (k := 2) (n := 12) (Nat.le_of_ble_eq_true rfl) (Nat.le_of_ble_eq_true rfl) ?_
  exact W.iret hx hb hr (fun t9 ht9 hW9 => ⟨_, rfl, ⟨i, rfl, hat⟩, ht9⟩) (fun _ h => nomatch h) dX1_rightsAt_9

theorem iw_X1numberAt_X0 : ∀ w ∈ u_ws RX0 TX0 3, w ∈ wsX1_numberAt := by decide +kernel
set_option maxHeartbeats 4000000 in
set_option maxRecDepth 100000 in
theorem c_X1_numberAt (l : Launch) (hst : l.stackTraces = false) {D : va_G} {cI cT cJ : ClassId} (A : Nat → Prop) (x lv kp : Nat) (fL fK : Nat → Option Nat) (o ld b k : Nat) (FZ : va_W) (G : Nat → Tv) (hC : CA cI FZ fL fK G) (v w z : Int32) (hld : ld ≤ 40) (hold : o ≤ ld) : vx_Met l yX1_numberAt wsX1_numberAt (rmD 8 3 18) (XPx D cI cT cJ A [.ref x, .int v, .int w, .int z] (fun H => va_P D vwCl (CW cT x lv kp fL fK o ld b k FZ) H)) (XSg (fun v9 => ∃ i sp : Nat, AT o ld v w i ∧ sp < 12 ∧ z = nI sp ∧ v9 = some (.int (if sp < (G i).2.2.1 then (G i).2.2.2 sp else -1)))) (XXc (fun E => E = nIO ∧ ¬ ∃ i sp : Nat, AT o ld v w i ∧ sp < 12 ∧ z = nI sp)) 3 18 (fun _ => False) := by
  refine vx_ofW (cc := cX1_numberAt) (maxL := 5) (ret := (some .int)) (by decide) rfl ?_
  intro p e s m args below meth c s₁ B hml hnt hv
  obtain ⟨rfl, hP, hE, hT⟩ := hv
  have hx := B.exec
  have hb := B.bytes
  have hr := B.returns
  have hts := atoms_spec (ws := wsX1_numberAt) B.pre
  have hown : s.vm.findClass RX1 = some m.cls := findClass_of_methodNamed B.named
  have hlocks := B.notSynchronized
  have hl := lv_entry ([.ref x, .int v, .int w, .int z]) (n := 5) (Nat.le_of_ble_eq_true rfl)
  rw [lg_entry_eq]
  generalize (lg_sl ([.ref x, .int v, .int w, .int z]) ++ List.replicate (5 - (lg_sl ([.ref x, .int v, .int w, .int z])).length) Slot.unset).toArray = ls at hl ⊢
  have hl : lv_has ls 5 [(0, .ref x), (1, .int v), (2, .int w), (3, .int z)] := hl
  have hK := hE.1
  have hS : va_S A s.heap s.heap [] := va_S.rf
  refine lv_aload_n hx hb dX1_numberAt_0 rfl (lv_at hl 0 rfl) ?_
  refine lv_iload_n hx hb dX1_numberAt_1 rfl (lv_at hl 1 rfl) ?_
  refine lv_iload_n hx hb dX1_numberAt_2 rfl (lv_at hl 2 rfl) ?_
  refine xcx (vx_runV (As := [.int v, .int w]) (rest := []) ⟨hx, hb, hml, hown, hts⟩ (c_X1_thingOn l hst _ x lv kp fL fK o ld b k FZ G hC v w hld hold) (cwV 2 hts gX1_numberAt_X1_thingOn rfl rfl rfl (by decide +kernel) ⟨(Nat.le_of_ble_eq_true rfl), (Nat.le_of_ble_eq_true rfl)⟩) ⟨XPx_blind, va_recv hK hP (ci := 1) (q0 := 0) rfl rfl, XPx_pre hE hT hP⟩ rfl rfl hl.1 rfl (lv_room (Nat.le_of_ble_eq_true rfl)) dX1_numberAt_3 ⟨Nat.le_of_ble_eq_true rfl, Nat.le_of_ble_eq_true rfl⟩) (fun E9 ce9 q9 H1 hp9 hz9 hk9 hc9 hv9 hcl9 => ?_) (fun v9 hw9 => ?_)
  · exact vx_out (fun x h => (hnt x h).elim) hlocks hc9 hv9 hcl9 (fun t9 ht9 _ => ⟨⟨hp9.1, fun ⟨i, sp, h, _⟩ => hp9.2 ⟨i, h⟩⟩, by rw [ht9]; exact hz9, fun q hq => by rw [ht9]; exact hk9 q hq⟩) (fun _ h => nomatch h) (Nat.le_of_ble_eq_true rfl) (Nat.le_of_ble_eq_true rfl)
  obtain ⟨a1, i, rfl, hat, hz1, q1, f1, hm1, hr1, he1⟩ := hw9
  refine W.eq (g2 := F0 m 6 ls [.ref a1]) rfl ?_
  refine lv_astore (lv' := [(4, .ref a1), (0, .ref x), (1, .int v), (2, .int w), (3, .int z)]) hx hb dX1_numberAt_6 hl (by decide) rfl (fun ls hl => ?_)
  refine lv_iload_n hx hb dX1_numberAt_8 rfl (lv_at hl 4 rfl) ?_
  refine lv_if_lt (tgt := 18) hx hb dX1_numberAt_9 (by decide) (fun c9 => ?_) (fun c9 => ?_)
  · obtain ⟨sa9, hsa9⟩ := hT.1 (71, "no such spot") (by decide)
    exact vx_throwS hx hb hst (own := RX1) (cls := nIO) (text := "no such spot") (names := nUP) (ik := 111) (is := 71) (ic := 113) hown (by decide +kernel) (by decide +kernel) (hts (.classLink RX1 111 nIO) (by decide +kernel)) (hts (.initialized nIO) (by decide +kernel)) hsa9 (vx_hat (fun w h => hts w (List.mem_cons_of_mem _ (List.mem_append_right _ h))) xb_IO (hT.use (X := nIO) (by decide))) xg_IO hT.2.2.2.1 hT.2.2.2.2 va_S.rf (hl.1.trans hml.symm) dX1_numberAt_18 dX1_numberAt_21 dX1_numberAt_22 dX1_numberAt_24 dX1_numberAt_27 (fun x h => (hnt x h).elim) (Nat.le_of_ble_eq_true rfl) (Nat.le_of_ble_eq_true rfl) (Nat.le_of_ble_eq_true rfl) (Nat.le_of_ble_eq_true rfl) hlocks (fun t9 _ hz9 hk9 => ⟨⟨rfl, by rintro ⟨i, sp, -, h1, rfl⟩; first | exact xlt0 (by omega) c9 | exact absurd ((xle (by omega) (by omega)).mp (Int32.not_lt.mp c15)) (by omega)⟩, hz9, hk9⟩) (fun _ h => nomatch h) (Nat.le_of_ble_eq_true rfl) (Nat.le_of_ble_eq_true rfl)
  · refine lv_iload_n hx hb dX1_numberAt_12 rfl (lv_at hl 4 rfl) ?_
    refine lv_bipush (v := nI 12) hx hb dX1_numberAt_13 (by decide) ?_
    refine lv_icmp_lt (tgt := 28) hx hb dX1_numberAt_15 (by decide) (fun c15 => ?_) (fun c15 => ?_)
    · obtain ⟨sp, hsp, rfl⟩ := xSp_t c9 (by assumption)
      refine lv_iload_n hx hb dX1_numberAt_28 rfl (lv_at hl 4 rfl) ?_
      refine lv_aload hx hb dX1_numberAt_29 (lv_at hl 0 rfl) ?_
      refine va_get (ci := 0) (v := .ref q1) (C := RX0) (T := TX0) (N := 3) hx hb hts iw_X1numberAt_X0 hown hK (x1 hP (xm3 hm1)) 0 rfl rfl 2 (by decide) (hts (.fieldLink RX1 43 "BackMirror$Thing" "numbers" "[I") (by decide +kernel)) (fun _ h9 => h9) rfl dX1_numberAt_31 ?_
      refine va_alen hx hb hK (x1 hP (xm3 hr1)) 0 0 rfl rfl (v := nI ((G i).2.2.1)) rfl dX1_numberAt_34 ?_
      refine lv_icmp_ge (tgt := 48) hx hb dX1_numberAt_35 (by decide) (fun c35 => ?_) (fun c35 => ?_)
      · have c35 : ((G i).2.2.1) ≤ sp := (xle (by omega) (by omega)).mp c35
        refine lv_iconst (v := (-1)) hx hb dX1_numberAt_48 (by decide) ?_
        refine vx_ret ?_
        refine W.widen (k := 3) (n := 18) (Nat.le_of_ble_eq_true rfl) (Nat.le_of_ble_eq_true rfl) ?_
        exact W.iret hx hb hr (fun t9 ht9 hW9 => ⟨_, rfl, ⟨i, sp, hat, hsp, rfl, by first | (rw [if_pos (by omega), ← he1 sp (by omega)]; done) | (rw [if_neg (by omega)]; done)⟩, ht9⟩) (fun _ h => nomatch h) dX1_numberAt_49
      · have c35 : ¬ ((G i).2.2.1) ≤ sp := fun h => c35 ((xle (by omega) (by omega)).mpr h)
        refine lv_aload hx hb dX1_numberAt_38 (lv_at hl 0 rfl) ?_
        refine va_get (ci := 0) (v := .ref q1) (C := RX0) (T := TX0) (N := 3) hx hb hts iw_X1numberAt_X0 hown hK (x1 hP (xm3 hm1)) 0 rfl rfl 2 (by decide) (hts (.fieldLink RX1 43 "BackMirror$Thing" "numbers" "[I") (by decide +kernel)) (fun _ h9 => h9) rfl dX1_numberAt_40 ?_
        refine lv_iload_n hx hb dX1_numberAt_43 rfl (lv_at hl 4 rfl) ?_
        refine va_iald hx hb hK (x1 hP (xm3 hr1)) 0 0 rfl rfl (xin (by omega) (by omega)) dX1_numberAt_44 ?_
        refine x_top (f1 sp) (by rw [nI_clamp (by omega)]) ?_
        refine lv_goto (tgt := 49) hx hb dX1_numberAt_45 (by decide) ?_
        refine vx_ret ?_
        refine W.widen (k := 3) (n := 18) (Nat.le_of_ble_eq_true rfl) (Nat.le_of_ble_eq_true rfl) ?_
        exact W.iret hx hb hr (fun t9 ht9 hW9 => ⟨_, rfl, ⟨i, sp, hat, hsp, rfl, by first | (rw [if_pos (by omega), ← he1 sp (by omega)]; done) | (rw [if_neg (by omega)]; done)⟩, ht9⟩) (fun _ h => nomatch h) dX1_numberAt_49
    · obtain ⟨sa9, hsa9⟩ := hT.1 (71, "no such spot") (by decide)
      exact vx_throwS hx hb hst (own := RX1) (cls := nIO) (text := "no such spot") (names := nUP) (ik := 111) (is := 71) (ic := 113) hown (by decide +kernel) (by decide +kernel) (hts (.classLink RX1 111 nIO) (by decide +kernel)) (hts (.initialized nIO) (by decide +kernel)) hsa9 (vx_hat (fun w h => hts w (List.mem_cons_of_mem _ (List.mem_append_right _ h))) xb_IO (hT.use (X := nIO) (by decide))) xg_IO hT.2.2.2.1 hT.2.2.2.2 va_S.rf (hl.1.trans hml.symm) dX1_numberAt_18 dX1_numberAt_21 dX1_numberAt_22 dX1_numberAt_24 dX1_numberAt_27 (fun x h => (hnt x h).elim) (Nat.le_of_ble_eq_true rfl) (Nat.le_of_ble_eq_true rfl) (Nat.le_of_ble_eq_true rfl) (Nat.le_of_ble_eq_true rfl) hlocks (fun t9 _ hz9 hk9 => ⟨⟨rfl, by rintro ⟨i, sp, -, h1, rfl⟩; first | exact xlt0 (by omega) c9 | exact absurd ((xle (by omega) (by omega)).mp (Int32.not_lt.mp c15)) (by omega)⟩, hz9, hk9⟩) (fun _ h => nomatch h) (Nat.le_of_ble_eq_true rfl) (Nat.le_of_ble_eq_true rfl)

set_option maxHeartbeats 4000000 in
set_option maxRecDepth 100000 in
theorem c_X1_sizeAt (l : Launch) (hst : l.stackTraces = false) {D : va_G} {cI cT cJ : ClassId} (A : Nat → Prop) (x lv kp : Nat) (fL fK : Nat → Option Nat) (o ld b k : Nat) (FZ : va_W) (G : Nat → Tv) (hC : CA cI FZ fL fK G) (v w : Int32) (hld : ld ≤ 40) (hold : o ≤ ld) : vx_Met l yX1_sizeAt wsX1_sizeAt (rmD 8 2 12) (XPx D cI cT cJ A [.ref x, .int v, .int w] (fun H => va_P D vwCl (CW cT x lv kp fL fK o ld b k FZ) H)) (XSg (fun v9 => ∃ d j : Nat, o ≤ d ∧ d ≤ ld ∧ v = nI d ∧ j < 6 ∧ w = nI j ∧ v9 = some (.int (nI (difW G ld d j))))) (XXc (fun E => E = nIO ∧ ¬ ∃ d j : Nat, o ≤ d ∧ d ≤ ld ∧ v = nI d ∧ j < 6 ∧ w = nI j)) 2 12 (fun _ => False) := by
  refine vx_ofW (cc := cX1_sizeAt) (maxL := 3) (ret := (some .int)) (by decide) rfl ?_
  intro p e s m args below meth c s₁ B hml hnt hv
  obtain ⟨rfl, hP, hE, hT⟩ := hv
  have hx := B.exec
  have hb := B.bytes
  have hr := B.returns
  have hts := atoms_spec (ws := wsX1_sizeAt) B.pre
  have hown : s.vm.findClass RX1 = some m.cls := findClass_of_methodNamed B.named
  have hlocks := B.notSynchronized
  have hl := lv_entry ([.ref x, .int v, .int w]) (n := 3) (Nat.le_of_ble_eq_true rfl)
  rw [lg_entry_eq]
  generalize (lg_sl ([.ref x, .int v, .int w]) ++ List.replicate (3 - (lg_sl ([.ref x, .int v, .int w])).length) Slot.unset).toArray = ls at hl ⊢
  have hl : lv_has ls 3 [(0, .ref x), (1, .int v), (2, .int w)] := hl
  have hK := hE.1
  have hS : va_S A s.heap s.heap [] := va_S.rf
  refine lv_aload_n hx hb dX1_sizeAt_0 rfl (lv_at hl 0 rfl) ?_
  refine lv_iload_n hx hb dX1_sizeAt_1 rfl (lv_at hl 1 rfl) ?_
  refine xcx (vx_runV (As := [.int v]) (rest := []) ⟨hx, hb, hml, hown, hts⟩ (c_X1_checkKept l hst _ x lv kp fL fK o ld b k FZ v hld hold) (cwV 1 hts gX1_sizeAt_X1_checkKept rfl rfl rfl (by decide +kernel) ⟨(Nat.le_of_ble_eq_true rfl), (Nat.le_of_ble_eq_true rfl)⟩) ⟨XPx_blind, va_recv hK hP (ci := 1) (q0 := 0) rfl rfl, XPx_pre hE hT hP⟩ rfl rfl hl.1 rfl (lv_room (Nat.le_of_ble_eq_true rfl)) dX1_sizeAt_2 ⟨Nat.le_of_ble_eq_true rfl, Nat.le_of_ble_eq_true rfl⟩) (fun E9 ce9 q9 H1 hp9 hz9 hk9 hc9 hv9 hcl9 => ?_) (fun v9 hw9 => ?_)
  · exact vx_out (fun x h => (hnt x h).elim) hlocks hc9 hv9 hcl9 (fun t9 ht9 _ => ⟨⟨hp9.1, fun ⟨d, j, h1, h2, h3, _⟩ => hp9.2 ⟨d, h1, h2, h3⟩⟩, by rw [ht9]; exact hz9, fun q hq => by rw [ht9]; exact hk9 q hq⟩) (fun _ h => nomatch h) (Nat.le_of_ble_eq_true rfl) (Nat.le_of_ble_eq_true rfl)
  obtain ⟨rfl, ⟨d, hd1, hd2, rfl⟩⟩ := hw9
  refine W.eq (g2 := F0 m 5 ls []) rfl ?_
  refine lv_iload_n hx hb dX1_sizeAt_5 rfl (lv_at hl 2 rfl) ?_
  refine xcx (vx_runS (As := [.int w]) (rest := []) ⟨hx, hb, hml, hown, hts⟩ (c_X1_checkPlace l hst _ w) (va_cwS 1 hts gX1_sizeAt_X1_checkPlace rfl rfl rfl (by decide +kernel) ⟨(Nat.le_of_ble_eq_true rfl), (Nat.le_of_ble_eq_true rfl)⟩) ⟨XPx_blind, XPx_pre hE hT trivial⟩ rfl rfl hl.1 rfl (lv_room (Nat.le_of_ble_eq_true rfl)) dX1_sizeAt_6 ⟨Nat.le_of_ble_eq_true rfl, Nat.le_of_ble_eq_true rfl⟩) (fun E9 ce9 q9 H1 hp9 hz9 hk9 hc9 hv9 hcl9 => ?_) (fun v9 hw9 => ?_)
  · exact vx_out (fun x h => (hnt x h).elim) hlocks hc9 hv9 hcl9 (fun t9 ht9 _ => ⟨⟨hp9.1, fun ⟨d, j, h1, h2, h3, h4, h5⟩ => hp9.2 ⟨j, h4, h5⟩⟩, by rw [ht9]; exact hz9, fun q hq => by rw [ht9]; exact hk9 q hq⟩) (fun _ h => nomatch h) (Nat.le_of_ble_eq_true rfl) (Nat.le_of_ble_eq_true rfl)
  obtain ⟨rfl, ⟨j, hj, rfl⟩⟩ := hw9
  refine W.eq (g2 := F0 m 9 ls []) rfl ?_
  refine lv_aload_n hx hb dX1_sizeAt_9 rfl (lv_at hl 0 rfl) ?_
  refine lv_iload_n hx hb dX1_sizeAt_10 rfl (lv_at hl 1 rfl) ?_
  refine lv_iload_n hx hb dX1_sizeAt_11 rfl (lv_at hl 2 rfl) ?_
  refine xc_sie (va_runV (As := [.int (nI d), .int (nI j)]) (rest := []) ⟨hx, hb, hml, hown, hts⟩ (c_X1_differenceTakes l x lv kp fL fK o ld b k FZ G hC d j hld (by omega) (by omega)) (cwV 2 hts gX1_sizeAt_X1_differenceTakes rfl rfl rfl (by decide +kernel) ⟨(Nat.le_of_ble_eq_true rfl), (Nat.le_of_ble_eq_true rfl)⟩) ⟨XP_blind, va_recv hK hP (ci := 1) (q0 := 0) rfl rfl, XP_pre hE hP⟩ rfl rfl hl.1 rfl (lv_room (Nat.le_of_ble_eq_true rfl)) dX1_sizeAt_12 ⟨Nat.le_of_ble_eq_true rfl, Nat.le_of_ble_eq_true rfl⟩) ?_
  refine vx_ret ?_
  refine W.widen (k := 2) (n := 12) (Nat.le_of_ble_eq_true rfl) (Nat.le_of_ble_eq_true rfl) ?_
  exact W.iret hx hb hr (fun t9 ht9 hW9 => ⟨_, rfl, ⟨d, j, hd1, hd2, rfl, hj, rfl, rfl⟩, ht9⟩) (fun _ h => nomatch h) dX1_sizeAt_15
end
section
/-! methods that change the mirror -/
section XCW
variable {p : Program} {l : Launch} {e : Env} {R : Room} {s : State} {m : MethodId} {args : Array Value} {below : List Frame} {meth : Method} {c : Code} {H : Heap} {locs : List Loc} {cells slots mc ms : Nat} {Q : State → Prop}
variable {pc : Nat} {ls : Array Slot} {rest st0 : List Value} {a : Array Value} {A0 A1 : Nat → Prop} {H0 : Heap} {free : Addr → Prop}
/-- a call that changes its world, or throws and changes nothing -/
theorem xcw {S : Type} {post : Int32 → S → Prop} {B : S → State → Prop} {PX : String → Prop} (hr : vx_Run p l e R s m args below meth c H locs cells slots mc ms (F0 m pc ls st0) rest (va_Qi post B A1 a) (XXc PX) free) (hS : va_S A0 H0 H locs) (hA : ∀ q, q < H.size → A1 q → A0 q) (hf : ∀ q, free q → A0 q)
    (kx : ∀ (E : String) (ce : Cell) (q9 : Addr) (H1 : Heap) (locs1 : List Loc), PX E → H.size ≤ H1.size → (∀ q : Nat, q < H.size → H1[q]? = H[q]?) → va_S A0 H0 H1 locs1 → H1[q9]? = some ce → ce.vm = .none → s.vm.findClass E = some ce.cls → vx_W p l e R s m args below meth c H1 locs1 (cells + mc) (slots + ms) Q (F0 m pc ls rest) q9)
    (kk : ∀ (r : Int32) (u : S) (t : State) (H1 : Heap) (locs1 : List Loc), t.heap = H1 → s.vm.Alike t.vm → post r u → B u t → H.size ≤ H1.size → (∀ q : Nat, q < H.size → ¬ A1 q → H1[q]? = H[q]?) → va_S A0 H0 H1 locs1 → W p l e R s m args below meth c H1 locs1 (cells + mc) (slots + ms) Q (F0 m (pc + 3) ls (.int r :: rest))) : W p l e R s m args below meth c H locs cells slots Q (F0 m pc ls st0) := by
  intro T hT X
  rcases hr T hT X with ⟨v, st₀, t, T', L, h0, X', hL, e1, e2, ⟨⟨r, u, hv, hp, hb⟩, hF⟩, st⟩ | ⟨q, st₀, t, T', L, E, ce, h0, X', hL, e1, e2, ⟨hp, hz, hk⟩, hce, hcv, hcl, st⟩
  · cases hv
    obtain ⟨k1, k2, k3⟩ := vx_keep h0 e1 hS hA hf hL hF
    obtain ⟨t2, a1, b1⟩ := kk r u t T'.heap (locs ++ L) e1.symm (by rw [← e2]; exact X'.warmed.alike) hp hb k1 k2 k3 T' rfl X'
    exact ⟨t2, st t2 a1, b1⟩
  · obtain ⟨k1, k2, k3⟩ := vx_keep (A1 := fun _ => False) h0 e1 hS (fun _ _ h => h.elim) hf hL ⟨hz, fun q h1 _ => hk q h1⟩
    obtain ⟨t2, a1, b1⟩ := kx E ce q T'.heap (locs ++ L) hp k1 (fun q hq => k2 q hq (fun h => h)) k3 (by rw [e1]; exact hce) hcv hcl T' rfl X'
    exact ⟨t2, st.trans a1, b1⟩
end XCW
theorem va_up_s {α : Type} {f : Nat → α} {k : Nat} {v : α} : va_up f k v k = v := if_pos rfl
theorem va_up_n {α : Type} {f : Nat → α} {k j : Nat} {v : α} (h : j ≠ k) : va_up f k v j = f j := if_neg h
theorem CA.live {cI : ClassId} {FZ : va_W} {fL fK : Nat → Option Nat} {G : Nat → Tv} (h : CA cI FZ fL fK G) {j a : Nat} {v : Tv} (hv : TH cI FZ a v) : CA cI FZ (va_up fL j (some a)) fK (va_up G (246 + j) v) := by
  refine ⟨fun i hi => ?_, fun i hi => ?_⟩
  · rw [va_up_n (by omega)]; exact h.1 i hi
  · by_cases e : i = j
    · subst e; exact ⟨a, va_up_s, by rw [va_up_s]; exact hv⟩
    · rw [va_up_n e, va_up_n (by omega)]; exact h.2 i hi
theorem CA.kept {cI : ClassId} {FZ : va_W} {fL fK : Nat → Option Nat} {G : Nat → Tv} (h : CA cI FZ fL fK G) {j a : Nat} {v : Tv} (hj : j < 246) (hv : TH cI FZ a v) : CA cI FZ fL (va_up fK j (some a)) (va_up G j v) := by
  refine ⟨fun i hi => ?_, fun i hi => ?_⟩
  · by_cases e : i = j
    · subst e; exact ⟨a, va_up_s, by rw [va_up_s]; exact hv⟩
    · rw [va_up_n e, va_up_n e]; exact h.1 i hi
  · rw [va_up_n (by omega)]; exact h.2 i hi
theorem xsw3 {α : Type} (a b c u v : α) (F : List α) : (a :: b :: c :: ((F ++ [u]) ++ [v])).Perm ((a :: b :: c :: (F ++ [v])) ++ [u]) := by
  have h : ((F ++ [u]) ++ [v]).Perm ((F ++ [v]) ++ [u]) := by
    rw [List.append_assoc, List.append_assoc]
    exact List.Perm.append_left F (List.Perm.swap v u [])
  exact (h.cons c).cons b |>.cons a
theorem insR_congr {f g : Nat → Int32} {n sp : Nat} {x : Int32} (h : ∀ j, j < n → f j = g j) (hs : sp ≤ n) (j : Nat) (hj : j < n + 1) : insR f sp x j = insR g sp x j := by
  unfold insR
  split
  · exact h j (by omega)
  · split
    · rfl
    · exact h (j - 1) (by omega)
theorem delR_congr {f g : Nat → Int32} {n sp : Nat} (h : ∀ j, j < n → f j = g j) (j : Nat) (hj : j < n - 1) : delR f sp j = delR g sp j := by
  unfold delR
  split
  · exact h j (by omega)
  · exact h (j + 1) (by omega)
/-- the live tree, p places of it, into the date d; and the other way -/
def cpD (G : Nat → Tv) (d p : Nat) : Nat → Tv := fun i => if 6 * d ≤ i ∧ i < 6 * d + p then G (246 + (i - 6 * d)) else G i
def cpL (G : Nat → Tv) (d p : Nat) : Nat → Tv := fun i => if 246 ≤ i ∧ i < 246 + p then G (6 * d + (i - 246)) else G i
theorem cpD_0 {G : Nat → Tv} {d : Nat} : cpD G d 0 = G := funext fun i => if_neg (by omega)
theorem cpL_0 {G : Nat → Tv} {d : Nat} : cpL G d 0 = G := funext fun i => if_neg (by omega)
theorem cpD_live {G : Nat → Tv} {d p i : Nat} (hd : d ≤ 40) (hp : p ≤ 6) (hi : 246 ≤ i) : cpD G d p i = G i := if_neg (by omega)
theorem cpL_kept {G : Nat → Tv} {d p i : Nat} (hi : i < 246) : cpL G d p i = G i := if_neg (by omega)
theorem cpL_at {G : Nat → Tv} {d p : Nat} : cpL G d p (246 + p) = G (246 + p) := if_neg (by omega)
theorem cpD_s {G : Nat → Tv} {d p : Nat} (hd : d ≤ 40) (hp : p < 6) : cpD G d (p + 1) = va_up (cpD G d p) (6 * d + p) (cpD G d p (246 + p)) := by
  funext i
  by_cases e : i = 6 * d + p
  · subst e
    have e2 : cpD G d p (246 + p) = G (246 + p) := cpD_live hd (by omega) (by omega)
    rw [va_up_s, e2]
    unfold cpD
    rw [if_pos (by omega), show 6 * d + p - 6 * d = p by omega]
  · rw [va_up_n e]
    unfold cpD
    by_cases c : 6 * d ≤ i ∧ i < 6 * d + p
    · rw [if_pos (by omega), if_pos c]
    · rw [if_neg (by omega), if_neg c]
theorem cpL_s {G : Nat → Tv} {d p : Nat} (hd : d ≤ 40) (hp : p < 6) : cpL G d (p + 1) = va_up (cpL G d p) (246 + p) (cpL G d p (6 * d + p)) := by
  funext i
  by_cases e : i = 246 + p
  · subst e
    have e2 : cpL G d p (6 * d + p) = G (6 * d + p) := cpL_kept (by omega)
    rw [va_up_s, e2]
    unfold cpL
    rw [if_pos (by omega), show 246 + p - 246 = p by omega]
  · rw [va_up_n e]
    unfold cpL
    by_cases c : 246 ≤ i ∧ i < 246 + p
    · rw [if_pos (by omega), if_pos c]
    · rw [if_neg (by omega), if_neg c]
/-- where a number may be put -/
def PutK (t : Tv) : Prop := t.1 = nI 1 ∧ t.2.2.1 < 12
theorem xIn_t {v : Int32} {n : Nat} (hn : n < 2 ^ 31) (h0 : ¬ v < 0) (h1 : v ≤ nI n) : ∃ j, j ≤ n ∧ v = nI j := by
  by_cases e : v = nI n
  · exact ⟨n, Nat.le_refl _, e⟩
  · rcases pk_ix v hn with h | h | ⟨j, hj, rfl⟩
    · exact absurd h h0
    · exact absurd (Int32.le_antisymm h1 h) e
    · exact ⟨j, by omega, rfl⟩
theorem xLt_t {v : Int32} {n : Nat} (hn : n < 2 ^ 31) (h0 : ¬ v < 0) (h1 : v < nI n) : ∃ j, j < n ∧ v = nI j := by
  rcases pk_ix v hn with h | h | ⟨j, hj, rfl⟩
  · exact absurd h h0
  · exact absurd h1 (Int32.not_lt.mpr h)
  · exact ⟨j, hj, rfl⟩
theorem xN0 {j : Nat} (h : j < 2 ^ 31) (c : nI j < 0) : False := xlt0 h c
theorem xNle {j n : Nat} (hj : j ≤ n) (hn : n < 2 ^ 31) (c : ¬ nI j ≤ nI n) : False := c ((xle (by omega) hn).mpr hj)
theorem xNgt {j n : Nat} (hj : j ≤ n) (hn : n < 2 ^ 31) (c : nI n < nI j) : False := absurd ((xlt hn (by omega)).mp c) (by omega)
theorem xNlt {j n : Nat} (hj : j < n) (hn : n < 2 ^ 31) (c : ¬ nI j < nI n) : False := c ((xlt (by omega) hn).mpr hj)
/-- a BackMirror that holds G, its oldest date, last date, whether it is broken, behind how many steps -/
abbrev Sv : Type := (Nat → Tv) × Nat × Nat × Nat × Nat
def CB (D : va_G) (cI cT : ClassId) (x lv kp : Nat) (A : Nat → Prop) (u : Sv) (H : Heap) : Prop := ∃ (fL fK : Nat → Option Nat) (FZ : va_W), va_P D vwCl (CW cT x lv kp fL fK u.2.1 u.2.2.1 u.2.2.2.1 u.2.2.2.2 FZ) H ∧ va_D A (CW cT x lv kp fL fK u.2.1 u.2.2.1 u.2.2.2.1 u.2.2.2.2 FZ) ∧ CA cI FZ fL fK u.1

theorem iw_X1makeFile_X0 : ∀ w ∈ u_ws RX0 TX0 3, w ∈ wsX1_makeFile := by decide +kernel
set_option maxHeartbeats 4000000 in
set_option maxRecDepth 100000 in
theorem c_X1_makeFile (l : Launch) (hst : l.stackTraces = false) {D : va_G} {cI cT cJ : ClassId} (Ax : Nat → Prop) (x lv kp : Nat) (fL fK : Nat → Option Nat) (o ld b k : Nat) (FZ : va_W) (G : Nat → Tv) (hC : CA cI FZ fL fK G) (v : Int32)  (sz : Nat) : vx_Met l yX1_makeFile wsX1_makeFile (rmD 8 8 40) (XPx D cI cT cJ Ax [.ref x, .int v] (fun H => H.size = sz ∧ va_P D vwCl (CW cT x lv kp fL fK o ld b k FZ) H ∧ va_D (fun _ => True) (CW cT x lv kp fL fK o ld b k FZ))) (va_Qi (S := Sv) (fun r u => ∃ j, j < 6 ∧ v = nI j ∧ r = (G (246 + j)).1 ∧ u = (va_up G (246 + j) (nI 1, nI 0, 0, fun _ => 0), o, ld, b, k)) (fun u t => CB D cI cT x lv kp (va_A (CW cT x lv kp fL fK o ld b k FZ) sz) u t.heap) (va_A (CW cT x lv kp fL fK o ld b k FZ) sz)) (XXc (fun E => E = nIO ∧ ¬ Pl v)) 8 40 (va_A (CW cT x lv kp fL fK o ld b k FZ) sz) := by
  refine vx_ofW (cc := cX1_makeFile) (maxL := 2) (ret := (some .int)) (by decide) rfl ?_
  intro p e s m args below meth c s₁ B hml hnt hv
  obtain ⟨rfl, ⟨hsz, hP, hD0⟩, hE, hT⟩ := hv
  have hx := B.exec
  have hb := B.bytes
  have hr := B.returns
  have hts := atoms_spec (ws := wsX1_makeFile) B.pre
  have hown : s.vm.findClass RX1 = some m.cls := findClass_of_methodNamed B.named
  have hlocks := B.notSynchronized
  have hl := lv_entry ([.ref x, .int v]) (n := 2) (Nat.le_of_ble_eq_true rfl)
  rw [lg_entry_eq]
  generalize (lg_sl ([.ref x, .int v]) ++ List.replicate (2 - (lg_sl ([.ref x, .int v])).length) Slot.unset).toArray = ls at hl ⊢
  have hl : lv_has ls 2 [(0, .ref x), (1, .int v)] := hl
  have hK := hE.1
  subst hsz
  have hD := hD0.self (sz := s.heap.size)
  generalize hAe : va_A (CW cT x lv kp fL fK o ld b k FZ) s.heap.size = A at hD ⊢
  have hA : ∀ q : Nat, s.heap.size ≤ q → A q := fun q h => by rw [← hAe]; exact Or.inr h
  have hS : va_S A s.heap s.heap [] := va_S.rf
  refine lv_iload_n hx hb dX1_makeFile_0 rfl (lv_at hl 1 rfl) ?_
  refine xcx (vx_runS (As := [.int v]) (rest := []) ⟨hx, hb, hml, hown, hts⟩ (c_X1_checkPlace l hst _ v) (va_cwS 1 hts gX1_makeFile_X1_checkPlace rfl rfl rfl (by decide +kernel) ⟨(Nat.le_of_ble_eq_true rfl), (Nat.le_of_ble_eq_true rfl)⟩) ⟨XPx_blind, XPx_pre hE hT trivial⟩ rfl rfl hl.1 rfl (lv_room (Nat.le_of_ble_eq_true rfl)) dX1_makeFile_1 ⟨Nat.le_of_ble_eq_true rfl, Nat.le_of_ble_eq_true rfl⟩) (fun E9 ce9 q9 H1 hp9 hz9 hk9 hc9 hv9 hcl9 => ?_) (fun v9 hw9 => ?_)
  · exact vx_out (fun x h => (hnt x h).elim) hlocks hc9 hv9 hcl9 (fun t9 ht9 _ => ⟨hp9, by rw [ht9]; exact hz9, fun q hq => by rw [ht9]; exact hk9 q hq⟩) (fun _ h => nomatch h) (Nat.le_of_ble_eq_true rfl) (Nat.le_of_ble_eq_true rfl)
  obtain ⟨rfl, ⟨j, hj, rfl⟩⟩ := hw9
  refine W.eq (g2 := F0 m 4 ls []) rfl ?_
  refine lv_aload_n hx hb dX1_makeFile_4 rfl (lv_at hl 0 rfl) ?_
  refine lv_iload_n hx hb dX1_makeFile_5 rfl (lv_at hl 1 rfl) ?_
  refine va_new (ci := 0) (fs := [.int 0, .int 0, .null]) (C := RX0) (T := TX0) (N := 3) hx hb hts iw_X1makeFile_X0 tyX0 tyX0_ok hown (hts (.classLink RX1 7 RX0) (by decide +kernel)) (hts (.instantiable RX0 3) (by decide +kernel)) (hts (.initialized RX0) (by decide +kernel)) hK hP hD hS hA rfl (by intro j hj; match j, hj with | 0, _ => rfl | 1, _ => rfl | 2, _ => rfl) (by first | exact Nat.le_of_ble_eq_true rfl | (show _ ≤ 8; omega)) (by first | exact Nat.le_of_ble_eq_true rfl | (show _ ≤ 40; omega)) dX1_makeFile_6 (fun q6 H hP hD hS => ?_)
  have hP : va_P D vwCl ((x, .inr (1, [.ref lv, .ref kp, .int (nI o), .int (nI ld), .int (nI b), .int (nI k)])) :: (lv, .inl (cT, 6, .inr (.inr (.inr (.inr fL))))) :: (kp, .inl (cT, 246, .inr (.inr (.inr (.inr fK))))) :: (FZ ++ [(q6, .inr (0, [.int 0, .int 0, .null]))])) H := hP
  have hD : va_D A ((x, .inr (1, [.ref lv, .ref kp, .int (nI o), .int (nI ld), .int (nI b), .int (nI k)])) :: (lv, .inl (cT, 6, .inr (.inr (.inr (.inr fL))))) :: (kp, .inl (cT, 246, .inr (.inr (.inr (.inr fK))))) :: (FZ ++ [(q6, .inr (0, [.int 0, .int 0, .null]))])) := hD
  refine lv_dup hx hb dX1_makeFile_9 rfl ?_
  refine lv_iconst (v := nI 1) hx hb dX1_makeFile_10 (by decide) ?_
  refine lv_iconst (v := nI 0) hx hb dX1_makeFile_11 (by decide) ?_
  refine lv_iconst (v := nI 0) hx hb dX1_makeFile_12 (by decide) ?_
  refine va_newa (atype := .int) (a0 := (0, .inl (fun _ => 0))) hx hb (hts (.arrayClass .int) (by decide +kernel)) rfl hK hP hD hS hA (fun _ => rfl) (xlt0 (by omega)) (nI_clamp (by omega)) (by show _ * 4 ≤ _; omega) (by first | exact Nat.le_of_ble_eq_true rfl | (show _ + _ ≤ 8; omega)) (by first | exact Nat.le_of_ble_eq_true rfl | (show _ + _ ≤ 40; omega)) dX1_makeFile_13 (fun q13 cA9 H hK9 hP hD hS => ?_)
  have hc9 := xcI hK9 hK 3 0 rfl rfl
  rw [hc9] at hP hD
  clear hK9 hc9
  have hP : va_P D vwCl ((x, .inr (1, [.ref lv, .ref kp, .int (nI o), .int (nI ld), .int (nI b), .int (nI k)])) :: (lv, .inl (cT, 6, .inr (.inr (.inr (.inr fL))))) :: (kp, .inl (cT, 246, .inr (.inr (.inr (.inr fK))))) :: ((FZ ++ [(q6, .inr (0, [.int 0, .int 0, .null]))]) ++ [(q13, .inl (cI, 0, .inl (fun _ => 0)))])) H := hP
  have hD : va_D A ((x, .inr (1, [.ref lv, .ref kp, .int (nI o), .int (nI ld), .int (nI b), .int (nI k)])) :: (lv, .inl (cT, 6, .inr (.inr (.inr (.inr fL))))) :: (kp, .inl (cT, 246, .inr (.inr (.inr (.inr fK))))) :: ((FZ ++ [(q6, .inr (0, [.int 0, .int 0, .null]))]) ++ [(q13, .inl (cI, 0, .inl (fun _ => 0)))])) := hD
  have hP := xP_perm (xsw3 _ _ _ _ _ _) hP
  have hD := xD_perm (xsw3 _ _ _ _ _ _) hD
  have hP : va_P D vwCl (((x, .inr (1, [.ref lv, .ref kp, .int (nI o), .int (nI ld), .int (nI b), .int (nI k)])) :: (lv, .inl (cT, 6, .inr (.inr (.inr (.inr fL))))) :: (kp, .inl (cT, 246, .inr (.inr (.inr (.inr fK))))) :: (FZ ++ [(q13, .inl (cI, 0, .inl (fun _ => 0)))])) ++ [(q6, .inr (0, [.int 0, .int 0, .null]))]) H := hP
  have hD : va_D A (((x, .inr (1, [.ref lv, .ref kp, .int (nI o), .int (nI ld), .int (nI b), .int (nI k)])) :: (lv, .inl (cT, 6, .inr (.inr (.inr (.inr fL))))) :: (kp, .inl (cT, 246, .inr (.inr (.inr (.inr fK))))) :: (FZ ++ [(q13, .inl (cI, 0, .inl (fun _ => 0)))])) ++ [(q6, .inr (0, [.int 0, .int 0, .null]))]) := hD
  have hFc := xfree (wc := [(q6, .inr (0, [.int 0, .int 0, .null]))]) hD hS hA (fun _ h => List.mem_append_right _ h)
  have hPc := xP_sub (w2 := [(q6, .inr (0, [.int 0, .int 0, .null]))]) (fun _ h => List.mem_append_right _ h) hP
  have hDc : va_D (fun _ => True) [(q6, .inr (0, [.int 0, .int 0, .null]))] := (xD_sub (List.sublist_append_right _ _) hD).weaken (fun _ _ _ _ => trivial)
  refine va_callv (va_runI (As := [.int (nI 1), .int (nI 0), .ref q13]) (rest := [.ref q6, .int (nI j), .ref x]) ⟨hx, hb, hml, hown, hts⟩ (c_X0_init l q6 q13 H.size (nI 1) (nI 0)) (cwI 3 hts gX1_makeFile_X0_init rfl rfl rfl (hts (.initialized RX0) (by decide +kernel)) (hts (.methodLink RX1 11 yX0_init) (by decide +kernel)) (hts (.instanceMethod yX0_init) (by decide +kernel)) rfl (by decide +kernel) ⟨(Nat.le_of_ble_eq_true rfl), (Nat.le_of_ble_eq_true rfl)⟩) ⟨XP_blind, XP_pre hE ⟨rfl, hPc, hDc⟩⟩ rfl rfl hl.1 rfl (lv_room (Nat.le_of_ble_eq_true rfl)) dX1_makeFile_15 ⟨by first | exact Nat.le_of_ble_eq_true rfl | (show _ + _ ≤ _; omega), by first | exact Nat.le_of_ble_eq_true rfl | (show _ + _ ≤ _; omega)⟩) hS (fun q9 _ h => hFc q9 h) hFc (fun u t9 H1 locs ht9 hvm9 hw9 hB9 hzc hkc hS => ?_)
  obtain ⟨hP1, hD1⟩ := hB9
  rw [ht9] at hP1
  obtain ⟨hP, hD⟩ := xjoin (wr := ((x, .inr (1, [.ref lv, .ref kp, .int (nI o), .int (nI ld), .int (nI b), .int (nI k)])) :: (lv, .inl (cT, 6, .inr (.inr (.inr (.inr fL))))) :: (kp, .inl (cT, 246, .inr (.inr (.inr (.inr fK))))) :: (FZ ++ [(q13, .inl (cI, 0, .inl (fun _ => 0)))]))) (wc := [(q6, .inr (0, [.int 0, .int 0, .null]))]) (w1 := [(q6, .inr (0, [.int (nI 1), .int (nI 0), .ref q13]))]) hP hD hkc hFc hP1 hD1
  generalize H1 = H at hP hS ⊢
  have hP : va_P D vwCl ((x, .inr (1, [.ref lv, .ref kp, .int (nI o), .int (nI ld), .int (nI b), .int (nI k)])) :: (lv, .inl (cT, 6, .inr (.inr (.inr (.inr fL))))) :: (kp, .inl (cT, 246, .inr (.inr (.inr (.inr fK))))) :: ((FZ ++ [(q13, .inl (cI, 0, .inl (fun _ => 0)))]) ++ [(q6, .inr (0, [.int (nI 1), .int (nI 0), .ref q13]))])) H := hP
  have hD : va_D A ((x, .inr (1, [.ref lv, .ref kp, .int (nI o), .int (nI ld), .int (nI b), .int (nI k)])) :: (lv, .inl (cT, 6, .inr (.inr (.inr (.inr fL))))) :: (kp, .inl (cT, 246, .inr (.inr (.inr (.inr fK))))) :: ((FZ ++ [(q13, .inl (cI, 0, .inl (fun _ => 0)))]) ++ [(q6, .inr (0, [.int (nI 1), .int (nI 0), .ref q13]))])) := hD
  have hP : va_P D vwCl ([] ++ (CW cT x lv kp fL fK o ld b k ((FZ ++ [(q13, .inl (cI, 0, .inl (fun _ => 0)))]) ++ [(q6, .inr (0, [.int (nI 1), .int (nI 0), .ref q13]))]))) H := hP
  have hD : va_D A ([] ++ (CW cT x lv kp fL fK o ld b k ((FZ ++ [(q13, .inl (cI, 0, .inl (fun _ => 0)))]) ++ [(q6, .inr (0, [.int (nI 1), .int (nI 0), .ref q13]))]))) := hD
  have hFc := xfree (wc := (CW cT x lv kp fL fK o ld b k ((FZ ++ [(q13, .inl (cI, 0, .inl (fun _ => 0)))]) ++ [(q6, .inr (0, [.int (nI 1), .int (nI 0), .ref q13]))]))) hD hS hA (fun _ h => List.mem_append_right _ h)
  have hPc := xP_sub (w2 := (CW cT x lv kp fL fK o ld b k ((FZ ++ [(q13, .inl (cI, 0, .inl (fun _ => 0)))]) ++ [(q6, .inr (0, [.int (nI 1), .int (nI 0), .ref q13]))]))) (fun _ h => List.mem_append_right _ h) hP
  have hDc : va_D (fun _ => True) (CW cT x lv kp fL fK o ld b k ((FZ ++ [(q13, .inl (cI, 0, .inl (fun _ => 0)))]) ++ [(q6, .inr (0, [.int (nI 1), .int (nI 0), .ref q13]))])) := (xD_sub (List.sublist_append_right _ _) hD).weaken (fun _ _ _ _ => trivial)
  refine va_calli (va_runV (As := [.int (nI j), .ref q6]) (rest := []) ⟨hx, hb, hml, hown, hts⟩ (c_X1_exchange l x lv kp fL fK o ld b k ((FZ ++ [(q13, .inl (cI, 0, .inl (fun _ => 0)))]) ++ [(q6, .inr (0, [.int (nI 1), .int (nI 0), .ref q13]))]) G (hC.app.app) j q6 H.size [.int (nI 1), .int (nI 0), .ref q13] hj (List.mem_append_right _ (List.mem_singleton.mpr rfl))) (cwV 2 hts gX1_makeFile_X1_exchange rfl rfl rfl (by decide +kernel) ⟨(Nat.le_of_ble_eq_true rfl), (Nat.le_of_ble_eq_true rfl)⟩) ⟨XP_blind, va_recv hK hP (ci := 1) (q0 := 0) rfl rfl, XP_pre hE ⟨rfl, hPc, hDc⟩⟩ rfl rfl hl.1 rfl (lv_room (Nat.le_of_ble_eq_true rfl)) dX1_makeFile_18 ⟨by first | exact Nat.le_of_ble_eq_true rfl | (show _ + _ ≤ _; omega), by first | exact Nat.le_of_ble_eq_true rfl | (show _ + _ ≤ _; omega)⟩) hS (fun q9 _ h => hFc q9 h) hFc (fun r9 u t9 H1 locs ht9 hvm9 hw9 hB9 hzc hkc hS => ?_)
  obtain ⟨hP1, hD1⟩ := hB9
  rw [ht9] at hP1
  obtain ⟨hP, hD⟩ := xjoin (wr := []) (wc := (CW cT x lv kp fL fK o ld b k ((FZ ++ [(q13, .inl (cI, 0, .inl (fun _ => 0)))]) ++ [(q6, .inr (0, [.int (nI 1), .int (nI 0), .ref q13]))]))) (w1 := (CW cT x lv kp (va_up fL j (some q6)) fK o ld b k ((FZ ++ [(q13, .inl (cI, 0, .inl (fun _ => 0)))]) ++ [(q6, .inr (0, [.int (nI 1), .int (nI 0), .ref q13]))]))) hP hD hkc hFc hP1 hD1
  generalize H1 = H at hP hS ⊢
  subst hw9
  have hP : va_P D vwCl ((x, .inr (1, [.ref lv, .ref kp, .int (nI o), .int (nI ld), .int (nI b), .int (nI k)])) :: (lv, .inl (cT, 6, .inr (.inr (.inr (.inr (va_up fL j (some q6))))))) :: (kp, .inl (cT, 246, .inr (.inr (.inr (.inr fK))))) :: ((FZ ++ [(q13, .inl (cI, 0, .inl (fun _ => 0)))]) ++ [(q6, .inr (0, [.int (nI 1), .int (nI 0), .ref q13]))])) H := hP
  have hD : va_D A ((x, .inr (1, [.ref lv, .ref kp, .int (nI o), .int (nI ld), .int (nI b), .int (nI k)])) :: (lv, .inl (cT, 6, .inr (.inr (.inr (.inr (va_up fL j (some q6))))))) :: (kp, .inl (cT, 246, .inr (.inr (.inr (.inr fK))))) :: ((FZ ++ [(q13, .inl (cI, 0, .inl (fun _ => 0)))]) ++ [(q6, .inr (0, [.int (nI 1), .int (nI 0), .ref q13]))])) := hD
  refine vx_ret ?_
  refine W.widen (k := 8) (n := 40) (by first | exact Nat.le_of_ble_eq_true rfl | (show _ ≤ 8; omega)) (by first | exact Nat.le_of_ble_eq_true rfl | (show _ ≤ 40; omega)) ?_
  exact W.iret hx hb hr (fun t9 ht9 hW9 => ⟨⟨_, (va_up G (246 + j) (nI 1, nI 0, 0, fun _ => 0), o, ld, b, k), rfl, ⟨j, hj, rfl, rfl, rfl⟩, ⟨_, _, _, by rw [ht9]; exact hP, hD, (hC.app.app).live (v := (nI 1, nI 0, 0, fun _ => 0)) ⟨Nat.le_of_ble_eq_true rfl, _, _, List.mem_append_right _ (List.mem_singleton.mpr rfl), List.mem_append_left _ (List.mem_append_right _ (List.mem_singleton.mpr rfl)), fun _ _ => rfl⟩⟩⟩, hS.F ht9⟩) hS.2.2 dX1_makeFile_21

theorem iw_X1remove_X0 : ∀ w ∈ u_ws RX0 TX0 3, w ∈ wsX1_remove := by decide +kernel
set_option maxHeartbeats 4000000 in
set_option maxRecDepth 100000 in
theorem c_X1_remove (l : Launch) (hst : l.stackTraces = false) {D : va_G} {cI cT cJ : ClassId} (Ax : Nat → Prop) (x lv kp : Nat) (fL fK : Nat → Option Nat) (o ld b k : Nat) (FZ : va_W) (G : Nat → Tv) (hC : CA cI FZ fL fK G) (v : Int32)  (sz : Nat) : vx_Met l yX1_remove wsX1_remove (rmD 8 8 40) (XPx D cI cT cJ Ax [.ref x, .int v] (fun H => H.size = sz ∧ va_P D vwCl (CW cT x lv kp fL fK o ld b k FZ) H ∧ va_D (fun _ => True) (CW cT x lv kp fL fK o ld b k FZ))) (va_Qi (S := Sv) (fun r u => ∃ j, j < 6 ∧ v = nI j ∧ r = (G (246 + j)).1 ∧ u = (va_up G (246 + j) (nI 0, nI 0, 0, fun _ => 0), o, ld, b, k)) (fun u t => CB D cI cT x lv kp (va_A (CW cT x lv kp fL fK o ld b k FZ) sz) u t.heap) (va_A (CW cT x lv kp fL fK o ld b k FZ) sz)) (XXc (fun E => E = nIO ∧ ¬ Pl v)) 8 40 (va_A (CW cT x lv kp fL fK o ld b k FZ) sz) := by
  refine vx_ofW (cc := cX1_remove) (maxL := 2) (ret := (some .int)) (by decide) rfl ?_
  intro p e s m args below meth c s₁ B hml hnt hv
  obtain ⟨rfl, ⟨hsz, hP, hD0⟩, hE, hT⟩ := hv
  have hx := B.exec
  have hb := B.bytes
  have hr := B.returns
  have hts := atoms_spec (ws := wsX1_remove) B.pre
  have hown : s.vm.findClass RX1 = some m.cls := findClass_of_methodNamed B.named
  have hlocks := B.notSynchronized
  have hl := lv_entry ([.ref x, .int v]) (n := 2) (Nat.le_of_ble_eq_true rfl)
  rw [lg_entry_eq]
  generalize (lg_sl ([.ref x, .int v]) ++ List.replicate (2 - (lg_sl ([.ref x, .int v])).length) Slot.unset).toArray = ls at hl ⊢
  have hl : lv_has ls 2 [(0, .ref x), (1, .int v)] := hl
  have hK := hE.1
  subst hsz
  have hD := hD0.self (sz := s.heap.size)
  generalize hAe : va_A (CW cT x lv kp fL fK o ld b k FZ) s.heap.size = A at hD ⊢
  have hA : ∀ q : Nat, s.heap.size ≤ q → A q := fun q h => by rw [← hAe]; exact Or.inr h
  have hS : va_S A s.heap s.heap [] := va_S.rf
  refine lv_iload_n hx hb dX1_remove_0 rfl (lv_at hl 1 rfl) ?_
  refine xcx (vx_runS (As := [.int v]) (rest := []) ⟨hx, hb, hml, hown, hts⟩ (c_X1_checkPlace l hst _ v) (va_cwS 1 hts gX1_remove_X1_checkPlace rfl rfl rfl (by decide +kernel) ⟨(Nat.le_of_ble_eq_true rfl), (Nat.le_of_ble_eq_true rfl)⟩) ⟨XPx_blind, XPx_pre hE hT trivial⟩ rfl rfl hl.1 rfl (lv_room (Nat.le_of_ble_eq_true rfl)) dX1_remove_1 ⟨Nat.le_of_ble_eq_true rfl, Nat.le_of_ble_eq_true rfl⟩) (fun E9 ce9 q9 H1 hp9 hz9 hk9 hc9 hv9 hcl9 => ?_) (fun v9 hw9 => ?_)
  · exact vx_out (fun x h => (hnt x h).elim) hlocks hc9 hv9 hcl9 (fun t9 ht9 _ => ⟨hp9, by rw [ht9]; exact hz9, fun q hq => by rw [ht9]; exact hk9 q hq⟩) (fun _ h => nomatch h) (Nat.le_of_ble_eq_true rfl) (Nat.le_of_ble_eq_true rfl)
  obtain ⟨rfl, ⟨j, hj, rfl⟩⟩ := hw9
  refine W.eq (g2 := F0 m 4 ls []) rfl ?_
  refine lv_aload_n hx hb dX1_remove_4 rfl (lv_at hl 0 rfl) ?_
  refine lv_iload_n hx hb dX1_remove_5 rfl (lv_at hl 1 rfl) ?_
  refine va_new (ci := 0) (fs := [.int 0, .int 0, .null]) (C := RX0) (T := TX0) (N := 3) hx hb hts iw_X1remove_X0 tyX0 tyX0_ok hown (hts (.classLink RX1 7 RX0) (by decide +kernel)) (hts (.instantiable RX0 3) (by decide +kernel)) (hts (.initialized RX0) (by decide +kernel)) hK hP hD hS hA rfl (by intro j hj; match j, hj with | 0, _ => rfl | 1, _ => rfl | 2, _ => rfl) (by first | exact Nat.le_of_ble_eq_true rfl | (show _ ≤ 8; omega)) (by first | exact Nat.le_of_ble_eq_true rfl | (show _ ≤ 40; omega)) dX1_remove_6 (fun q6 H hP hD hS => ?_)
  have hP : va_P D vwCl ((x, .inr (1, [.ref lv, .ref kp, .int (nI o), .int (nI ld), .int (nI b), .int (nI k)])) :: (lv, .inl (cT, 6, .inr (.inr (.inr (.inr fL))))) :: (kp, .inl (cT, 246, .inr (.inr (.inr (.inr fK))))) :: (FZ ++ [(q6, .inr (0, [.int 0, .int 0, .null]))])) H := hP
  have hD : va_D A ((x, .inr (1, [.ref lv, .ref kp, .int (nI o), .int (nI ld), .int (nI b), .int (nI k)])) :: (lv, .inl (cT, 6, .inr (.inr (.inr (.inr fL))))) :: (kp, .inl (cT, 246, .inr (.inr (.inr (.inr fK))))) :: (FZ ++ [(q6, .inr (0, [.int 0, .int 0, .null]))])) := hD
  refine lv_dup hx hb dX1_remove_9 rfl ?_
  refine lv_iconst (v := nI 0) hx hb dX1_remove_10 (by decide) ?_
  refine lv_iconst (v := nI 0) hx hb dX1_remove_11 (by decide) ?_
  refine lv_iconst (v := nI 0) hx hb dX1_remove_12 (by decide) ?_
  refine va_newa (atype := .int) (a0 := (0, .inl (fun _ => 0))) hx hb (hts (.arrayClass .int) (by decide +kernel)) rfl hK hP hD hS hA (fun _ => rfl) (xlt0 (by omega)) (nI_clamp (by omega)) (by show _ * 4 ≤ _; omega) (by first | exact Nat.le_of_ble_eq_true rfl | (show _ + _ ≤ 8; omega)) (by first | exact Nat.le_of_ble_eq_true rfl | (show _ + _ ≤ 40; omega)) dX1_remove_13 (fun q13 cA9 H hK9 hP hD hS => ?_)
  have hc9 := xcI hK9 hK 3 0 rfl rfl
  rw [hc9] at hP hD
  clear hK9 hc9
  have hP : va_P D vwCl ((x, .inr (1, [.ref lv, .ref kp, .int (nI o), .int (nI ld), .int (nI b), .int (nI k)])) :: (lv, .inl (cT, 6, .inr (.inr (.inr (.inr fL))))) :: (kp, .inl (cT, 246, .inr (.inr (.inr (.inr fK))))) :: ((FZ ++ [(q6, .inr (0, [.int 0, .int 0, .null]))]) ++ [(q13, .inl (cI, 0, .inl (fun _ => 0)))])) H := hP
  have hD : va_D A ((x, .inr (1, [.ref lv, .ref kp, .int (nI o), .int (nI ld), .int (nI b), .int (nI k)])) :: (lv, .inl (cT, 6, .inr (.inr (.inr (.inr fL))))) :: (kp, .inl (cT, 246, .inr (.inr (.inr (.inr fK))))) :: ((FZ ++ [(q6, .inr (0, [.int 0, .int 0, .null]))]) ++ [(q13, .inl (cI, 0, .inl (fun _ => 0)))])) := hD
  have hP := xP_perm (xsw3 _ _ _ _ _ _) hP
  have hD := xD_perm (xsw3 _ _ _ _ _ _) hD
  have hP : va_P D vwCl (((x, .inr (1, [.ref lv, .ref kp, .int (nI o), .int (nI ld), .int (nI b), .int (nI k)])) :: (lv, .inl (cT, 6, .inr (.inr (.inr (.inr fL))))) :: (kp, .inl (cT, 246, .inr (.inr (.inr (.inr fK))))) :: (FZ ++ [(q13, .inl (cI, 0, .inl (fun _ => 0)))])) ++ [(q6, .inr (0, [.int 0, .int 0, .null]))]) H := hP
  have hD : va_D A (((x, .inr (1, [.ref lv, .ref kp, .int (nI o), .int (nI ld), .int (nI b), .int (nI k)])) :: (lv, .inl (cT, 6, .inr (.inr (.inr (.inr fL))))) :: (kp, .inl (cT, 246, .inr (.inr (.inr (.inr fK))))) :: (FZ ++ [(q13, .inl (cI, 0, .inl (fun _ => 0)))])) ++ [(q6, .inr (0, [.int 0, .int 0, .null]))]) := hD
  have hFc := xfree (wc := [(q6, .inr (0, [.int 0, .int 0, .null]))]) hD hS hA (fun _ h => List.mem_append_right _ h)
  have hPc := xP_sub (w2 := [(q6, .inr (0, [.int 0, .int 0, .null]))]) (fun _ h => List.mem_append_right _ h) hP
  have hDc : va_D (fun _ => True) [(q6, .inr (0, [.int 0, .int 0, .null]))] := (xD_sub (List.sublist_append_right _ _) hD).weaken (fun _ _ _ _ => trivial)
  refine va_callv (va_runI (As := [.int (nI 0), .int (nI 0), .ref q13]) (rest := [.ref q6, .int (nI j), .ref x]) ⟨hx, hb, hml, hown, hts⟩ (c_X0_init l q6 q13 H.size (nI 0) (nI 0)) (cwI 3 hts gX1_remove_X0_init rfl rfl rfl (hts (.initialized RX0) (by decide +kernel)) (hts (.methodLink RX1 11 yX0_init) (by decide +kernel)) (hts (.instanceMethod yX0_init) (by decide +kernel)) rfl (by decide +kernel) ⟨(Nat.le_of_ble_eq_true rfl), (Nat.le_of_ble_eq_true rfl)⟩) ⟨XP_blind, XP_pre hE ⟨rfl, hPc, hDc⟩⟩ rfl rfl hl.1 rfl (lv_room (Nat.le_of_ble_eq_true rfl)) dX1_remove_15 ⟨by first | exact Nat.le_of_ble_eq_true rfl | (show _ + _ ≤ _; omega), by first | exact Nat.le_of_ble_eq_true rfl | (show _ + _ ≤ _; omega)⟩) hS (fun q9 _ h => hFc q9 h) hFc (fun u t9 H1 locs ht9 hvm9 hw9 hB9 hzc hkc hS => ?_)
  obtain ⟨hP1, hD1⟩ := hB9
  rw [ht9] at hP1
  obtain ⟨hP, hD⟩ := xjoin (wr := ((x, .inr (1, [.ref lv, .ref kp, .int (nI o), .int (nI ld), .int (nI b), .int (nI k)])) :: (lv, .inl (cT, 6, .inr (.inr (.inr (.inr fL))))) :: (kp, .inl (cT, 246, .inr (.inr (.inr (.inr fK))))) :: (FZ ++ [(q13, .inl (cI, 0, .inl (fun _ => 0)))]))) (wc := [(q6, .inr (0, [.int 0, .int 0, .null]))]) (w1 := [(q6, .inr (0, [.int (nI 0), .int (nI 0), .ref q13]))]) hP hD hkc hFc hP1 hD1
  generalize H1 = H at hP hS ⊢
  have hP : va_P D vwCl ((x, .inr (1, [.ref lv, .ref kp, .int (nI o), .int (nI ld), .int (nI b), .int (nI k)])) :: (lv, .inl (cT, 6, .inr (.inr (.inr (.inr fL))))) :: (kp, .inl (cT, 246, .inr (.inr (.inr (.inr fK))))) :: ((FZ ++ [(q13, .inl (cI, 0, .inl (fun _ => 0)))]) ++ [(q6, .inr (0, [.int (nI 0), .int (nI 0), .ref q13]))])) H := hP
  have hD : va_D A ((x, .inr (1, [.ref lv, .ref kp, .int (nI o), .int (nI ld), .int (nI b), .int (nI k)])) :: (lv, .inl (cT, 6, .inr (.inr (.inr (.inr fL))))) :: (kp, .inl (cT, 246, .inr (.inr (.inr (.inr fK))))) :: ((FZ ++ [(q13, .inl (cI, 0, .inl (fun _ => 0)))]) ++ [(q6, .inr (0, [.int (nI 0), .int (nI 0), .ref q13]))])) := hD
  have hP : va_P D vwCl ([] ++ (CW cT x lv kp fL fK o ld b k ((FZ ++ [(q13, .inl (cI, 0, .inl (fun _ => 0)))]) ++ [(q6, .inr (0, [.int (nI 0), .int (nI 0), .ref q13]))]))) H := hP
  have hD : va_D A ([] ++ (CW cT x lv kp fL fK o ld b k ((FZ ++ [(q13, .inl (cI, 0, .inl (fun _ => 0)))]) ++ [(q6, .inr (0, [.int (nI 0), .int (nI 0), .ref q13]))]))) := hD
  have hFc := xfree (wc := (CW cT x lv kp fL fK o ld b k ((FZ ++ [(q13, .inl (cI, 0, .inl (fun _ => 0)))]) ++ [(q6, .inr (0, [.int (nI 0), .int (nI 0), .ref q13]))]))) hD hS hA (fun _ h => List.mem_append_right _ h)
  have hPc := xP_sub (w2 := (CW cT x lv kp fL fK o ld b k ((FZ ++ [(q13, .inl (cI, 0, .inl (fun _ => 0)))]) ++ [(q6, .inr (0, [.int (nI 0), .int (nI 0), .ref q13]))]))) (fun _ h => List.mem_append_right _ h) hP
  have hDc : va_D (fun _ => True) (CW cT x lv kp fL fK o ld b k ((FZ ++ [(q13, .inl (cI, 0, .inl (fun _ => 0)))]) ++ [(q6, .inr (0, [.int (nI 0), .int (nI 0), .ref q13]))])) := (xD_sub (List.sublist_append_right _ _) hD).weaken (fun _ _ _ _ => trivial)
  refine va_calli (va_runV (As := [.int (nI j), .ref q6]) (rest := []) ⟨hx, hb, hml, hown, hts⟩ (c_X1_exchange l x lv kp fL fK o ld b k ((FZ ++ [(q13, .inl (cI, 0, .inl (fun _ => 0)))]) ++ [(q6, .inr (0, [.int (nI 0), .int (nI 0), .ref q13]))]) G (hC.app.app) j q6 H.size [.int (nI 0), .int (nI 0), .ref q13] hj (List.mem_append_right _ (List.mem_singleton.mpr rfl))) (cwV 2 hts gX1_remove_X1_exchange rfl rfl rfl (by decide +kernel) ⟨(Nat.le_of_ble_eq_true rfl), (Nat.le_of_ble_eq_true rfl)⟩) ⟨XP_blind, va_recv hK hP (ci := 1) (q0 := 0) rfl rfl, XP_pre hE ⟨rfl, hPc, hDc⟩⟩ rfl rfl hl.1 rfl (lv_room (Nat.le_of_ble_eq_true rfl)) dX1_remove_18 ⟨by first | exact Nat.le_of_ble_eq_true rfl | (show _ + _ ≤ _; omega), by first | exact Nat.le_of_ble_eq_true rfl | (show _ + _ ≤ _; omega)⟩) hS (fun q9 _ h => hFc q9 h) hFc (fun r9 u t9 H1 locs ht9 hvm9 hw9 hB9 hzc hkc hS => ?_)
  obtain ⟨hP1, hD1⟩ := hB9
  rw [ht9] at hP1
  obtain ⟨hP, hD⟩ := xjoin (wr := []) (wc := (CW cT x lv kp fL fK o ld b k ((FZ ++ [(q13, .inl (cI, 0, .inl (fun _ => 0)))]) ++ [(q6, .inr (0, [.int (nI 0), .int (nI 0), .ref q13]))]))) (w1 := (CW cT x lv kp (va_up fL j (some q6)) fK o ld b k ((FZ ++ [(q13, .inl (cI, 0, .inl (fun _ => 0)))]) ++ [(q6, .inr (0, [.int (nI 0), .int (nI 0), .ref q13]))]))) hP hD hkc hFc hP1 hD1
  generalize H1 = H at hP hS ⊢
  subst hw9
  have hP : va_P D vwCl ((x, .inr (1, [.ref lv, .ref kp, .int (nI o), .int (nI ld), .int (nI b), .int (nI k)])) :: (lv, .inl (cT, 6, .inr (.inr (.inr (.inr (va_up fL j (some q6))))))) :: (kp, .inl (cT, 246, .inr (.inr (.inr (.inr fK))))) :: ((FZ ++ [(q13, .inl (cI, 0, .inl (fun _ => 0)))]) ++ [(q6, .inr (0, [.int (nI 0), .int (nI 0), .ref q13]))])) H := hP
  have hD : va_D A ((x, .inr (1, [.ref lv, .ref kp, .int (nI o), .int (nI ld), .int (nI b), .int (nI k)])) :: (lv, .inl (cT, 6, .inr (.inr (.inr (.inr (va_up fL j (some q6))))))) :: (kp, .inl (cT, 246, .inr (.inr (.inr (.inr fK))))) :: ((FZ ++ [(q13, .inl (cI, 0, .inl (fun _ => 0)))]) ++ [(q6, .inr (0, [.int (nI 0), .int (nI 0), .ref q13]))])) := hD
  refine vx_ret ?_
  refine W.widen (k := 8) (n := 40) (by first | exact Nat.le_of_ble_eq_true rfl | (show _ ≤ 8; omega)) (by first | exact Nat.le_of_ble_eq_true rfl | (show _ ≤ 40; omega)) ?_
  exact W.iret hx hb hr (fun t9 ht9 hW9 => ⟨⟨_, (va_up G (246 + j) (nI 0, nI 0, 0, fun _ => 0), o, ld, b, k), rfl, ⟨j, hj, rfl, rfl, rfl⟩, ⟨_, _, _, by rw [ht9]; exact hP, hD, (hC.app.app).live (v := (nI 0, nI 0, 0, fun _ => 0)) ⟨Nat.le_of_ble_eq_true rfl, _, _, List.mem_append_right _ (List.mem_singleton.mpr rfl), List.mem_append_left _ (List.mem_append_right _ (List.mem_singleton.mpr rfl)), fun _ _ => rfl⟩⟩⟩, hS.F ht9⟩) hS.2.2 dX1_remove_21

theorem iw_X1makeLink_X0 : ∀ w ∈ u_ws RX0 TX0 3, w ∈ wsX1_makeLink := by decide +kernel
set_option maxHeartbeats 4000000 in
set_option maxRecDepth 100000 in
theorem c_X1_makeLink (l : Launch) (hst : l.stackTraces = false) {D : va_G} {cI cT cJ : ClassId} (Ax : Nat → Prop) (x lv kp : Nat) (fL fK : Nat → Option Nat) (o ld b k : Nat) (FZ : va_W) (G : Nat → Tv) (hC : CA cI FZ fL fK G) (v w : Int32)  (sz : Nat) : vx_Met l yX1_makeLink wsX1_makeLink (rmD 8 8 40) (XPx D cI cT cJ Ax [.ref x, .int v, .int w] (fun H => H.size = sz ∧ va_P D vwCl (CW cT x lv kp fL fK o ld b k FZ) H ∧ va_D (fun _ => True) (CW cT x lv kp fL fK o ld b k FZ))) (va_Qi (S := Sv) (fun r u => ∃ j t, j < 6 ∧ t < 6 ∧ v = nI j ∧ w = nI t ∧ r = (G (246 + j)).1 ∧ u = (va_up G (246 + j) (nI 2, nI 0, 1, fun _ => nI t), o, ld, b, k)) (fun u t => CB D cI cT x lv kp (va_A (CW cT x lv kp fL fK o ld b k FZ) sz) u t.heap) (va_A (CW cT x lv kp fL fK o ld b k FZ) sz)) (XXc (fun E => E = nIO ∧ ¬ (Pl v ∧ Pl w))) 8 40 (va_A (CW cT x lv kp fL fK o ld b k FZ) sz) := by
  refine vx_ofW (cc := cX1_makeLink) (maxL := 3) (ret := (some .int)) (by decide) rfl ?_
  intro p e s m args below meth c s₁ B hml hnt hv
  obtain ⟨rfl, ⟨hsz, hP, hD0⟩, hE, hT⟩ := hv
  have hx := B.exec
  have hb := B.bytes
  have hr := B.returns
  have hts := atoms_spec (ws := wsX1_makeLink) B.pre
  have hown : s.vm.findClass RX1 = some m.cls := findClass_of_methodNamed B.named
  have hlocks := B.notSynchronized
  have hl := lv_entry ([.ref x, .int v, .int w]) (n := 3) (Nat.le_of_ble_eq_true rfl)
  rw [lg_entry_eq]
  generalize (lg_sl ([.ref x, .int v, .int w]) ++ List.replicate (3 - (lg_sl ([.ref x, .int v, .int w])).length) Slot.unset).toArray = ls at hl ⊢
  have hl : lv_has ls 3 [(0, .ref x), (1, .int v), (2, .int w)] := hl
  have hK := hE.1
  subst hsz
  have hD := hD0.self (sz := s.heap.size)
  generalize hAe : va_A (CW cT x lv kp fL fK o ld b k FZ) s.heap.size = A at hD ⊢
  have hA : ∀ q : Nat, s.heap.size ≤ q → A q := fun q h => by rw [← hAe]; exact Or.inr h
  have hS : va_S A s.heap s.heap [] := va_S.rf
  refine lv_iload_n hx hb dX1_makeLink_0 rfl (lv_at hl 1 rfl) ?_
  refine xcx (vx_runS (As := [.int v]) (rest := []) ⟨hx, hb, hml, hown, hts⟩ (c_X1_checkPlace l hst _ v) (va_cwS 1 hts gX1_makeLink_X1_checkPlace rfl rfl rfl (by decide +kernel) ⟨(Nat.le_of_ble_eq_true rfl), (Nat.le_of_ble_eq_true rfl)⟩) ⟨XPx_blind, XPx_pre hE hT trivial⟩ rfl rfl hl.1 rfl (lv_room (Nat.le_of_ble_eq_true rfl)) dX1_makeLink_1 ⟨Nat.le_of_ble_eq_true rfl, Nat.le_of_ble_eq_true rfl⟩) (fun E9 ce9 q9 H1 hp9 hz9 hk9 hc9 hv9 hcl9 => ?_) (fun v9 hw9 => ?_)
  · exact vx_out (fun x h => (hnt x h).elim) hlocks hc9 hv9 hcl9 (fun t9 ht9 _ => ⟨⟨hp9.1, fun h => hp9.2 h.1⟩, by rw [ht9]; exact hz9, fun q hq => by rw [ht9]; exact hk9 q hq⟩) (fun _ h => nomatch h) (Nat.le_of_ble_eq_true rfl) (Nat.le_of_ble_eq_true rfl)
  obtain ⟨rfl, ⟨j, hj, rfl⟩⟩ := hw9
  refine W.eq (g2 := F0 m 4 ls []) rfl ?_
  refine lv_iload_n hx hb dX1_makeLink_4 rfl (lv_at hl 2 rfl) ?_
  refine xcx (vx_runS (As := [.int w]) (rest := []) ⟨hx, hb, hml, hown, hts⟩ (c_X1_checkPlace l hst _ w) (va_cwS 1 hts gX1_makeLink_X1_checkPlace rfl rfl rfl (by decide +kernel) ⟨(Nat.le_of_ble_eq_true rfl), (Nat.le_of_ble_eq_true rfl)⟩) ⟨XPx_blind, XPx_pre hE hT trivial⟩ rfl rfl hl.1 rfl (lv_room (Nat.le_of_ble_eq_true rfl)) dX1_makeLink_5 ⟨Nat.le_of_ble_eq_true rfl, Nat.le_of_ble_eq_true rfl⟩) (fun E9 ce9 q9 H1 hp9 hz9 hk9 hc9 hv9 hcl9 => ?_) (fun v9 hw9 => ?_)
  · exact vx_out (fun x h => (hnt x h).elim) hlocks hc9 hv9 hcl9 (fun t9 ht9 _ => ⟨⟨hp9.1, fun h => hp9.2 h.2⟩, by rw [ht9]; exact hz9, fun q hq => by rw [ht9]; exact hk9 q hq⟩) (fun _ h => nomatch h) (Nat.le_of_ble_eq_true rfl) (Nat.le_of_ble_eq_true rfl)
  obtain ⟨rfl, ⟨t, ht, rfl⟩⟩ := hw9
  refine W.eq (g2 := F0 m 8 ls []) rfl ?_
  refine lv_aload_n hx hb dX1_makeLink_8 rfl (lv_at hl 0 rfl) ?_
  refine lv_iload_n hx hb dX1_makeLink_9 rfl (lv_at hl 1 rfl) ?_
  refine va_new (ci := 0) (fs := [.int 0, .int 0, .null]) (C := RX0) (T := TX0) (N := 3) hx hb hts iw_X1makeLink_X0 tyX0 tyX0_ok hown (hts (.classLink RX1 7 RX0) (by decide +kernel)) (hts (.instantiable RX0 3) (by decide +kernel)) (hts (.initialized RX0) (by decide +kernel)) hK hP hD hS hA rfl (by intro j hj; match j, hj with | 0, _ => rfl | 1, _ => rfl | 2, _ => rfl) (by first | exact Nat.le_of_ble_eq_true rfl | (show _ ≤ 8; omega)) (by first | exact Nat.le_of_ble_eq_true rfl | (show _ ≤ 40; omega)) dX1_makeLink_10 (fun q10 H hP hD hS => ?_)
  have hP : va_P D vwCl ((x, .inr (1, [.ref lv, .ref kp, .int (nI o), .int (nI ld), .int (nI b), .int (nI k)])) :: (lv, .inl (cT, 6, .inr (.inr (.inr (.inr fL))))) :: (kp, .inl (cT, 246, .inr (.inr (.inr (.inr fK))))) :: (FZ ++ [(q10, .inr (0, [.int 0, .int 0, .null]))])) H := hP
  have hD : va_D A ((x, .inr (1, [.ref lv, .ref kp, .int (nI o), .int (nI ld), .int (nI b), .int (nI k)])) :: (lv, .inl (cT, 6, .inr (.inr (.inr (.inr fL))))) :: (kp, .inl (cT, 246, .inr (.inr (.inr (.inr fK))))) :: (FZ ++ [(q10, .inr (0, [.int 0, .int 0, .null]))])) := hD
  refine lv_dup hx hb dX1_makeLink_13 rfl ?_
  refine lv_iconst (v := nI 2) hx hb dX1_makeLink_14 (by decide) ?_
  refine lv_iconst (v := nI 0) hx hb dX1_makeLink_15 (by decide) ?_
  refine lv_iconst (v := nI 1) hx hb dX1_makeLink_16 (by decide) ?_
  refine va_newa (atype := .int) (a0 := (1, .inl (fun _ => 0))) hx hb (hts (.arrayClass .int) (by decide +kernel)) rfl hK hP hD hS hA (fun _ => rfl) (xlt0 (by omega)) (nI_clamp (by omega)) (by show _ * 4 ≤ _; omega) (by first | exact Nat.le_of_ble_eq_true rfl | (show _ + _ ≤ 8; omega)) (by first | exact Nat.le_of_ble_eq_true rfl | (show _ + _ ≤ 40; omega)) dX1_makeLink_17 (fun q17 cA9 H hK9 hP hD hS => ?_)
  have hc9 := xcI hK9 hK 3 0 rfl rfl
  rw [hc9] at hP hD
  clear hK9 hc9
  have hP : va_P D vwCl ((x, .inr (1, [.ref lv, .ref kp, .int (nI o), .int (nI ld), .int (nI b), .int (nI k)])) :: (lv, .inl (cT, 6, .inr (.inr (.inr (.inr fL))))) :: (kp, .inl (cT, 246, .inr (.inr (.inr (.inr fK))))) :: ((FZ ++ [(q10, .inr (0, [.int 0, .int 0, .null]))]) ++ [(q17, .inl (cI, 1, .inl (fun _ => 0)))])) H := hP
  have hD : va_D A ((x, .inr (1, [.ref lv, .ref kp, .int (nI o), .int (nI ld), .int (nI b), .int (nI k)])) :: (lv, .inl (cT, 6, .inr (.inr (.inr (.inr fL))))) :: (kp, .inl (cT, 246, .inr (.inr (.inr (.inr fK))))) :: ((FZ ++ [(q10, .inr (0, [.int 0, .int 0, .null]))]) ++ [(q17, .inl (cI, 1, .inl (fun _ => 0)))])) := hD
  refine lv_dup hx hb dX1_makeLink_19 rfl ?_
  refine lv_iconst (v := nI 0) hx hb dX1_makeLink_20 (by decide) ?_
  refine lv_iload_n hx hb dX1_makeLink_21 rfl (lv_at hl 2 rfl) ?_
  have hP : va_P D vwCl (((x, .inr (1, [.ref lv, .ref kp, .int (nI o), .int (nI ld), .int (nI b), .int (nI k)])) :: (lv, .inl (cT, 6, .inr (.inr (.inr (.inr fL))))) :: (kp, .inl (cT, 246, .inr (.inr (.inr (.inr fK))))) :: (FZ ++ [(q10, .inr (0, [.int 0, .int 0, .null]))])) ++ [(q17, .inl (cI, 1, .inl (fun _ => 0)))]) H := hP
  have hD : va_D A (((x, .inr (1, [.ref lv, .ref kp, .int (nI o), .int (nI ld), .int (nI b), .int (nI k)])) :: (lv, .inl (cT, 6, .inr (.inr (.inr (.inr fL))))) :: (kp, .inl (cT, 246, .inr (.inr (.inr (.inr fK))))) :: (FZ ++ [(q10, .inr (0, [.int 0, .int 0, .null]))])) ++ [(q17, .inl (cI, 1, .inl (fun _ => 0)))]) := hD
  refine va_iast hx hb hK hP hD hS (((x, .inr (1, [.ref lv, .ref kp, .int (nI o), .int (nI ld), .int (nI b), .int (nI k)])) :: (lv, .inl (cT, 6, .inr (.inr (.inr (.inr fL))))) :: (kp, .inl (cT, 246, .inr (.inr (.inr (.inr fK))))) :: (FZ ++ [(q10, .inr (0, [.int 0, .int 0, .null]))]))).length 0 (xlast _ _) rfl (xin (by omega) (by omega)) dX1_makeLink_22 (fun H locs hP hD hS => ?_)
  rw [nI_clamp (show 0 < 2 ^ 31 by omega)] at hP hD
  rw [xsetl] at hP hD
  have hP : va_P D vwCl ((x, .inr (1, [.ref lv, .ref kp, .int (nI o), .int (nI ld), .int (nI b), .int (nI k)])) :: (lv, .inl (cT, 6, .inr (.inr (.inr (.inr fL))))) :: (kp, .inl (cT, 246, .inr (.inr (.inr (.inr fK))))) :: ((FZ ++ [(q10, .inr (0, [.int 0, .int 0, .null]))]) ++ [(q17, .inl (cI, 1, .inl (upd (fun _ => 0) 0 (nI t))))])) H := hP
  have hD : va_D A ((x, .inr (1, [.ref lv, .ref kp, .int (nI o), .int (nI ld), .int (nI b), .int (nI k)])) :: (lv, .inl (cT, 6, .inr (.inr (.inr (.inr fL))))) :: (kp, .inl (cT, 246, .inr (.inr (.inr (.inr fK))))) :: ((FZ ++ [(q10, .inr (0, [.int 0, .int 0, .null]))]) ++ [(q17, .inl (cI, 1, .inl (upd (fun _ => 0) 0 (nI t))))])) := hD
  have hP := xP_perm (xsw3 _ _ _ _ _ _) hP
  have hD := xD_perm (xsw3 _ _ _ _ _ _) hD
  have hP : va_P D vwCl (((x, .inr (1, [.ref lv, .ref kp, .int (nI o), .int (nI ld), .int (nI b), .int (nI k)])) :: (lv, .inl (cT, 6, .inr (.inr (.inr (.inr fL))))) :: (kp, .inl (cT, 246, .inr (.inr (.inr (.inr fK))))) :: (FZ ++ [(q17, .inl (cI, 1, .inl (upd (fun _ => 0) 0 (nI t))))])) ++ [(q10, .inr (0, [.int 0, .int 0, .null]))]) H := hP
  have hD : va_D A (((x, .inr (1, [.ref lv, .ref kp, .int (nI o), .int (nI ld), .int (nI b), .int (nI k)])) :: (lv, .inl (cT, 6, .inr (.inr (.inr (.inr fL))))) :: (kp, .inl (cT, 246, .inr (.inr (.inr (.inr fK))))) :: (FZ ++ [(q17, .inl (cI, 1, .inl (upd (fun _ => 0) 0 (nI t))))])) ++ [(q10, .inr (0, [.int 0, .int 0, .null]))]) := hD
  have hFc := xfree (wc := [(q10, .inr (0, [.int 0, .int 0, .null]))]) hD hS hA (fun _ h => List.mem_append_right _ h)
  have hPc := xP_sub (w2 := [(q10, .inr (0, [.int 0, .int 0, .null]))]) (fun _ h => List.mem_append_right _ h) hP
  have hDc : va_D (fun _ => True) [(q10, .inr (0, [.int 0, .int 0, .null]))] := (xD_sub (List.sublist_append_right _ _) hD).weaken (fun _ _ _ _ => trivial)
  refine va_callv (va_runI (As := [.int (nI 2), .int (nI 0), .ref q17]) (rest := [.ref q10, .int (nI j), .ref x]) ⟨hx, hb, hml, hown, hts⟩ (c_X0_init l q10 q17 H.size (nI 2) (nI 0)) (cwI 3 hts gX1_makeLink_X0_init rfl rfl rfl (hts (.initialized RX0) (by decide +kernel)) (hts (.methodLink RX1 11 yX0_init) (by decide +kernel)) (hts (.instanceMethod yX0_init) (by decide +kernel)) rfl (by decide +kernel) ⟨(Nat.le_of_ble_eq_true rfl), (Nat.le_of_ble_eq_true rfl)⟩) ⟨XP_blind, XP_pre hE ⟨rfl, hPc, hDc⟩⟩ rfl rfl hl.1 rfl (lv_room (Nat.le_of_ble_eq_true rfl)) dX1_makeLink_23 ⟨by first | exact Nat.le_of_ble_eq_true rfl | (show _ + _ ≤ _; omega), by first | exact Nat.le_of_ble_eq_true rfl | (show _ + _ ≤ _; omega)⟩) hS (fun q9 _ h => hFc q9 h) hFc (fun u t9 H1 locs ht9 hvm9 hw9 hB9 hzc hkc hS => ?_)
  obtain ⟨hP1, hD1⟩ := hB9
  rw [ht9] at hP1
  obtain ⟨hP, hD⟩ := xjoin (wr := ((x, .inr (1, [.ref lv, .ref kp, .int (nI o), .int (nI ld), .int (nI b), .int (nI k)])) :: (lv, .inl (cT, 6, .inr (.inr (.inr (.inr fL))))) :: (kp, .inl (cT, 246, .inr (.inr (.inr (.inr fK))))) :: (FZ ++ [(q17, .inl (cI, 1, .inl (upd (fun _ => 0) 0 (nI t))))]))) (wc := [(q10, .inr (0, [.int 0, .int 0, .null]))]) (w1 := [(q10, .inr (0, [.int (nI 2), .int (nI 0), .ref q17]))]) hP hD hkc hFc hP1 hD1
  generalize H1 = H at hP hS ⊢
  have hP : va_P D vwCl ((x, .inr (1, [.ref lv, .ref kp, .int (nI o), .int (nI ld), .int (nI b), .int (nI k)])) :: (lv, .inl (cT, 6, .inr (.inr (.inr (.inr fL))))) :: (kp, .inl (cT, 246, .inr (.inr (.inr (.inr fK))))) :: ((FZ ++ [(q17, .inl (cI, 1, .inl (upd (fun _ => 0) 0 (nI t))))]) ++ [(q10, .inr (0, [.int (nI 2), .int (nI 0), .ref q17]))])) H := hP
  have hD : va_D A ((x, .inr (1, [.ref lv, .ref kp, .int (nI o), .int (nI ld), .int (nI b), .int (nI k)])) :: (lv, .inl (cT, 6, .inr (.inr (.inr (.inr fL))))) :: (kp, .inl (cT, 246, .inr (.inr (.inr (.inr fK))))) :: ((FZ ++ [(q17, .inl (cI, 1, .inl (upd (fun _ => 0) 0 (nI t))))]) ++ [(q10, .inr (0, [.int (nI 2), .int (nI 0), .ref q17]))])) := hD
  have hP : va_P D vwCl ([] ++ (CW cT x lv kp fL fK o ld b k ((FZ ++ [(q17, .inl (cI, 1, .inl (upd (fun _ => 0) 0 (nI t))))]) ++ [(q10, .inr (0, [.int (nI 2), .int (nI 0), .ref q17]))]))) H := hP
  have hD : va_D A ([] ++ (CW cT x lv kp fL fK o ld b k ((FZ ++ [(q17, .inl (cI, 1, .inl (upd (fun _ => 0) 0 (nI t))))]) ++ [(q10, .inr (0, [.int (nI 2), .int (nI 0), .ref q17]))]))) := hD
  have hFc := xfree (wc := (CW cT x lv kp fL fK o ld b k ((FZ ++ [(q17, .inl (cI, 1, .inl (upd (fun _ => 0) 0 (nI t))))]) ++ [(q10, .inr (0, [.int (nI 2), .int (nI 0), .ref q17]))]))) hD hS hA (fun _ h => List.mem_append_right _ h)
  have hPc := xP_sub (w2 := (CW cT x lv kp fL fK o ld b k ((FZ ++ [(q17, .inl (cI, 1, .inl (upd (fun _ => 0) 0 (nI t))))]) ++ [(q10, .inr (0, [.int (nI 2), .int (nI 0), .ref q17]))]))) (fun _ h => List.mem_append_right _ h) hP
  have hDc : va_D (fun _ => True) (CW cT x lv kp fL fK o ld b k ((FZ ++ [(q17, .inl (cI, 1, .inl (upd (fun _ => 0) 0 (nI t))))]) ++ [(q10, .inr (0, [.int (nI 2), .int (nI 0), .ref q17]))])) := (xD_sub (List.sublist_append_right _ _) hD).weaken (fun _ _ _ _ => trivial)
  refine va_calli (va_runV (As := [.int (nI j), .ref q10]) (rest := []) ⟨hx, hb, hml, hown, hts⟩ (c_X1_exchange l x lv kp fL fK o ld b k ((FZ ++ [(q17, .inl (cI, 1, .inl (upd (fun _ => 0) 0 (nI t))))]) ++ [(q10, .inr (0, [.int (nI 2), .int (nI 0), .ref q17]))]) G (hC.app.app) j q10 H.size [.int (nI 2), .int (nI 0), .ref q17] hj (List.mem_append_right _ (List.mem_singleton.mpr rfl))) (cwV 2 hts gX1_makeLink_X1_exchange rfl rfl rfl (by decide +kernel) ⟨(Nat.le_of_ble_eq_true rfl), (Nat.le_of_ble_eq_true rfl)⟩) ⟨XP_blind, va_recv hK hP (ci := 1) (q0 := 0) rfl rfl, XP_pre hE ⟨rfl, hPc, hDc⟩⟩ rfl rfl hl.1 rfl (lv_room (Nat.le_of_ble_eq_true rfl)) dX1_makeLink_26 ⟨by first | exact Nat.le_of_ble_eq_true rfl | (show _ + _ ≤ _; omega), by first | exact Nat.le_of_ble_eq_true rfl | (show _ + _ ≤ _; omega)⟩) hS (fun q9 _ h => hFc q9 h) hFc (fun r9 u t9 H1 locs ht9 hvm9 hw9 hB9 hzc hkc hS => ?_)
  obtain ⟨hP1, hD1⟩ := hB9
  rw [ht9] at hP1
  obtain ⟨hP, hD⟩ := xjoin (wr := []) (wc := (CW cT x lv kp fL fK o ld b k ((FZ ++ [(q17, .inl (cI, 1, .inl (upd (fun _ => 0) 0 (nI t))))]) ++ [(q10, .inr (0, [.int (nI 2), .int (nI 0), .ref q17]))]))) (w1 := (CW cT x lv kp (va_up fL j (some q10)) fK o ld b k ((FZ ++ [(q17, .inl (cI, 1, .inl (upd (fun _ => 0) 0 (nI t))))]) ++ [(q10, .inr (0, [.int (nI 2), .int (nI 0), .ref q17]))]))) hP hD hkc hFc hP1 hD1
  generalize H1 = H at hP hS ⊢
  subst hw9
  have hP : va_P D vwCl ((x, .inr (1, [.ref lv, .ref kp, .int (nI o), .int (nI ld), .int (nI b), .int (nI k)])) :: (lv, .inl (cT, 6, .inr (.inr (.inr (.inr (va_up fL j (some q10))))))) :: (kp, .inl (cT, 246, .inr (.inr (.inr (.inr fK))))) :: ((FZ ++ [(q17, .inl (cI, 1, .inl (upd (fun _ => 0) 0 (nI t))))]) ++ [(q10, .inr (0, [.int (nI 2), .int (nI 0), .ref q17]))])) H := hP
  have hD : va_D A ((x, .inr (1, [.ref lv, .ref kp, .int (nI o), .int (nI ld), .int (nI b), .int (nI k)])) :: (lv, .inl (cT, 6, .inr (.inr (.inr (.inr (va_up fL j (some q10))))))) :: (kp, .inl (cT, 246, .inr (.inr (.inr (.inr fK))))) :: ((FZ ++ [(q17, .inl (cI, 1, .inl (upd (fun _ => 0) 0 (nI t))))]) ++ [(q10, .inr (0, [.int (nI 2), .int (nI 0), .ref q17]))])) := hD
  refine vx_ret ?_
  refine W.widen (k := 8) (n := 40) (by first | exact Nat.le_of_ble_eq_true rfl | (show _ ≤ 8; omega)) (by first | exact Nat.le_of_ble_eq_true rfl | (show _ ≤ 40; omega)) ?_
  exact W.iret hx hb hr (fun t9 ht9 hW9 => ⟨⟨_, (va_up G (246 + j) (nI 2, nI 0, 1, fun _ => nI t), o, ld, b, k), rfl, ⟨j, t, hj, ht, rfl, rfl, rfl, rfl⟩, ⟨_, _, _, by rw [ht9]; exact hP, hD, (hC.app.app).live (v := (nI 2, nI 0, 1, fun _ => nI t)) ⟨Nat.le_of_ble_eq_true rfl, _, _, List.mem_append_right _ (List.mem_singleton.mpr rfl), List.mem_append_left _ (List.mem_append_right _ (List.mem_singleton.mpr rfl)), fun i hi => by rw [show i = 0 from Nat.lt_one_iff.mp hi, pk_us]⟩⟩⟩, hS.F ht9⟩) hS.2.2 dX1_makeLink_29

theorem iw_X1put_X0 : ∀ w ∈ u_ws RX0 TX0 3, w ∈ wsX1_put := by decide +kernel
theorem iw_X1put_X1 : ∀ w ∈ u_ws RX1 TX1 6, w ∈ wsX1_put := by decide +kernel
set_option maxHeartbeats 4000000 in
set_option maxRecDepth 100000 in
theorem c_X1_put (l : Launch) (hst : l.stackTraces = false) {D : va_G} {cI cT cJ : ClassId} (Ax : Nat → Prop) (x lv kp : Nat) (fL fK : Nat → Option Nat) (o ld b k : Nat) (FZ : va_W) (G : Nat → Tv) (hC : CA cI FZ fL fK G) (v w z : Int32)  (sz : Nat) : vx_Met l yX1_put wsX1_put (rmD 8 8 40) (XPx D cI cT cJ Ax [.ref x, .int v, .int w, .int z] (fun H => H.size = sz ∧ va_P D vwCl (CW cT x lv kp fL fK o ld b k FZ) H ∧ va_D (fun _ => True) (CW cT x lv kp fL fK o ld b k FZ))) (va_Qi (S := Sv) (fun r u => ∃ j sp y, j < 6 ∧ v = nI j ∧ PutK (G (246 + j)) ∧ sp ≤ (G (246 + j)).2.2.1 ∧ w = nI sp ∧ y ≤ 9 ∧ z = nI y ∧ r = nI ((G (246 + j)).2.2.1 + 1) ∧ u = (va_up G (246 + j) (nI 1, (G (246 + j)).2.1, (G (246 + j)).2.2.1 + 1, insR (G (246 + j)).2.2.2 sp (nI y)), o, ld, b, k)) (fun u t => CB D cI cT x lv kp (va_A (CW cT x lv kp fL fK o ld b k FZ) sz) u t.heap) (va_A (CW cT x lv kp fL fK o ld b k FZ) sz)) (XXc (fun E => (E = nIO ∧ ¬ Pl v) ∨ (E = nIS ∧ ∃ j, j < 6 ∧ v = nI j ∧ ¬ PutK (G (246 + j))) ∨ (E = nIA ∧ ∃ j, j < 6 ∧ v = nI j ∧ PutK (G (246 + j)) ∧ ¬ ∃ sp y, sp ≤ (G (246 + j)).2.2.1 ∧ w = nI sp ∧ y ≤ 9 ∧ z = nI y))) 8 40 (va_A (CW cT x lv kp fL fK o ld b k FZ) sz) := by
  refine vx_ofW (cc := cX1_put) (maxL := 6) (ret := (some .int)) (by decide) rfl ?_
  intro p e s m args below meth c s₁ B hml hnt hv
  obtain ⟨rfl, ⟨hsz, hP, hD0⟩, hE, hT⟩ := hv
  have hx := B.exec
  have hb := B.bytes
  have hr := B.returns
  have hts := atoms_spec (ws := wsX1_put) B.pre
  have hown : s.vm.findClass RX1 = some m.cls := findClass_of_methodNamed B.named
  have hlocks := B.notSynchronized
  have hl := lv_entry ([.ref x, .int v, .int w, .int z]) (n := 6) (Nat.le_of_ble_eq_true rfl)
  rw [lg_entry_eq]
  generalize (lg_sl ([.ref x, .int v, .int w, .int z]) ++ List.replicate (6 - (lg_sl ([.ref x, .int v, .int w, .int z])).length) Slot.unset).toArray = ls at hl ⊢
  have hl : lv_has ls 6 [(0, .ref x), (1, .int v), (2, .int w), (3, .int z)] := hl
  have hK := hE.1
  subst hsz
  have hD := hD0.self (sz := s.heap.size)
  generalize hAe : va_A (CW cT x lv kp fL fK o ld b k FZ) s.heap.size = A at hD ⊢
  have hA : ∀ q : Nat, s.heap.size ≤ q → A q := fun q h => by rw [← hAe]; exact Or.inr h
  have hS : va_S A s.heap s.heap [] := va_S.rf
  refine lv_iload_n hx hb dX1_put_0 rfl (lv_at hl 1 rfl) ?_
  refine xcx (vx_runS (As := [.int v]) (rest := []) ⟨hx, hb, hml, hown, hts⟩ (c_X1_checkPlace l hst _ v) (va_cwS 1 hts gX1_put_X1_checkPlace rfl rfl rfl (by decide +kernel) ⟨(Nat.le_of_ble_eq_true rfl), (Nat.le_of_ble_eq_true rfl)⟩) ⟨XPx_blind, XPx_pre hE hT trivial⟩ rfl rfl hl.1 rfl (lv_room (Nat.le_of_ble_eq_true rfl)) dX1_put_1 ⟨Nat.le_of_ble_eq_true rfl, Nat.le_of_ble_eq_true rfl⟩) (fun E9 ce9 q9 H1 hp9 hz9 hk9 hc9 hv9 hcl9 => ?_) (fun v9 hw9 => ?_)
  · exact vx_out (fun x h => (hnt x h).elim) hlocks hc9 hv9 hcl9 (fun t9 ht9 _ => ⟨Or.inl hp9, by rw [ht9]; exact hz9, fun q hq => by rw [ht9]; exact hk9 q hq⟩) (fun _ h => nomatch h) (Nat.le_of_ble_eq_true rfl) (Nat.le_of_ble_eq_true rfl)
  obtain ⟨rfl, ⟨j, hj, rfl⟩⟩ := hw9
  refine W.eq (g2 := F0 m 4 ls []) rfl ?_
  refine lv_aload_n hx hb dX1_put_4 rfl (lv_at hl 0 rfl) ?_
  refine va_get (ci := 1) (v := .ref lv) (C := RX1) (T := TX1) (N := 6) hx hb hts iw_X1put_X1 hown hK hP 0 rfl rfl 0 (by decide) (hts (.fieldLink RX1 14 "BackMirror" "live" "[LBackMirror$Thing;") (by decide +kernel)) (fun _ h9 => h9) rfl dX1_put_5 ?_
  refine lv_iload_n hx hb dX1_put_8 rfl (lv_at hl 1 rfl) ?_
  refine va_aldq hx hb hK hP 1 1 rfl rfl (xin (by omega) (by omega)) dX1_put_9 ?_
  obtain ⟨a1, ha1, hT1⟩ := hC.2 (j) (by omega)
  refine x_toprf (y := a1) (by rw [nI_clamp (by omega)]; exact ha1) ?_
  obtain ⟨hz1, q1, f1, hm1, hr1, he1⟩ := hT1
  refine lv_astore (lv' := [(4, .ref a1), (0, .ref x), (1, .int (nI j)), (2, .int w), (3, .int z)]) hx hb dX1_put_10 hl (by decide) rfl (fun ls hl => ?_)
  refine lv_aload hx hb dX1_put_12 (lv_at hl 0 rfl) ?_
  refine va_get (ci := 0) (v := .ref q1) (C := RX0) (T := TX0) (N := 3) hx hb hts iw_X1put_X0 hown hK (x1 hP (xm3 hm1)) 0 rfl rfl 2 (by decide) (hts (.fieldLink RX1 43 "BackMirror$Thing" "numbers" "[I") (by decide +kernel)) (fun _ h9 => h9) rfl dX1_put_14 ?_
  refine va_alen hx hb hK (x1 hP (xm3 hr1)) 0 0 rfl rfl (v := nI ((G (246 + j)).2.2.1)) rfl dX1_put_17 ?_
  refine lv_istore (lv' := [(5, .int (nI ((G (246 + j)).2.2.1))), (4, .ref a1), (0, .ref x), (1, .int (nI j)), (2, .int w), (3, .int z)]) hx hb dX1_put_18 hl (by decide) rfl (fun ls hl => ?_)
  refine lv_aload hx hb dX1_put_20 (lv_at hl 1 rfl) ?_
  refine va_get (ci := 0) (v := .int ((G (246 + j)).1)) (C := RX0) (T := TX0) (N := 3) hx hb hts iw_X1put_X0 hown hK (x1 hP (xm3 hm1)) 0 rfl rfl 0 (by decide) (hts (.fieldLink RX1 47 "BackMirror$Thing" "kind" "I") (by decide +kernel)) (fun _ h9 => h9) rfl dX1_put_22 ?_
  refine lv_iconst (v := nI 1) hx hb dX1_put_25 (by decide) ?_
  refine lv_icmp_ne (tgt := 36) hx hb dX1_put_26 (by decide) (fun c26 => ?_) (fun c26 => ?_)
  · obtain ⟨sa9, hsa9⟩ := hT.1 (52, "no file, or a full one") (by decide)
    exact vx_throwS hx hb hst (own := RX1) (cls := nIS) (text := "no file, or a full one") (names := nUP) (ik := 50) (is := 52) (ic := 54) hown (by decide +kernel) (by decide +kernel) (hts (.classLink RX1 50 nIS) (by decide +kernel)) (hts (.initialized nIS) (by decide +kernel)) hsa9 (vx_hat (fun w h => hts w (List.mem_cons_of_mem _ (List.mem_append_left _ (List.mem_append_left _ (List.mem_append_right _ h))))) xb_IS (hT.use (X := nIS) (by decide))) xg_IS hT.2.2.2.1 hT.2.2.2.2 va_S.rf (hl.1.trans hml.symm) dX1_put_36 dX1_put_39 dX1_put_40 dX1_put_42 dX1_put_45 (fun x h => (hnt x h).elim) (Nat.le_of_ble_eq_true rfl) (Nat.le_of_ble_eq_true rfl) (Nat.le_of_ble_eq_true rfl) (Nat.le_of_ble_eq_true rfl) hlocks (fun t9 _ hz9 hk9 => ⟨Or.inr (Or.inl ⟨rfl, j, hj, rfl, by rintro ⟨h1, h2⟩; first | exact c26 h1 | omega⟩), hz9, hk9⟩) (fun _ h => nomatch h) (Nat.le_of_ble_eq_true rfl) (Nat.le_of_ble_eq_true rfl)
  · refine lv_iload hx hb dX1_put_29 (lv_at hl 0 rfl) ?_
    refine lv_bipush (v := nI 12) hx hb dX1_put_31 (by decide) ?_
    refine lv_icmp_lt (tgt := 46) hx hb dX1_put_33 (by decide) (fun c33 => ?_) (fun c33 => ?_)
    · have c33 : ((G (246 + j)).2.2.1) < 12 := (xlt (by omega) (by omega)).mp c33
      refine lv_iload_n hx hb dX1_put_46 rfl (lv_at hl 4 rfl) ?_
      refine lv_if_lt (tgt := 66) hx hb dX1_put_47 (by decide) (fun c47 => ?_) (fun c47 => ?_)
      · obtain ⟨sa9, hsa9⟩ := hT.1 (59, "no such spot or number") (by decide)
        exact vx_throwS hx hb hst (own := RX1) (cls := nIA) (text := "no such spot or number") (names := nUP) (ik := 57) (is := 59) (ic := 61) hown (by decide +kernel) (by decide +kernel) (hts (.classLink RX1 57 nIA) (by decide +kernel)) (hts (.initialized nIA) (by decide +kernel)) hsa9 (vx_hat (fun w h => hts w (List.mem_cons_of_mem _ (List.mem_append_left _ (List.mem_append_right _ h)))) xb_IA (hT.use (X := nIA) (by decide))) xg_IA hT.2.2.2.1 hT.2.2.2.2 va_S.rf (hl.1.trans hml.symm) dX1_put_66 dX1_put_69 dX1_put_70 dX1_put_72 dX1_put_75 (fun x h => (hnt x h).elim) (Nat.le_of_ble_eq_true rfl) (Nat.le_of_ble_eq_true rfl) (Nat.le_of_ble_eq_true rfl) (Nat.le_of_ble_eq_true rfl) hlocks (fun t9 _ hz9 hk9 => ⟨Or.inr (Or.inr ⟨rfl, j, hj, rfl, ⟨c26, by omega⟩, by rintro ⟨s9, y9, h1, rfl, h2, rfl⟩; first | exact xN0 (by omega) c47 | exact xNgt h1 (by omega) c53 | exact xN0 (by omega) c57 | exact xNle h2 (by omega) c63⟩), hz9, hk9⟩) (fun _ h => nomatch h) (Nat.le_of_ble_eq_true rfl) (Nat.le_of_ble_eq_true rfl)
      · refine lv_iload_n hx hb dX1_put_50 rfl (lv_at hl 4 rfl) ?_
        refine lv_iload hx hb dX1_put_51 (lv_at hl 0 rfl) ?_
        refine lv_icmp_gt (tgt := 66) hx hb dX1_put_53 (by decide) (fun c53 => ?_) (fun c53 => ?_)
        · obtain ⟨sa9, hsa9⟩ := hT.1 (59, "no such spot or number") (by decide)
          exact vx_throwS hx hb hst (own := RX1) (cls := nIA) (text := "no such spot or number") (names := nUP) (ik := 57) (is := 59) (ic := 61) hown (by decide +kernel) (by decide +kernel) (hts (.classLink RX1 57 nIA) (by decide +kernel)) (hts (.initialized nIA) (by decide +kernel)) hsa9 (vx_hat (fun w h => hts w (List.mem_cons_of_mem _ (List.mem_append_left _ (List.mem_append_right _ h)))) xb_IA (hT.use (X := nIA) (by decide))) xg_IA hT.2.2.2.1 hT.2.2.2.2 va_S.rf (hl.1.trans hml.symm) dX1_put_66 dX1_put_69 dX1_put_70 dX1_put_72 dX1_put_75 (fun x h => (hnt x h).elim) (Nat.le_of_ble_eq_true rfl) (Nat.le_of_ble_eq_true rfl) (Nat.le_of_ble_eq_true rfl) (Nat.le_of_ble_eq_true rfl) hlocks (fun t9 _ hz9 hk9 => ⟨Or.inr (Or.inr ⟨rfl, j, hj, rfl, ⟨c26, by omega⟩, by rintro ⟨s9, y9, h1, rfl, h2, rfl⟩; first | exact xN0 (by omega) c47 | exact xNgt h1 (by omega) c53 | exact xN0 (by omega) c57 | exact xNle h2 (by omega) c63⟩), hz9, hk9⟩) (fun _ h => nomatch h) (Nat.le_of_ble_eq_true rfl) (Nat.le_of_ble_eq_true rfl)
        · refine lv_iload_n hx hb dX1_put_56 rfl (lv_at hl 5 rfl) ?_
          refine lv_if_lt (tgt := 66) hx hb dX1_put_57 (by decide) (fun c57 => ?_) (fun c57 => ?_)
          · obtain ⟨sa9, hsa9⟩ := hT.1 (59, "no such spot or number") (by decide)
            exact vx_throwS hx hb hst (own := RX1) (cls := nIA) (text := "no such spot or number") (names := nUP) (ik := 57) (is := 59) (ic := 61) hown (by decide +kernel) (by decide +kernel) (hts (.classLink RX1 57 nIA) (by decide +kernel)) (hts (.initialized nIA) (by decide +kernel)) hsa9 (vx_hat (fun w h => hts w (List.mem_cons_of_mem _ (List.mem_append_left _ (List.mem_append_right _ h)))) xb_IA (hT.use (X := nIA) (by decide))) xg_IA hT.2.2.2.1 hT.2.2.2.2 va_S.rf (hl.1.trans hml.symm) dX1_put_66 dX1_put_69 dX1_put_70 dX1_put_72 dX1_put_75 (fun x h => (hnt x h).elim) (Nat.le_of_ble_eq_true rfl) (Nat.le_of_ble_eq_true rfl) (Nat.le_of_ble_eq_true rfl) (Nat.le_of_ble_eq_true rfl) hlocks (fun t9 _ hz9 hk9 => ⟨Or.inr (Or.inr ⟨rfl, j, hj, rfl, ⟨c26, by omega⟩, by rintro ⟨s9, y9, h1, rfl, h2, rfl⟩; first | exact xN0 (by omega) c47 | exact xNgt h1 (by omega) c53 | exact xN0 (by omega) c57 | exact xNle h2 (by omega) c63⟩), hz9, hk9⟩) (fun _ h => nomatch h) (Nat.le_of_ble_eq_true rfl) (Nat.le_of_ble_eq_true rfl)
          · refine lv_iload_n hx hb dX1_put_60 rfl (lv_at hl 5 rfl) ?_
            refine lv_bipush (v := nI 9) hx hb dX1_put_61 (by decide) ?_
            refine lv_icmp_le (tgt := 76) hx hb dX1_put_63 (by decide) (fun c63 => ?_) (fun c63 => ?_)
            · obtain ⟨sp, hsp, rfl⟩ := xIn_t (by omega) c47 (Int32.not_lt.mp c53)
              obtain ⟨y, hy, rfl⟩ := xIn_t (n := 9) (by omega) c57 c63
              refine lv_aload_n hx hb dX1_put_76 rfl (lv_at hl 2 rfl) ?_
              refine va_get (ci := 1) (v := .ref lv) (C := RX1) (T := TX1) (N := 6) hx hb hts iw_X1put_X1 hown hK hP 0 rfl rfl 0 (by decide) (hts (.fieldLink RX1 14 "BackMirror" "live" "[LBackMirror$Thing;") (by decide +kernel)) (fun _ h9 => h9) rfl dX1_put_77 ?_
              refine lv_iload_n hx hb dX1_put_80 rfl (lv_at hl 3 rfl) ?_
              refine va_new (ci := 0) (fs := [.int 0, .int 0, .null]) (C := RX0) (T := TX0) (N := 3) hx hb hts iw_X1put_X0 tyX0 tyX0_ok hown (hts (.classLink RX1 7 RX0) (by decide +kernel)) (hts (.instantiable RX0 3) (by decide +kernel)) (hts (.initialized RX0) (by decide +kernel)) hK hP hD hS hA rfl (by intro j hj; match j, hj with | 0, _ => rfl | 1, _ => rfl | 2, _ => rfl) (by first | exact Nat.le_of_ble_eq_true rfl | (show _ ≤ 8; omega)) (by first | exact Nat.le_of_ble_eq_true rfl | (show _ ≤ 40; omega)) dX1_put_81 (fun q81 H hP hD hS => ?_)
              have hP : va_P D vwCl ((x, .inr (1, [.ref lv, .ref kp, .int (nI o), .int (nI ld), .int (nI b), .int (nI k)])) :: (lv, .inl (cT, 6, .inr (.inr (.inr (.inr fL))))) :: (kp, .inl (cT, 246, .inr (.inr (.inr (.inr fK))))) :: (FZ ++ [(q81, .inr (0, [.int 0, .int 0, .null]))])) H := hP
              have hD : va_D A ((x, .inr (1, [.ref lv, .ref kp, .int (nI o), .int (nI ld), .int (nI b), .int (nI k)])) :: (lv, .inl (cT, 6, .inr (.inr (.inr (.inr fL))))) :: (kp, .inl (cT, 246, .inr (.inr (.inr (.inr fK))))) :: (FZ ++ [(q81, .inr (0, [.int 0, .int 0, .null]))])) := hD
              refine lv_dup hx hb dX1_put_84 rfl ?_
              refine lv_iconst (v := nI 1) hx hb dX1_put_85 (by decide) ?_
              refine lv_aload hx hb dX1_put_86 (lv_at hl 1 rfl) ?_
              refine va_get (ci := 0) (v := .int ((G (246 + j)).2.1)) (C := RX0) (T := TX0) (N := 3) hx hb hts iw_X1put_X0 hown hK (x1 hP (xm3 (List.mem_append_left _ (hm1)))) 0 rfl rfl 1 (by decide) (hts (.fieldLink RX1 62 "BackMirror$Thing" "rights" "I") (by decide +kernel)) (fun _ h9 => h9) rfl dX1_put_88 ?_
              refine lv_aload hx hb dX1_put_91 (lv_at hl 1 rfl) ?_
              refine va_get (ci := 0) (v := .ref q1) (C := RX0) (T := TX0) (N := 3) hx hb hts iw_X1put_X0 hown hK (x1 hP (xm3 (List.mem_append_left _ (hm1)))) 0 rfl rfl 2 (by decide) (hts (.fieldLink RX1 43 "BackMirror$Thing" "numbers" "[I") (by decide +kernel)) (fun _ h9 => h9) rfl dX1_put_93 ?_
              refine lv_iload_n hx hb dX1_put_96 rfl (lv_at hl 4 rfl) ?_
              refine lv_iload_n hx hb dX1_put_97 rfl (lv_at hl 5 rfl) ?_
              have hFc := xfree (wc := ((x, .inr (1, [.ref lv, .ref kp, .int (nI o), .int (nI ld), .int (nI b), .int (nI k)])) :: (lv, .inl (cT, 6, .inr (.inr (.inr (.inr fL))))) :: (kp, .inl (cT, 246, .inr (.inr (.inr (.inr fK))))) :: (FZ ++ [(q81, .inr (0, [.int 0, .int 0, .null]))]))) hD hS hA (fun _ h => h)
              refine va_callr (va_runS (As := [.ref q1, .int (nI sp), .int (nI y)]) (rest := [.int ((G (246 + j)).2.1), .int (nI 1), .ref q81, .ref q81, .int (nI j), .ref lv]) ⟨hx, hb, hml, hown, hts⟩ (c_X1_rowWith l ((x, .inr (1, [.ref lv, .ref kp, .int (nI o), .int (nI ld), .int (nI b), .int (nI k)])) :: (lv, .inl (cT, 6, .inr (.inr (.inr (.inr fL))))) :: (kp, .inl (cT, 246, .inr (.inr (.inr (.inr fK))))) :: (FZ ++ [(q81, .inr (0, [.int 0, .int 0, .null]))])) q1 ((G (246 + j)).2.2.1) sp H.size (nI y) f1 (xm3 (List.mem_append_left _ (hr1))) (by omega) (by omega)) (va_cwS 3 hts gX1_put_X1_rowWith rfl rfl rfl (by decide +kernel) ⟨(Nat.le_of_ble_eq_true rfl), (Nat.le_of_ble_eq_true rfl)⟩) ⟨XP_blind, XP_pre hE ⟨rfl, hP, hD.weaken (fun _ _ _ _ => trivial)⟩⟩ rfl rfl hl.1 rfl (lv_room (Nat.le_of_ble_eq_true rfl)) dX1_put_98 ⟨Nat.le_of_ble_eq_true rfl, Nat.le_of_ble_eq_true rfl⟩) hS (fun q9 _ h => hFc q9 h) hFc (fun u r98 t9 H1 locs ht9 hvm9 hw9 hB9 hzc hkc hS => ?_)
              obtain ⟨f', hf', hP1, hD1⟩ := hB9
              rw [ht9] at hP1
              obtain ⟨hP, hD⟩ := xjoin (wr := []) (wc := ((x, .inr (1, [.ref lv, .ref kp, .int (nI o), .int (nI ld), .int (nI b), .int (nI k)])) :: (lv, .inl (cT, 6, .inr (.inr (.inr (.inr fL))))) :: (kp, .inl (cT, 246, .inr (.inr (.inr (.inr fK))))) :: (FZ ++ [(q81, .inr (0, [.int 0, .int 0, .null]))]))) hP hD hkc hFc hP1 hD1
              generalize H1 = H at hP hS ⊢
              have hP : va_P D vwCl ((x, .inr (1, [.ref lv, .ref kp, .int (nI o), .int (nI ld), .int (nI b), .int (nI k)])) :: (lv, .inl (cT, 6, .inr (.inr (.inr (.inr fL))))) :: (kp, .inl (cT, 246, .inr (.inr (.inr (.inr fK))))) :: ((FZ ++ [(q81, .inr (0, [.int 0, .int 0, .null]))]) ++ [(r98, .inl (cI, (G (246 + j)).2.2.1 + 1, .inl f'))])) H := hP
              have hD : va_D A ((x, .inr (1, [.ref lv, .ref kp, .int (nI o), .int (nI ld), .int (nI b), .int (nI k)])) :: (lv, .inl (cT, 6, .inr (.inr (.inr (.inr fL))))) :: (kp, .inl (cT, 246, .inr (.inr (.inr (.inr fK))))) :: ((FZ ++ [(q81, .inr (0, [.int 0, .int 0, .null]))]) ++ [(r98, .inl (cI, (G (246 + j)).2.2.1 + 1, .inl f'))])) := hD
              have hP := xP_perm (xsw3 _ _ _ _ _ _) hP
              have hD := xD_perm (xsw3 _ _ _ _ _ _) hD
              have hP : va_P D vwCl (((x, .inr (1, [.ref lv, .ref kp, .int (nI o), .int (nI ld), .int (nI b), .int (nI k)])) :: (lv, .inl (cT, 6, .inr (.inr (.inr (.inr fL))))) :: (kp, .inl (cT, 246, .inr (.inr (.inr (.inr fK))))) :: (FZ ++ [(r98, .inl (cI, (G (246 + j)).2.2.1 + 1, .inl f'))])) ++ [(q81, .inr (0, [.int 0, .int 0, .null]))]) H := hP
              have hD : va_D A (((x, .inr (1, [.ref lv, .ref kp, .int (nI o), .int (nI ld), .int (nI b), .int (nI k)])) :: (lv, .inl (cT, 6, .inr (.inr (.inr (.inr fL))))) :: (kp, .inl (cT, 246, .inr (.inr (.inr (.inr fK))))) :: (FZ ++ [(r98, .inl (cI, (G (246 + j)).2.2.1 + 1, .inl f'))])) ++ [(q81, .inr (0, [.int 0, .int 0, .null]))]) := hD
              have hFc := xfree (wc := [(q81, .inr (0, [.int 0, .int 0, .null]))]) hD hS hA (fun _ h => List.mem_append_right _ h)
              have hPc := xP_sub (w2 := [(q81, .inr (0, [.int 0, .int 0, .null]))]) (fun _ h => List.mem_append_right _ h) hP
              have hDc : va_D (fun _ => True) [(q81, .inr (0, [.int 0, .int 0, .null]))] := (xD_sub (List.sublist_append_right _ _) hD).weaken (fun _ _ _ _ => trivial)
              refine va_callv (va_runI (As := [.int (nI 1), .int ((G (246 + j)).2.1), .ref r98]) (rest := [.ref q81, .int (nI j), .ref lv]) ⟨hx, hb, hml, hown, hts⟩ (c_X0_init l q81 r98 H.size (nI 1) ((G (246 + j)).2.1)) (cwI 3 hts gX1_put_X0_init rfl rfl rfl (hts (.initialized RX0) (by decide +kernel)) (hts (.methodLink RX1 11 yX0_init) (by decide +kernel)) (hts (.instanceMethod yX0_init) (by decide +kernel)) rfl (by decide +kernel) ⟨(Nat.le_of_ble_eq_true rfl), (Nat.le_of_ble_eq_true rfl)⟩) ⟨XP_blind, XP_pre hE ⟨rfl, hPc, hDc⟩⟩ rfl rfl hl.1 rfl (lv_room (Nat.le_of_ble_eq_true rfl)) dX1_put_101 ⟨by first | exact Nat.le_of_ble_eq_true rfl | (show _ + _ ≤ _; omega), by first | exact Nat.le_of_ble_eq_true rfl | (show _ + _ ≤ _; omega)⟩) hS (fun q9 _ h => hFc q9 h) hFc (fun u t9 H1 locs ht9 hvm9 hw9 hB9 hzc hkc hS => ?_)
              obtain ⟨hP1, hD1⟩ := hB9
              rw [ht9] at hP1
              obtain ⟨hP, hD⟩ := xjoin (wr := ((x, .inr (1, [.ref lv, .ref kp, .int (nI o), .int (nI ld), .int (nI b), .int (nI k)])) :: (lv, .inl (cT, 6, .inr (.inr (.inr (.inr fL))))) :: (kp, .inl (cT, 246, .inr (.inr (.inr (.inr fK))))) :: (FZ ++ [(r98, .inl (cI, (G (246 + j)).2.2.1 + 1, .inl f'))]))) (wc := [(q81, .inr (0, [.int 0, .int 0, .null]))]) (w1 := [(q81, .inr (0, [.int (nI 1), .int ((G (246 + j)).2.1), .ref r98]))]) hP hD hkc hFc hP1 hD1
              generalize H1 = H at hP hS ⊢
              have hP : va_P D vwCl ((x, .inr (1, [.ref lv, .ref kp, .int (nI o), .int (nI ld), .int (nI b), .int (nI k)])) :: (lv, .inl (cT, 6, .inr (.inr (.inr (.inr fL))))) :: (kp, .inl (cT, 246, .inr (.inr (.inr (.inr fK))))) :: ((FZ ++ [(r98, .inl (cI, (G (246 + j)).2.2.1 + 1, .inl f'))]) ++ [(q81, .inr (0, [.int (nI 1), .int ((G (246 + j)).2.1), .ref r98]))])) H := hP
              have hD : va_D A ((x, .inr (1, [.ref lv, .ref kp, .int (nI o), .int (nI ld), .int (nI b), .int (nI k)])) :: (lv, .inl (cT, 6, .inr (.inr (.inr (.inr fL))))) :: (kp, .inl (cT, 246, .inr (.inr (.inr (.inr fK))))) :: ((FZ ++ [(r98, .inl (cI, (G (246 + j)).2.2.1 + 1, .inl f'))]) ++ [(q81, .inr (0, [.int (nI 1), .int ((G (246 + j)).2.1), .ref r98]))])) := hD
              obtain ⟨j9, hj9⟩ := List.getElem?_of_mem (show (((q81, .inr (0, [.int (nI 1), .int ((G (246 + j)).2.1), .ref r98])) : Nat × va_E)) ∈ ((FZ ++ [(r98, .inl (cI, (G (246 + j)).2.2.1 + 1, .inl f'))]) ++ [(q81, .inr (0, [.int (nI 1), .int ((G (246 + j)).2.1), .ref r98]))]) from List.mem_append_right _ (List.mem_singleton.mpr rfl))
              refine va_astq (r := (RX0, TX0, 3)) hx hb hK hP hD hS 1 1 (j9 + 3) 0 rfl rfl hj9 rfl (xin (by omega) (by omega)) dX1_put_104 (fun H locs hP hD hS => ?_)
              rw [nI_clamp (show j < 2 ^ 31 by omega)] at hP hD
              have hP : va_P D vwCl ((x, .inr (1, [.ref lv, .ref kp, .int (nI o), .int (nI ld), .int (nI b), .int (nI k)])) :: (lv, .inl (cT, 6, .inr (.inr (.inr (.inr (va_up fL j (some q81))))))) :: (kp, .inl (cT, 246, .inr (.inr (.inr (.inr fK))))) :: ((FZ ++ [(r98, .inl (cI, (G (246 + j)).2.2.1 + 1, .inl f'))]) ++ [(q81, .inr (0, [.int (nI 1), .int ((G (246 + j)).2.1), .ref r98]))])) H := hP
              have hD : va_D A ((x, .inr (1, [.ref lv, .ref kp, .int (nI o), .int (nI ld), .int (nI b), .int (nI k)])) :: (lv, .inl (cT, 6, .inr (.inr (.inr (.inr (va_up fL j (some q81))))))) :: (kp, .inl (cT, 246, .inr (.inr (.inr (.inr fK))))) :: ((FZ ++ [(r98, .inl (cI, (G (246 + j)).2.2.1 + 1, .inl f'))]) ++ [(q81, .inr (0, [.int (nI 1), .int ((G (246 + j)).2.1), .ref r98]))])) := hD
              refine lv_iload hx hb dX1_put_105 (lv_at hl 0 rfl) ?_
              refine lv_iconst (v := nI 1) hx hb dX1_put_107 (by decide) ?_
              refine lv_iadd hx hb dX1_put_108 ?_
              refine x_top (nI (((G (246 + j)).2.2.1) + 1)) (xadd (by omega)) ?_
              refine vx_ret ?_
              refine W.widen (k := 8) (n := 40) (by first | exact Nat.le_of_ble_eq_true rfl | (show _ ≤ 8; omega)) (by first | exact Nat.le_of_ble_eq_true rfl | (show _ ≤ 40; omega)) ?_
              exact W.iret hx hb hr (fun t9 ht9 hW9 => ⟨⟨_, (va_up G (246 + j) (nI 1, (G (246 + j)).2.1, (G (246 + j)).2.2.1 + 1, insR (G (246 + j)).2.2.2 sp (nI y)), o, ld, b, k), rfl, ⟨j, sp, y, hj, rfl, ⟨c26, by omega⟩, hsp, rfl, hy, rfl, rfl, rfl⟩, ⟨_, _, _, by rw [ht9]; exact hP, hD, (hC.app.app).live (v := (nI 1, (G (246 + j)).2.1, (G (246 + j)).2.2.1 + 1, insR (G (246 + j)).2.2.2 sp (nI y))) ⟨(by show (G (246 + j)).2.2.1 + 1 ≤ 12; omega), _, _, List.mem_append_right _ (List.mem_singleton.mpr rfl), List.mem_append_left _ (List.mem_append_right _ (List.mem_singleton.mpr rfl)), fun i hi => (hf' i hi).trans (insR_congr he1 hsp i hi)⟩⟩⟩, hS.F ht9⟩) hS.2.2 dX1_put_109
            · obtain ⟨sa9, hsa9⟩ := hT.1 (59, "no such spot or number") (by decide)
              exact vx_throwS hx hb hst (own := RX1) (cls := nIA) (text := "no such spot or number") (names := nUP) (ik := 57) (is := 59) (ic := 61) hown (by decide +kernel) (by decide +kernel) (hts (.classLink RX1 57 nIA) (by decide +kernel)) (hts (.initialized nIA) (by decide +kernel)) hsa9 (vx_hat (fun w h => hts w (List.mem_cons_of_mem _ (List.mem_append_left _ (List.mem_append_right _ h)))) xb_IA (hT.use (X := nIA) (by decide))) xg_IA hT.2.2.2.1 hT.2.2.2.2 va_S.rf (hl.1.trans hml.symm) dX1_put_66 dX1_put_69 dX1_put_70 dX1_put_72 dX1_put_75 (fun x h => (hnt x h).elim) (Nat.le_of_ble_eq_true rfl) (Nat.le_of_ble_eq_true rfl) (Nat.le_of_ble_eq_true rfl) (Nat.le_of_ble_eq_true rfl) hlocks (fun t9 _ hz9 hk9 => ⟨Or.inr (Or.inr ⟨rfl, j, hj, rfl, ⟨c26, by omega⟩, by rintro ⟨s9, y9, h1, rfl, h2, rfl⟩; first | exact xN0 (by omega) c47 | exact xNgt h1 (by omega) c53 | exact xN0 (by omega) c57 | exact xNle h2 (by omega) c63⟩), hz9, hk9⟩) (fun _ h => nomatch h) (Nat.le_of_ble_eq_true rfl) (Nat.le_of_ble_eq_true rfl)
    · have c33 : ¬ ((G (246 + j)).2.2.1) < 12 := fun h => c33 ((xlt (by omega) (by omega)).mpr h)
      obtain ⟨sa9, hsa9⟩ := hT.1 (52, "no file, or a full one") (by decide)
      exact vx_throwS hx hb hst (own := RX1) (cls := nIS) (text := "no file, or a full one") (names := nUP) (ik := 50) (is := 52) (ic := 54) hown (by decide +kernel) (by decide +kernel) (hts (.classLink RX1 50 nIS) (by decide +kernel)) (hts (.initialized nIS) (by decide +kernel)) hsa9 (vx_hat (fun w h => hts w (List.mem_cons_of_mem _ (List.mem_append_left _ (List.mem_append_left _ (List.mem_append_right _ h))))) xb_IS (hT.use (X := nIS) (by decide))) xg_IS hT.2.2.2.1 hT.2.2.2.2 va_S.rf (hl.1.trans hml.symm) dX1_put_36 dX1_put_39 dX1_put_40 dX1_put_42 dX1_put_45 (fun x h => (hnt x h).elim) (Nat.le_of_ble_eq_true rfl) (Nat.le_of_ble_eq_true rfl) (Nat.le_of_ble_eq_true rfl) (Nat.le_of_ble_eq_true rfl) hlocks (fun t9 _ hz9 hk9 => ⟨Or.inr (Or.inl ⟨rfl, j, hj, rfl, by rintro ⟨h1, h2⟩; first | exact c26 h1 | omega⟩), hz9, hk9⟩) (fun _ h => nomatch h) (Nat.le_of_ble_eq_true rfl) (Nat.le_of_ble_eq_true rfl)

theorem iw_X1take_X0 : ∀ w ∈ u_ws RX0 TX0 3, w ∈ wsX1_take := by decide +kernel
theorem iw_X1take_X1 : ∀ w ∈ u_ws RX1 TX1 6, w ∈ wsX1_take := by decide +kernel
set_option maxHeartbeats 4000000 in
set_option maxRecDepth 100000 in
theorem c_X1_take (l : Launch) (hst : l.stackTraces = false) {D : va_G} {cI cT cJ : ClassId} (Ax : Nat → Prop) (x lv kp : Nat) (fL fK : Nat → Option Nat) (o ld b k : Nat) (FZ : va_W) (G : Nat → Tv) (hC : CA cI FZ fL fK G) (v w : Int32)  (sz : Nat) : vx_Met l yX1_take wsX1_take (rmD 8 8 40) (XPx D cI cT cJ Ax [.ref x, .int v, .int w] (fun H => H.size = sz ∧ va_P D vwCl (CW cT x lv kp fL fK o ld b k FZ) H ∧ va_D (fun _ => True) (CW cT x lv kp fL fK o ld b k FZ))) (va_Qi (S := Sv) (fun r u => ∃ j sp, j < 6 ∧ v = nI j ∧ (G (246 + j)).1 = nI 1 ∧ sp < (G (246 + j)).2.2.1 ∧ w = nI sp ∧ r = (G (246 + j)).2.2.2 sp ∧ u = (va_up G (246 + j) (nI 1, (G (246 + j)).2.1, (G (246 + j)).2.2.1 - 1, delR (G (246 + j)).2.2.2 sp), o, ld, b, k)) (fun u t => CB D cI cT x lv kp (va_A (CW cT x lv kp fL fK o ld b k FZ) sz) u t.heap) (va_A (CW cT x lv kp fL fK o ld b k FZ) sz)) (XXc (fun E => (E = nIO ∧ ¬ Pl v) ∨ (E = nIS ∧ ∃ j, j < 6 ∧ v = nI j ∧ ¬ (G (246 + j)).1 = nI 1) ∨ (E = nIA ∧ ∃ j, j < 6 ∧ v = nI j ∧ (G (246 + j)).1 = nI 1 ∧ ¬ ∃ sp, sp < (G (246 + j)).2.2.1 ∧ w = nI sp))) 8 40 (va_A (CW cT x lv kp fL fK o ld b k FZ) sz) := by
  refine vx_ofW (cc := cX1_take) (maxL := 4) (ret := (some .int)) (by decide) rfl ?_
  intro p e s m args below meth c s₁ B hml hnt hv
  obtain ⟨rfl, ⟨hsz, hP, hD0⟩, hE, hT⟩ := hv
  have hx := B.exec
  have hb := B.bytes
  have hr := B.returns
  have hts := atoms_spec (ws := wsX1_take) B.pre
  have hown : s.vm.findClass RX1 = some m.cls := findClass_of_methodNamed B.named
  have hlocks := B.notSynchronized
  have hl := lv_entry ([.ref x, .int v, .int w]) (n := 4) (Nat.le_of_ble_eq_true rfl)
  rw [lg_entry_eq]
  generalize (lg_sl ([.ref x, .int v, .int w]) ++ List.replicate (4 - (lg_sl ([.ref x, .int v, .int w])).length) Slot.unset).toArray = ls at hl ⊢
  have hl : lv_has ls 4 [(0, .ref x), (1, .int v), (2, .int w)] := hl
  have hK := hE.1
  subst hsz
  have hD := hD0.self (sz := s.heap.size)
  generalize hAe : va_A (CW cT x lv kp fL fK o ld b k FZ) s.heap.size = A at hD ⊢
  have hA : ∀ q : Nat, s.heap.size ≤ q → A q := fun q h => by rw [← hAe]; exact Or.inr h
  have hS : va_S A s.heap s.heap [] := va_S.rf
  refine lv_iload_n hx hb dX1_take_0 rfl (lv_at hl 1 rfl) ?_
  refine xcx (vx_runS (As := [.int v]) (rest := []) ⟨hx, hb, hml, hown, hts⟩ (c_X1_checkPlace l hst _ v) (va_cwS 1 hts gX1_take_X1_checkPlace rfl rfl rfl (by decide +kernel) ⟨(Nat.le_of_ble_eq_true rfl), (Nat.le_of_ble_eq_true rfl)⟩) ⟨XPx_blind, XPx_pre hE hT trivial⟩ rfl rfl hl.1 rfl (lv_room (Nat.le_of_ble_eq_true rfl)) dX1_take_1 ⟨Nat.le_of_ble_eq_true rfl, Nat.le_of_ble_eq_true rfl⟩) (fun E9 ce9 q9 H1 hp9 hz9 hk9 hc9 hv9 hcl9 => ?_) (fun v9 hw9 => ?_)
  · exact vx_out (fun x h => (hnt x h).elim) hlocks hc9 hv9 hcl9 (fun t9 ht9 _ => ⟨Or.inl hp9, by rw [ht9]; exact hz9, fun q hq => by rw [ht9]; exact hk9 q hq⟩) (fun _ h => nomatch h) (Nat.le_of_ble_eq_true rfl) (Nat.le_of_ble_eq_true rfl)
  obtain ⟨rfl, ⟨j, hj, rfl⟩⟩ := hw9
  refine W.eq (g2 := F0 m 4 ls []) rfl ?_
  refine lv_aload_n hx hb dX1_take_4 rfl (lv_at hl 0 rfl) ?_
  refine va_get (ci := 1) (v := .ref lv) (C := RX1) (T := TX1) (N := 6) hx hb hts iw_X1take_X1 hown hK hP 0 rfl rfl 0 (by decide) (hts (.fieldLink RX1 14 "BackMirror" "live" "[LBackMirror$Thing;") (by decide +kernel)) (fun _ h9 => h9) rfl dX1_take_5 ?_
  refine lv_iload_n hx hb dX1_take_8 rfl (lv_at hl 1 rfl) ?_
  refine va_aldq hx hb hK hP 1 1 rfl rfl (xin (by omega) (by omega)) dX1_take_9 ?_
  obtain ⟨a1, ha1, hT1⟩ := hC.2 (j) (by omega)
  refine x_toprf (y := a1) (by rw [nI_clamp (by omega)]; exact ha1) ?_
  obtain ⟨hz1, q1, f1, hm1, hr1, he1⟩ := hT1
  refine lv_astore_n (lv' := [(3, .ref a1), (0, .ref x), (1, .int (nI j)), (2, .int w)]) hx hb dX1_take_10 rfl hl (by decide) rfl (fun ls hl => ?_)
  refine lv_aload_n hx hb dX1_take_11 rfl (lv_at hl 0 rfl) ?_
  refine va_get (ci := 0) (v := .int ((G (246 + j)).1)) (C := RX0) (T := TX0) (N := 3) hx hb hts iw_X1take_X0 hown hK (x1 hP (xm3 hm1)) 0 rfl rfl 0 (by decide) (hts (.fieldLink RX1 47 "BackMirror$Thing" "kind" "I") (by decide +kernel)) (fun _ h9 => h9) rfl dX1_take_12 ?_
  refine lv_iconst (v := nI 1) hx hb dX1_take_15 (by decide) ?_
  refine lv_icmp_eq (tgt := 29) hx hb dX1_take_16 (by decide) (fun c16 => ?_) (fun c16 => ?_)
  · refine lv_iload_n hx hb dX1_take_29 rfl (lv_at hl 3 rfl) ?_
    refine lv_if_lt (tgt := 42) hx hb dX1_take_30 (by decide) (fun c30 => ?_) (fun c30 => ?_)
    · obtain ⟨sa9, hsa9⟩ := hT.1 (71, "no such spot") (by decide)
      exact vx_throwS hx hb hst (own := RX1) (cls := nIA) (text := "no such spot") (names := nUP) (ik := 57) (is := 71) (ic := 61) hown (by decide +kernel) (by decide +kernel) (hts (.classLink RX1 57 nIA) (by decide +kernel)) (hts (.initialized nIA) (by decide +kernel)) hsa9 (vx_hat (fun w h => hts w (List.mem_cons_of_mem _ (List.mem_append_left _ (List.mem_append_right _ h)))) xb_IA (hT.use (X := nIA) (by decide))) xg_IA hT.2.2.2.1 hT.2.2.2.2 va_S.rf (hl.1.trans hml.symm) dX1_take_42 dX1_take_45 dX1_take_46 dX1_take_48 dX1_take_51 (fun x h => (hnt x h).elim) (Nat.le_of_ble_eq_true rfl) (Nat.le_of_ble_eq_true rfl) (Nat.le_of_ble_eq_true rfl) (Nat.le_of_ble_eq_true rfl) hlocks (fun t9 _ hz9 hk9 => ⟨Or.inr (Or.inr ⟨rfl, j, hj, rfl, c16, by rintro ⟨s9, h1, rfl⟩; first | exact xN0 (by omega) c30 | exact xNlt h1 (by omega) c39⟩), hz9, hk9⟩) (fun _ h => nomatch h) (Nat.le_of_ble_eq_true rfl) (Nat.le_of_ble_eq_true rfl)
    · refine lv_iload_n hx hb dX1_take_33 rfl (lv_at hl 3 rfl) ?_
      refine lv_aload_n hx hb dX1_take_34 rfl (lv_at hl 0 rfl) ?_
      refine va_get (ci := 0) (v := .ref q1) (C := RX0) (T := TX0) (N := 3) hx hb hts iw_X1take_X0 hown hK (x1 hP (xm3 hm1)) 0 rfl rfl 2 (by decide) (hts (.fieldLink RX1 43 "BackMirror$Thing" "numbers" "[I") (by decide +kernel)) (fun _ h9 => h9) rfl dX1_take_35 ?_
      refine va_alen hx hb hK (x1 hP (xm3 hr1)) 0 0 rfl rfl (v := nI ((G (246 + j)).2.2.1)) rfl dX1_take_38 ?_
      refine lv_icmp_lt (tgt := 52) hx hb dX1_take_39 (by decide) (fun c39 => ?_) (fun c39 => ?_)
      · obtain ⟨sp, hsp, rfl⟩ := xLt_t (by omega) c30 c39
        refine lv_aload_n hx hb dX1_take_52 rfl (lv_at hl 1 rfl) ?_
        refine va_get (ci := 1) (v := .ref lv) (C := RX1) (T := TX1) (N := 6) hx hb hts iw_X1take_X1 hown hK hP 0 rfl rfl 0 (by decide) (hts (.fieldLink RX1 14 "BackMirror" "live" "[LBackMirror$Thing;") (by decide +kernel)) (fun _ h9 => h9) rfl dX1_take_53 ?_
        refine lv_iload_n hx hb dX1_take_56 rfl (lv_at hl 2 rfl) ?_
        refine va_new (ci := 0) (fs := [.int 0, .int 0, .null]) (C := RX0) (T := TX0) (N := 3) hx hb hts iw_X1take_X0 tyX0 tyX0_ok hown (hts (.classLink RX1 7 RX0) (by decide +kernel)) (hts (.instantiable RX0 3) (by decide +kernel)) (hts (.initialized RX0) (by decide +kernel)) hK hP hD hS hA rfl (by intro j hj; match j, hj with | 0, _ => rfl | 1, _ => rfl | 2, _ => rfl) (by first | exact Nat.le_of_ble_eq_true rfl | (show _ ≤ 8; omega)) (by first | exact Nat.le_of_ble_eq_true rfl | (show _ ≤ 40; omega)) dX1_take_57 (fun q57 H hP hD hS => ?_)
        have hP : va_P D vwCl ((x, .inr (1, [.ref lv, .ref kp, .int (nI o), .int (nI ld), .int (nI b), .int (nI k)])) :: (lv, .inl (cT, 6, .inr (.inr (.inr (.inr fL))))) :: (kp, .inl (cT, 246, .inr (.inr (.inr (.inr fK))))) :: (FZ ++ [(q57, .inr (0, [.int 0, .int 0, .null]))])) H := hP
        have hD : va_D A ((x, .inr (1, [.ref lv, .ref kp, .int (nI o), .int (nI ld), .int (nI b), .int (nI k)])) :: (lv, .inl (cT, 6, .inr (.inr (.inr (.inr fL))))) :: (kp, .inl (cT, 246, .inr (.inr (.inr (.inr fK))))) :: (FZ ++ [(q57, .inr (0, [.int 0, .int 0, .null]))])) := hD
        refine lv_dup hx hb dX1_take_60 rfl ?_
        refine lv_iconst (v := nI 1) hx hb dX1_take_61 (by decide) ?_
        refine lv_aload_n hx hb dX1_take_62 rfl (lv_at hl 0 rfl) ?_
        refine va_get (ci := 0) (v := .int ((G (246 + j)).2.1)) (C := RX0) (T := TX0) (N := 3) hx hb hts iw_X1take_X0 hown hK (x1 hP (xm3 (List.mem_append_left _ (hm1)))) 0 rfl rfl 1 (by decide) (hts (.fieldLink RX1 62 "BackMirror$Thing" "rights" "I") (by decide +kernel)) (fun _ h9 => h9) rfl dX1_take_63 ?_
        refine lv_aload_n hx hb dX1_take_66 rfl (lv_at hl 0 rfl) ?_
        refine va_get (ci := 0) (v := .ref q1) (C := RX0) (T := TX0) (N := 3) hx hb hts iw_X1take_X0 hown hK (x1 hP (xm3 (List.mem_append_left _ (hm1)))) 0 rfl rfl 2 (by decide) (hts (.fieldLink RX1 43 "BackMirror$Thing" "numbers" "[I") (by decide +kernel)) (fun _ h9 => h9) rfl dX1_take_67 ?_
        refine lv_iload_n hx hb dX1_take_70 rfl (lv_at hl 3 rfl) ?_
        have hFc := xfree (wc := ((x, .inr (1, [.ref lv, .ref kp, .int (nI o), .int (nI ld), .int (nI b), .int (nI k)])) :: (lv, .inl (cT, 6, .inr (.inr (.inr (.inr fL))))) :: (kp, .inl (cT, 246, .inr (.inr (.inr (.inr fK))))) :: (FZ ++ [(q57, .inr (0, [.int 0, .int 0, .null]))]))) hD hS hA (fun _ h => h)
        refine va_callr (va_runS (As := [.ref q1, .int (nI sp)]) (rest := [.int ((G (246 + j)).2.1), .int (nI 1), .ref q57, .ref q57, .int (nI j), .ref lv]) ⟨hx, hb, hml, hown, hts⟩ (c_X1_rowWithout l ((x, .inr (1, [.ref lv, .ref kp, .int (nI o), .int (nI ld), .int (nI b), .int (nI k)])) :: (lv, .inl (cT, 6, .inr (.inr (.inr (.inr fL))))) :: (kp, .inl (cT, 246, .inr (.inr (.inr (.inr fK))))) :: (FZ ++ [(q57, .inr (0, [.int 0, .int 0, .null]))])) q1 ((G (246 + j)).2.2.1) sp H.size f1 (xm3 (List.mem_append_left _ (hr1))) (by omega) (by omega)) (va_cwS 2 hts gX1_take_X1_rowWithout rfl rfl rfl (by decide +kernel) ⟨(Nat.le_of_ble_eq_true rfl), (Nat.le_of_ble_eq_true rfl)⟩) ⟨XP_blind, XP_pre hE ⟨rfl, hP, hD.weaken (fun _ _ _ _ => trivial)⟩⟩ rfl rfl hl.1 rfl (lv_room (Nat.le_of_ble_eq_true rfl)) dX1_take_71 ⟨Nat.le_of_ble_eq_true rfl, Nat.le_of_ble_eq_true rfl⟩) hS (fun q9 _ h => hFc q9 h) hFc (fun u r71 t9 H1 locs ht9 hvm9 hw9 hB9 hzc hkc hS => ?_)
        obtain ⟨f', hf', hP1, hD1⟩ := hB9
        rw [ht9] at hP1
        obtain ⟨hP, hD⟩ := xjoin (wr := []) (wc := ((x, .inr (1, [.ref lv, .ref kp, .int (nI o), .int (nI ld), .int (nI b), .int (nI k)])) :: (lv, .inl (cT, 6, .inr (.inr (.inr (.inr fL))))) :: (kp, .inl (cT, 246, .inr (.inr (.inr (.inr fK))))) :: (FZ ++ [(q57, .inr (0, [.int 0, .int 0, .null]))]))) hP hD hkc hFc hP1 hD1
        generalize H1 = H at hP hS ⊢
        have hP : va_P D vwCl ((x, .inr (1, [.ref lv, .ref kp, .int (nI o), .int (nI ld), .int (nI b), .int (nI k)])) :: (lv, .inl (cT, 6, .inr (.inr (.inr (.inr fL))))) :: (kp, .inl (cT, 246, .inr (.inr (.inr (.inr fK))))) :: ((FZ ++ [(q57, .inr (0, [.int 0, .int 0, .null]))]) ++ [(r71, .inl (cI, (G (246 + j)).2.2.1 - 1, .inl f'))])) H := hP
        have hD : va_D A ((x, .inr (1, [.ref lv, .ref kp, .int (nI o), .int (nI ld), .int (nI b), .int (nI k)])) :: (lv, .inl (cT, 6, .inr (.inr (.inr (.inr fL))))) :: (kp, .inl (cT, 246, .inr (.inr (.inr (.inr fK))))) :: ((FZ ++ [(q57, .inr (0, [.int 0, .int 0, .null]))]) ++ [(r71, .inl (cI, (G (246 + j)).2.2.1 - 1, .inl f'))])) := hD
        have hP := xP_perm (xsw3 _ _ _ _ _ _) hP
        have hD := xD_perm (xsw3 _ _ _ _ _ _) hD
        have hP : va_P D vwCl (((x, .inr (1, [.ref lv, .ref kp, .int (nI o), .int (nI ld), .int (nI b), .int (nI k)])) :: (lv, .inl (cT, 6, .inr (.inr (.inr (.inr fL))))) :: (kp, .inl (cT, 246, .inr (.inr (.inr (.inr fK))))) :: (FZ ++ [(r71, .inl (cI, (G (246 + j)).2.2.1 - 1, .inl f'))])) ++ [(q57, .inr (0, [.int 0, .int 0, .null]))]) H := hP
        have hD : va_D A (((x, .inr (1, [.ref lv, .ref kp, .int (nI o), .int (nI ld), .int (nI b), .int (nI k)])) :: (lv, .inl (cT, 6, .inr (.inr (.inr (.inr fL))))) :: (kp, .inl (cT, 246, .inr (.inr (.inr (.inr fK))))) :: (FZ ++ [(r71, .inl (cI, (G (246 + j)).2.2.1 - 1, .inl f'))])) ++ [(q57, .inr (0, [.int 0, .int 0, .null]))]) := hD
        have hFc := xfree (wc := [(q57, .inr (0, [.int 0, .int 0, .null]))]) hD hS hA (fun _ h => List.mem_append_right _ h)
        have hPc := xP_sub (w2 := [(q57, .inr (0, [.int 0, .int 0, .null]))]) (fun _ h => List.mem_append_right _ h) hP
        have hDc : va_D (fun _ => True) [(q57, .inr (0, [.int 0, .int 0, .null]))] := (xD_sub (List.sublist_append_right _ _) hD).weaken (fun _ _ _ _ => trivial)
        refine va_callv (va_runI (As := [.int (nI 1), .int ((G (246 + j)).2.1), .ref r71]) (rest := [.ref q57, .int (nI j), .ref lv]) ⟨hx, hb, hml, hown, hts⟩ (c_X0_init l q57 r71 H.size (nI 1) ((G (246 + j)).2.1)) (cwI 3 hts gX1_take_X0_init rfl rfl rfl (hts (.initialized RX0) (by decide +kernel)) (hts (.methodLink RX1 11 yX0_init) (by decide +kernel)) (hts (.instanceMethod yX0_init) (by decide +kernel)) rfl (by decide +kernel) ⟨(Nat.le_of_ble_eq_true rfl), (Nat.le_of_ble_eq_true rfl)⟩) ⟨XP_blind, XP_pre hE ⟨rfl, hPc, hDc⟩⟩ rfl rfl hl.1 rfl (lv_room (Nat.le_of_ble_eq_true rfl)) dX1_take_74 ⟨by first | exact Nat.le_of_ble_eq_true rfl | (show _ + _ ≤ _; omega), by first | exact Nat.le_of_ble_eq_true rfl | (show _ + _ ≤ _; omega)⟩) hS (fun q9 _ h => hFc q9 h) hFc (fun u t9 H1 locs ht9 hvm9 hw9 hB9 hzc hkc hS => ?_)
        obtain ⟨hP1, hD1⟩ := hB9
        rw [ht9] at hP1
        obtain ⟨hP, hD⟩ := xjoin (wr := ((x, .inr (1, [.ref lv, .ref kp, .int (nI o), .int (nI ld), .int (nI b), .int (nI k)])) :: (lv, .inl (cT, 6, .inr (.inr (.inr (.inr fL))))) :: (kp, .inl (cT, 246, .inr (.inr (.inr (.inr fK))))) :: (FZ ++ [(r71, .inl (cI, (G (246 + j)).2.2.1 - 1, .inl f'))]))) (wc := [(q57, .inr (0, [.int 0, .int 0, .null]))]) (w1 := [(q57, .inr (0, [.int (nI 1), .int ((G (246 + j)).2.1), .ref r71]))]) hP hD hkc hFc hP1 hD1
        generalize H1 = H at hP hS ⊢
        have hP : va_P D vwCl ((x, .inr (1, [.ref lv, .ref kp, .int (nI o), .int (nI ld), .int (nI b), .int (nI k)])) :: (lv, .inl (cT, 6, .inr (.inr (.inr (.inr fL))))) :: (kp, .inl (cT, 246, .inr (.inr (.inr (.inr fK))))) :: ((FZ ++ [(r71, .inl (cI, (G (246 + j)).2.2.1 - 1, .inl f'))]) ++ [(q57, .inr (0, [.int (nI 1), .int ((G (246 + j)).2.1), .ref r71]))])) H := hP
        have hD : va_D A ((x, .inr (1, [.ref lv, .ref kp, .int (nI o), .int (nI ld), .int (nI b), .int (nI k)])) :: (lv, .inl (cT, 6, .inr (.inr (.inr (.inr fL))))) :: (kp, .inl (cT, 246, .inr (.inr (.inr (.inr fK))))) :: ((FZ ++ [(r71, .inl (cI, (G (246 + j)).2.2.1 - 1, .inl f'))]) ++ [(q57, .inr (0, [.int (nI 1), .int ((G (246 + j)).2.1), .ref r71]))])) := hD
        obtain ⟨j9, hj9⟩ := List.getElem?_of_mem (show (((q57, .inr (0, [.int (nI 1), .int ((G (246 + j)).2.1), .ref r71])) : Nat × va_E)) ∈ ((FZ ++ [(r71, .inl (cI, (G (246 + j)).2.2.1 - 1, .inl f'))]) ++ [(q57, .inr (0, [.int (nI 1), .int ((G (246 + j)).2.1), .ref r71]))]) from List.mem_append_right _ (List.mem_singleton.mpr rfl))
        refine va_astq (r := (RX0, TX0, 3)) hx hb hK hP hD hS 1 1 (j9 + 3) 0 rfl rfl hj9 rfl (xin (by omega) (by omega)) dX1_take_77 (fun H locs hP hD hS => ?_)
        rw [nI_clamp (show j < 2 ^ 31 by omega)] at hP hD
        have hP : va_P D vwCl ((x, .inr (1, [.ref lv, .ref kp, .int (nI o), .int (nI ld), .int (nI b), .int (nI k)])) :: (lv, .inl (cT, 6, .inr (.inr (.inr (.inr (va_up fL j (some q57))))))) :: (kp, .inl (cT, 246, .inr (.inr (.inr (.inr fK))))) :: ((FZ ++ [(r71, .inl (cI, (G (246 + j)).2.2.1 - 1, .inl f'))]) ++ [(q57, .inr (0, [.int (nI 1), .int ((G (246 + j)).2.1), .ref r71]))])) H := hP
        have hD : va_D A ((x, .inr (1, [.ref lv, .ref kp, .int (nI o), .int (nI ld), .int (nI b), .int (nI k)])) :: (lv, .inl (cT, 6, .inr (.inr (.inr (.inr (va_up fL j (some q57))))))) :: (kp, .inl (cT, 246, .inr (.inr (.inr (.inr fK))))) :: ((FZ ++ [(r71, .inl (cI, (G (246 + j)).2.2.1 - 1, .inl f'))]) ++ [(q57, .inr (0, [.int (nI 1), .int ((G (246 + j)).2.1), .ref r71]))])) := hD
        refine lv_aload_n hx hb dX1_take_78 rfl (lv_at hl 0 rfl) ?_
        refine va_get (ci := 0) (v := .ref q1) (C := RX0) (T := TX0) (N := 3) hx hb hts iw_X1take_X0 hown hK (x1 hP (xm3 (List.mem_append_left _ (List.mem_append_left _ (hm1))))) 0 rfl rfl 2 (by decide) (hts (.fieldLink RX1 43 "BackMirror$Thing" "numbers" "[I") (by decide +kernel)) (fun _ h9 => h9) rfl dX1_take_79 ?_
        refine lv_iload_n hx hb dX1_take_82 rfl (lv_at hl 3 rfl) ?_
        refine va_iald hx hb hK (x1 hP (xm3 (List.mem_append_left _ (List.mem_append_left _ (hr1))))) 0 0 rfl rfl (xin (by omega) (by omega)) dX1_take_83 ?_
        refine x_top (f1 sp) (by rw [nI_clamp (by omega)]) ?_
        refine vx_ret ?_
        refine W.widen (k := 8) (n := 40) (by first | exact Nat.le_of_ble_eq_true rfl | (show _ ≤ 8; omega)) (by first | exact Nat.le_of_ble_eq_true rfl | (show _ ≤ 40; omega)) ?_
        exact W.iret hx hb hr (fun t9 ht9 hW9 => ⟨⟨_, (va_up G (246 + j) (nI 1, (G (246 + j)).2.1, (G (246 + j)).2.2.1 - 1, delR (G (246 + j)).2.2.2 sp), o, ld, b, k), rfl, ⟨j, sp, hj, rfl, c16, hsp, rfl, he1 sp hsp, rfl⟩, ⟨_, _, _, by rw [ht9]; exact hP, hD, (hC.app.app).live (v := (nI 1, (G (246 + j)).2.1, (G (246 + j)).2.2.1 - 1, delR (G (246 + j)).2.2.2 sp)) ⟨(by show (G (246 + j)).2.2.1 - 1 ≤ 12; omega), _, _, List.mem_append_right _ (List.mem_singleton.mpr rfl), List.mem_append_left _ (List.mem_append_right _ (List.mem_singleton.mpr rfl)), fun i hi => (hf' i hi).trans (delR_congr he1 i hi)⟩⟩⟩, hS.F ht9⟩) hS.2.2 dX1_take_84
      · obtain ⟨sa9, hsa9⟩ := hT.1 (71, "no such spot") (by decide)
        exact vx_throwS hx hb hst (own := RX1) (cls := nIA) (text := "no such spot") (names := nUP) (ik := 57) (is := 71) (ic := 61) hown (by decide +kernel) (by decide +kernel) (hts (.classLink RX1 57 nIA) (by decide +kernel)) (hts (.initialized nIA) (by decide +kernel)) hsa9 (vx_hat (fun w h => hts w (List.mem_cons_of_mem _ (List.mem_append_left _ (List.mem_append_right _ h)))) xb_IA (hT.use (X := nIA) (by decide))) xg_IA hT.2.2.2.1 hT.2.2.2.2 va_S.rf (hl.1.trans hml.symm) dX1_take_42 dX1_take_45 dX1_take_46 dX1_take_48 dX1_take_51 (fun x h => (hnt x h).elim) (Nat.le_of_ble_eq_true rfl) (Nat.le_of_ble_eq_true rfl) (Nat.le_of_ble_eq_true rfl) (Nat.le_of_ble_eq_true rfl) hlocks (fun t9 _ hz9 hk9 => ⟨Or.inr (Or.inr ⟨rfl, j, hj, rfl, c16, by rintro ⟨s9, h1, rfl⟩; first | exact xN0 (by omega) c30 | exact xNlt h1 (by omega) c39⟩), hz9, hk9⟩) (fun _ h => nomatch h) (Nat.le_of_ble_eq_true rfl) (Nat.le_of_ble_eq_true rfl)
  · obtain ⟨sa9, hsa9⟩ := hT.1 (69, "no file") (by decide)
    exact vx_throwS hx hb hst (own := RX1) (cls := nIS) (text := "no file") (names := nUP) (ik := 50) (is := 69) (ic := 54) hown (by decide +kernel) (by decide +kernel) (hts (.classLink RX1 50 nIS) (by decide +kernel)) (hts (.initialized nIS) (by decide +kernel)) hsa9 (vx_hat (fun w h => hts w (List.mem_cons_of_mem _ (List.mem_append_left _ (List.mem_append_left _ (List.mem_append_right _ h))))) xb_IS (hT.use (X := nIS) (by decide))) xg_IS hT.2.2.2.1 hT.2.2.2.2 va_S.rf (hl.1.trans hml.symm) dX1_take_19 dX1_take_22 dX1_take_23 dX1_take_25 dX1_take_28 (fun x h => (hnt x h).elim) (Nat.le_of_ble_eq_true rfl) (Nat.le_of_ble_eq_true rfl) (Nat.le_of_ble_eq_true rfl) (Nat.le_of_ble_eq_true rfl) hlocks (fun t9 _ hz9 hk9 => ⟨Or.inr (Or.inl ⟨rfl, j, hj, rfl, c16⟩), hz9, hk9⟩) (fun _ h => nomatch h) (Nat.le_of_ble_eq_true rfl) (Nat.le_of_ble_eq_true rfl)

theorem iw_X1setRights_X0 : ∀ w ∈ u_ws RX0 TX0 3, w ∈ wsX1_setRights := by decide +kernel
theorem iw_X1setRights_X1 : ∀ w ∈ u_ws RX1 TX1 6, w ∈ wsX1_setRights := by decide +kernel
set_option maxHeartbeats 4000000 in
set_option maxRecDepth 100000 in
theorem c_X1_setRights (l : Launch) (hst : l.stackTraces = false) {D : va_G} {cI cT cJ : ClassId} (Ax : Nat → Prop) (x lv kp : Nat) (fL fK : Nat → Option Nat) (o ld b k : Nat) (FZ : va_W) (G : Nat → Tv) (hC : CA cI FZ fL fK G) (v w : Int32)  (sz : Nat) : vx_Met l yX1_setRights wsX1_setRights (rmD 8 8 40) (XPx D cI cT cJ Ax [.ref x, .int v, .int w] (fun H => H.size = sz ∧ va_P D vwCl (CW cT x lv kp fL fK o ld b k FZ) H ∧ va_D (fun _ => True) (CW cT x lv kp fL fK o ld b k FZ))) (va_Qi (S := Sv) (fun r u => ∃ j y, j < 6 ∧ v = nI j ∧ ¬ (G (246 + j)).1 = nI 0 ∧ y ≤ 7 ∧ w = nI y ∧ r = (G (246 + j)).2.1 ∧ u = (va_up G (246 + j) ((G (246 + j)).1, nI y, (G (246 + j)).2.2.1, (G (246 + j)).2.2.2), o, ld, b, k)) (fun u t => CB D cI cT x lv kp (va_A (CW cT x lv kp fL fK o ld b k FZ) sz) u t.heap) (va_A (CW cT x lv kp fL fK o ld b k FZ) sz)) (XXc (fun E => (E = nIO ∧ ¬ Pl v) ∨ (E = nIS ∧ ∃ j, j < 6 ∧ v = nI j ∧ (G (246 + j)).1 = nI 0) ∨ (E = nIA ∧ ∃ j, j < 6 ∧ v = nI j ∧ ¬ (G (246 + j)).1 = nI 0 ∧ ¬ ∃ y, y ≤ 7 ∧ w = nI y))) 8 40 (va_A (CW cT x lv kp fL fK o ld b k FZ) sz) := by
  refine vx_ofW (cc := cX1_setRights) (maxL := 4) (ret := (some .int)) (by decide) rfl ?_
  intro p e s m args below meth c s₁ B hml hnt hv
  obtain ⟨rfl, ⟨hsz, hP, hD0⟩, hE, hT⟩ := hv
  have hx := B.exec
  have hb := B.bytes
  have hr := B.returns
  have hts := atoms_spec (ws := wsX1_setRights) B.pre
  have hown : s.vm.findClass RX1 = some m.cls := findClass_of_methodNamed B.named
  have hlocks := B.notSynchronized
  have hl := lv_entry ([.ref x, .int v, .int w]) (n := 4) (Nat.le_of_ble_eq_true rfl)
  rw [lg_entry_eq]
  generalize (lg_sl ([.ref x, .int v, .int w]) ++ List.replicate (4 - (lg_sl ([.ref x, .int v, .int w])).length) Slot.unset).toArray = ls at hl ⊢
  have hl : lv_has ls 4 [(0, .ref x), (1, .int v), (2, .int w)] := hl
  have hK := hE.1
  subst hsz
  have hD := hD0.self (sz := s.heap.size)
  generalize hAe : va_A (CW cT x lv kp fL fK o ld b k FZ) s.heap.size = A at hD ⊢
  have hA : ∀ q : Nat, s.heap.size ≤ q → A q := fun q h => by rw [← hAe]; exact Or.inr h
  have hS : va_S A s.heap s.heap [] := va_S.rf
  refine lv_iload_n hx hb dX1_setRights_0 rfl (lv_at hl 1 rfl) ?_
  refine xcx (vx_runS (As := [.int v]) (rest := []) ⟨hx, hb, hml, hown, hts⟩ (c_X1_checkPlace l hst _ v) (va_cwS 1 hts gX1_setRights_X1_checkPlace rfl rfl rfl (by decide +kernel) ⟨(Nat.le_of_ble_eq_true rfl), (Nat.le_of_ble_eq_true rfl)⟩) ⟨XPx_blind, XPx_pre hE hT trivial⟩ rfl rfl hl.1 rfl (lv_room (Nat.le_of_ble_eq_true rfl)) dX1_setRights_1 ⟨Nat.le_of_ble_eq_true rfl, Nat.le_of_ble_eq_true rfl⟩) (fun E9 ce9 q9 H1 hp9 hz9 hk9 hc9 hv9 hcl9 => ?_) (fun v9 hw9 => ?_)
  · exact vx_out (fun x h => (hnt x h).elim) hlocks hc9 hv9 hcl9 (fun t9 ht9 _ => ⟨Or.inl hp9, by rw [ht9]; exact hz9, fun q hq => by rw [ht9]; exact hk9 q hq⟩) (fun _ h => nomatch h) (Nat.le_of_ble_eq_true rfl) (Nat.le_of_ble_eq_true rfl)
  obtain ⟨rfl, ⟨j, hj, rfl⟩⟩ := hw9
  refine W.eq (g2 := F0 m 4 ls []) rfl ?_
  refine lv_aload_n hx hb dX1_setRights_4 rfl (lv_at hl 0 rfl) ?_
  refine va_get (ci := 1) (v := .ref lv) (C := RX1) (T := TX1) (N := 6) hx hb hts iw_X1setRights_X1 hown hK hP 0 rfl rfl 0 (by decide) (hts (.fieldLink RX1 14 "BackMirror" "live" "[LBackMirror$Thing;") (by decide +kernel)) (fun _ h9 => h9) rfl dX1_setRights_5 ?_
  refine lv_iload_n hx hb dX1_setRights_8 rfl (lv_at hl 1 rfl) ?_
  refine va_aldq hx hb hK hP 1 1 rfl rfl (xin (by omega) (by omega)) dX1_setRights_9 ?_
  obtain ⟨a1, ha1, hT1⟩ := hC.2 (j) (by omega)
  refine x_toprf (y := a1) (by rw [nI_clamp (by omega)]; exact ha1) ?_
  obtain ⟨hz1, q1, f1, hm1, hr1, he1⟩ := hT1
  refine lv_astore_n (lv' := [(3, .ref a1), (0, .ref x), (1, .int (nI j)), (2, .int w)]) hx hb dX1_setRights_10 rfl hl (by decide) rfl (fun ls hl => ?_)
  refine lv_aload_n hx hb dX1_setRights_11 rfl (lv_at hl 0 rfl) ?_
  refine va_get (ci := 0) (v := .int ((G (246 + j)).1)) (C := RX0) (T := TX0) (N := 3) hx hb hts iw_X1setRights_X0 hown hK (x1 hP (xm3 hm1)) 0 rfl rfl 0 (by decide) (hts (.fieldLink RX1 47 "BackMirror$Thing" "kind" "I") (by decide +kernel)) (fun _ h9 => h9) rfl dX1_setRights_12 ?_
  refine lv_if_ne (tgt := 28) hx hb dX1_setRights_15 (by decide) (fun c15 => ?_) (fun c15 => ?_)
  · refine lv_iload_n hx hb dX1_setRights_28 rfl (lv_at hl 3 rfl) ?_
    refine lv_if_lt (tgt := 38) hx hb dX1_setRights_29 (by decide) (fun c29 => ?_) (fun c29 => ?_)
    · obtain ⟨sa9, hsa9⟩ := hT.1 (79, "no such rights") (by decide)
      exact vx_throwS hx hb hst (own := RX1) (cls := nIA) (text := "no such rights") (names := nUP) (ik := 57) (is := 79) (ic := 61) hown (by decide +kernel) (by decide +kernel) (hts (.classLink RX1 57 nIA) (by decide +kernel)) (hts (.initialized nIA) (by decide +kernel)) hsa9 (vx_hat (fun w h => hts w (List.mem_cons_of_mem _ (List.mem_append_left _ (List.mem_append_right _ h)))) xb_IA (hT.use (X := nIA) (by decide))) xg_IA hT.2.2.2.1 hT.2.2.2.2 va_S.rf (hl.1.trans hml.symm) dX1_setRights_38 dX1_setRights_41 dX1_setRights_42 dX1_setRights_44 dX1_setRights_47 (fun x h => (hnt x h).elim) (Nat.le_of_ble_eq_true rfl) (Nat.le_of_ble_eq_true rfl) (Nat.le_of_ble_eq_true rfl) (Nat.le_of_ble_eq_true rfl) hlocks (fun t9 _ hz9 hk9 => ⟨Or.inr (Or.inr ⟨rfl, j, hj, rfl, c15, by rintro ⟨y9, h1, rfl⟩; first | exact xN0 (by omega) c29 | exact xNle h1 (by omega) c35⟩), hz9, hk9⟩) (fun _ h => nomatch h) (Nat.le_of_ble_eq_true rfl) (Nat.le_of_ble_eq_true rfl)
    · refine lv_iload_n hx hb dX1_setRights_32 rfl (lv_at hl 3 rfl) ?_
      refine lv_bipush (v := nI 7) hx hb dX1_setRights_33 (by decide) ?_
      refine lv_icmp_le (tgt := 48) hx hb dX1_setRights_35 (by decide) (fun c35 => ?_) (fun c35 => ?_)
      · obtain ⟨y, hy, rfl⟩ := xIn_t (n := 7) (by omega) c29 c35
        refine lv_aload_n hx hb dX1_setRights_48 rfl (lv_at hl 1 rfl) ?_
        refine va_get (ci := 1) (v := .ref lv) (C := RX1) (T := TX1) (N := 6) hx hb hts iw_X1setRights_X1 hown hK hP 0 rfl rfl 0 (by decide) (hts (.fieldLink RX1 14 "BackMirror" "live" "[LBackMirror$Thing;") (by decide +kernel)) (fun _ h9 => h9) rfl dX1_setRights_49 ?_
        refine lv_iload_n hx hb dX1_setRights_52 rfl (lv_at hl 2 rfl) ?_
        refine va_new (ci := 0) (fs := [.int 0, .int 0, .null]) (C := RX0) (T := TX0) (N := 3) hx hb hts iw_X1setRights_X0 tyX0 tyX0_ok hown (hts (.classLink RX1 7 RX0) (by decide +kernel)) (hts (.instantiable RX0 3) (by decide +kernel)) (hts (.initialized RX0) (by decide +kernel)) hK hP hD hS hA rfl (by intro j hj; match j, hj with | 0, _ => rfl | 1, _ => rfl | 2, _ => rfl) (by first | exact Nat.le_of_ble_eq_true rfl | (show _ ≤ 8; omega)) (by first | exact Nat.le_of_ble_eq_true rfl | (show _ ≤ 40; omega)) dX1_setRights_53 (fun q53 H hP hD hS => ?_)
        have hP : va_P D vwCl ((x, .inr (1, [.ref lv, .ref kp, .int (nI o), .int (nI ld), .int (nI b), .int (nI k)])) :: (lv, .inl (cT, 6, .inr (.inr (.inr (.inr fL))))) :: (kp, .inl (cT, 246, .inr (.inr (.inr (.inr fK))))) :: (FZ ++ [(q53, .inr (0, [.int 0, .int 0, .null]))])) H := hP
        have hD : va_D A ((x, .inr (1, [.ref lv, .ref kp, .int (nI o), .int (nI ld), .int (nI b), .int (nI k)])) :: (lv, .inl (cT, 6, .inr (.inr (.inr (.inr fL))))) :: (kp, .inl (cT, 246, .inr (.inr (.inr (.inr fK))))) :: (FZ ++ [(q53, .inr (0, [.int 0, .int 0, .null]))])) := hD
        refine lv_dup hx hb dX1_setRights_56 rfl ?_
        refine lv_aload_n hx hb dX1_setRights_57 rfl (lv_at hl 0 rfl) ?_
        refine va_get (ci := 0) (v := .int ((G (246 + j)).1)) (C := RX0) (T := TX0) (N := 3) hx hb hts iw_X1setRights_X0 hown hK (x1 hP (xm3 (List.mem_append_left _ (hm1)))) 0 rfl rfl 0 (by decide) (hts (.fieldLink RX1 47 "BackMirror$Thing" "kind" "I") (by decide +kernel)) (fun _ h9 => h9) rfl dX1_setRights_58 ?_
        refine lv_iload_n hx hb dX1_setRights_61 rfl (lv_at hl 3 rfl) ?_
        refine lv_aload_n hx hb dX1_setRights_62 rfl (lv_at hl 0 rfl) ?_
        refine va_get (ci := 0) (v := .ref q1) (C := RX0) (T := TX0) (N := 3) hx hb hts iw_X1setRights_X0 hown hK (x1 hP (xm3 (List.mem_append_left _ (hm1)))) 0 rfl rfl 2 (by decide) (hts (.fieldLink RX1 43 "BackMirror$Thing" "numbers" "[I") (by decide +kernel)) (fun _ h9 => h9) rfl dX1_setRights_63 ?_
        have hP : va_P D vwCl (((x, .inr (1, [.ref lv, .ref kp, .int (nI o), .int (nI ld), .int (nI b), .int (nI k)])) :: (lv, .inl (cT, 6, .inr (.inr (.inr (.inr fL))))) :: (kp, .inl (cT, 246, .inr (.inr (.inr (.inr fK))))) :: FZ) ++ [(q53, .inr (0, [.int 0, .int 0, .null]))]) H := hP
        have hD : va_D A (((x, .inr (1, [.ref lv, .ref kp, .int (nI o), .int (nI ld), .int (nI b), .int (nI k)])) :: (lv, .inl (cT, 6, .inr (.inr (.inr (.inr fL))))) :: (kp, .inl (cT, 246, .inr (.inr (.inr (.inr fK))))) :: FZ) ++ [(q53, .inr (0, [.int 0, .int 0, .null]))]) := hD
        have hFc := xfree (wc := [(q53, .inr (0, [.int 0, .int 0, .null]))]) hD hS hA (fun _ h => List.mem_append_right _ h)
        have hPc := xP_sub (w2 := [(q53, .inr (0, [.int 0, .int 0, .null]))]) (fun _ h => List.mem_append_right _ h) hP
        have hDc : va_D (fun _ => True) [(q53, .inr (0, [.int 0, .int 0, .null]))] := (xD_sub (List.sublist_append_right _ _) hD).weaken (fun _ _ _ _ => trivial)
        refine va_callv (va_runI (As := [.int ((G (246 + j)).1), .int (nI y), .ref q1]) (rest := [.ref q53, .int (nI j), .ref lv]) ⟨hx, hb, hml, hown, hts⟩ (c_X0_init l q53 q1 H.size ((G (246 + j)).1) (nI y)) (cwI 3 hts gX1_setRights_X0_init rfl rfl rfl (hts (.initialized RX0) (by decide +kernel)) (hts (.methodLink RX1 11 yX0_init) (by decide +kernel)) (hts (.instanceMethod yX0_init) (by decide +kernel)) rfl (by decide +kernel) ⟨(Nat.le_of_ble_eq_true rfl), (Nat.le_of_ble_eq_true rfl)⟩) ⟨XP_blind, XP_pre hE ⟨rfl, hPc, hDc⟩⟩ rfl rfl hl.1 rfl (lv_room (Nat.le_of_ble_eq_true rfl)) dX1_setRights_66 ⟨by first | exact Nat.le_of_ble_eq_true rfl | (show _ + _ ≤ _; omega), by first | exact Nat.le_of_ble_eq_true rfl | (show _ + _ ≤ _; omega)⟩) hS (fun q9 _ h => hFc q9 h) hFc (fun u t9 H1 locs ht9 hvm9 hw9 hB9 hzc hkc hS => ?_)
        obtain ⟨hP1, hD1⟩ := hB9
        rw [ht9] at hP1
        obtain ⟨hP, hD⟩ := xjoin (wr := ((x, .inr (1, [.ref lv, .ref kp, .int (nI o), .int (nI ld), .int (nI b), .int (nI k)])) :: (lv, .inl (cT, 6, .inr (.inr (.inr (.inr fL))))) :: (kp, .inl (cT, 246, .inr (.inr (.inr (.inr fK))))) :: FZ)) (wc := [(q53, .inr (0, [.int 0, .int 0, .null]))]) (w1 := [(q53, .inr (0, [.int ((G (246 + j)).1), .int (nI y), .ref q1]))]) hP hD hkc hFc hP1 hD1
        generalize H1 = H at hP hS ⊢
        have hP : va_P D vwCl ((x, .inr (1, [.ref lv, .ref kp, .int (nI o), .int (nI ld), .int (nI b), .int (nI k)])) :: (lv, .inl (cT, 6, .inr (.inr (.inr (.inr fL))))) :: (kp, .inl (cT, 246, .inr (.inr (.inr (.inr fK))))) :: (FZ ++ [(q53, .inr (0, [.int ((G (246 + j)).1), .int (nI y), .ref q1]))])) H := hP
        have hD : va_D A ((x, .inr (1, [.ref lv, .ref kp, .int (nI o), .int (nI ld), .int (nI b), .int (nI k)])) :: (lv, .inl (cT, 6, .inr (.inr (.inr (.inr fL))))) :: (kp, .inl (cT, 246, .inr (.inr (.inr (.inr fK))))) :: (FZ ++ [(q53, .inr (0, [.int ((G (246 + j)).1), .int (nI y), .ref q1]))])) := hD
        obtain ⟨j9, hj9⟩ := List.getElem?_of_mem (show (((q53, .inr (0, [.int ((G (246 + j)).1), .int (nI y), .ref q1])) : Nat × va_E)) ∈ (FZ ++ [(q53, .inr (0, [.int ((G (246 + j)).1), .int (nI y), .ref q1]))]) from List.mem_append_right _ (List.mem_singleton.mpr rfl))
        refine va_astq (r := (RX0, TX0, 3)) hx hb hK hP hD hS 1 1 (j9 + 3) 0 rfl rfl hj9 rfl (xin (by omega) (by omega)) dX1_setRights_69 (fun H locs hP hD hS => ?_)
        rw [nI_clamp (show j < 2 ^ 31 by omega)] at hP hD
        have hP : va_P D vwCl ((x, .inr (1, [.ref lv, .ref kp, .int (nI o), .int (nI ld), .int (nI b), .int (nI k)])) :: (lv, .inl (cT, 6, .inr (.inr (.inr (.inr (va_up fL j (some q53))))))) :: (kp, .inl (cT, 246, .inr (.inr (.inr (.inr fK))))) :: (FZ ++ [(q53, .inr (0, [.int ((G (246 + j)).1), .int (nI y), .ref q1]))])) H := hP
        have hD : va_D A ((x, .inr (1, [.ref lv, .ref kp, .int (nI o), .int (nI ld), .int (nI b), .int (nI k)])) :: (lv, .inl (cT, 6, .inr (.inr (.inr (.inr (va_up fL j (some q53))))))) :: (kp, .inl (cT, 246, .inr (.inr (.inr (.inr fK))))) :: (FZ ++ [(q53, .inr (0, [.int ((G (246 + j)).1), .int (nI y), .ref q1]))])) := hD
        refine lv_aload_n hx hb dX1_setRights_70 rfl (lv_at hl 0 rfl) ?_
        refine va_get (ci := 0) (v := .int ((G (246 + j)).2.1)) (C := RX0) (T := TX0) (N := 3) hx hb hts iw_X1setRights_X0 hown hK (x1 hP (xm3 (List.mem_append_left _ (hm1)))) 0 rfl rfl 1 (by decide) (hts (.fieldLink RX1 62 "BackMirror$Thing" "rights" "I") (by decide +kernel)) (fun _ h9 => h9) rfl dX1_setRights_71 ?_
        refine vx_ret ?_
        refine W.widen (k := 8) (n := 40) (by first | exact Nat.le_of_ble_eq_true rfl | (show _ ≤ 8; omega)) (by first | exact Nat.le_of_ble_eq_true rfl | (show _ ≤ 40; omega)) ?_
        exact W.iret hx hb hr (fun t9 ht9 hW9 => ⟨⟨_, (va_up G (246 + j) ((G (246 + j)).1, nI y, (G (246 + j)).2.2.1, (G (246 + j)).2.2.2), o, ld, b, k), rfl, ⟨j, y, hj, rfl, c15, hy, rfl, rfl, rfl⟩, ⟨_, _, _, by rw [ht9]; exact hP, hD, (hC.app).live (v := ((G (246 + j)).1, nI y, (G (246 + j)).2.2.1, (G (246 + j)).2.2.2)) ⟨hz1, q1, f1, List.mem_append_right _ (List.mem_singleton.mpr rfl), List.mem_append_left _ hr1, he1⟩⟩⟩, hS.F ht9⟩) hS.2.2 dX1_setRights_74
      · obtain ⟨sa9, hsa9⟩ := hT.1 (79, "no such rights") (by decide)
        exact vx_throwS hx hb hst (own := RX1) (cls := nIA) (text := "no such rights") (names := nUP) (ik := 57) (is := 79) (ic := 61) hown (by decide +kernel) (by decide +kernel) (hts (.classLink RX1 57 nIA) (by decide +kernel)) (hts (.initialized nIA) (by decide +kernel)) hsa9 (vx_hat (fun w h => hts w (List.mem_cons_of_mem _ (List.mem_append_left _ (List.mem_append_right _ h)))) xb_IA (hT.use (X := nIA) (by decide))) xg_IA hT.2.2.2.1 hT.2.2.2.2 va_S.rf (hl.1.trans hml.symm) dX1_setRights_38 dX1_setRights_41 dX1_setRights_42 dX1_setRights_44 dX1_setRights_47 (fun x h => (hnt x h).elim) (Nat.le_of_ble_eq_true rfl) (Nat.le_of_ble_eq_true rfl) (Nat.le_of_ble_eq_true rfl) (Nat.le_of_ble_eq_true rfl) hlocks (fun t9 _ hz9 hk9 => ⟨Or.inr (Or.inr ⟨rfl, j, hj, rfl, c15, by rintro ⟨y9, h1, rfl⟩; first | exact xN0 (by omega) c29 | exact xNle h1 (by omega) c35⟩), hz9, hk9⟩) (fun _ h => nomatch h) (Nat.le_of_ble_eq_true rfl) (Nat.le_of_ble_eq_true rfl)
  · obtain ⟨sa9, hsa9⟩ := hT.1 (77, "nothing there") (by decide)
    exact vx_throwS hx hb hst (own := RX1) (cls := nIS) (text := "nothing there") (names := nUP) (ik := 50) (is := 77) (ic := 54) hown (by decide +kernel) (by decide +kernel) (hts (.classLink RX1 50 nIS) (by decide +kernel)) (hts (.initialized nIS) (by decide +kernel)) hsa9 (vx_hat (fun w h => hts w (List.mem_cons_of_mem _ (List.mem_append_left _ (List.mem_append_left _ (List.mem_append_right _ h))))) xb_IS (hT.use (X := nIS) (by decide))) xg_IS hT.2.2.2.1 hT.2.2.2.2 va_S.rf (hl.1.trans hml.symm) dX1_setRights_18 dX1_setRights_21 dX1_setRights_22 dX1_setRights_24 dX1_setRights_27 (fun x h => (hnt x h).elim) (Nat.le_of_ble_eq_true rfl) (Nat.le_of_ble_eq_true rfl) (Nat.le_of_ble_eq_true rfl) (Nat.le_of_ble_eq_true rfl) hlocks (fun t9 _ hz9 hk9 => ⟨Or.inr (Or.inl ⟨rfl, j, hj, rfl, c15⟩), hz9, hk9⟩) (fun _ h => nomatch h) (Nat.le_of_ble_eq_true rfl) (Nat.le_of_ble_eq_true rfl)
end
section
/-! run, thin, restore -/
theorem xIn1_t {v : Int32} {n : Nat} (hn : n < 2 ^ 31) (h1 : 1 ≤ n) (h0 : ¬ v < nI 1) (h2 : v ≤ nI n) : ∃ j, 1 ≤ j ∧ j ≤ n ∧ v = nI j := by
  have hv : ¬ v < 0 := fun h => h0 (Int32.lt_trans h (by decide))
  obtain ⟨j, hj, rfl⟩ := xIn_t hn hv h2
  exact ⟨j, Nat.le_of_not_lt fun g => h0 ((xlt (by omega) (by omega)).mpr g), hj, rfl⟩

theorem iw_X1run_X1 : ∀ w ∈ u_ws RX1 TX1 6, w ∈ wsX1_run := by decide +kernel
set_option maxHeartbeats 4000000 in
set_option maxRecDepth 100000 in
theorem c_X1_run (l : Launch) (hst : l.stackTraces = false) {D : va_G} {cI cT cJ : ClassId} (Ax : Nat → Prop) (x lv kp : Nat) (fL fK : Nat → Option Nat) (o ld b k : Nat) (FZ : va_W) (G : Nat → Tv) (hC : CA cI FZ fL fK G) (v : Int32) (hld : ld ≤ 40) (sz : Nat) : vx_Met l yX1_run wsX1_run (rmD 8 8 40) (XPx D cI cT cJ Ax [.ref x, .int v] (fun H => H.size = sz ∧ va_P D vwCl (CW cT x lv kp fL fK o ld b k FZ) H ∧ va_D (fun _ => True) (CW cT x lv kp fL fK o ld b k FZ))) (va_Qi (S := Sv) (fun r u => ∃ s, s ≤ 6 ∧ v = nI s ∧ ld < 40 ∧ ((s < dfN G ld 6 ∧ r = -1 ∧ u = (G, o, ld, 1, s)) ∨ (dfN G ld 6 ≤ s ∧ r = nI (ld + 1) ∧ u = (cpD G (ld + 1) 6, o, ld + 1, 0, 0)))) (fun u t => CB D cI cT x lv kp (va_A (CW cT x lv kp fL fK o ld b k FZ) sz) u t.heap) (va_A (CW cT x lv kp fL fK o ld b k FZ) sz)) (XXc (fun E => (E = nIA ∧ ¬ ∃ s, s ≤ 6 ∧ v = nI s) ∨ (E = nIS ∧ (∃ s, s ≤ 6 ∧ v = nI s) ∧ ¬ ld < 40))) 8 40 (va_A (CW cT x lv kp fL fK o ld b k FZ) sz) := by
  refine vx_ofW (cc := cX1_run) (maxL := 3) (ret := (some .int)) (by decide) rfl ?_
  intro p e s m args below meth c s₁ B hml hnt hv
  obtain ⟨rfl, ⟨hsz, hP, hD0⟩, hE, hT⟩ := hv
  have hx := B.exec
  have hb := B.bytes
  have hr := B.returns
  have hts := atoms_spec (ws := wsX1_run) B.pre
  have hown : s.vm.findClass RX1 = some m.cls := findClass_of_methodNamed B.named
  have hlocks := B.notSynchronized
  have hl := lv_entry ([.ref x, .int v]) (n := 3) (Nat.le_of_ble_eq_true rfl)
  rw [lg_entry_eq]
  generalize (lg_sl ([.ref x, .int v]) ++ List.replicate (3 - (lg_sl ([.ref x, .int v])).length) Slot.unset).toArray = ls at hl ⊢
  have hl : lv_has ls 3 [(0, .ref x), (1, .int v)] := hl
  have hK := hE.1
  subst hsz
  have hD := hD0.self (sz := s.heap.size)
  generalize hAe : va_A (CW cT x lv kp fL fK o ld b k FZ) s.heap.size = A at hD ⊢
  have hA : ∀ q : Nat, s.heap.size ≤ q → A q := fun q h => by rw [← hAe]; exact Or.inr h
  have hS : va_S A s.heap s.heap [] := va_S.rf
  refine lv_iload_n hx hb dX1_run_0 rfl (lv_at hl 1 rfl) ?_
  refine lv_if_lt (tgt := 10) hx hb dX1_run_1 (by decide) (fun c1 => ?_) (fun c1 => ?_)
  · obtain ⟨sa9, hsa9⟩ := hT.1 (81, "no such number of steps") (by decide)
    exact vx_throwS hx hb hst (own := RX1) (cls := nIA) (text := "no such number of steps") (names := nUP) (ik := 57) (is := 81) (ic := 61) hown (by decide +kernel) (by decide +kernel) (hts (.classLink RX1 57 nIA) (by decide +kernel)) (hts (.initialized nIA) (by decide +kernel)) hsa9 (vx_hat (fun w h => hts w (List.mem_cons_of_mem _ (List.mem_append_left _ (List.mem_append_right _ h)))) xb_IA (hT.use (X := nIA) (by decide))) xg_IA hT.2.2.2.1 hT.2.2.2.2 va_S.rf (hl.1.trans hml.symm) dX1_run_10 dX1_run_13 dX1_run_14 dX1_run_16 dX1_run_19 (fun x h => (hnt x h).elim) (Nat.le_of_ble_eq_true rfl) (Nat.le_of_ble_eq_true rfl) (Nat.le_of_ble_eq_true rfl) (Nat.le_of_ble_eq_true rfl) hlocks (fun t9 _ hz9 hk9 => ⟨Or.inl ⟨rfl, by rintro ⟨s9, h1, rfl⟩; first | exact xN0 (by omega) c1 | exact xNle h1 (by omega) c7⟩, hz9, hk9⟩) (fun _ h => nomatch h) (Nat.le_of_ble_eq_true rfl) (Nat.le_of_ble_eq_true rfl)
  · refine lv_iload_n hx hb dX1_run_4 rfl (lv_at hl 1 rfl) ?_
    refine lv_bipush (v := nI 6) hx hb dX1_run_5 (by decide) ?_
    refine lv_icmp_le (tgt := 20) hx hb dX1_run_7 (by decide) (fun c7 => ?_) (fun c7 => ?_)
    · obtain ⟨sp, hsp, rfl⟩ := xIn_t (n := 6) (by omega) c1 c7
      have hg := dfN_le (G := G) (d := ld) 6
      refine lv_aload_n hx hb dX1_run_20 rfl (lv_at hl 0 rfl) ?_
      refine va_get (ci := 1) (v := .int (nI ld)) (C := RX1) (T := TX1) (N := 6) hx hb hts iw_X1run_X1 hown hK hP 0 rfl rfl 3 (by decide) (hts (.fieldLink RX1 25 "BackMirror" "lastDate" "I") (by decide +kernel)) (fun _ h9 => h9) rfl dX1_run_21 ?_
      refine lv_bipush (v := nI 40) hx hb dX1_run_24 (by decide) ?_
      refine lv_icmp_lt (tgt := 39) hx hb dX1_run_26 (by decide) (fun c26 => ?_) (fun c26 => ?_)
      · have c26 : ld < 40 := (xlt (by omega) (by omega)).mp c26
        refine lv_aload_n hx hb dX1_run_39 rfl (lv_at hl 0 rfl) ?_
        have hP : va_P D vwCl ([] ++ (CW cT x lv kp fL fK o ld b k FZ)) s.heap := hP
        have hD : va_D A ([] ++ (CW cT x lv kp fL fK o ld b k FZ)) := hD
        have hFc := xfree (wc := (CW cT x lv kp fL fK o ld b k FZ)) hD hS hA (fun _ h => List.mem_append_right _ h)
        have hPc := xP_sub (w2 := (CW cT x lv kp fL fK o ld b k FZ)) (fun _ h => List.mem_append_right _ h) hP
        have hDc : va_D (fun _ => True) (CW cT x lv kp fL fK o ld b k FZ) := (xD_sub (List.sublist_append_right _ _) hD).weaken (fun _ _ _ _ => trivial)
        refine va_calli (va_runV (As := []) (rest := []) ⟨hx, hb, hml, hown, hts⟩ (c_X1_undoBrokenRun l x lv kp fL fK o ld b k FZ s.heap.size) (cwV 0 hts gX1_run_X1_undoBrokenRun rfl rfl rfl (by decide +kernel) ⟨(Nat.le_of_ble_eq_true rfl), (Nat.le_of_ble_eq_true rfl)⟩) ⟨XP_blind, va_recv hK hP (ci := 1) (q0 := 0) rfl rfl, XP_pre hE ⟨rfl, hPc, hDc⟩⟩ rfl rfl hl.1 rfl (lv_room (Nat.le_of_ble_eq_true rfl)) dX1_run_40 ⟨by first | exact Nat.le_of_ble_eq_true rfl | (show _ + _ ≤ _; omega), by first | exact Nat.le_of_ble_eq_true rfl | (show _ + _ ≤ _; omega)⟩) hS (fun q9 _ h => hFc q9 h) hFc (fun r9 u t9 H1 locs ht9 hvm9 hw9 hB9 hzc hkc hS => ?_)
        obtain ⟨hP1, hD1⟩ := hB9
        rw [ht9] at hP1
        obtain ⟨hP, hD⟩ := xjoin (wr := []) (wc := (CW cT x lv kp fL fK o ld b k FZ)) (w1 := (CW cT x lv kp fL fK o ld 0 0 FZ)) hP hD hkc hFc hP1 hD1
        generalize H1 = H at hP hS ⊢
        subst hw9
        have hP : va_P D vwCl ((x, .inr (1, [.ref lv, .ref kp, .int (nI o), .int (nI ld), .int (nI 0), .int (nI 0)])) :: (lv, .inl (cT, 6, .inr (.inr (.inr (.inr fL))))) :: (kp, .inl (cT, 246, .inr (.inr (.inr (.inr fK))))) :: FZ) H := hP
        have hD : va_D A ((x, .inr (1, [.ref lv, .ref kp, .int (nI o), .int (nI ld), .int (nI 0), .int (nI 0)])) :: (lv, .inl (cT, 6, .inr (.inr (.inr (.inr fL))))) :: (kp, .inl (cT, 246, .inr (.inr (.inr (.inr fK))))) :: FZ) := hD
        refine lv_pop hx hb dX1_run_43 rfl ?_
        refine lv_iload_n hx hb dX1_run_44 rfl (lv_at hl 1 rfl) ?_
        refine lv_aload_n hx hb dX1_run_45 rfl (lv_at hl 0 rfl) ?_
        refine xc_sie (va_runV (As := []) (rest := [.int (nI sp)]) ⟨hx, hb, hml, hown, hts⟩ (c_X1_stepsNeeded l x lv kp fL fK o ld 0 0 FZ G hC (by omega)) (cwV 0 hts gX1_run_X1_stepsNeeded rfl rfl rfl (by decide +kernel) ⟨(Nat.le_of_ble_eq_true rfl), (Nat.le_of_ble_eq_true rfl)⟩) ⟨XP_blind, va_recv hK hP (ci := 1) (q0 := 0) rfl rfl, XP_pre hE hP⟩ rfl rfl hl.1 rfl (lv_room (Nat.le_of_ble_eq_true rfl)) dX1_run_46 ⟨Nat.le_of_ble_eq_true rfl, Nat.le_of_ble_eq_true rfl⟩) ?_
        refine lv_icmp_ge (tgt := 64) hx hb dX1_run_49 (by decide) (fun c49 => ?_) (fun c49 => ?_)
        · have c49 : (dfN G ld 6) ≤ sp := (xle (by omega) (by omega)).mp c49
          refine lv_aload_n hx hb dX1_run_64 rfl (lv_at hl 0 rfl) ?_
          refine lv_dup hx hb dX1_run_65 rfl ?_
          refine va_get (ci := 1) (v := .int (nI ld)) (C := RX1) (T := TX1) (N := 6) hx hb hts iw_X1run_X1 hown hK hP 0 rfl rfl 3 (by decide) (hts (.fieldLink RX1 25 "BackMirror" "lastDate" "I") (by decide +kernel)) (fun _ h9 => h9) rfl dX1_run_66 ?_
          refine lv_iconst (v := nI 1) hx hb dX1_run_69 (by decide) ?_
          refine lv_iadd hx hb dX1_run_70 ?_
          refine x_top (nI (ld + 1)) (xadd (by omega)) ?_
          refine va_put (ci := 1) (v := .int (nI (ld + 1))) (ty := .int) (C := RX1) (T := TX1) (N := 6) hx hb hts iw_X1run_X1 tyX1 tyX1_ok nmX1 hown hK hP hD hS 0 rfl rfl 3 (by decide) (hts (.fieldLink RX1 25 "BackMirror" "lastDate" "I") (by decide +kernel)) (fun _ h9 => h9) rfl (by decide +kernel) rfl rfl (Nat.le_of_ble_eq_true rfl) dX1_run_71 (fun H locs hP hD hS => ?_)
          have hP : va_P D vwCl ((x, .inr (1, [.ref lv, .ref kp, .int (nI o), .int (nI (ld + 1)), .int (nI 0), .int (nI 0)])) :: (lv, .inl (cT, 6, .inr (.inr (.inr (.inr fL))))) :: (kp, .inl (cT, 246, .inr (.inr (.inr (.inr fK))))) :: FZ) H := hP
          have hD : va_D A ((x, .inr (1, [.ref lv, .ref kp, .int (nI o), .int (nI (ld + 1)), .int (nI 0), .int (nI 0)])) :: (lv, .inl (cT, 6, .inr (.inr (.inr (.inr fL))))) :: (kp, .inl (cT, 246, .inr (.inr (.inr (.inr fK))))) :: FZ) := hD
          refine lv_iconst (v := nI 0) hx hb dX1_run_74 (by decide) ?_
          refine lv_istore_n (lv' := [(2, .int (nI 0)), (0, .ref x), (1, .int (nI sp))]) hx hb dX1_run_75 rfl hl (by decide) rfl (fun ls hl => ?_)
          refine x_loop (fun n H locs ls => ∃ (p j : Nat) (fK' : Nat → Option Nat), (j + 1 = n) ∧ (6 ≤ p + j) ∧ (p ≤ 6) ∧ (CA cI FZ fL fK' (cpD G (ld + 1) p)) ∧ va_P D vwCl ((x, .inr (1, [.ref lv, .ref kp, .int (nI o), .int (nI (ld + 1)), .int (nI 0), .int (nI 0)])) :: (lv, .inl (cT, 6, .inr (.inr (.inr (.inr fL))))) :: (kp, .inl (cT, 246, .inr (.inr (.inr (.inr fK'))))) :: FZ) H ∧ va_D A ((x, .inr (1, [.ref lv, .ref kp, .int (nI o), .int (nI (ld + 1)), .int (nI 0), .int (nI 0)])) :: (lv, .inl (cT, 6, .inr (.inr (.inr (.inr fL))))) :: (kp, .inl (cT, 246, .inr (.inr (.inr (.inr fK'))))) :: FZ) ∧ va_S A s.heap H locs ∧ lv_has ls 3 [(2, .int (nI p)), (0, .ref x), (1, .int (nI sp))]) (7) ⟨0, 6, fK, rfl, by omega, by omega, by rw [cpD_0]; exact hC, hP, hD, hS, lv_sub hl [0, 1, 2] rfl⟩ (fun H locs ls h => by obtain ⟨p, j, fK', hk, h1, h2, hC, -⟩ := h; omega) (fun n H locs ls h ih => ?_)
          obtain ⟨p, j, fK', hk, h1, h2, hC, hP, hD, hS, hl⟩ := h
          refine lv_iload_n hx hb dX1_run_76 rfl (lv_at hl 0 rfl) ?_
          refine lv_bipush (v := nI 6) hx hb dX1_run_77 (by decide) ?_
          refine lv_icmp_ge (tgt := 107) hx hb dX1_run_79 (by decide) (fun c79 => ?_) (fun c79 => ?_)
          · have c79 : 6 ≤ p := (xle (by omega) (by omega)).mp c79
            obtain rfl : p = 6 := by omega
            refine lv_aload_n hx hb dX1_run_107 rfl (lv_at hl 1 rfl) ?_
            refine va_get (ci := 1) (v := .int (nI (ld + 1))) (C := RX1) (T := TX1) (N := 6) hx hb hts iw_X1run_X1 hown hK hP 0 rfl rfl 3 (by decide) (hts (.fieldLink RX1 25 "BackMirror" "lastDate" "I") (by decide +kernel)) (fun _ h9 => h9) rfl dX1_run_108 ?_
            refine vx_ret ?_
            refine W.widen (k := 8) (n := 40) (by first | exact Nat.le_of_ble_eq_true rfl | (show _ ≤ 8; omega)) (by first | exact Nat.le_of_ble_eq_true rfl | (show _ ≤ 40; omega)) ?_
            exact W.iret hx hb hr (fun t9 ht9 hW9 => ⟨⟨_, (cpD G (ld + 1) 6, o, ld + 1, 0, 0), rfl, ⟨sp, hsp, rfl, by omega, Or.inr ⟨by omega, rfl, rfl⟩⟩, ⟨_, _, _, by rw [ht9]; exact hP, hD, hC⟩⟩, hS.F ht9⟩) hS.2.2 dX1_run_111
          · have c79 : ¬ 6 ≤ p := fun h => c79 ((xle (by omega) (by omega)).mpr h)
            refine lv_aload_n hx hb dX1_run_82 rfl (lv_at hl 1 rfl) ?_
            refine va_get (ci := 1) (v := .ref kp) (C := RX1) (T := TX1) (N := 6) hx hb hts iw_X1run_X1 hown hK hP 0 rfl rfl 1 (by decide) (hts (.fieldLink RX1 18 "BackMirror" "kept" "[LBackMirror$Thing;") (by decide +kernel)) (fun _ h9 => h9) rfl dX1_run_83 ?_
            refine lv_aload_n hx hb dX1_run_86 rfl (lv_at hl 1 rfl) ?_
            refine va_get (ci := 1) (v := .int (nI (ld + 1))) (C := RX1) (T := TX1) (N := 6) hx hb hts iw_X1run_X1 hown hK hP 0 rfl rfl 3 (by decide) (hts (.fieldLink RX1 25 "BackMirror" "lastDate" "I") (by decide +kernel)) (fun _ h9 => h9) rfl dX1_run_87 ?_
            refine lv_iload_n hx hb dX1_run_90 rfl (lv_at hl 0 rfl) ?_
            refine xc_sie (va_runS (As := [.int (nI (ld + 1)), .int (nI p)]) (rest := [.ref kp]) ⟨hx, hb, hml, hown, hts⟩ (c_X1_keptIndex l (ld + 1) p) (va_cwS 2 hts gX1_run_X1_keptIndex rfl rfl rfl (by decide +kernel) ⟨(Nat.le_of_ble_eq_true rfl), (Nat.le_of_ble_eq_true rfl)⟩) ⟨XP_blind, XP_pre hE trivial⟩ rfl rfl hl.1 rfl (lv_room (Nat.le_of_ble_eq_true rfl)) dX1_run_91 ⟨Nat.le_of_ble_eq_true rfl, Nat.le_of_ble_eq_true rfl⟩) ?_
            refine lv_aload_n hx hb dX1_run_94 rfl (lv_at hl 1 rfl) ?_
            refine va_get (ci := 1) (v := .ref lv) (C := RX1) (T := TX1) (N := 6) hx hb hts iw_X1run_X1 hown hK hP 0 rfl rfl 0 (by decide) (hts (.fieldLink RX1 14 "BackMirror" "live" "[LBackMirror$Thing;") (by decide +kernel)) (fun _ h9 => h9) rfl dX1_run_95 ?_
            refine lv_iload_n hx hb dX1_run_98 rfl (lv_at hl 0 rfl) ?_
            refine va_aldq hx hb hK hP 1 1 rfl rfl (xin (by omega) (by omega)) dX1_run_99 ?_
            obtain ⟨a1, ha1, hT1⟩ := hC.2 (p) (by omega)
            refine x_toprf (y := a1) (by rw [nI_clamp (by omega)]; exact ha1) ?_
            obtain ⟨hz1, q1, f1, hm1, hr1, he1⟩ := hT1
            obtain ⟨j9, hj9⟩ := List.getElem?_of_mem (hm1)
            refine va_astq (r := (RX0, TX0, 3)) hx hb hK hP hD hS 2 1 (j9 + 3) 0 rfl rfl hj9 rfl (xin (by omega) (by omega)) dX1_run_100 (fun H locs hP hD hS => ?_)
            rw [nI_clamp (show 6 * (ld + 1) + p < 2 ^ 31 by omega)] at hP hD
            have hP : va_P D vwCl ((x, .inr (1, [.ref lv, .ref kp, .int (nI o), .int (nI (ld + 1)), .int (nI 0), .int (nI 0)])) :: (lv, .inl (cT, 6, .inr (.inr (.inr (.inr fL))))) :: (kp, .inl (cT, 246, .inr (.inr (.inr (.inr (va_up fK' (6 * (ld + 1) + p) (some a1))))))) :: FZ) H := hP
            have hD : va_D A ((x, .inr (1, [.ref lv, .ref kp, .int (nI o), .int (nI (ld + 1)), .int (nI 0), .int (nI 0)])) :: (lv, .inl (cT, 6, .inr (.inr (.inr (.inr fL))))) :: (kp, .inl (cT, 246, .inr (.inr (.inr (.inr (va_up fK' (6 * (ld + 1) + p) (some a1))))))) :: FZ) := hD
            refine lv_iinc (v := nI (p + 1)) (lv' := [(2, .int (nI (p + 1))), (0, .ref x), (1, .int (nI sp))]) hx hb dX1_run_101 hl (k := 0) rfl (xinc _ 1 _ (by decide)) (by decide) rfl (fun ls hl => ?_)
            refine lv_goto (tgt := 76) hx hb dX1_run_104 (by decide) ?_
            exact ih _ _ _ ⟨p + 1, j - 1, (va_up fK' (6 * (ld + 1) + p) (some a1)), by omega, by omega, by omega, by rw [cpD_s (by omega) (by omega)]; exact hC.kept (by omega) ⟨hz1, q1, f1, hm1, hr1, he1⟩, hP, hD, hS, lv_sub hl [0, 1, 2] rfl⟩
        · have c49 : ¬ (dfN G ld 6) ≤ sp := fun h => c49 ((xle (by omega) (by omega)).mpr h)
          refine lv_aload_n hx hb dX1_run_52 rfl (lv_at hl 0 rfl) ?_
          refine lv_iconst (v := nI 1) hx hb dX1_run_53 (by decide) ?_
          refine va_put (ci := 1) (v := .int (nI 1)) (ty := .boolean) (C := RX1) (T := TX1) (N := 6) hx hb hts iw_X1run_X1 tyX1 tyX1_ok nmX1 hown hK hP hD hS 0 rfl rfl 4 (by decide) (hts (.fieldLink RX1 28 "BackMirror" "broken" "Z") (by decide +kernel)) (fun _ h9 => h9) rfl (by decide +kernel) (by decide) rfl (Nat.le_of_ble_eq_true rfl) dX1_run_54 (fun H locs hP hD hS => ?_)
          have hP : va_P D vwCl ((x, .inr (1, [.ref lv, .ref kp, .int (nI o), .int (nI ld), .int (nI 1), .int (nI 0)])) :: (lv, .inl (cT, 6, .inr (.inr (.inr (.inr fL))))) :: (kp, .inl (cT, 246, .inr (.inr (.inr (.inr fK))))) :: FZ) H := hP
          have hD : va_D A ((x, .inr (1, [.ref lv, .ref kp, .int (nI o), .int (nI ld), .int (nI 1), .int (nI 0)])) :: (lv, .inl (cT, 6, .inr (.inr (.inr (.inr fL))))) :: (kp, .inl (cT, 246, .inr (.inr (.inr (.inr fK))))) :: FZ) := hD
          refine lv_aload_n hx hb dX1_run_57 rfl (lv_at hl 0 rfl) ?_
          refine lv_iload_n hx hb dX1_run_58 rfl (lv_at hl 1 rfl) ?_
          refine va_put (ci := 1) (v := .int (nI sp)) (ty := .int) (C := RX1) (T := TX1) (N := 6) hx hb hts iw_X1run_X1 tyX1 tyX1_ok nmX1 hown hK hP hD hS 0 rfl rfl 5 (by decide) (hts (.fieldLink RX1 32 "BackMirror" "brokenSteps" "I") (by decide +kernel)) (fun _ h9 => h9) rfl (by decide +kernel) rfl rfl (Nat.le_of_ble_eq_true rfl) dX1_run_59 (fun H locs hP hD hS => ?_)
          have hP : va_P D vwCl ((x, .inr (1, [.ref lv, .ref kp, .int (nI o), .int (nI ld), .int (nI 1), .int (nI sp)])) :: (lv, .inl (cT, 6, .inr (.inr (.inr (.inr fL))))) :: (kp, .inl (cT, 246, .inr (.inr (.inr (.inr fK))))) :: FZ) H := hP
          have hD : va_D A ((x, .inr (1, [.ref lv, .ref kp, .int (nI o), .int (nI ld), .int (nI 1), .int (nI sp)])) :: (lv, .inl (cT, 6, .inr (.inr (.inr (.inr fL))))) :: (kp, .inl (cT, 246, .inr (.inr (.inr (.inr fK))))) :: FZ) := hD
          refine lv_iconst (v := (-1)) hx hb dX1_run_62 (by decide) ?_
          refine vx_ret ?_
          refine W.widen (k := 8) (n := 40) (by first | exact Nat.le_of_ble_eq_true rfl | (show _ ≤ 8; omega)) (by first | exact Nat.le_of_ble_eq_true rfl | (show _ ≤ 40; omega)) ?_
          exact W.iret hx hb hr (fun t9 ht9 hW9 => ⟨⟨_, (G, o, ld, 1, sp), rfl, ⟨sp, hsp, rfl, by omega, Or.inl ⟨by omega, rfl, rfl⟩⟩, ⟨_, _, _, by rw [ht9]; exact hP, hD, hC⟩⟩, hS.F ht9⟩) hS.2.2 dX1_run_63
      · have c26 : ¬ ld < 40 := fun h => c26 ((xlt (by omega) (by omega)).mpr h)
        obtain ⟨sa9, hsa9⟩ := hT.1 (83, "all dates were made") (by decide)
        exact vx_throwS hx hb hst (own := RX1) (cls := nIS) (text := "all dates were made") (names := nUP) (ik := 50) (is := 83) (ic := 54) hown (by decide +kernel) (by decide +kernel) (hts (.classLink RX1 50 nIS) (by decide +kernel)) (hts (.initialized nIS) (by decide +kernel)) hsa9 (vx_hat (fun w h => hts w (List.mem_cons_of_mem _ (List.mem_append_right _ h))) xb_IS (hT.use (X := nIS) (by decide))) xg_IS hT.2.2.2.1 hT.2.2.2.2 va_S.rf (hl.1.trans hml.symm) dX1_run_29 dX1_run_32 dX1_run_33 dX1_run_35 dX1_run_38 (fun x h => (hnt x h).elim) (Nat.le_of_ble_eq_true rfl) (Nat.le_of_ble_eq_true rfl) (Nat.le_of_ble_eq_true rfl) (Nat.le_of_ble_eq_true rfl) hlocks (fun t9 _ hz9 hk9 => ⟨Or.inr ⟨rfl, ⟨sp, hsp, rfl⟩, by omega⟩, hz9, hk9⟩) (fun _ h => nomatch h) (Nat.le_of_ble_eq_true rfl) (Nat.le_of_ble_eq_true rfl)
    · obtain ⟨sa9, hsa9⟩ := hT.1 (81, "no such number of steps") (by decide)
      exact vx_throwS hx hb hst (own := RX1) (cls := nIA) (text := "no such number of steps") (names := nUP) (ik := 57) (is := 81) (ic := 61) hown (by decide +kernel) (by decide +kernel) (hts (.classLink RX1 57 nIA) (by decide +kernel)) (hts (.initialized nIA) (by decide +kernel)) hsa9 (vx_hat (fun w h => hts w (List.mem_cons_of_mem _ (List.mem_append_left _ (List.mem_append_right _ h)))) xb_IA (hT.use (X := nIA) (by decide))) xg_IA hT.2.2.2.1 hT.2.2.2.2 va_S.rf (hl.1.trans hml.symm) dX1_run_10 dX1_run_13 dX1_run_14 dX1_run_16 dX1_run_19 (fun x h => (hnt x h).elim) (Nat.le_of_ble_eq_true rfl) (Nat.le_of_ble_eq_true rfl) (Nat.le_of_ble_eq_true rfl) (Nat.le_of_ble_eq_true rfl) hlocks (fun t9 _ hz9 hk9 => ⟨Or.inl ⟨rfl, by rintro ⟨s9, h1, rfl⟩; first | exact xN0 (by omega) c1 | exact xNle h1 (by omega) c7⟩, hz9, hk9⟩) (fun _ h => nomatch h) (Nat.le_of_ble_eq_true rfl) (Nat.le_of_ble_eq_true rfl)

theorem iw_X1thin_X1 : ∀ w ∈ u_ws RX1 TX1 6, w ∈ wsX1_thin := by decide +kernel
set_option maxHeartbeats 4000000 in
set_option maxRecDepth 100000 in
theorem c_X1_thin (l : Launch) (hst : l.stackTraces = false) {D : va_G} {cI cT cJ : ClassId} (Ax : Nat → Prop) (x lv kp : Nat) (fL fK : Nat → Option Nat) (o ld b k : Nat) (FZ : va_W) (G : Nat → Tv) (hC : CA cI FZ fL fK G) (v : Int32) (hld : ld ≤ 40) (hold : o ≤ ld) (sz : Nat) : vx_Met l yX1_thin wsX1_thin (rmD 8 8 40) (XPx D cI cT cJ Ax [.ref x, .int v] (fun H => H.size = sz ∧ va_P D vwCl (CW cT x lv kp fL fK o ld b k FZ) H ∧ va_D (fun _ => True) (CW cT x lv kp fL fK o ld b k FZ))) (va_Qi (S := Sv) (fun r u => ∃ s, 1 ≤ s ∧ s ≤ 40 ∧ v = nI s ∧ o + s ≤ ld ∧ r = nI (o + s) ∧ u = (G, o + s, ld, 0, 0)) (fun u t => CB D cI cT x lv kp (va_A (CW cT x lv kp fL fK o ld b k FZ) sz) u t.heap) (va_A (CW cT x lv kp fL fK o ld b k FZ) sz)) (XXc (fun E => (E = nIA ∧ ¬ ∃ s, 1 ≤ s ∧ s ≤ 40 ∧ v = nI s) ∨ (E = nIS ∧ ∃ s, 1 ≤ s ∧ s ≤ 40 ∧ v = nI s ∧ ¬ o + s ≤ ld))) 8 40 (va_A (CW cT x lv kp fL fK o ld b k FZ) sz) := by
  refine vx_ofW (cc := cX1_thin) (maxL := 2) (ret := (some .int)) (by decide) rfl ?_
  intro p e s m args below meth c s₁ B hml hnt hv
  obtain ⟨rfl, ⟨hsz, hP, hD0⟩, hE, hT⟩ := hv
  have hx := B.exec
  have hb := B.bytes
  have hr := B.returns
  have hts := atoms_spec (ws := wsX1_thin) B.pre
  have hown : s.vm.findClass RX1 = some m.cls := findClass_of_methodNamed B.named
  have hlocks := B.notSynchronized
  have hl := lv_entry ([.ref x, .int v]) (n := 2) (Nat.le_of_ble_eq_true rfl)
  rw [lg_entry_eq]
  generalize (lg_sl ([.ref x, .int v]) ++ List.replicate (2 - (lg_sl ([.ref x, .int v])).length) Slot.unset).toArray = ls at hl ⊢
  have hl : lv_has ls 2 [(0, .ref x), (1, .int v)] := hl
  have hK := hE.1
  subst hsz
  have hD := hD0.self (sz := s.heap.size)
  generalize hAe : va_A (CW cT x lv kp fL fK o ld b k FZ) s.heap.size = A at hD ⊢
  have hA : ∀ q : Nat, s.heap.size ≤ q → A q := fun q h => by rw [← hAe]; exact Or.inr h
  have hS : va_S A s.heap s.heap [] := va_S.rf
  refine lv_iload_n hx hb dX1_thin_0 rfl (lv_at hl 1 rfl) ?_
  refine lv_iconst (v := nI 1) hx hb dX1_thin_1 (by decide) ?_
  refine lv_icmp_lt (tgt := 11) hx hb dX1_thin_2 (by decide) (fun c2 => ?_) (fun c2 => ?_)
  · obtain ⟨sa9, hsa9⟩ := hT.1 (96, "no such number of dates") (by decide)
    exact vx_throwS hx hb hst (own := RX1) (cls := nIA) (text := "no such number of dates") (names := nUP) (ik := 57) (is := 96) (ic := 61) hown (by decide +kernel) (by decide +kernel) (hts (.classLink RX1 57 nIA) (by decide +kernel)) (hts (.initialized nIA) (by decide +kernel)) hsa9 (vx_hat (fun w h => hts w (List.mem_cons_of_mem _ (List.mem_append_left _ (List.mem_append_right _ h)))) xb_IA (hT.use (X := nIA) (by decide))) xg_IA hT.2.2.2.1 hT.2.2.2.2 va_S.rf (hl.1.trans hml.symm) dX1_thin_11 dX1_thin_14 dX1_thin_15 dX1_thin_17 dX1_thin_20 (fun x h => (hnt x h).elim) (Nat.le_of_ble_eq_true rfl) (Nat.le_of_ble_eq_true rfl) (Nat.le_of_ble_eq_true rfl) (Nat.le_of_ble_eq_true rfl) hlocks (fun t9 _ hz9 hk9 => ⟨Or.inl ⟨rfl, by rintro ⟨s9, h0, h1, rfl⟩; first | exact xNlt h0 (by omega) (fun h => absurd c2 (Int32.not_lt.mpr (Int32.le_of_lt h))) | exact absurd ((xlt (by omega) (by omega)).mp c2) (by omega) | exact xNle h1 (by omega) c8⟩, hz9, hk9⟩) (fun _ h => nomatch h) (Nat.le_of_ble_eq_true rfl) (Nat.le_of_ble_eq_true rfl)
  · refine lv_iload_n hx hb dX1_thin_5 rfl (lv_at hl 1 rfl) ?_
    refine lv_bipush (v := nI 40) hx hb dX1_thin_6 (by decide) ?_
    refine lv_icmp_le (tgt := 21) hx hb dX1_thin_8 (by decide) (fun c8 => ?_) (fun c8 => ?_)
    · obtain ⟨sp, hsp1, hsp, rfl⟩ := xIn1_t (n := 40) (by omega) (by omega) c2 c8
      refine lv_aload_n hx hb dX1_thin_21 rfl (lv_at hl 0 rfl) ?_
      refine va_get (ci := 1) (v := .int (nI o)) (C := RX1) (T := TX1) (N := 6) hx hb hts iw_X1thin_X1 hown hK hP 0 rfl rfl 2 (by decide) (hts (.fieldLink RX1 21 "BackMirror" "oldestDate" "I") (by decide +kernel)) (fun _ h9 => h9) rfl dX1_thin_22 ?_
      refine lv_iload_n hx hb dX1_thin_25 rfl (lv_at hl 1 rfl) ?_
      refine lv_iadd hx hb dX1_thin_26 ?_
      refine x_top (nI (o + sp)) (xadd (by omega)) ?_
      refine lv_aload_n hx hb dX1_thin_27 rfl (lv_at hl 0 rfl) ?_
      refine va_get (ci := 1) (v := .int (nI ld)) (C := RX1) (T := TX1) (N := 6) hx hb hts iw_X1thin_X1 hown hK hP 0 rfl rfl 3 (by decide) (hts (.fieldLink RX1 25 "BackMirror" "lastDate" "I") (by decide +kernel)) (fun _ h9 => h9) rfl dX1_thin_28 ?_
      refine lv_icmp_le (tgt := 44) hx hb dX1_thin_31 (by decide) (fun c31 => ?_) (fun c31 => ?_)
      · have c31 : (o + sp) ≤ ld := (xle (by omega) (by omega)).mp c31
        refine lv_aload_n hx hb dX1_thin_44 rfl (lv_at hl 0 rfl) ?_
        have hP : va_P D vwCl ([] ++ (CW cT x lv kp fL fK o ld b k FZ)) s.heap := hP
        have hD : va_D A ([] ++ (CW cT x lv kp fL fK o ld b k FZ)) := hD
        have hFc := xfree (wc := (CW cT x lv kp fL fK o ld b k FZ)) hD hS hA (fun _ h => List.mem_append_right _ h)
        have hPc := xP_sub (w2 := (CW cT x lv kp fL fK o ld b k FZ)) (fun _ h => List.mem_append_right _ h) hP
        have hDc : va_D (fun _ => True) (CW cT x lv kp fL fK o ld b k FZ) := (xD_sub (List.sublist_append_right _ _) hD).weaken (fun _ _ _ _ => trivial)
        refine va_calli (va_runV (As := []) (rest := []) ⟨hx, hb, hml, hown, hts⟩ (c_X1_undoBrokenRun l x lv kp fL fK o ld b k FZ s.heap.size) (cwV 0 hts gX1_thin_X1_undoBrokenRun rfl rfl rfl (by decide +kernel) ⟨(Nat.le_of_ble_eq_true rfl), (Nat.le_of_ble_eq_true rfl)⟩) ⟨XP_blind, va_recv hK hP (ci := 1) (q0 := 0) rfl rfl, XP_pre hE ⟨rfl, hPc, hDc⟩⟩ rfl rfl hl.1 rfl (lv_room (Nat.le_of_ble_eq_true rfl)) dX1_thin_45 ⟨by first | exact Nat.le_of_ble_eq_true rfl | (show _ + _ ≤ _; omega), by first | exact Nat.le_of_ble_eq_true rfl | (show _ + _ ≤ _; omega)⟩) hS (fun q9 _ h => hFc q9 h) hFc (fun r9 u t9 H1 locs ht9 hvm9 hw9 hB9 hzc hkc hS => ?_)
        obtain ⟨hP1, hD1⟩ := hB9
        rw [ht9] at hP1
        obtain ⟨hP, hD⟩ := xjoin (wr := []) (wc := (CW cT x lv kp fL fK o ld b k FZ)) (w1 := (CW cT x lv kp fL fK o ld 0 0 FZ)) hP hD hkc hFc hP1 hD1
        generalize H1 = H at hP hS ⊢
        subst hw9
        have hP : va_P D vwCl ((x, .inr (1, [.ref lv, .ref kp, .int (nI o), .int (nI ld), .int (nI 0), .int (nI 0)])) :: (lv, .inl (cT, 6, .inr (.inr (.inr (.inr fL))))) :: (kp, .inl (cT, 246, .inr (.inr (.inr (.inr fK))))) :: FZ) H := hP
        have hD : va_D A ((x, .inr (1, [.ref lv, .ref kp, .int (nI o), .int (nI ld), .int (nI 0), .int (nI 0)])) :: (lv, .inl (cT, 6, .inr (.inr (.inr (.inr fL))))) :: (kp, .inl (cT, 246, .inr (.inr (.inr (.inr fK))))) :: FZ) := hD
        refine lv_pop hx hb dX1_thin_48 rfl ?_
        refine lv_aload_n hx hb dX1_thin_49 rfl (lv_at hl 0 rfl) ?_
        refine lv_dup hx hb dX1_thin_50 rfl ?_
        refine va_get (ci := 1) (v := .int (nI o)) (C := RX1) (T := TX1) (N := 6) hx hb hts iw_X1thin_X1 hown hK hP 0 rfl rfl 2 (by decide) (hts (.fieldLink RX1 21 "BackMirror" "oldestDate" "I") (by decide +kernel)) (fun _ h9 => h9) rfl dX1_thin_51 ?_
        refine lv_iload_n hx hb dX1_thin_54 rfl (lv_at hl 1 rfl) ?_
        refine lv_iadd hx hb dX1_thin_55 ?_
        refine x_top (nI (o + sp)) (xadd (by omega)) ?_
        refine va_put (ci := 1) (v := .int (nI (o + sp))) (ty := .int) (C := RX1) (T := TX1) (N := 6) hx hb hts iw_X1thin_X1 tyX1 tyX1_ok nmX1 hown hK hP hD hS 0 rfl rfl 2 (by decide) (hts (.fieldLink RX1 21 "BackMirror" "oldestDate" "I") (by decide +kernel)) (fun _ h9 => h9) rfl (by decide +kernel) rfl rfl (Nat.le_of_ble_eq_true rfl) dX1_thin_56 (fun H locs hP hD hS => ?_)
        have hP : va_P D vwCl ((x, .inr (1, [.ref lv, .ref kp, .int (nI (o + sp)), .int (nI ld), .int (nI 0), .int (nI 0)])) :: (lv, .inl (cT, 6, .inr (.inr (.inr (.inr fL))))) :: (kp, .inl (cT, 246, .inr (.inr (.inr (.inr fK))))) :: FZ) H := hP
        have hD : va_D A ((x, .inr (1, [.ref lv, .ref kp, .int (nI (o + sp)), .int (nI ld), .int (nI 0), .int (nI 0)])) :: (lv, .inl (cT, 6, .inr (.inr (.inr (.inr fL))))) :: (kp, .inl (cT, 246, .inr (.inr (.inr (.inr fK))))) :: FZ) := hD
        refine lv_aload_n hx hb dX1_thin_59 rfl (lv_at hl 0 rfl) ?_
        refine va_get (ci := 1) (v := .int (nI (o + sp))) (C := RX1) (T := TX1) (N := 6) hx hb hts iw_X1thin_X1 hown hK hP 0 rfl rfl 2 (by decide) (hts (.fieldLink RX1 21 "BackMirror" "oldestDate" "I") (by decide +kernel)) (fun _ h9 => h9) rfl dX1_thin_60 ?_
        refine vx_ret ?_
        refine W.widen (k := 8) (n := 40) (by first | exact Nat.le_of_ble_eq_true rfl | (show _ ≤ 8; omega)) (by first | exact Nat.le_of_ble_eq_true rfl | (show _ ≤ 40; omega)) ?_
        exact W.iret hx hb hr (fun t9 ht9 hW9 => ⟨⟨_, (G, o + sp, ld, 0, 0), rfl, ⟨sp, hsp1, hsp, rfl, by omega, rfl, rfl⟩, ⟨_, _, _, by rw [ht9]; exact hP, hD, hC⟩⟩, hS.F ht9⟩) hS.2.2 dX1_thin_63
      · have c31 : ¬ (o + sp) ≤ ld := fun h => c31 ((xle (by omega) (by omega)).mpr h)
        obtain ⟨sa9, hsa9⟩ := hT.1 (98, "the last date stays") (by decide)
        exact vx_throwS hx hb hst (own := RX1) (cls := nIS) (text := "the last date stays") (names := nUP) (ik := 50) (is := 98) (ic := 54) hown (by decide +kernel) (by decide +kernel) (hts (.classLink RX1 50 nIS) (by decide +kernel)) (hts (.initialized nIS) (by decide +kernel)) hsa9 (vx_hat (fun w h => hts w (List.mem_cons_of_mem _ (List.mem_append_right _ h))) xb_IS (hT.use (X := nIS) (by decide))) xg_IS hT.2.2.2.1 hT.2.2.2.2 va_S.rf (hl.1.trans hml.symm) dX1_thin_34 dX1_thin_37 dX1_thin_38 dX1_thin_40 dX1_thin_43 (fun x h => (hnt x h).elim) (Nat.le_of_ble_eq_true rfl) (Nat.le_of_ble_eq_true rfl) (Nat.le_of_ble_eq_true rfl) (Nat.le_of_ble_eq_true rfl) hlocks (fun t9 _ hz9 hk9 => ⟨Or.inr ⟨rfl, sp, hsp1, hsp, rfl, by omega⟩, hz9, hk9⟩) (fun _ h => nomatch h) (Nat.le_of_ble_eq_true rfl) (Nat.le_of_ble_eq_true rfl)
    · obtain ⟨sa9, hsa9⟩ := hT.1 (96, "no such number of dates") (by decide)
      exact vx_throwS hx hb hst (own := RX1) (cls := nIA) (text := "no such number of dates") (names := nUP) (ik := 57) (is := 96) (ic := 61) hown (by decide +kernel) (by decide +kernel) (hts (.classLink RX1 57 nIA) (by decide +kernel)) (hts (.initialized nIA) (by decide +kernel)) hsa9 (vx_hat (fun w h => hts w (List.mem_cons_of_mem _ (List.mem_append_left _ (List.mem_append_right _ h)))) xb_IA (hT.use (X := nIA) (by decide))) xg_IA hT.2.2.2.1 hT.2.2.2.2 va_S.rf (hl.1.trans hml.symm) dX1_thin_11 dX1_thin_14 dX1_thin_15 dX1_thin_17 dX1_thin_20 (fun x h => (hnt x h).elim) (Nat.le_of_ble_eq_true rfl) (Nat.le_of_ble_eq_true rfl) (Nat.le_of_ble_eq_true rfl) (Nat.le_of_ble_eq_true rfl) hlocks (fun t9 _ hz9 hk9 => ⟨Or.inl ⟨rfl, by rintro ⟨s9, h0, h1, rfl⟩; first | exact xNlt h0 (by omega) (fun h => absurd c2 (Int32.not_lt.mpr (Int32.le_of_lt h))) | exact absurd ((xlt (by omega) (by omega)).mp c2) (by omega) | exact xNle h1 (by omega) c8⟩, hz9, hk9⟩) (fun _ h => nomatch h) (Nat.le_of_ble_eq_true rfl) (Nat.le_of_ble_eq_true rfl)

theorem iw_X1restore_X1 : ∀ w ∈ u_ws RX1 TX1 6, w ∈ wsX1_restore := by decide +kernel
set_option maxHeartbeats 4000000 in
set_option maxRecDepth 100000 in
theorem c_X1_restore (l : Launch) (hst : l.stackTraces = false) {D : va_G} {cI cT cJ : ClassId} (Ax : Nat → Prop) (x lv kp : Nat) (fL fK : Nat → Option Nat) (o ld b k : Nat) (FZ : va_W) (G : Nat → Tv) (hC : CA cI FZ fL fK G) (v : Int32) (hld : ld ≤ 40) (hold : o ≤ ld) (sz : Nat) : vx_Met l yX1_restore wsX1_restore (rmD 8 8 40) (XPx D cI cT cJ Ax [.ref x, .int v] (fun H => H.size = sz ∧ va_P D vwCl (CW cT x lv kp fL fK o ld b k FZ) H ∧ va_D (fun _ => True) (CW cT x lv kp fL fK o ld b k FZ))) (va_Qi (S := Sv) (fun r u => ∃ d, o ≤ d ∧ d ≤ ld ∧ v = nI d ∧ r = nI (dfN G d 6) ∧ u = (cpL G d 6, o, ld, 0, 0)) (fun u t => CB D cI cT x lv kp (va_A (CW cT x lv kp fL fK o ld b k FZ) sz) u t.heap) (va_A (CW cT x lv kp fL fK o ld b k FZ) sz)) (XXc (fun E => E = nIO ∧ ¬ Kp o ld v)) 8 40 (va_A (CW cT x lv kp fL fK o ld b k FZ) sz) := by
  refine vx_ofW (cc := cX1_restore) (maxL := 5) (ret := (some .int)) (by decide) rfl ?_
  intro p e s m args below meth c s₁ B hml hnt hv
  obtain ⟨rfl, ⟨hsz, hP, hD0⟩, hE, hT⟩ := hv
  have hx := B.exec
  have hb := B.bytes
  have hr := B.returns
  have hts := atoms_spec (ws := wsX1_restore) B.pre
  have hown : s.vm.findClass RX1 = some m.cls := findClass_of_methodNamed B.named
  have hlocks := B.notSynchronized
  have hl := lv_entry ([.ref x, .int v]) (n := 5) (Nat.le_of_ble_eq_true rfl)
  rw [lg_entry_eq]
  generalize (lg_sl ([.ref x, .int v]) ++ List.replicate (5 - (lg_sl ([.ref x, .int v])).length) Slot.unset).toArray = ls at hl ⊢
  have hl : lv_has ls 5 [(0, .ref x), (1, .int v)] := hl
  have hK := hE.1
  subst hsz
  have hD := hD0.self (sz := s.heap.size)
  generalize hAe : va_A (CW cT x lv kp fL fK o ld b k FZ) s.heap.size = A at hD ⊢
  have hA : ∀ q : Nat, s.heap.size ≤ q → A q := fun q h => by rw [← hAe]; exact Or.inr h
  have hS : va_S A s.heap s.heap [] := va_S.rf
  refine lv_aload_n hx hb dX1_restore_0 rfl (lv_at hl 0 rfl) ?_
  refine lv_iload_n hx hb dX1_restore_1 rfl (lv_at hl 1 rfl) ?_
  refine xcx (vx_runV (As := [.int v]) (rest := []) ⟨hx, hb, hml, hown, hts⟩ (c_X1_checkKept l hst _ x lv kp fL fK o ld b k FZ v hld hold) (cwV 1 hts gX1_restore_X1_checkKept rfl rfl rfl (by decide +kernel) ⟨(Nat.le_of_ble_eq_true rfl), (Nat.le_of_ble_eq_true rfl)⟩) ⟨XPx_blind, va_recv hK hP (ci := 1) (q0 := 0) rfl rfl, XPx_pre hE hT hP⟩ rfl rfl hl.1 rfl (lv_room (Nat.le_of_ble_eq_true rfl)) dX1_restore_2 ⟨Nat.le_of_ble_eq_true rfl, Nat.le_of_ble_eq_true rfl⟩) (fun E9 ce9 q9 H1 hp9 hz9 hk9 hc9 hv9 hcl9 => ?_) (fun v9 hw9 => ?_)
  · exact vx_out (fun x h => (hnt x h).elim) hlocks hc9 hv9 hcl9 (fun t9 ht9 _ => ⟨hp9, by rw [ht9]; exact hz9, fun q hq => by rw [ht9]; exact hk9 q hq⟩) (fun _ h => nomatch h) (Nat.le_of_ble_eq_true rfl) (Nat.le_of_ble_eq_true rfl)
  obtain ⟨rfl, ⟨d, hd1, hd2, rfl⟩⟩ := hw9
  refine W.eq (g2 := F0 m 5 ls []) rfl ?_
  refine lv_aload_n hx hb dX1_restore_5 rfl (lv_at hl 0 rfl) ?_
  have hP : va_P D vwCl ([] ++ (CW cT x lv kp fL fK o ld b k FZ)) s.heap := hP
  have hD : va_D A ([] ++ (CW cT x lv kp fL fK o ld b k FZ)) := hD
  have hFc := xfree (wc := (CW cT x lv kp fL fK o ld b k FZ)) hD hS hA (fun _ h => List.mem_append_right _ h)
  have hPc := xP_sub (w2 := (CW cT x lv kp fL fK o ld b k FZ)) (fun _ h => List.mem_append_right _ h) hP
  have hDc : va_D (fun _ => True) (CW cT x lv kp fL fK o ld b k FZ) := (xD_sub (List.sublist_append_right _ _) hD).weaken (fun _ _ _ _ => trivial)
  refine va_calli (va_runV (As := []) (rest := []) ⟨hx, hb, hml, hown, hts⟩ (c_X1_undoBrokenRun l x lv kp fL fK o ld b k FZ s.heap.size) (cwV 0 hts gX1_restore_X1_undoBrokenRun rfl rfl rfl (by decide +kernel) ⟨(Nat.le_of_ble_eq_true rfl), (Nat.le_of_ble_eq_true rfl)⟩) ⟨XP_blind, va_recv hK hP (ci := 1) (q0 := 0) rfl rfl, XP_pre hE ⟨rfl, hPc, hDc⟩⟩ rfl rfl hl.1 rfl (lv_room (Nat.le_of_ble_eq_true rfl)) dX1_restore_6 ⟨by first | exact Nat.le_of_ble_eq_true rfl | (show _ + _ ≤ _; omega), by first | exact Nat.le_of_ble_eq_true rfl | (show _ + _ ≤ _; omega)⟩) hS (fun q9 _ h => hFc q9 h) hFc (fun r9 u t9 H1 locs ht9 hvm9 hw9 hB9 hzc hkc hS => ?_)
  obtain ⟨hP1, hD1⟩ := hB9
  rw [ht9] at hP1
  obtain ⟨hP, hD⟩ := xjoin (wr := []) (wc := (CW cT x lv kp fL fK o ld b k FZ)) (w1 := (CW cT x lv kp fL fK o ld 0 0 FZ)) hP hD hkc hFc hP1 hD1
  generalize H1 = H at hP hS ⊢
  subst hw9
  have hP : va_P D vwCl ((x, .inr (1, [.ref lv, .ref kp, .int (nI o), .int (nI ld), .int (nI 0), .int (nI 0)])) :: (lv, .inl (cT, 6, .inr (.inr (.inr (.inr fL))))) :: (kp, .inl (cT, 246, .inr (.inr (.inr (.inr fK))))) :: FZ) H := hP
  have hD : va_D A ((x, .inr (1, [.ref lv, .ref kp, .int (nI o), .int (nI ld), .int (nI 0), .int (nI 0)])) :: (lv, .inl (cT, 6, .inr (.inr (.inr (.inr fL))))) :: (kp, .inl (cT, 246, .inr (.inr (.inr (.inr fK))))) :: FZ) := hD
  refine lv_pop hx hb dX1_restore_9 rfl ?_
  refine lv_iconst (v := nI 0) hx hb dX1_restore_10 (by decide) ?_
  refine lv_istore_n (lv' := [(2, .int (nI 0)), (0, .ref x), (1, .int (nI d))]) hx hb dX1_restore_11 rfl hl (by decide) rfl (fun ls hl => ?_)
  refine lv_iconst (v := nI 0) hx hb dX1_restore_12 (by decide) ?_
  refine lv_istore_n (lv' := [(3, .int (nI 0)), (2, .int (nI 0)), (0, .ref x), (1, .int (nI d))]) hx hb dX1_restore_13 rfl hl (by decide) rfl (fun ls hl => ?_)
  refine x_loop (fun n H locs ls => ∃ (p j : Nat) (fL' : Nat → Option Nat), (j + 1 = n) ∧ (6 ≤ p + j) ∧ (p ≤ 6) ∧ (CA cI FZ fL' fK (cpL G d p)) ∧ va_P D vwCl ((x, .inr (1, [.ref lv, .ref kp, .int (nI o), .int (nI ld), .int (nI 0), .int (nI 0)])) :: (lv, .inl (cT, 6, .inr (.inr (.inr (.inr fL'))))) :: (kp, .inl (cT, 246, .inr (.inr (.inr (.inr fK))))) :: FZ) H ∧ va_D A ((x, .inr (1, [.ref lv, .ref kp, .int (nI o), .int (nI ld), .int (nI 0), .int (nI 0)])) :: (lv, .inl (cT, 6, .inr (.inr (.inr (.inr fL'))))) :: (kp, .inl (cT, 246, .inr (.inr (.inr (.inr fK))))) :: FZ) ∧ va_S A s.heap H locs ∧ lv_has ls 5 [(3, .int (nI p)), (2, .int (nI (dfN G d p))), (0, .ref x), (1, .int (nI d))]) (7) ⟨0, 6, fL, rfl, by omega, by omega, by rw [cpL_0]; exact hC, hP, hD, hS, lv_sub hl [0, 1, 2, 3] rfl⟩ (fun H locs ls h => by obtain ⟨p, j, fL', hk, h1, h2, hC, -⟩ := h; omega) (fun n H locs ls h ih => ?_)
  obtain ⟨p, j, fL', hk, h1, h2, hC, hP, hD, hS, hl⟩ := h
  have hg1 := dfN_le (G := G) (d := d) p
  refine lv_iload_n hx hb dX1_restore_14 rfl (lv_at hl 0 rfl) ?_
  refine lv_bipush (v := nI 6) hx hb dX1_restore_15 (by decide) ?_
  refine lv_icmp_ge (tgt := 63) hx hb dX1_restore_17 (by decide) (fun c17 => ?_) (fun c17 => ?_)
  · have c17 : 6 ≤ p := (xle (by omega) (by omega)).mp c17
    obtain rfl : p = 6 := by omega
    refine lv_iload_n hx hb dX1_restore_63 rfl (lv_at hl 1 rfl) ?_
    refine vx_ret ?_
    refine W.widen (k := 8) (n := 40) (by first | exact Nat.le_of_ble_eq_true rfl | (show _ ≤ 8; omega)) (by first | exact Nat.le_of_ble_eq_true rfl | (show _ ≤ 40; omega)) ?_
    exact W.iret hx hb hr (fun t9 ht9 hW9 => ⟨⟨_, (cpL G d 6, o, ld, 0, 0), rfl, ⟨d, hd1, hd2, rfl, rfl, rfl⟩, ⟨_, _, _, by rw [ht9]; exact hP, hD, hC⟩⟩, hS.F ht9⟩) hS.2.2 dX1_restore_64
  · have c17 : ¬ 6 ≤ p := fun h => c17 ((xle (by omega) (by omega)).mpr h)
    refine lv_aload_n hx hb dX1_restore_20 rfl (lv_at hl 2 rfl) ?_
    refine va_get (ci := 1) (v := .ref kp) (C := RX1) (T := TX1) (N := 6) hx hb hts iw_X1restore_X1 hown hK hP 0 rfl rfl 1 (by decide) (hts (.fieldLink RX1 18 "BackMirror" "kept" "[LBackMirror$Thing;") (by decide +kernel)) (fun _ h9 => h9) rfl dX1_restore_21 ?_
    refine lv_iload_n hx hb dX1_restore_24 rfl (lv_at hl 3 rfl) ?_
    refine lv_iload_n hx hb dX1_restore_25 rfl (lv_at hl 0 rfl) ?_
    refine xc_sie (va_runS (As := [.int (nI d), .int (nI p)]) (rest := [.ref kp]) ⟨hx, hb, hml, hown, hts⟩ (c_X1_keptIndex l d p) (va_cwS 2 hts gX1_restore_X1_keptIndex rfl rfl rfl (by decide +kernel) ⟨(Nat.le_of_ble_eq_true rfl), (Nat.le_of_ble_eq_true rfl)⟩) ⟨XP_blind, XP_pre hE trivial⟩ rfl rfl hl.1 rfl (lv_room (Nat.le_of_ble_eq_true rfl)) dX1_restore_26 ⟨Nat.le_of_ble_eq_true rfl, Nat.le_of_ble_eq_true rfl⟩) ?_
    refine va_aldq hx hb hK hP 2 1 rfl rfl (xin (by omega) (by omega)) dX1_restore_29 ?_
    obtain ⟨a1, ha1, hT1⟩ := hC.1 (6 * d + p) (by omega)
    refine x_toprf (y := a1) (by rw [nI_clamp (by omega)]; exact ha1) ?_
    obtain ⟨hz1, q1, f1, hm1, hr1, he1⟩ := hT1
    refine lv_astore (lv' := [(4, .ref a1), (3, .int (nI p)), (2, .int (nI (dfN G d p))), (0, .ref x), (1, .int (nI d))]) hx hb dX1_restore_30 hl (by decide) rfl (fun ls hl => ?_)
    refine lv_aload_n hx hb dX1_restore_32 rfl (lv_at hl 3 rfl) ?_
    refine va_get (ci := 1) (v := .ref lv) (C := RX1) (T := TX1) (N := 6) hx hb hts iw_X1restore_X1 hown hK hP 0 rfl rfl 0 (by decide) (hts (.fieldLink RX1 14 "BackMirror" "live" "[LBackMirror$Thing;") (by decide +kernel)) (fun _ h9 => h9) rfl dX1_restore_33 ?_
    refine lv_iload_n hx hb dX1_restore_36 rfl (lv_at hl 1 rfl) ?_
    refine va_aldq hx hb hK hP 1 1 rfl rfl (xin (by omega) (by omega)) dX1_restore_37 ?_
    obtain ⟨a2, ha2, hT2⟩ := hC.2 (p) (by omega)
    refine x_toprf (y := a2) (by rw [nI_clamp (by omega)]; exact ha2) ?_
    obtain ⟨hz2, q2, f2, hm2, hr2, he2⟩ := hT2
    refine lv_aload hx hb dX1_restore_38 (lv_at hl 0 rfl) ?_
    refine xc_sie (va_runV (As := [.ref a1]) (rest := []) ⟨hx, hb, hml, hown, hts⟩ (c_X0_isLike l a2 q2 a1 q1 (((cpL G d p) (246 + p)).2.2.1) (((cpL G d p) (6 * d + p)).2.2.1) (((cpL G d p) (246 + p)).1) (((cpL G d p) (246 + p)).2.1) (((cpL G d p) (6 * d + p)).1) (((cpL G d p) (6 * d + p)).2.1) f2 f1 (by omega) (by omega)) (cwV 1 hts gX1_restore_X0_isLike rfl rfl rfl (by decide +kernel) ⟨(Nat.le_of_ble_eq_true rfl), (Nat.le_of_ble_eq_true rfl)⟩) ⟨XP_blind, va_recv hK (x1 hP (xm3 hm2)) (ci := 0) (q0 := 0) rfl rfl, XP_pre hE (x4 hP (xm3 hm2) (xm3 hr2) (xm3 hm1) (xm3 hr1))⟩ rfl rfl hl.1 rfl (lv_room (Nat.le_of_ble_eq_true rfl)) dX1_restore_40 ⟨Nat.le_of_ble_eq_true rfl, Nat.le_of_ble_eq_true rfl⟩) ?_
    refine x_top (nI (bN (sameB ((cpL G d p) (246 + p)) ((cpL G d p) (6 * d + p))))) (by rw [sameB_congr he2 he1]) ?_
    refine lv_if_ne (tgt := 49) hx hb dX1_restore_43 (by decide) (fun c43 => ?_) (fun c43 => ?_)
    · have c43 : (sameB ((cpL G d p) (246 + p)) ((cpL G d p) (6 * d + p))) = true := bN_t c43
      refine lv_aload_n hx hb dX1_restore_49 rfl (lv_at hl 3 rfl) ?_
      refine va_get (ci := 1) (v := .ref lv) (C := RX1) (T := TX1) (N := 6) hx hb hts iw_X1restore_X1 hown hK hP 0 rfl rfl 0 (by decide) (hts (.fieldLink RX1 14 "BackMirror" "live" "[LBackMirror$Thing;") (by decide +kernel)) (fun _ h9 => h9) rfl dX1_restore_50 ?_
      refine lv_iload_n hx hb dX1_restore_53 rfl (lv_at hl 1 rfl) ?_
      refine lv_aload hx hb dX1_restore_54 (lv_at hl 0 rfl) ?_
      obtain ⟨j9, hj9⟩ := List.getElem?_of_mem (hm1)
      refine va_astq (r := (RX0, TX0, 3)) hx hb hK hP hD hS 1 1 (j9 + 3) 0 rfl rfl hj9 rfl (xin (by omega) (by omega)) dX1_restore_56 (fun H locs hP hD hS => ?_)
      rw [nI_clamp (show p < 2 ^ 31 by omega)] at hP hD
      have hP : va_P D vwCl ((x, .inr (1, [.ref lv, .ref kp, .int (nI o), .int (nI ld), .int (nI 0), .int (nI 0)])) :: (lv, .inl (cT, 6, .inr (.inr (.inr (.inr (va_up fL' p (some a1))))))) :: (kp, .inl (cT, 246, .inr (.inr (.inr (.inr fK))))) :: FZ) H := hP
      have hD : va_D A ((x, .inr (1, [.ref lv, .ref kp, .int (nI o), .int (nI ld), .int (nI 0), .int (nI 0)])) :: (lv, .inl (cT, 6, .inr (.inr (.inr (.inr (va_up fL' p (some a1))))))) :: (kp, .inl (cT, 246, .inr (.inr (.inr (.inr fK))))) :: FZ) := hD
      refine lv_iinc (v := nI (p + 1)) (lv' := [(3, .int (nI (p + 1))), (4, .ref a1), (2, .int (nI (dfN G d p))), (0, .ref x), (1, .int (nI d))]) hx hb dX1_restore_57 hl (k := 1) rfl (xinc _ 1 _ (by decide)) (by decide) rfl (fun ls hl => ?_)
      refine lv_goto (tgt := 14) hx hb dX1_restore_60 (by decide) ?_
      rw [cpL_at, cpL_kept (by omega)] at c43
      have hw : dfN G d p = dfN G d (p + 1) := by simp only [dfN]; rw [sameB_comm, c43]; rfl
      rw [hw] at hl
      exact ih _ _ _ ⟨p + 1, j - 1, (va_up fL' p (some a1)), by omega, by omega, by omega, by rw [cpL_s (by omega) (by omega)]; exact hC.live ⟨hz1, q1, f1, hm1, hr1, he1⟩, hP, hD, hS, lv_sub hl [0, 2, 3, 4] rfl⟩
    · have c43 : (sameB ((cpL G d p) (246 + p)) ((cpL G d p) (6 * d + p))) = false := bN_f c43
      refine lv_iinc (v := nI (dfN G d p + 1)) (lv' := [(2, .int (nI (dfN G d p + 1))), (4, .ref a1), (3, .int (nI p)), (0, .ref x), (1, .int (nI d))]) hx hb dX1_restore_46 hl (k := 2) rfl (xinc _ 1 _ (by decide)) (by decide) rfl (fun ls hl => ?_)
      refine lv_aload_n hx hb dX1_restore_49 rfl (lv_at hl 3 rfl) ?_
      refine va_get (ci := 1) (v := .ref lv) (C := RX1) (T := TX1) (N := 6) hx hb hts iw_X1restore_X1 hown hK hP 0 rfl rfl 0 (by decide) (hts (.fieldLink RX1 14 "BackMirror" "live" "[LBackMirror$Thing;") (by decide +kernel)) (fun _ h9 => h9) rfl dX1_restore_50 ?_
      refine lv_iload_n hx hb dX1_restore_53 rfl (lv_at hl 2 rfl) ?_
      refine lv_aload hx hb dX1_restore_54 (lv_at hl 1 rfl) ?_
      obtain ⟨j9, hj9⟩ := List.getElem?_of_mem (hm1)
      refine va_astq (r := (RX0, TX0, 3)) hx hb hK hP hD hS 1 1 (j9 + 3) 0 rfl rfl hj9 rfl (xin (by omega) (by omega)) dX1_restore_56 (fun H locs hP hD hS => ?_)
      rw [nI_clamp (show p < 2 ^ 31 by omega)] at hP hD
      have hP : va_P D vwCl ((x, .inr (1, [.ref lv, .ref kp, .int (nI o), .int (nI ld), .int (nI 0), .int (nI 0)])) :: (lv, .inl (cT, 6, .inr (.inr (.inr (.inr (va_up fL' p (some a1))))))) :: (kp, .inl (cT, 246, .inr (.inr (.inr (.inr fK))))) :: FZ) H := hP
      have hD : va_D A ((x, .inr (1, [.ref lv, .ref kp, .int (nI o), .int (nI ld), .int (nI 0), .int (nI 0)])) :: (lv, .inl (cT, 6, .inr (.inr (.inr (.inr (va_up fL' p (some a1))))))) :: (kp, .inl (cT, 246, .inr (.inr (.inr (.inr fK))))) :: FZ) := hD
      refine lv_iinc (v := nI (p + 1)) (lv' := [(3, .int (nI (p + 1))), (2, .int (nI (dfN G d p + 1))), (4, .ref a1), (0, .ref x), (1, .int (nI d))]) hx hb dX1_restore_57 hl (k := 2) rfl (xinc _ 1 _ (by decide)) (by decide) rfl (fun ls hl => ?_)
      refine lv_goto (tgt := 14) hx hb dX1_restore_60 (by decide) ?_
      rw [cpL_at, cpL_kept (by omega)] at c43
      have hw : dfN G d p + 1 = dfN G d (p + 1) := by simp only [dfN]; rw [sameB_comm, c43]; rfl
      rw [hw] at hl
      exact ih _ _ _ ⟨p + 1, j - 1, (va_up fL' p (some a1)), by omega, by omega, by omega, by rw [cpL_s (by omega) (by omega)]; exact hC.live ⟨hz1, q1, f1, hm1, hr1, he1⟩, hP, hD, hS, lv_sub hl [0, 1, 3, 4] rfl⟩
end
section
/-! the constructor -/
def G0 : Nat → Tv := fun _ => (nI 0, nI 0, 0, fun _ => 0)

theorem iw_X1init_X0 : ∀ w ∈ u_ws RX0 TX0 3, w ∈ wsX1_init := by decide +kernel
theorem iw_X1init_X1 : ∀ w ∈ u_ws RX1 TX1 6, w ∈ wsX1_init := by decide +kernel
set_option maxHeartbeats 4000000 in
set_option maxRecDepth 100000 in
theorem c_X1_init (l : Launch) {D : va_G} {cI cT cJ : ClassId} (x sz : Nat) : Met l yX1_init wsX1_init (rmD 4 8 300) (XP D cI cT cJ [.ref x] (fun H => H.size = sz ∧ va_P D vwCl [(x, .inr (1, [.null, .null, .int 0, .int 0, .int 0, .int 0]))] H ∧ va_D (fun _ => True) [(x, .inr (1, [.null, .null, .int 0, .int 0, .int 0, .int 0]))])) (va_Qv (S := Nat × Nat) (fun _ => True) (fun u t => CB D cI cT x u.1 u.2 (va_A [(x, .inr (1, [.null, .null, .int 0, .int 0, .int 0, .int 0]))] sz) (G0, 0, 0, 0, 0) t.heap) (va_A [(x, .inr (1, [.null, .null, .int 0, .int 0, .int 0, .int 0]))] sz)) 8 300 (va_A [(x, .inr (1, [.null, .null, .int 0, .int 0, .int 0, .int 0]))] sz) := by
  refine Met.ofW (cc := cX1_init) (maxL := 3) (ret := none) (by decide) rfl ?_
  intro p e s m args below meth c s₁ B hml hv
  obtain ⟨rfl, ⟨hsz, hP, hD0⟩, hE⟩ := hv
  have hx := B.exec
  have hb := B.bytes
  have hr := B.returns
  have hts := atoms_spec (ws := wsX1_init) B.pre
  have hown : s.vm.findClass RX1 = some m.cls := findClass_of_methodNamed B.named
  have hlocks := B.notSynchronized
  have hin : meth.name = "<init>" := (name_of_methodNamed B.named B.method).1
  have hl := lv_entry ([.ref x]) (n := 3) (Nat.le_of_ble_eq_true rfl)
  rw [lg_entry_eq]
  generalize (lg_sl ([.ref x]) ++ List.replicate (3 - (lg_sl ([.ref x])).length) Slot.unset).toArray = ls at hl ⊢
  have hl : lv_has ls 3 [(0, .ref x)] := hl
  have hK := hE.1
  subst hsz
  have hD := hD0.self (sz := s.heap.size)
  generalize hAe : va_A ([(x, .inr (1, [.null, .null, .int 0, .int 0, .int 0, .int 0]))]) s.heap.size = A at hD ⊢
  have hA : ∀ q : Nat, s.heap.size ≤ q → A q := fun q h => by rw [← hAe]; exact Or.inr h
  have hS : va_S A s.heap s.heap [] := va_S.rf
  refine lv_aload_n hx hb dX1_init_0 rfl (lv_at hl 0 rfl) ?_
  refine W.objInit hx hb hown (hts (.methodLink RX1 1 objectInit) (by decide +kernel)) (hts (.instanceMethod objectInit) (by decide +kernel)) (hts (.code objectInit ⟨#[0xb1]⟩ 1 none) (by decide +kernel)) rfl (by rw [hml]; exact hl.1) rfl dX1_init_1 (Nat.le_of_ble_eq_true rfl) (Nat.le_of_ble_eq_true rfl) ?_
  refine W.eq (g2 := F0 m 4 ls []) rfl ?_
  refine va_new (ci := 0) (fs := [.int 0, .int 0, .null]) (C := RX0) (T := TX0) (N := 3) hx hb hts iw_X1init_X0 tyX0 tyX0_ok hown (hts (.classLink RX1 7 RX0) (by decide +kernel)) (hts (.instantiable RX0 3) (by decide +kernel)) (hts (.initialized RX0) (by decide +kernel)) hK hP hD hS hA rfl (by intro j hj; match j, hj with | 0, _ => rfl | 1, _ => rfl | 2, _ => rfl) (by first | exact Nat.le_of_ble_eq_true rfl | (show _ ≤ 8; omega)) (by first | exact Nat.le_of_ble_eq_true rfl | (show _ ≤ 300; omega)) dX1_init_4 (fun q4 H hP hD hS => ?_)
  have hP : va_P D vwCl [(x, .inr (1, [.null, .null, .int 0, .int 0, .int 0, .int 0])), (q4, .inr (0, [.int 0, .int 0, .null]))] H := hP
  have hD : va_D A [(x, .inr (1, [.null, .null, .int 0, .int 0, .int 0, .int 0])), (q4, .inr (0, [.int 0, .int 0, .null]))] := hD
  refine lv_dup hx hb dX1_init_7 rfl ?_
  refine lv_iconst (v := nI 0) hx hb dX1_init_8 (by decide) ?_
  refine lv_iconst (v := nI 0) hx hb dX1_init_9 (by decide) ?_
  refine lv_iconst (v := nI 0) hx hb dX1_init_10 (by decide) ?_
  refine va_newa (atype := .int) (a0 := (0, .inl (fun _ => 0))) hx hb (hts (.arrayClass .int) (by decide +kernel)) rfl hK hP hD hS hA (fun _ => rfl) (xlt0 (by omega)) (nI_clamp (by omega)) (by show _ * 4 ≤ _; omega) (by first | exact Nat.le_of_ble_eq_true rfl | (show _ + _ ≤ 8; omega)) (by first | exact Nat.le_of_ble_eq_true rfl | (show _ + _ ≤ 300; omega)) dX1_init_11 (fun q11 cA9 H hK9 hP hD hS => ?_)
  have hc9 := xcI hK9 hK 3 0 rfl rfl
  rw [hc9] at hP hD
  clear hK9 hc9
  have hP : va_P D vwCl [(x, .inr (1, [.null, .null, .int 0, .int 0, .int 0, .int 0])), (q4, .inr (0, [.int 0, .int 0, .null])), (q11, .inl (cI, 0, .inl (fun _ => 0)))] H := hP
  have hD : va_D A [(x, .inr (1, [.null, .null, .int 0, .int 0, .int 0, .int 0])), (q4, .inr (0, [.int 0, .int 0, .null])), (q11, .inl (cI, 0, .inl (fun _ => 0)))] := hD
  have hP := xP_perm (List.Perm.cons _ (List.Perm.swap _ _ _)) hP
  have hD := xD_perm (List.Perm.cons _ (List.Perm.swap _ _ _)) hD
  have hP : va_P D vwCl ([(x, .inr (1, [.null, .null, .int 0, .int 0, .int 0, .int 0])), (q11, .inl (cI, 0, .inl (fun _ => 0)))] ++ [(q4, .inr (0, [.int 0, .int 0, .null]))]) H := hP
  have hD : va_D A ([(x, .inr (1, [.null, .null, .int 0, .int 0, .int 0, .int 0])), (q11, .inl (cI, 0, .inl (fun _ => 0)))] ++ [(q4, .inr (0, [.int 0, .int 0, .null]))]) := hD
  have hFc := xfree (wc := [(q4, .inr (0, [.int 0, .int 0, .null]))]) hD hS hA (fun _ h => List.mem_append_right _ h)
  have hPc := xP_sub (w2 := [(q4, .inr (0, [.int 0, .int 0, .null]))]) (fun _ h => List.mem_append_right _ h) hP
  have hDc : va_D (fun _ => True) [(q4, .inr (0, [.int 0, .int 0, .null]))] := (xD_sub (List.sublist_append_right _ _) hD).weaken (fun _ _ _ _ => trivial)
  refine va_callv (va_runI (As := [.int (nI 0), .int (nI 0), .ref q11]) (rest := [.ref q4]) ⟨hx, hb, hml, hown, hts⟩ (c_X0_init l q4 q11 H.size (nI 0) (nI 0)) (cwI 3 hts gX1_init_X0_init rfl rfl rfl (hts (.initialized RX0) (by decide +kernel)) (hts (.methodLink RX1 11 yX0_init) (by decide +kernel)) (hts (.instanceMethod yX0_init) (by decide +kernel)) rfl (by decide +kernel) ⟨(Nat.le_of_ble_eq_true rfl), (Nat.le_of_ble_eq_true rfl)⟩) ⟨XP_blind, XP_pre hE ⟨rfl, hPc, hDc⟩⟩ rfl rfl hl.1 rfl (lv_room (Nat.le_of_ble_eq_true rfl)) dX1_init_13 ⟨by first | exact Nat.le_of_ble_eq_true rfl | (show _ + _ ≤ _; omega), by first | exact Nat.le_of_ble_eq_true rfl | (show _ + _ ≤ _; omega)⟩) hS (fun q9 _ h => hFc q9 h) hFc (fun u t9 H1 locs ht9 hvm9 hw9 hB9 hzc hkc hS => ?_)
  obtain ⟨hP1, hD1⟩ := hB9
  rw [ht9] at hP1
  obtain ⟨hP, hD⟩ := xjoin (wr := [(x, .inr (1, [.null, .null, .int 0, .int 0, .int 0, .int 0])), (q11, .inl (cI, 0, .inl (fun _ => 0)))]) (wc := [(q4, .inr (0, [.int 0, .int 0, .null]))]) (w1 := [(q4, .inr (0, [.int (nI 0), .int (nI 0), .ref q11]))]) hP hD hkc hFc hP1 hD1
  generalize H1 = H at hP hS ⊢
  have hP : va_P D vwCl [(x, .inr (1, [.null, .null, .int 0, .int 0, .int 0, .int 0])), (q11, .inl (cI, 0, .inl (fun _ => 0))), (q4, .inr (0, [.int (nI 0), .int (nI 0), .ref q11]))] H := hP
  have hD : va_D A [(x, .inr (1, [.null, .null, .int 0, .int 0, .int 0, .int 0])), (q11, .inl (cI, 0, .inl (fun _ => 0))), (q4, .inr (0, [.int (nI 0), .int (nI 0), .ref q11]))] := hD
  refine lv_astore_n (lv' := [(1, .ref q4), (0, .ref x)]) hx hb dX1_init_16 rfl hl (by decide) rfl (fun ls hl => ?_)
  refine lv_aload_n hx hb dX1_init_17 rfl (lv_at hl 1 rfl) ?_
  refine lv_bipush (v := nI 6) hx hb dX1_init_18 (by decide) ?_
  refine va_newq (C := "BackMirror$Thing") hx hb hown (hts (.classLink RX1 7 RX0) (by decide +kernel)) hE.2.2 hK hP hD hS hA (xlt0 (by omega)) (nI_clamp (by omega)) (by show _ * 4 ≤ _; omega) (by first | exact Nat.le_of_ble_eq_true rfl | (show _ + _ ≤ 8; omega)) (by first | exact Nat.le_of_ble_eq_true rfl | (show _ + _ ≤ 300; omega)) dX1_init_20 (fun lv cA9 H hK9 hP hD hS => ?_)
  have hc9 := xcI hK9 hK 3 1 rfl rfl
  rw [hc9] at hP hD
  clear hK9 hc9
  have hP : va_P D vwCl [(x, .inr (1, [.null, .null, .int 0, .int 0, .int 0, .int 0])), (q11, .inl (cI, 0, .inl (fun _ => 0))), (q4, .inr (0, [.int (nI 0), .int (nI 0), .ref q11])), (lv, .inl (cT, 6, .inr (.inr (.inr (.inr (fun _ => none))))))] H := hP
  have hD : va_D A [(x, .inr (1, [.null, .null, .int 0, .int 0, .int 0, .int 0])), (q11, .inl (cI, 0, .inl (fun _ => 0))), (q4, .inr (0, [.int (nI 0), .int (nI 0), .ref q11])), (lv, .inl (cT, 6, .inr (.inr (.inr (.inr (fun _ => none))))))] := hD
  refine va_putF (ci := 1) (v := .ref lv) (ty := .array (.object "BackMirror$Thing")) (C := RX1) (T := TX1) (N := 6) hx hb hts iw_X1init_X1 tyX1 tyX1_ok nmX1 hown hK hP hD hS 0 rfl rfl 0 (by decide) (hts (.fieldLink RX1 14 "BackMirror" "live" "[LBackMirror$Thing;") (by decide +kernel)) (fun _ h9 => h9) rfl hin rfl (by decide +kernel) rfl rfl (Nat.le_of_ble_eq_true rfl) dX1_init_23 (fun H locs hP hD hS => ?_)
  have hP : va_P D vwCl [(x, .inr (1, [.ref lv, .null, .int 0, .int 0, .int 0, .int 0])), (q11, .inl (cI, 0, .inl (fun _ => 0))), (q4, .inr (0, [.int (nI 0), .int (nI 0), .ref q11])), (lv, .inl (cT, 6, .inr (.inr (.inr (.inr (fun _ => none))))))] H := hP
  have hD : va_D A [(x, .inr (1, [.ref lv, .null, .int 0, .int 0, .int 0, .int 0])), (q11, .inl (cI, 0, .inl (fun _ => 0))), (q4, .inr (0, [.int (nI 0), .int (nI 0), .ref q11])), (lv, .inl (cT, 6, .inr (.inr (.inr (.inr (fun _ => none))))))] := hD
  refine lv_iconst (v := nI 0) hx hb dX1_init_26 (by decide) ?_
  refine lv_istore_n (lv' := [(2, .int (nI 0)), (1, .ref q4), (0, .ref x)]) hx hb dX1_init_27 rfl hl (by decide) rfl (fun ls hl => ?_)
  refine x_loop (fun n H locs ls => ∃ (i j : Nat) (fL : Nat → Option Nat), (j + 1 = n) ∧ (6 ≤ i + j) ∧ (i ≤ 6) ∧ (∀ z, z < i → fL z = some q4) ∧ va_P D vwCl [(x, .inr (1, [.ref lv, .null, .int 0, .int 0, .int 0, .int 0])), (q11, .inl (cI, 0, .inl (fun _ => 0))), (q4, .inr (0, [.int (nI 0), .int (nI 0), .ref q11])), (lv, .inl (cT, 6, .inr (.inr (.inr (.inr fL)))))] H ∧ va_D A [(x, .inr (1, [.ref lv, .null, .int 0, .int 0, .int 0, .int 0])), (q11, .inl (cI, 0, .inl (fun _ => 0))), (q4, .inr (0, [.int (nI 0), .int (nI 0), .ref q11])), (lv, .inl (cT, 6, .inr (.inr (.inr (.inr fL)))))] ∧ va_S A s.heap H locs ∧ lv_has ls 3 [(2, .int (nI i)), (1, .ref q4), (0, .ref x)]) (6 + 1) ⟨0, 6, fun _ => none, rfl, by omega, by omega, fun z hz => absurd hz (Nat.not_lt_zero z), hP, hD, hS, lv_sub hl [0, 1, 2] rfl⟩ (fun H locs ls h => by obtain ⟨i, j, fL, hk, h1, h2, hfL, -⟩ := h; omega) (fun n H locs ls h ih => ?_)
  obtain ⟨i, j, fL, hk, h1, h2, hfL, hP, hD, hS, hl⟩ := h
  refine lv_iload_n hx hb dX1_init_28 rfl (lv_at hl 0 rfl) ?_
  refine lv_aload_n hx hb dX1_init_29 rfl (lv_at hl 2 rfl) ?_
  refine va_get (ci := 1) (v := .ref lv) (C := RX1) (T := TX1) (N := 6) hx hb hts iw_X1init_X1 hown hK hP 0 rfl rfl 0 (by decide) (hts (.fieldLink RX1 14 "BackMirror" "live" "[LBackMirror$Thing;") (by decide +kernel)) (fun _ h9 => h9) rfl dX1_init_30 ?_
  refine va_alen hx hb hK hP 3 1 rfl rfl (v := nI 6) rfl dX1_init_33 ?_
  refine lv_icmp_ge (tgt := 50) hx hb dX1_init_34 (by decide) (fun c34 => ?_) (fun c34 => ?_)
  · have c34 : 6 ≤ i := (xle (by omega) (by omega)).mp c34
    refine lv_aload_n hx hb dX1_init_50 rfl (lv_at hl 2 rfl) ?_
    refine lv_sipush (v := nI 246) hx hb dX1_init_51 (by decide) ?_
    refine va_newq (C := "BackMirror$Thing") hx hb hown (hts (.classLink RX1 7 RX0) (by decide +kernel)) hE.2.2 hK hP hD hS hA (xlt0 (by omega)) (nI_clamp (by omega)) (by show _ * 4 ≤ _; omega) (by first | exact Nat.le_of_ble_eq_true rfl | (show _ + _ ≤ 8; omega)) (by first | exact Nat.le_of_ble_eq_true rfl | (show _ + _ ≤ 300; omega)) dX1_init_54 (fun kp cA9 H hK9 hP hD hS => ?_)
    have hc9 := xcI hK9 hK 3 1 rfl rfl
    rw [hc9] at hP hD
    clear hK9 hc9
    have hP : va_P D vwCl [(x, .inr (1, [.ref lv, .null, .int 0, .int 0, .int 0, .int 0])), (q11, .inl (cI, 0, .inl (fun _ => 0))), (q4, .inr (0, [.int (nI 0), .int (nI 0), .ref q11])), (lv, .inl (cT, 6, .inr (.inr (.inr (.inr fL))))), (kp, .inl (cT, 246, .inr (.inr (.inr (.inr (fun _ => none))))))] H := hP
    have hD : va_D A [(x, .inr (1, [.ref lv, .null, .int 0, .int 0, .int 0, .int 0])), (q11, .inl (cI, 0, .inl (fun _ => 0))), (q4, .inr (0, [.int (nI 0), .int (nI 0), .ref q11])), (lv, .inl (cT, 6, .inr (.inr (.inr (.inr fL))))), (kp, .inl (cT, 246, .inr (.inr (.inr (.inr (fun _ => none))))))] := hD
    refine va_putF (ci := 1) (v := .ref kp) (ty := .array (.object "BackMirror$Thing")) (C := RX1) (T := TX1) (N := 6) hx hb hts iw_X1init_X1 tyX1 tyX1_ok nmX1 hown hK hP hD hS 0 rfl rfl 1 (by decide) (hts (.fieldLink RX1 18 "BackMirror" "kept" "[LBackMirror$Thing;") (by decide +kernel)) (fun _ h9 => h9) rfl hin rfl (by decide +kernel) rfl rfl (Nat.le_of_ble_eq_true rfl) dX1_init_57 (fun H locs hP hD hS => ?_)
    have hP : va_P D vwCl [(x, .inr (1, [.ref lv, .ref kp, .int 0, .int 0, .int 0, .int 0])), (q11, .inl (cI, 0, .inl (fun _ => 0))), (q4, .inr (0, [.int (nI 0), .int (nI 0), .ref q11])), (lv, .inl (cT, 6, .inr (.inr (.inr (.inr fL))))), (kp, .inl (cT, 246, .inr (.inr (.inr (.inr (fun _ => none))))))] H := hP
    have hD : va_D A [(x, .inr (1, [.ref lv, .ref kp, .int 0, .int 0, .int 0, .int 0])), (q11, .inl (cI, 0, .inl (fun _ => 0))), (q4, .inr (0, [.int (nI 0), .int (nI 0), .ref q11])), (lv, .inl (cT, 6, .inr (.inr (.inr (.inr fL))))), (kp, .inl (cT, 246, .inr (.inr (.inr (.inr (fun _ => none))))))] := hD
    refine lv_iconst (v := nI 0) hx hb dX1_init_60 (by decide) ?_
    refine lv_istore_n (lv' := [(2, .int (nI 0)), (1, .ref q4), (0, .ref x)]) hx hb dX1_init_61 rfl hl (by decide) rfl (fun ls hl => ?_)
    refine x_loop (fun n H locs ls => ∃ (i j : Nat) (fK : Nat → Option Nat), (j + 1 = n) ∧ (246 ≤ i + j) ∧ (i ≤ 246) ∧ (∀ z, z < i → fK z = some q4) ∧ va_P D vwCl [(x, .inr (1, [.ref lv, .ref kp, .int 0, .int 0, .int 0, .int 0])), (q11, .inl (cI, 0, .inl (fun _ => 0))), (q4, .inr (0, [.int (nI 0), .int (nI 0), .ref q11])), (lv, .inl (cT, 6, .inr (.inr (.inr (.inr fL))))), (kp, .inl (cT, 246, .inr (.inr (.inr (.inr fK)))))] H ∧ va_D A [(x, .inr (1, [.ref lv, .ref kp, .int 0, .int 0, .int 0, .int 0])), (q11, .inl (cI, 0, .inl (fun _ => 0))), (q4, .inr (0, [.int (nI 0), .int (nI 0), .ref q11])), (lv, .inl (cT, 6, .inr (.inr (.inr (.inr fL))))), (kp, .inl (cT, 246, .inr (.inr (.inr (.inr fK)))))] ∧ va_S A s.heap H locs ∧ lv_has ls 3 [(2, .int (nI i)), (1, .ref q4), (0, .ref x)]) (246 + 1) ⟨0, 246, fun _ => none, rfl, by omega, by omega, fun z hz => absurd hz (Nat.not_lt_zero z), hP, hD, hS, lv_sub hl [0, 1, 2] rfl⟩ (fun H locs ls h => by obtain ⟨i, j, fK, hk, h1, h2, hfK, -⟩ := h; omega) (fun n H locs ls h ih => ?_)
    obtain ⟨i, j, fK, hk, h1, h2, hfK, hP, hD, hS, hl⟩ := h
    refine lv_iload_n hx hb dX1_init_62 rfl (lv_at hl 0 rfl) ?_
    refine lv_aload_n hx hb dX1_init_63 rfl (lv_at hl 2 rfl) ?_
    refine va_get (ci := 1) (v := .ref kp) (C := RX1) (T := TX1) (N := 6) hx hb hts iw_X1init_X1 hown hK hP 0 rfl rfl 1 (by decide) (hts (.fieldLink RX1 18 "BackMirror" "kept" "[LBackMirror$Thing;") (by decide +kernel)) (fun _ h9 => h9) rfl dX1_init_64 ?_
    refine va_alen hx hb hK hP 4 1 rfl rfl (v := nI 246) rfl dX1_init_67 ?_
    refine lv_icmp_ge (tgt := 84) hx hb dX1_init_68 (by decide) (fun c68 => ?_) (fun c68 => ?_)
    · have c68 : 246 ≤ i := (xle (by omega) (by omega)).mp c68
      refine lv_aload_n hx hb dX1_init_84 rfl (lv_at hl 2 rfl) ?_
      refine lv_iconst (v := nI 0) hx hb dX1_init_85 (by decide) ?_
      refine va_put (ci := 1) (v := .int (nI 0)) (ty := .int) (C := RX1) (T := TX1) (N := 6) hx hb hts iw_X1init_X1 tyX1 tyX1_ok nmX1 hown hK hP hD hS 0 rfl rfl 2 (by decide) (hts (.fieldLink RX1 21 "BackMirror" "oldestDate" "I") (by decide +kernel)) (fun _ h9 => h9) rfl (by decide +kernel) rfl rfl (Nat.le_of_ble_eq_true rfl) dX1_init_86 (fun H locs hP hD hS => ?_)
      have hP : va_P D vwCl [(x, .inr (1, [.ref lv, .ref kp, .int (nI 0), .int 0, .int 0, .int 0])), (q11, .inl (cI, 0, .inl (fun _ => 0))), (q4, .inr (0, [.int (nI 0), .int (nI 0), .ref q11])), (lv, .inl (cT, 6, .inr (.inr (.inr (.inr fL))))), (kp, .inl (cT, 246, .inr (.inr (.inr (.inr fK)))))] H := hP
      have hD : va_D A [(x, .inr (1, [.ref lv, .ref kp, .int (nI 0), .int 0, .int 0, .int 0])), (q11, .inl (cI, 0, .inl (fun _ => 0))), (q4, .inr (0, [.int (nI 0), .int (nI 0), .ref q11])), (lv, .inl (cT, 6, .inr (.inr (.inr (.inr fL))))), (kp, .inl (cT, 246, .inr (.inr (.inr (.inr fK)))))] := hD
      refine lv_aload_n hx hb dX1_init_89 rfl (lv_at hl 2 rfl) ?_
      refine lv_iconst (v := nI 0) hx hb dX1_init_90 (by decide) ?_
      refine va_put (ci := 1) (v := .int (nI 0)) (ty := .int) (C := RX1) (T := TX1) (N := 6) hx hb hts iw_X1init_X1 tyX1 tyX1_ok nmX1 hown hK hP hD hS 0 rfl rfl 3 (by decide) (hts (.fieldLink RX1 25 "BackMirror" "lastDate" "I") (by decide +kernel)) (fun _ h9 => h9) rfl (by decide +kernel) rfl rfl (Nat.le_of_ble_eq_true rfl) dX1_init_91 (fun H locs hP hD hS => ?_)
      have hP : va_P D vwCl [(x, .inr (1, [.ref lv, .ref kp, .int (nI 0), .int (nI 0), .int 0, .int 0])), (q11, .inl (cI, 0, .inl (fun _ => 0))), (q4, .inr (0, [.int (nI 0), .int (nI 0), .ref q11])), (lv, .inl (cT, 6, .inr (.inr (.inr (.inr fL))))), (kp, .inl (cT, 246, .inr (.inr (.inr (.inr fK)))))] H := hP
      have hD : va_D A [(x, .inr (1, [.ref lv, .ref kp, .int (nI 0), .int (nI 0), .int 0, .int 0])), (q11, .inl (cI, 0, .inl (fun _ => 0))), (q4, .inr (0, [.int (nI 0), .int (nI 0), .ref q11])), (lv, .inl (cT, 6, .inr (.inr (.inr (.inr fL))))), (kp, .inl (cT, 246, .inr (.inr (.inr (.inr fK)))))] := hD
      refine lv_aload_n hx hb dX1_init_94 rfl (lv_at hl 2 rfl) ?_
      refine lv_iconst (v := nI 0) hx hb dX1_init_95 (by decide) ?_
      refine va_put (ci := 1) (v := .int (nI 0)) (ty := .boolean) (C := RX1) (T := TX1) (N := 6) hx hb hts iw_X1init_X1 tyX1 tyX1_ok nmX1 hown hK hP hD hS 0 rfl rfl 4 (by decide) (hts (.fieldLink RX1 28 "BackMirror" "broken" "Z") (by decide +kernel)) (fun _ h9 => h9) rfl (by decide +kernel) (by decide) rfl (Nat.le_of_ble_eq_true rfl) dX1_init_96 (fun H locs hP hD hS => ?_)
      have hP : va_P D vwCl [(x, .inr (1, [.ref lv, .ref kp, .int (nI 0), .int (nI 0), .int (nI 0), .int 0])), (q11, .inl (cI, 0, .inl (fun _ => 0))), (q4, .inr (0, [.int (nI 0), .int (nI 0), .ref q11])), (lv, .inl (cT, 6, .inr (.inr (.inr (.inr fL))))), (kp, .inl (cT, 246, .inr (.inr (.inr (.inr fK)))))] H := hP
      have hD : va_D A [(x, .inr (1, [.ref lv, .ref kp, .int (nI 0), .int (nI 0), .int (nI 0), .int 0])), (q11, .inl (cI, 0, .inl (fun _ => 0))), (q4, .inr (0, [.int (nI 0), .int (nI 0), .ref q11])), (lv, .inl (cT, 6, .inr (.inr (.inr (.inr fL))))), (kp, .inl (cT, 246, .inr (.inr (.inr (.inr fK)))))] := hD
      refine lv_aload_n hx hb dX1_init_99 rfl (lv_at hl 2 rfl) ?_
      refine lv_iconst (v := nI 0) hx hb dX1_init_100 (by decide) ?_
      refine va_put (ci := 1) (v := .int (nI 0)) (ty := .int) (C := RX1) (T := TX1) (N := 6) hx hb hts iw_X1init_X1 tyX1 tyX1_ok nmX1 hown hK hP hD hS 0 rfl rfl 5 (by decide) (hts (.fieldLink RX1 32 "BackMirror" "brokenSteps" "I") (by decide +kernel)) (fun _ h9 => h9) rfl (by decide +kernel) rfl rfl (Nat.le_of_ble_eq_true rfl) dX1_init_101 (fun H locs hP hD hS => ?_)
      have hP : va_P D vwCl [(x, .inr (1, [.ref lv, .ref kp, .int (nI 0), .int (nI 0), .int (nI 0), .int (nI 0)])), (q11, .inl (cI, 0, .inl (fun _ => 0))), (q4, .inr (0, [.int (nI 0), .int (nI 0), .ref q11])), (lv, .inl (cT, 6, .inr (.inr (.inr (.inr fL))))), (kp, .inl (cT, 246, .inr (.inr (.inr (.inr fK)))))] H := hP
      have hD : va_D A [(x, .inr (1, [.ref lv, .ref kp, .int (nI 0), .int (nI 0), .int (nI 0), .int (nI 0)])), (q11, .inl (cI, 0, .inl (fun _ => 0))), (q4, .inr (0, [.int (nI 0), .int (nI 0), .ref q11])), (lv, .inl (cT, 6, .inr (.inr (.inr (.inr fL))))), (kp, .inl (cT, 246, .inr (.inr (.inr (.inr fK)))))] := hD
      refine W.widen (k := 8) (n := 300) (by first | exact Nat.le_of_ble_eq_true rfl | (show _ ≤ 8; omega)) (by first | exact Nat.le_of_ble_eq_true rfl | (show _ ≤ 300; omega)) ?_
      have hpm : ([(x, .inr (1, [.ref lv, .ref kp, .int (nI 0), .int (nI 0), .int (nI 0), .int (nI 0)])), (q11, .inl (cI, 0, .inl (fun _ => 0))), (q4, .inr (0, [.int (nI 0), .int (nI 0), .ref q11])), (lv, .inl (cT, 6, .inr (.inr (.inr (.inr fL))))), (kp, .inl (cT, 246, .inr (.inr (.inr (.inr fK)))))] : va_W).Perm [(x, .inr (1, [.ref lv, .ref kp, .int (nI 0), .int (nI 0), .int (nI 0), .int (nI 0)])), (lv, .inl (cT, 6, .inr (.inr (.inr (.inr fL))))), (kp, .inl (cT, 246, .inr (.inr (.inr (.inr fK))))), (q11, .inl (cI, 0, .inl (fun _ => 0))), (q4, .inr (0, [.int (nI 0), .int (nI 0), .ref q11]))] := (List.perm_append_comm (l₁ := [_, _]) (l₂ := [_, _])).cons _
      have hP := xP_perm hpm hP
      have hD := xD_perm hpm hD
      have hT0 : TH cI [(q11, .inl (cI, 0, .inl (fun _ => 0))), (q4, .inr (0, [.int (nI 0), .int (nI 0), .ref q11]))] q4 (nI 0, nI 0, 0, fun _ => 0) := ⟨Nat.le_of_ble_eq_true rfl, _, _, List.mem_cons_of_mem _ (List.mem_singleton.mpr rfl), List.mem_cons_self, fun _ h => absurd h (Nat.not_lt_zero _)⟩
      exact W.vret hx hb hr (fun t9 ht9 hW9 => ⟨⟨(lv, kp), rfl, trivial, fL, fK, _, by rw [ht9]; exact hP, hD, fun i9 hi9 => ⟨q4, hfK i9 (by omega), hT0⟩, fun i9 hi9 => ⟨q4, hfL i9 (by omega), hT0⟩⟩, hS.F ht9⟩) hS.2.2 dX1_init_104
    · have c68 : ¬ 246 ≤ i := fun h => c68 ((xle (by omega) (by omega)).mpr h)
      refine lv_aload_n hx hb dX1_init_71 rfl (lv_at hl 2 rfl) ?_
      refine va_get (ci := 1) (v := .ref kp) (C := RX1) (T := TX1) (N := 6) hx hb hts iw_X1init_X1 hown hK hP 0 rfl rfl 1 (by decide) (hts (.fieldLink RX1 18 "BackMirror" "kept" "[LBackMirror$Thing;") (by decide +kernel)) (fun _ h9 => h9) rfl dX1_init_72 ?_
      refine lv_iload_n hx hb dX1_init_75 rfl (lv_at hl 0 rfl) ?_
      refine lv_aload_n hx hb dX1_init_76 rfl (lv_at hl 1 rfl) ?_
      refine va_astq (r := (RX0, TX0, 3)) hx hb hK hP hD hS 4 1 2 0 rfl rfl rfl rfl (xin (by omega) (by omega)) dX1_init_77 (fun H locs hP hD hS => ?_)
      rw [nI_clamp (show i < 2 ^ 31 by omega)] at hP hD
      have hP : va_P D vwCl [(x, .inr (1, [.ref lv, .ref kp, .int 0, .int 0, .int 0, .int 0])), (q11, .inl (cI, 0, .inl (fun _ => 0))), (q4, .inr (0, [.int (nI 0), .int (nI 0), .ref q11])), (lv, .inl (cT, 6, .inr (.inr (.inr (.inr fL))))), (kp, .inl (cT, 246, .inr (.inr (.inr (.inr (va_up fK i (some q4)))))))] H := hP
      have hD : va_D A [(x, .inr (1, [.ref lv, .ref kp, .int 0, .int 0, .int 0, .int 0])), (q11, .inl (cI, 0, .inl (fun _ => 0))), (q4, .inr (0, [.int (nI 0), .int (nI 0), .ref q11])), (lv, .inl (cT, 6, .inr (.inr (.inr (.inr fL))))), (kp, .inl (cT, 246, .inr (.inr (.inr (.inr (va_up fK i (some q4)))))))] := hD
      refine lv_iinc (v := nI (i + 1)) (lv' := [(2, .int (nI (i + 1))), (1, .ref q4), (0, .ref x)]) hx hb dX1_init_78 hl (k := 0) rfl (xinc _ 1 _ (by decide)) (by decide) rfl (fun ls hl => ?_)
      refine lv_goto (tgt := 62) hx hb dX1_init_81 (by decide) ?_
      exact ih _ _ _ ⟨i + 1, j - 1, (va_up fK i (some q4)), by omega, by omega, by omega, fun z hz => by by_cases e : z = i; exact e ▸ va_up_s; exact (va_up_n e).trans (hfK z (by omega)), hP, hD, hS, lv_sub hl [0, 1, 2] rfl⟩
  · have c34 : ¬ 6 ≤ i := fun h => c34 ((xle (by omega) (by omega)).mpr h)
    refine lv_aload_n hx hb dX1_init_37 rfl (lv_at hl 2 rfl) ?_
    refine va_get (ci := 1) (v := .ref lv) (C := RX1) (T := TX1) (N := 6) hx hb hts iw_X1init_X1 hown hK hP 0 rfl rfl 0 (by decide) (hts (.fieldLink RX1 14 "BackMirror" "live" "[LBackMirror$Thing;") (by decide +kernel)) (fun _ h9 => h9) rfl dX1_init_38 ?_
    refine lv_iload_n hx hb dX1_init_41 rfl (lv_at hl 0 rfl) ?_
    refine lv_aload_n hx hb dX1_init_42 rfl (lv_at hl 1 rfl) ?_
    refine va_astq (r := (RX0, TX0, 3)) hx hb hK hP hD hS 3 1 2 0 rfl rfl rfl rfl (xin (by omega) (by omega)) dX1_init_43 (fun H locs hP hD hS => ?_)
    rw [nI_clamp (show i < 2 ^ 31 by omega)] at hP hD
    have hP : va_P D vwCl [(x, .inr (1, [.ref lv, .null, .int 0, .int 0, .int 0, .int 0])), (q11, .inl (cI, 0, .inl (fun _ => 0))), (q4, .inr (0, [.int (nI 0), .int (nI 0), .ref q11])), (lv, .inl (cT, 6, .inr (.inr (.inr (.inr (va_up fL i (some q4)))))))] H := hP
    have hD : va_D A [(x, .inr (1, [.ref lv, .null, .int 0, .int 0, .int 0, .int 0])), (q11, .inl (cI, 0, .inl (fun _ => 0))), (q4, .inr (0, [.int (nI 0), .int (nI 0), .ref q11])), (lv, .inl (cT, 6, .inr (.inr (.inr (.inr (va_up fL i (some q4)))))))] := hD
    refine lv_iinc (v := nI (i + 1)) (lv' := [(2, .int (nI (i + 1))), (1, .ref q4), (0, .ref x)]) hx hb dX1_init_44 hl (k := 0) rfl (xinc _ 1 _ (by decide)) (by decide) rfl (fun ls hl => ?_)
    refine lv_goto (tgt := 28) hx hb dX1_init_47 (by decide) ?_
    exact ih _ _ _ ⟨i + 1, j - 1, (va_up fL i (some q4)), by omega, by omega, by omega, fun z hz => by by_cases e : z = i; exact e ▸ va_up_s; exact (va_up_n e).trans (hfL z (by omega)), hP, hD, hS, lv_sub hl [0, 1, 2] rfl⟩
end
