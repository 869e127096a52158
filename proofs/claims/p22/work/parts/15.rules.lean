/-! the law's rules: reads of the class, refusals, joins -/
def XN (U : State) : Prop := va_Nc nIS nIO U ∧ va_Nc nIA nIO U ∧ va_Nc nIA nIS U ∧ va_Nc nIS nIA U
theorem XN.moved {u U : State} (hvm : u.vm.Alike U.vm) (h : XN u) : XN U := ⟨va_Nc.moved hvm h.1, va_Nc.moved hvm h.2.1, va_Nc.moved hvm h.2.2.1, va_Nc.moved hvm h.2.2.2⟩
def XPl (D : va_G) (cI cT cJ : ClassId) (A : Nat → Prop) (av : List Value) (F : Heap → Prop) : Array Value → State → Prop := va_Pc av (fun U => F U.heap ∧ XE D cI cT cJ U ∧ XT A U U.heap ∧ XN U)
theorem XPl_blind {D : va_G} {cI cT cJ : ClassId} {A : Nat → Prop} {av : List Value} {F : Heap → Prop} : FrameBlind (XPl D cI cT cJ A av F) := fun a U g mk q => ⟨q.1, q.2.1, XE.same (s := U) (U := U.calling g mk a) rfl q.2.2.1, XT.same (s := U) (U := U.calling g mk a) rfl q.2.2.2.1, XN.moved (u := U) (U := U.calling g mk a) (Vm.Alike.refl U.vm) q.2.2.2.2⟩
theorem XPl_pre {D : va_G} {cI cT cJ : ClassId} {A : Nat → Prop} {av : List Value} {F : Heap → Prop} {s : State} {H : Heap} (hE : XE D cI cT cJ s) (hT : XT A s H) (hN : XN s) (hF : F H) : ∀ U : State, U.heap = H → s.WarmedH U.vm → XPl D cI cT cJ A av F av.toArray U := fun U hU hW => ⟨rfl, by rw [hU]; exact hF, XE.warm hW hE, XT.warm hW (by rw [hU]; exact hT), XN.moved hW.alike hN⟩
def XPd (av : List Value) (b L : Nat) (xs : Nat → Int32) : Array Value → State → Prop := va_Pc av (fun U => va_X b L xs U U.heap)
theorem XPd_blind {av : List Value} {b L : Nat} {xs : Nat → Int32} : FrameBlind (XPd av b L xs) := fun a U g mk q => ⟨q.1, va_X.moved (u := U) (U := U.calling g mk a) (Vm.Alike.refl U.vm) q.2⟩
theorem XPd_pre {av : List Value} {b L : Nat} {xs : Nat → Int32} {s : State} {H : Heap} (hX : va_X b L xs s H) : ∀ U : State, U.heap = H → s.WarmedH U.vm → XPd av b L xs av.toArray U := fun U hU hW => ⟨rfl, by show va_X b L xs U U.heap; rw [hU]; exact va_X.moved hW.alike hX⟩
/-- it answers an int; old cells are as they were -/
def XRi (post : Int32 → Prop) : Array Value → State → Outcome → State → Prop := fun _ st oc t => ∃ r : Int32, oc = .returned (some (.int r)) ∧ post r ∧ st.heap.size ≤ t.heap.size ∧ ∀ q : Nat, q < st.heap.size → t.heap[q]? = st.heap[q]?
def XSj (post : Int64 → Prop) : Array Value → State → Outcome → State → Prop := fun _ st oc t => ∃ r : Int64, oc = .returned (some (.long r)) ∧ post r ∧ t.heap = st.heap
section XLW
variable {p : Program} {l : Launch} {e : Env} {R : Room} {s : State} {m : MethodId} {args : Array Value} {below : List Frame} {meth : Method} {c : Code} {H : Heap} {locs : List Loc} {cells slots mc ms : Nat} {Q : State → Prop}
variable {pc : Nat} {ls : Array Slot} {rest st0 : List Value} {a : Array Value} {A0 : Nat → Prop} {H0 : Heap}
theorem xst_same {T T' : State} {c2 s2 : Nat} (X : Stand p l e R s m args below meth c T locs cells slots) (X' : Stand p l e R s m args below meth c T' locs c2 s2) (h : T'.heap = T.heap) : Stand p l e R s m args below meth c T' locs cells slots := by
  obtain ⟨a1, a2, a3, a4, a5, a6⟩ := X.same
  obtain ⟨b1, b2, b3, b4, b5, b6⟩ := X'.same
  have e : (T'.setVm s.vm).heap = (T.setVm s.vm).heap := h
  exact { X' with same := ⟨b1, b2, by rw [e]; exact a3, b4, by rw [e]; exact a5, b6⟩ }
/-- a read of the class that answers r, whatever the room it may take to throw -/
theorem xcr {P : Option Value → Prop} {PX : String → Prop} {r : Int32} (hr : vx_Run p l e R s m args below meth c H locs cells slots mc ms (F0 m pc ls st0) rest (XSg P a) (XXc PX) (fun _ => False)) (hno : ∀ E, ¬ PX E) (hv : ∀ v, P v → v = some (.int r))
    (kk : W p l e R s m args below meth c H locs cells slots Q (F0 m (pc + 3) ls (.int r :: rest))) : W p l e R s m args below meth c H locs cells slots Q (F0 m pc ls st0) := by
  intro T hT X
  rcases hr T hT X with ⟨v, st₀, t, T', L, h0, X', hL, e1, e2, ⟨v', hv', hp, hh⟩, st⟩ | ⟨q, st₀, t, T', L, E, ce, h0, X', hL, e1, e2, ⟨hp, hz, hk⟩, hce, hcv, hcl, st⟩
  · cases hv'
    have hvv := hv _ hp
    subst hvv
    have X2 := xst_same X (Stand.forget X' (fun q h => (hL q h).elim)) (by rw [e1, hh, h0, hT])
    obtain ⟨t2, a1, b1⟩ := kk T' (by rw [e1, hh, h0]) X2
    exact ⟨t2, st t2 a1, b1⟩
  · exact (hno E hp).elim
/-- reads by the law's own methods: the heap is the same, so no cell was made -/
theorem xc_sje {v : Int64} (hr : va_Run p l e R s m args below meth c H locs cells slots mc ms (F0 m pc ls st0) rest (XSj (fun r => r = v) a) (fun _ => False))
    (kk : W p l e R s m args below meth c H locs cells slots Q (F0 m (pc + 3) ls (.long v :: rest))) : W p l e R s m args below meth c H locs cells slots Q (F0 m pc ls st0) := by
  intro T hT X
  obtain ⟨v, st₀, t, T', L, h0, X', hL, e1, e2, ⟨r, hv, hp, hh⟩, st⟩ := hr T hT X
  cases hv
  subst hp
  obtain ⟨t2, a1, b1⟩ := kk T' (by rw [e1, hh, h0]) (xst_same X (Stand.forget X' (fun q h => (hL q h).elim)) (by rw [e1, hh, h0, hT]))
  exact ⟨t2, st t2 a1, b1⟩
theorem xc_si2 {v : Int32} (hr : va_Run p l e R s m args below meth c H locs cells slots mc ms (F0 m pc ls st0) rest (XSi (fun r => r = v) a) (fun _ => False))
    (kk : W p l e R s m args below meth c H locs cells slots Q (F0 m (pc + 3) ls (.int v :: rest))) : W p l e R s m args below meth c H locs cells slots Q (F0 m pc ls st0) := by
  intro T hT X
  obtain ⟨v, st₀, t, T', L, h0, X', hL, e1, e2, ⟨r, hv, hp, hh⟩, st⟩ := hr T hT X
  cases hv
  subst hp
  obtain ⟨t2, a1, b1⟩ := kk T' (by rw [e1, hh, h0]) (xst_same X (Stand.forget X' (fun q h => (hL q h).elim)) (by rw [e1, hh, h0, hT]))
  exact ⟨t2, st t2 a1, b1⟩
/-- a call that leaves old cells as they were -/
theorem xcri {post : Int32 → Prop} (hr : vx_Run p l e R s m args below meth c H locs cells slots mc ms (F0 m pc ls st0) rest (XRi post a) (XXc (fun _ => False)) (fun _ => False))
    (kk : ∀ (r : Int32) (H1 : Heap), post r → H.size ≤ H1.size → (∀ q : Nat, q < H.size → H1[q]? = H[q]?) → W p l e R s m args below meth c H1 locs (cells + mc) (slots + ms) Q (F0 m (pc + 3) ls (.int r :: rest))) : W p l e R s m args below meth c H locs cells slots Q (F0 m pc ls st0) := by
  intro T hT X
  rcases hr T hT X with ⟨v, st₀, t, T', L, h0, X', hL, e1, e2, ⟨r, hv, hp, hz, hk⟩, st⟩ | ⟨q, st₀, t, T', L, E, ce, h0, X', hL, e1, e2, ⟨hp, hz, hk⟩, hce, hcv, hcl, st⟩
  · cases hv
    rw [h0] at hz hk
    obtain ⟨t2, a1, b1⟩ := kk r T'.heap hp (by rw [e1]; exact hz) (fun q hq => by rw [e1]; exact hk q hq) T' rfl (Stand.forget X' (fun q h => (hL q h).elim))
    exact ⟨t2, st t2 a1, b1⟩
  · exact hp.elim
theorem xcrv {post : Int32 → Prop} (hr : va_Run p l e R s m args below meth c H locs cells slots mc ms (F0 m pc ls st0) rest (XRi post a) (fun _ => False))
    (kk : ∀ (r : Int32) (H1 : Heap), post r → H.size ≤ H1.size → (∀ q : Nat, q < H.size → H1[q]? = H[q]?) → W p l e R s m args below meth c H1 locs (cells + mc) (slots + ms) Q (F0 m (pc + 3) ls (.int r :: rest))) : W p l e R s m args below meth c H locs cells slots Q (F0 m pc ls st0) := by
  intro T hT X
  obtain ⟨v, st₀, t, T', L, h0, X', hL, e1, e2, ⟨r, hv, hp, hz, hk⟩, st⟩ := hr T hT X
  cases hv
  rw [h0] at hz hk
  obtain ⟨t2, a1, b1⟩ := kk r T'.heap hp (by rw [e1]; exact hz) (fun q hq => by rw [e1]; exact hk q hq) T' rfl (Stand.forget X' (fun q h => (hL q h).elim))
  exact ⟨t2, st t2 a1, b1⟩
/-- old cells are as they were: nothing was written that counts -/
theorem xforget {g : JFrame} (h : ∀ q : Nat, q < s.heap.size → H[q]? = s.heap[q]?) (kk : W p l e R s m args below meth c H [] cells slots Q g) : W p l e R s m args below meth c H locs cells slots Q g := by
  intro T hT X
  obtain ⟨b1, b2, b3, b4, b5, b6⟩ := X.same
  refine kk T hT { X with same := ⟨b1, b2, b3, b4, b5, fun q c hc => ⟨c, ?_, rfl, rfl, fun i _ => rfl⟩⟩ }
  have hq : q < s.heap.size := (Array.getElem?_eq_some_iff.mp hc).1
  show T.heap[q]? = some c
  rw [hT, h q hq]; exact hc
/-- two roads that meet with one stack -/
theorem x_join {g : JFrame} (pcJ : Nat) (stJ : List Value) (J : W p l e R s m args below meth c H locs cells slots Q (F0 m pcJ ls stJ)) (k : W p l e R s m args below meth c H locs cells slots Q (F0 m pcJ ls stJ) → W p l e R s m args below meth c H locs cells slots Q g) : W p l e R s m args below meth c H locs cells slots Q g := k J
/-- roads that meet in any state of a kind -/
theorem x_joinG {g : JFrame} (Inv : Heap → List Loc → Array Slot → Prop) (cJ sJ pcJ : Nat) (stJ : List Value) (J : ∀ H locs ls, Inv H locs ls → W p l e R s m args below meth c H locs cJ sJ Q (F0 m pcJ ls stJ)) (k : (∀ H locs ls, Inv H locs ls → W p l e R s m args below meth c H locs cJ sJ Q (F0 m pcJ ls stJ)) → W p l e R s m args below meth c H locs cells slots Q g) : W p l e R s m args below meth c H locs cells slots Q g := k J
theorem x_topl {x : Int64} (y : Int64) (h : x = y) (k : W p l e R s m args below meth c H locs cells slots Q (F0 m pc ls (.long y :: rest))) : W p l e R s m args below meth c H locs cells slots Q (F0 m pc ls (.long x :: rest)) := h ▸ k
/-- a loop that makes cells: cf, sf of them are made with n turns left -/
theorem x_loopC (cf sf : Nat → Nat) (Inv : Nat → Heap → List Loc → Array Slot → Prop) (n0 : Nat) (h0 : Inv n0 H locs ls) (hz : ∀ H locs ls, Inv 0 H locs ls → False)
    (step : ∀ n H locs ls, Inv (n + 1) H locs ls → (∀ H' locs' ls', Inv n H' locs' ls' → W p l e R s m args below meth c H' locs' (cf n) (sf n) Q (F0 m pc ls' [])) → W p l e R s m args below meth c H locs (cf (n + 1)) (sf (n + 1)) Q (F0 m pc ls [])) :
    W p l e R s m args below meth c H locs (cf n0) (sf n0) Q (F0 m pc ls []) := by
  have key : ∀ n H locs ls, Inv n H locs ls → W p l e R s m args below meth c H locs (cf n) (sf n) Q (F0 m pc ls []) := by
    intro n
    induction n with
    | zero => intro H locs ls h; exact (hz H locs ls h).elim
    | succ n ih => intro H locs ls h; exact step n H locs ls h ih
  exact key n0 H locs ls h0
end XLW
theorem xS_kept {A0 : Nat → Prop} {H0 H H1 : Heap} {locs : List Loc} (hS : va_S A0 H0 H locs) (hz : H.size ≤ H1.size) (hk : ∀ q : Nat, q < H.size → H1[q]? = H[q]?) : va_S A0 H0 H1 locs := ⟨Nat.le_trans hS.1 hz, fun q h1 h2 => (hk q (Nat.lt_of_lt_of_le h1 hS.1)).trans (hS.2.1 q h1 h2), hS.2.2⟩
theorem xk_tr {H H1 H2 : Heap} (hz1 : H.size ≤ H1.size) (hk1 : ∀ q : Nat, q < H.size → H1[q]? = H[q]?) (hz2 : H1.size ≤ H2.size) (hk2 : ∀ q : Nat, q < H1.size → H2[q]? = H1[q]?) : H.size ≤ H2.size ∧ ∀ q : Nat, q < H.size → H2[q]? = H[q]? := ⟨Nat.le_trans hz1 hz2, fun q h => (hk2 q (Nat.lt_of_lt_of_le h hz1)).trans (hk1 q h)⟩
theorem lg_self (x : Int64) : lg_cmp x x = nI 0 := by
  unfold lg_cmp
  rw [if_neg Int64.lt_irrefl, if_pos rfl]; rfl
/-! which place of which date: one number -/
theorem AT_l {o ld p : Nat} (hp : p < 6) : AT o ld (-1) (nI p) (246 + p) := ⟨p, hp, rfl, Or.inl ⟨rfl, rfl⟩⟩
theorem AT_d {o ld d p : Nat} (h1 : o ≤ d) (h2 : d ≤ ld) (hp : p < 6) : AT o ld (nI d) (nI p) (6 * d + p) := ⟨p, hp, rfl, Or.inr ⟨d, h1, h2, rfl, rfl⟩⟩
theorem AT_u {o ld : Nat} {v w : Int32} {i k : Nat} (hld : ld ≤ 40) (h1 : AT o ld v w i) (h2 : AT o ld v w k) : i = k := by
  obtain ⟨j, hj, rfl, h1⟩ := h1
  obtain ⟨j2, hj2, e, h2⟩ := h2
  have hjj : j = j2 := (xeq (by omega) (by omega)).mp e
  rcases h1 with ⟨a, b⟩ | ⟨d, a1, a2, rfl, b⟩
  · rcases h2 with ⟨a', b'⟩ | ⟨d', a1', a2', a', b'⟩
    · omega
    · exact absurd (a'.symm.trans a) (nI_m1 (by omega))
  · rcases h2 with ⟨a', b'⟩ | ⟨d', a1', a2', a', b'⟩
    · exact absurd a' (nI_m1 (by omega))
    · have : d = d' := (xeq (by omega) (by omega)).mp a'
      omega
theorem AT_lt {o ld : Nat} {v w : Int32} {i : Nat} (hld : ld ≤ 40) (h : AT o ld v w i) : i < 252 := by
  obtain ⟨j, hj, rfl, h1⟩ := h
  rcases h1 with ⟨a, b⟩ | ⟨d, a1, a2, rfl, b⟩ <;> omega
theorem rq_no {o ld : Nat} {v w : Int32} {i : Nat} (h : AT o ld v w i) (E : String) : ¬ (E = nIO ∧ ¬ ∃ i, AT o ld v w i) := fun h9 => h9.2 ⟨i, h⟩
theorem rq_k {o ld : Nat} {v w : Int32} {i : Nat} {G : Nat → Tv} (hld : ld ≤ 40) (h : AT o ld v w i) (v9 : Option Value) (h9 : ∃ i : Nat, v9 = some (.int (G i).1) ∧ AT o ld v w i) : v9 = some (.int (G i).1) := by
  obtain ⟨k, e, h2⟩ := h9
  rw [AT_u hld h h2]; exact e
theorem rq_r {o ld : Nat} {v w : Int32} {i : Nat} {G : Nat → Tv} (hld : ld ≤ 40) (h : AT o ld v w i) (v9 : Option Value) (h9 : ∃ i : Nat, v9 = some (.int (G i).2.1) ∧ AT o ld v w i) : v9 = some (.int (G i).2.1) := by
  obtain ⟨k, e, h2⟩ := h9
  rw [AT_u hld h h2]; exact e
theorem rq_nn {o ld : Nat} {v w : Int32} {i sp : Nat} (h : AT o ld v w i) (hs : sp < 12) (E : String) : ¬ (E = nIO ∧ ¬ ∃ i k : Nat, AT o ld v w i ∧ k < 12 ∧ nI sp = nI k) := fun h9 => h9.2 ⟨i, sp, h, hs, rfl⟩
theorem rq_n {o ld : Nat} {v w : Int32} {i sp : Nat} {G : Nat → Tv} (hld : ld ≤ 40) (h : AT o ld v w i) (hs : sp < 12) (v9 : Option Value) (h9 : ∃ i k : Nat, AT o ld v w i ∧ k < 12 ∧ nI sp = nI k ∧ v9 = some (.int (if k < (G i).2.2.1 then (G i).2.2.2 k else -1))) : v9 = some (.int (num (G i) sp)) := by
  obtain ⟨k, q, h2, hq, e2, e⟩ := h9
  have : sp = q := (xeq (by omega) (by omega)).mp e2
  rw [AT_u hld h h2, this]; exact e
theorem rq_sn {o ld d j : Nat} (h1 : o ≤ d) (h2 : d ≤ ld) (hj : j < 6) (E : String) : ¬ (E = nIO ∧ ¬ ∃ d' j' : Nat, o ≤ d' ∧ d' ≤ ld ∧ nI d = nI d' ∧ j' < 6 ∧ nI j = nI j') := fun h9 => h9.2 ⟨d, j, h1, h2, rfl, hj, rfl⟩
theorem rq_s {o ld d j : Nat} {G : Nat → Tv} (hld : ld ≤ 40) (h1 : o ≤ d) (h2 : d ≤ ld) (hj : j < 6) (v9 : Option Value) (h9 : ∃ d' j' : Nat, o ≤ d' ∧ d' ≤ ld ∧ nI d = nI d' ∧ j' < 6 ∧ nI j = nI j' ∧ v9 = some (.int (nI (difW G ld d' j')))) : v9 = some (.int (nI (difW G ld d j))) := by
  obtain ⟨d', j', a1, a2, a3, a4, a5, e⟩ := h9
  have e1 : d = d' := (xeq (by omega) (by omega)).mp a3
  have e2 : j = j' := (xeq (by omega) (by omega)).mp a5
  rw [e1, e2]; exact e
theorem CA.len {cI : ClassId} {FZ : va_W} {fL fK : Nat → Option Nat} {G : Nat → Tv} (h : CA cI FZ fL fK G) {i : Nat} (hi : i < 252) : (G i).2.2.1 ≤ 12 := by
  by_cases c : i < 246
  · obtain ⟨a, -, h2⟩ := h.1 i c; exact h2.1
  · obtain ⟨a, -, h2⟩ := h.2 (i - 246) (by omega)
    rw [show 246 + (i - 246) = i by omega] at h2
    exact h2.1
