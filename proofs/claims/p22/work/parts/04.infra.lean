/-! own rows: contracts that leave the heap as it is, loops, small numbers -/
section XINF
variable {p : Program} {l : Launch} {e : Env} {R : Room} {s : State} {m : MethodId} {args : Array Value} {below : List Frame} {meth : Method} {c : Code} {H : Heap} {locs : List Loc} {cells slots : Nat} {Q : State → Prop}
variable {pc : Nat} {ls : Array Slot} {rest st0 : List Value} {a : Array Value}
/-- an int (or a boolean) comes back, the heap is the same -/
def XSi (post : Int32 → Prop) : Array Value → State → Outcome → State → Prop := fun _ st oc t => ∃ r : Int32, oc = .returned (some (.int r)) ∧ post r ∧ t.heap = st.heap
theorem xc_si {post : Int32 → Prop} (hr : va_Run p l e R s m args below meth c H locs cells slots 0 0 (F0 m pc ls st0) rest (XSi post a) (fun _ => False))
    (kk : ∀ r : Int32, post r → W p l e R s m args below meth c H locs cells slots Q (F0 m (pc + 3) ls (.int r :: rest))) : W p l e R s m args below meth c H locs cells slots Q (F0 m pc ls st0) := by
  intro T hT X
  obtain ⟨v, st₀, t, T', L, h0, X', hL, e1, e2, ⟨r, hv, hp, hh⟩, st⟩ := hr T hT X
  cases hv
  obtain ⟨t2, a1, b1⟩ := kk r hp T' (by rw [e1, hh, h0]) (Stand.forget X' (fun q h => (hL q h).elim))
  exact ⟨t2, st t2 a1, b1⟩
theorem xc_sie {v : Int32} (hr : va_Run p l e R s m args below meth c H locs cells slots 0 0 (F0 m pc ls st0) rest (XSi (fun r => r = v) a) (fun _ => False))
    (kk : W p l e R s m args below meth c H locs cells slots Q (F0 m (pc + 3) ls (.int v :: rest))) : W p l e R s m args below meth c H locs cells slots Q (F0 m pc ls st0) := xc_si hr (fun r hr => by rw [hr]; exact kk)
/-- a loop over one heap -/
theorem x_loopP (Inv : Nat → Array Slot → Prop) (n0 : Nat) (h0 : Inv n0 ls) (hz : ∀ ls, Inv 0 ls → False)
    (step : ∀ n ls, Inv (n + 1) ls → (∀ ls', Inv n ls' → W p l e R s m args below meth c H locs cells slots Q (F0 m pc ls' [])) → W p l e R s m args below meth c H locs cells slots Q (F0 m pc ls [])) :
    W p l e R s m args below meth c H locs cells slots Q (F0 m pc ls []) := by
  have key : ∀ n ls, Inv n ls → W p l e R s m args below meth c H locs cells slots Q (F0 m pc ls []) := by
    intro n
    induction n with
    | zero => intro ls h; exact (hz ls h).elim
    | succ n ih => intro ls h; exact step n ls h ih
  exact key n0 ls h0
/-- a loop that may change the heap -/
theorem x_loop (Inv : Nat → Heap → List Loc → Array Slot → Prop) (n0 : Nat) (h0 : Inv n0 H locs ls) (hz : ∀ H locs ls, Inv 0 H locs ls → False)
    (step : ∀ n H locs ls, Inv (n + 1) H locs ls → (∀ H' locs' ls', Inv n H' locs' ls' → W p l e R s m args below meth c H' locs' cells slots Q (F0 m pc ls' [])) → W p l e R s m args below meth c H locs cells slots Q (F0 m pc ls [])) :
    W p l e R s m args below meth c H locs cells slots Q (F0 m pc ls []) := by
  have key : ∀ n H locs ls, Inv n H locs ls → W p l e R s m args below meth c H locs cells slots Q (F0 m pc ls []) := by
    intro n
    induction n with
    | zero => intro H locs ls h; exact (hz H locs ls h).elim
    | succ n ih => intro H locs ls h; exact step n H locs ls h ih
  exact key n0 H locs ls h0
/-- the top of the stack by another name -/
theorem x_top {x : Int32} (y : Int32) (h : x = y) (k : W p l e R s m args below meth c H locs cells slots Q (F0 m pc ls (.int y :: rest))) : W p l e R s m args below meth c H locs cells slots Q (F0 m pc ls (.int x :: rest)) := h ▸ k
theorem x_toprf {x : Option Nat} {y : Nat} (h : x = some y) (k : W p l e R s m args below meth c H locs cells slots Q (F0 m pc ls (.ref y :: rest))) : W p l e R s m args below meth c H locs cells slots Q (F0 m pc ls (va_rf x :: rest)) := by
  subst h; exact k
end XINF
/-- the array classes: ints, Things, longs -/
abbrev TY (cI cT cJ : ClassId) : List (ClassId × FieldType) := [(cI, .int), (cT, .object "BackMirror$Thing"), (cJ, .long)]
/-- what every method may ask of the tables beside its words -/
def XE (D : va_G) (cI cT cJ : ClassId) (U : State) : Prop := va_K D vwCl (TY cI cT cJ) U ∧ va_Nw (.methodLinkNest RX0 20 yX1_isSameRow RX1) U ∧ va_AO "BackMirror$Thing" U
theorem XE.warm {D : va_G} {cI cT cJ : ClassId} {s U : State} (hW : s.WarmedH U.vm) (h : XE D cI cT cJ s) : XE D cI cT cJ U := ⟨va_K.moved hW.alike h.1, va_Nw.warmM hW h.2.1, va_AO.moved hW.alike h.2.2⟩
theorem XE.same {D : va_G} {cI cT cJ : ClassId} {s U : State} (hW : s.vm = U.vm) (h : XE D cI cT cJ s) : XE D cI cT cJ U := ⟨va_K.moved (by rw [hW]; exact Vm.Alike.refl _) h.1, va_Nw.same rfl hW h.2.1, va_AO.moved (by rw [hW]; exact Vm.Alike.refl _) h.2.2⟩
/-- what a method is given: its arguments, what the heap holds, the classes -/
def XP (D : va_G) (cI cT cJ : ClassId) (av : List Value) (F : Heap → Prop) : Array Value → State → Prop := va_Pc av (fun U => F U.heap ∧ XE D cI cT cJ U)
theorem XP_blind {D : va_G} {cI cT cJ : ClassId} {av : List Value} {F : Heap → Prop} : FrameBlind (XP D cI cT cJ av F) := fun a U g mk q => ⟨q.1, q.2.1, XE.same (s := U) (U := U.calling g mk a) rfl q.2.2⟩
theorem XP_pre {D : va_G} {cI cT cJ : ClassId} {av : List Value} {F : Heap → Prop} {s : State} {H : Heap} (hE : XE D cI cT cJ s) (hF : F H) : ∀ U : State, U.heap = H → s.WarmedH U.vm → XP D cI cT cJ av F av.toArray U := fun U hU hW => ⟨rfl, by rw [hU]; exact hF, XE.warm hW hE⟩
/-- rooms by depth -/
abbrev rmD (d mc ms : Nat) : Room := { frames := d, cells := mc, slots := ms, locals := 30 * d }
theorem xle {a b : Nat} (ha : a < 2 ^ 31) (hb : b < 2 ^ 31) : nI a ≤ nI b ↔ a ≤ b := ⟨fun h => (Nat.lt_or_ge b a).elim (fun g => (nI_ge g ha h).elim) id, fun h => nI_le h hb⟩
theorem xlt {a b : Nat} (ha : a < 2 ^ 31) (hb : b < 2 ^ 31) : nI a < nI b ↔ a < b := ⟨fun h => (Nat.lt_or_ge a b).elim id (fun g => (nI_nlt g ha h).elim), fun h => nI_lt h hb⟩
theorem xeq {a b : Nat} (ha : a < 2 ^ 31) (hb : b < 2 ^ 31) : nI a = nI b ↔ a = b := nI_eq ha hb
theorem xin {k n : Nat} (h : k < n) (hn : n < 2 ^ 31) : vp_in (nI k) n := nI_in h hn
theorem xsub {a b : Nat} (h : b ≤ a) : nI a - nI b = nI (a - b) := pk_sub h
theorem xlt0 {n : Nat} (h : n < 2 ^ 31) : ¬ nI n < 0 := nI_pos h
/-- a cell of a world, alone -/
theorem x1 {D : va_G} {cl : List vw_C} {ws : va_W} {H : Heap} {q : Nat × va_E} (hP : va_P D cl ws H) (hm : q ∈ ws) : va_P D cl [q] H := by
  intro k x hx
  obtain ⟨i, hi⟩ := List.getElem?_of_mem hm
  cases k with
  | zero => cases hx; exact hP i q hi
  | succ k => simp at hx
theorem xP_iff {D : va_G} {cl : List vw_C} {ws : va_W} {H : Heap} : va_P D cl ws H ↔ ∀ q ∈ ws, va_at D cl q H := ⟨fun h q hq => (List.getElem?_of_mem hq).elim fun i hi => h i q hi, fun h k q hk => h q (List.mem_of_getElem? hk)⟩
theorem xD_iff {A : Nat → Prop} {ws : va_W} : va_D A ws ↔ (ws.map (·.1)).Nodup ∧ ∀ q ∈ ws, A q.1 := by
  refine ⟨fun h => ⟨?_, fun q hq => (List.getElem?_of_mem hq).elim fun i hi => h.2 i q hi⟩, fun h => ⟨?_, fun k q hk => h.2 q (List.mem_of_getElem? hk)⟩⟩
  · refine List.pairwise_iff_getElem.mpr fun i j hi hj hij he => ?_
    rw [List.length_map] at hi hj
    rw [List.getElem_map, List.getElem_map] at he
    have := h.1 i j _ _ (List.getElem?_eq_getElem hi) (List.getElem?_eq_getElem hj) he
    omega
  · intro i j p q hp hq hpq
    have hi : i < (ws.map (·.1)).length := by rw [List.length_map]; exact (List.getElem?_eq_some_iff.mp hp).1
    exact (List.getElem?_inj hi h.1).mp (by rw [List.getElem?_map, List.getElem?_map, hp, hq]; simp [hpq])
theorem xP_perm {D : va_G} {cl : List vw_C} {ws w2 : va_W} {H : Heap} (hp : ws.Perm w2) (h : va_P D cl ws H) : va_P D cl w2 H := xP_iff.mpr fun q hq => xP_iff.mp h q (hp.mem_iff.mpr hq)
theorem xD_perm {A : Nat → Prop} {ws w2 : va_W} (hp : ws.Perm w2) (h : va_D A ws) : va_D A w2 := xD_iff.mpr ⟨((hp.map _).nodup_iff).mp (xD_iff.mp h).1, fun q hq => (xD_iff.mp h).2 q (hp.mem_iff.mpr hq)⟩
/-- a part of a world (in its order) -/
theorem xD_sub {A : Nat → Prop} {ws w2 : va_W} (hp : w2.Sublist ws) (h : va_D A ws) : va_D A w2 := xD_iff.mpr ⟨((hp.map _).nodup (xD_iff.mp h).1), fun q hq => (xD_iff.mp h).2 q (hp.subset hq)⟩
theorem xP_sub {D : va_G} {cl : List vw_C} {ws w2 : va_W} {H : Heap} (hp : ∀ q ∈ w2, q ∈ ws) (h : va_P D cl ws H) : va_P D cl w2 H := xP_iff.mpr fun q hq => xP_iff.mp h q (hp q hq)
theorem xA_iff {ws : va_W} {sz q : Nat} : va_A ws sz q ↔ (∃ x ∈ ws, x.1 = q) ∨ sz ≤ q := by
  refine ⟨fun h => ?_, fun h => ?_⟩
  · rcases h with ⟨k, e, h⟩ | h
    · exact Or.inl ⟨_, List.mem_of_getElem? h, rfl⟩
    · exact Or.inr h
  · rcases h with ⟨⟨q', e⟩, h, rfl⟩ | h
    · obtain ⟨k, hk⟩ := List.getElem?_of_mem h
      exact Or.inl ⟨k, e, hk⟩
    · exact Or.inr h
/-- what a callee may change is the caller's -/
theorem xfree {A0 : Nat → Prop} {ws wc : va_W} {H0 H : Heap} {locs : List Loc} (hD : va_D A0 ws) (hS : va_S A0 H0 H locs) (hA : ∀ q, H0.size ≤ q → A0 q) (hC : ∀ q ∈ wc, q ∈ ws) : ∀ q, va_A wc H.size q → A0 q := by
  intro q h
  rcases xA_iff.mp h with ⟨x, hx, rfl⟩ | h
  · exact (xD_iff.mp hD).2 x (hC x hx)
  · exact hA q (Nat.le_trans hS.1 h)
/-- behind a call: the caller's other cells wr, and what the callee made of wc -/
theorem xjoin {A0 : Nat → Prop} {D : va_G} {cl : List vw_C} {wr wc w1 : va_W} {H H1 : Heap} (hP : va_P D cl (wr ++ wc) H) (hD : va_D A0 (wr ++ wc))
    (hk : ∀ q : Nat, q < H.size → ¬ va_A wc H.size q → H1[q]? = H[q]?) (hF : ∀ q, va_A wc H.size q → A0 q) (hP1 : va_P D cl w1 H1) (hD1 : va_D (va_A wc H.size) w1) : va_P D cl (wr ++ w1) H1 ∧ va_D A0 (wr ++ w1) := by
  have hn := (xD_iff.mp hD).1
  rw [List.map_append] at hn
  have apart : ∀ q ∈ wr, q.1 < H.size ∧ ¬ va_A wc H.size q.1 := by
    intro q hq
    have hl := (xP_iff.mp hP q (List.mem_append_left _ hq)).lt
    refine ⟨hl, fun h => ?_⟩
    rcases xA_iff.mp h with ⟨x, hx, e⟩ | h
    · exact (List.nodup_append.mp hn).2.2 q.1 (List.mem_map.mpr ⟨q, hq, rfl⟩) x.1 (List.mem_map.mpr ⟨x, hx, rfl⟩) e.symm
    · omega
  refine ⟨xP_iff.mpr fun q hq => ?_, xD_iff.mpr ⟨?_, fun q hq => ?_⟩⟩
  · rcases List.mem_append.mp hq with h | h
    · exact (xP_iff.mp hP q (List.mem_append_left _ h)).kept (hk q.1 (apart q h).1 (apart q h).2)
    · exact xP_iff.mp hP1 q h
  · rw [List.map_append]
    refine List.nodup_append.mpr ⟨(List.nodup_append.mp hn).1, (xD_iff.mp hD1).1, fun a ha b hb e => ?_⟩
    obtain ⟨q, hq, rfl⟩ := List.mem_map.mp ha
    obtain ⟨x, hx, rfl⟩ := List.mem_map.mp hb
    exact (apart q hq).2 (by rw [e]; exact (xD_iff.mp hD1).2 x hx)
  · rcases List.mem_append.mp hq with h | h
    · exact (xD_iff.mp hD).2 q (List.mem_append_left _ h)
    · exact hF q.1 ((xD_iff.mp hD1).2 q h)
/-- an int array's class is one -/
theorem xcI {D : va_G} {cl : List vw_C} {t1 t2 : List (ClassId × FieldType)} {U : State} {c1 c2 : ClassId} {ty : FieldType} (h1 : va_K D cl t1 U) (h2 : va_K D cl t2 U) (i j : Nat) (e1 : t1[i]? = some (c1, ty)) (e2 : t2[j]? = some (c2, ty)) : c1 = c2 := by
  have g1 := (h1.2 i _ e1).2
  have g2 := (h2.2 j _ e2).2
  cases ty with
  | object C =>
    obtain ⟨-, -, -, -, -, a⟩ := g1
    obtain ⟨-, -, -, -, -, b⟩ := g2
    exact Option.some.inj (a.symm.trans b)
  | _ => exact Option.some.inj (g1.symm.trans g2)
theorem xinc (k n : Nat) (z : Int) (h : Int32.ofInt z = nI n) : nI k + Int32.ofInt z = nI (k + n) := by rw [h]; exact nI_add k n
theorem xdec (k : Nat) (z : Int) (h : Int32.ofInt z = -1) : nI (k + 1) + Int32.ofInt z = nI k := by rw [h]; exact pk_m1 k
def bN (b : Bool) : Nat := if b then 1 else 0
theorem bN_le (b : Bool) : bN b ≤ 1 := by cases b <;> decide
theorem bN_t {b : Bool} (h : ¬ nI (bN b) = nI 0) : b = true := by
  cases b
  · exact absurd rfl h
  · rfl
theorem bN_f {b : Bool} (h : nI (bN b) = nI 0) : b = false := by
  cases b
  · rfl
  · exact absurd h (by decide)
theorem xnb (k : Nat) (h : k ≤ 1) : narrow .boolean (.int (nI k)) = .int (nI k) := by
  have : k = 0 ∨ k = 1 := by omega
  rcases this with rfl | rfl <;> rfl
theorem xadd {a b c : Nat} (h : a + b = c) : nI a + nI b = nI c := by rw [← h]; exact nI_add a b
