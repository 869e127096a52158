/-! methods that throw: what they ask of the start, their calls -/
abbrev nIO : String := "java/lang/IndexOutOfBoundsException"
abbrev nIS : String := "java/lang/IllegalStateException"
abbrev nIA : String := "java/lang/IllegalArgumentException"
abbrev nUP2 : List String := ["java/lang/RuntimeException", "java/lang/Exception", Bundle.tN]
abbrev nUP : List String := ["java/lang/RuntimeException", "java/lang/Exception"]
/-- the texts of the exceptions, by their places -/
def XSTR : List (Nat × String) := [(52, "no file, or a full one"), (59, "no such spot or number"), (69, "no file"), (71, "no such spot"), (77, "nothing there"), (79, "no such rights"), (81, "no such number of steps"), (83, "all dates were made"), (96, "no such number of dates"), (98, "the last date stays"), (117, "no such place"), (119, "no date that is kept")]
/-- what a throw asks: the texts, the classes, Throwable's two statics -/
def XT (A : Nat → Prop) (U : State) (H : Heap) : Prop := (∀ q ∈ XSTR, ∃ sa, vk_R RX1 q.1 q.2 sa U) ∧ (∀ X ∈ [nIO, nIS, nIA], va_Nw (.castable X X) U) ∧ (∀ Y ∈ nUP2, va_Nw (.declares (Bundle.initS Y)) U) ∧ vx_Zq Bundle.tN "UNASSIGNED_STACK" Bundle.steD A U H ∧ vx_Zq Bundle.tN "SUPPRESSED_SENTINEL" Bundle.listD A U H
theorem XT.warm {A : Nat → Prop} {s U : State} {H : Heap} (hW : s.WarmedH U.vm) (h : XT A s H) : XT A U H := ⟨fun q hq => (h.1 q hq).elim fun sa hs => ⟨sa, vk_R.warm hW hs⟩, fun X hX => va_Nw.warmC hW (h.2.1 X hX), fun Y hY => va_Nw.warmD hW (h.2.2.1 Y hY), vx_Zq.moved hW.alike h.2.2.2.1, vx_Zq.moved hW.alike h.2.2.2.2⟩
theorem XT.same {A : Nat → Prop} {s U : State} {H : Heap} (hW : s.vm = U.vm) (h : XT A s H) : XT A U H := ⟨fun q hq => (h.1 q hq).elim fun sa hs => ⟨sa, vk_R.same hW.symm hs⟩, fun X hX => va_Nw.same rfl hW (h.2.1 X hX), fun Y hY => va_Nw.same rfl hW (h.2.2.1 Y hY), vx_Zq.moved (by rw [hW]; exact Vm.Alike.refl _) h.2.2.2.1, vx_Zq.moved (by rw [hW]; exact Vm.Alike.refl _) h.2.2.2.2⟩
theorem XT.kept {A : Nat → Prop} {U : State} {H H1 : Heap} (h : XT A U H) (hq : ∀ a : Nat, a < H.size → ¬ A a → H1[a]? = H[a]?) : XT A U H1 := ⟨h.1, h.2.1, h.2.2.1, vx_Zq.kept h.2.2.2.1 hq, vx_Zq.kept h.2.2.2.2 hq⟩
theorem XT.narrow {A B : Nat → Prop} {U : State} {H : Heap} (h : XT A U H) (hAB : ∀ q, B q → A q) : XT B U H := ⟨h.1, h.2.1, h.2.2.1, vx_Zq.narrow h.2.2.2.1 hAB, vx_Zq.narrow h.2.2.2.2 hAB⟩
def XPx (D : va_G) (cI cT cJ : ClassId) (A : Nat → Prop) (av : List Value) (F : Heap → Prop) : Array Value → State → Prop := va_Pc av (fun U => F U.heap ∧ XE D cI cT cJ U ∧ XT A U U.heap)
theorem XPx_blind {D : va_G} {cI cT cJ : ClassId} {A : Nat → Prop} {av : List Value} {F : Heap → Prop} : FrameBlind (XPx D cI cT cJ A av F) := fun a U g mk q => ⟨q.1, q.2.1, XE.same (s := U) (U := U.calling g mk a) rfl q.2.2.1, XT.same (s := U) (U := U.calling g mk a) rfl q.2.2.2⟩
theorem XPx_pre {D : va_G} {cI cT cJ : ClassId} {A : Nat → Prop} {av : List Value} {F : Heap → Prop} {s : State} {H : Heap} (hE : XE D cI cT cJ s) (hT : XT A s H) (hF : F H) : ∀ U : State, U.heap = H → s.WarmedH U.vm → XPx D cI cT cJ A av F av.toArray U := fun U hU hW => ⟨rfl, by rw [hU]; exact hF, XE.warm hW hE, XT.warm hW (by rw [hU]; exact hT)⟩
/-- it returns, the heap is the same -/
def XSg (P : Option Value → Prop) : Array Value → State → Outcome → State → Prop := fun _ st oc t => ∃ v : Option Value, oc = .returned v ∧ P v ∧ t.heap = st.heap
/-- it throws, no old cell is another -/
def XXc (P : String → Prop) : String → State → State → Prop := fun E st t => P E ∧ st.heap.size ≤ t.heap.size ∧ ∀ q : Nat, q < st.heap.size → t.heap[q]? = st.heap[q]?
section XTH
variable {p : Program} {l : Launch} {e : Env} {R : Room} {s : State} {m : MethodId} {args : Array Value} {below : List Frame} {meth : Method} {c : Code} {H : Heap} {locs : List Loc} {cells slots mc ms : Nat} {Q : State → Prop}
variable {pc : Nat} {ls : Array Slot} {rest st0 : List Value} {a : Array Value}
theorem xcx {P : Option Value → Prop} {PX : String → Prop} (hr : vx_Run p l e R s m args below meth c H locs cells slots mc ms (F0 m pc ls st0) rest (XSg P a) (XXc PX) (fun _ => False))
    (kx : ∀ (E : String) (ce : Cell) (q9 : Addr) (H1 : Heap), PX E → H.size ≤ H1.size → (∀ q : Nat, q < H.size → H1[q]? = H[q]?) → H1[q9]? = some ce → ce.vm = .none → s.vm.findClass E = some ce.cls → vx_W p l e R s m args below meth c H1 locs (cells + mc) (slots + ms) Q (F0 m pc ls rest) q9)
    (kk : ∀ v : Option Value, P v → W p l e R s m args below meth c H locs (cells + mc) (slots + ms) Q (F0 m (pc + 3) ls (v.toList ++ rest))) : W p l e R s m args below meth c H locs cells slots Q (F0 m pc ls st0) := by
  intro T hT X
  rcases hr T hT X with ⟨v, st₀, t, T', L, h0, X', hL, e1, e2, ⟨v', hv, hp, hh⟩, st⟩ | ⟨q, st₀, t, T', L, E, ce, h0, X', hL, e1, e2, ⟨hp, hz, hk⟩, hce, hcv, hcl, st⟩
  · cases hv
    obtain ⟨t2, a1, b1⟩ := kk v hp T' (by rw [e1, hh, h0]) (Stand.forget X' (fun q h => (hL q h).elim))
    exact ⟨t2, st t2 a1, b1⟩
  · rw [h0] at hz hk
    obtain ⟨t2, a1, b1⟩ := kx E ce q T'.heap hp (by rw [e1]; exact hz) (fun q hq => by rw [e1]; exact hk q hq) (by rw [e1]; exact hce) hcv hcl T' rfl (Stand.forget X' (fun q h => (hL q h).elim))
    exact ⟨t2, st.trans a1, b1⟩
end XTH
/-- behind a throw all is as it was -/
theorem xkept {D : va_G} {cl : List vw_C} {ws : va_W} {H H1 : Heap} (hP : va_P D cl ws H) (hk : ∀ q : Nat, q < H.size → H1[q]? = H[q]?) : va_P D cl ws H1 := hP.kept fun k q hq => hk q.1 (hP k q hq).lt
/-- what of a throw's words may not be handed on as it is -/
def xB (X : String) : List Cond := Cond.castable X X :: nUP2.map (fun Y => Cond.declares (Bundle.initS Y))
theorem XT.use {A : Nat → Prop} {s : State} {H : Heap} {args : Array Value} (h : XT A s H) {X : String} (hX : X ∈ [nIO, nIS, nIA]) : ∀ w ∈ xB X, w.before args s = true := by
  intro w hw
  rcases List.mem_cons.mp hw with e | e
  · rw [e]; exact va_Nw.use rfl (h.2.1 X hX)
  · obtain ⟨Y, hY, rfl⟩ := List.mem_map.mp e
    exact va_Nw.use rfl (h.2.2.1 Y hY)
theorem xg_IO : ∀ w ∈ Cond.classLink RX1 111 nIO :: Cond.initialized nIO :: vx_atS RX1 113 nIO nUP, vx_ot w = true := by decide +kernel
theorem xg_IS : ∀ w ∈ Cond.classLink RX1 50 nIS :: Cond.initialized nIS :: vx_atS RX1 54 nIS nUP, vx_ot w = true := by decide +kernel
theorem xg_IA : ∀ w ∈ Cond.classLink RX1 57 nIA :: Cond.initialized nIA :: vx_atS RX1 61 nIA nUP, vx_ot w = true := by decide +kernel
theorem xb_IO : ∀ w ∈ (vx_atS RX1 113 nIO nUP).filter (fun w => !goodWord w), w ∈ xB nIO := by decide +kernel
theorem xb_IS : ∀ w ∈ (vx_atS RX1 54 nIS nUP).filter (fun w => !goodWord w), w ∈ xB nIS := by decide +kernel
theorem xb_IA : ∀ w ∈ (vx_atS RX1 61 nIA nUP).filter (fun w => !goodWord w), w ∈ xB nIA := by decide +kernel
/-- a place; a date that is kept; which place of which date is asked for -/
def Pl (v : Int32) : Prop := ∃ j, j < 6 ∧ v = nI j
def Kp (o ld : Nat) (v : Int32) : Prop := ∃ d, o ≤ d ∧ d ≤ ld ∧ v = nI d
def AT (o ld : Nat) (v w : Int32) (i : Nat) : Prop := ∃ j, j < 6 ∧ w = nI j ∧ ((v = -1 ∧ i = 246 + j) ∨ ∃ d, o ≤ d ∧ d ≤ ld ∧ v = nI d ∧ i = 6 * d + j)
theorem xPl_f {v : Int32} (h : v < 0 ∨ nI 6 ≤ v) : ¬ Pl v := by
  rintro ⟨j, hj, rfl⟩
  rcases h with h | h
  · exact xlt0 (by omega) h
  · have := (xle (by omega) (by omega)).mp h; omega
theorem xPl_t {v : Int32} (h0 : ¬ v < 0) (h1 : v < nI 6) : Pl v := by
  rcases pk_ix v (n := 6) (by decide) with h | h | ⟨j, hj, rfl⟩
  · exact absurd h h0
  · exact absurd h1 (Int32.not_lt.mpr h)
  · exact ⟨j, hj, rfl⟩
theorem xKp_t {o ld : Nat} {v : Int32} (hld : ld ≤ 40) (h0 : ¬ v < nI o) (h1 : v ≤ nI ld) (ho : o ≤ ld) : Kp o ld v := by
  rcases pk_ix v (n := ld + 1) (by omega) with h | h | ⟨j, hj, rfl⟩
  · exact absurd (Int32.lt_of_lt_of_le h (show (0 : Int32) ≤ nI o from nI_pos' (by omega))) h0
  · have := (xle (by omega) (by omega)).mp (Int32.le_trans h h1); omega
  · exact ⟨j, Nat.le_of_not_lt fun g => h0 ((xlt (by omega) (by omega)).mpr g), by omega, rfl⟩
theorem xKp_f1 {o ld : Nat} {v : Int32} (hld : ld ≤ 40) (h : v < nI o) (ho : o ≤ ld) : ¬ Kp o ld v := by
  rintro ⟨d, h1, h2, rfl⟩
  have := (xlt (by omega) (by omega)).mp h; omega
theorem xKp_f2 {o ld : Nat} {v : Int32} (hld : ld ≤ 40) (h : ¬ v ≤ nI ld) : ¬ Kp o ld v := by
  rintro ⟨d, h1, h2, rfl⟩
  exact h ((xle (by omega) (by omega)).mpr h2)
theorem nI_m1 {d : Nat} (h : d < 2 ^ 31) : ¬ nI d = -1 := by
  intro e
  have h1 : ¬ nI d < 0 := xlt0 h
  rw [e] at h1
  exact h1 (by decide)
theorem xSp_t {v : Int32} (h0 : ¬ v < 0) (h1 : v < nI 12) : ∃ j, j < 12 ∧ v = nI j := by
  rcases pk_ix v (n := 12) (by decide) with h | h | ⟨j, hj, rfl⟩
  · exact absurd h h0
  · exact absurd h1 (Int32.not_lt.mpr h)
  · exact ⟨j, hj, rfl⟩

set_option maxHeartbeats 4000000 in
set_option maxRecDepth 100000 in
theorem c_X1_checkPlace (l : Launch) (hst : l.stackTraces = false) {D : va_G} {cI cT cJ : ClassId} (A : Nat → Prop) (v : Int32)  : vx_Met l yX1_checkPlace wsX1_checkPlace (rmD 6 1 6) (XPx D cI cT cJ A [.int v] (fun _ => True)) (XSg (fun v9 => v9 = none ∧ Pl v)) (XXc (fun E => E = nIO ∧ ¬ Pl v)) 1 6 (fun _ => False) := by
  refine vx_ofW (cc := cX1_checkPlace) (maxL := 1) (ret := none) (by decide) rfl ?_
  intro p e s m args below meth c s₁ B hml hnt hv
  obtain ⟨rfl, -, hE, hT⟩ := hv
  have hx := B.exec
  have hb := B.bytes
  have hr := B.returns
  have hts := atoms_spec (ws := wsX1_checkPlace) B.pre
  have hown : s.vm.findClass RX1 = some m.cls := findClass_of_methodNamed B.named
  have hlocks := B.notSynchronized
  have hl := lv_entry ([.int v]) (n := 1) (Nat.le_of_ble_eq_true rfl)
  rw [lg_entry_eq]
  generalize (lg_sl ([.int v]) ++ List.replicate (1 - (lg_sl ([.int v])).length) Slot.unset).toArray = ls at hl ⊢
  have hl : lv_has ls 1 [(0, .int v)] := hl
  have hK := hE.1
  have hS : va_S A s.heap s.heap [] := va_S.rf
  refine lv_iload_n hx hb dX1_checkPlace_0 rfl (lv_at hl 0 rfl) ?_
  refine lv_if_lt (tgt := 10) hx hb dX1_checkPlace_1 (by decide) (fun c1 => ?_) (fun c1 => ?_)
  · obtain ⟨sa9, hsa9⟩ := hT.1 (117, "no such place") (by decide)
    exact vx_throwS hx hb hst (own := RX1) (cls := nIO) (text := "no such place") (names := nUP) (ik := 111) (is := 117) (ic := 113) hown (by decide +kernel) (by decide +kernel) (hts (.classLink RX1 111 nIO) (by decide +kernel)) (hts (.initialized nIO) (by decide +kernel)) hsa9 (vx_hat (fun w h => hts w (List.mem_cons_of_mem _ (List.mem_append_right _ h))) xb_IO (hT.use (X := nIO) (by decide))) xg_IO hT.2.2.2.1 hT.2.2.2.2 va_S.rf (hl.1.trans hml.symm) dX1_checkPlace_10 dX1_checkPlace_13 dX1_checkPlace_14 dX1_checkPlace_16 dX1_checkPlace_19 (fun x h => (hnt x h).elim) (Nat.le_of_ble_eq_true rfl) (Nat.le_of_ble_eq_true rfl) (Nat.le_of_ble_eq_true rfl) (Nat.le_of_ble_eq_true rfl) hlocks (fun t9 _ hz9 hk9 => ⟨⟨rfl, xPl_f (by first | exact Or.inl c1 | exact Or.inr (Int32.not_lt.mp c7))⟩, hz9, hk9⟩) (fun _ h => nomatch h) (Nat.le_of_ble_eq_true rfl) (Nat.le_of_ble_eq_true rfl)
  · refine lv_iload_n hx hb dX1_checkPlace_4 rfl (lv_at hl 0 rfl) ?_
    refine lv_bipush (v := nI 6) hx hb dX1_checkPlace_5 (by decide) ?_
    refine lv_icmp_lt (tgt := 20) hx hb dX1_checkPlace_7 (by decide) (fun c7 => ?_) (fun c7 => ?_)
    · refine vx_ret ?_
      refine W.widen (k := 1) (n := 6) (Nat.le_of_ble_eq_true rfl) (Nat.le_of_ble_eq_true rfl) ?_
      exact W.vret hx hb hr (fun t9 ht9 hW9 => ⟨_, rfl, ⟨rfl, xPl_t c1 (by assumption)⟩, ht9⟩) (fun _ h => nomatch h) dX1_checkPlace_20
    · obtain ⟨sa9, hsa9⟩ := hT.1 (117, "no such place") (by decide)
      exact vx_throwS hx hb hst (own := RX1) (cls := nIO) (text := "no such place") (names := nUP) (ik := 111) (is := 117) (ic := 113) hown (by decide +kernel) (by decide +kernel) (hts (.classLink RX1 111 nIO) (by decide +kernel)) (hts (.initialized nIO) (by decide +kernel)) hsa9 (vx_hat (fun w h => hts w (List.mem_cons_of_mem _ (List.mem_append_right _ h))) xb_IO (hT.use (X := nIO) (by decide))) xg_IO hT.2.2.2.1 hT.2.2.2.2 va_S.rf (hl.1.trans hml.symm) dX1_checkPlace_10 dX1_checkPlace_13 dX1_checkPlace_14 dX1_checkPlace_16 dX1_checkPlace_19 (fun x h => (hnt x h).elim) (Nat.le_of_ble_eq_true rfl) (Nat.le_of_ble_eq_true rfl) (Nat.le_of_ble_eq_true rfl) (Nat.le_of_ble_eq_true rfl) hlocks (fun t9 _ hz9 hk9 => ⟨⟨rfl, xPl_f (by first | exact Or.inl c1 | exact Or.inr (Int32.not_lt.mp c7))⟩, hz9, hk9⟩) (fun _ h => nomatch h) (Nat.le_of_ble_eq_true rfl) (Nat.le_of_ble_eq_true rfl)

theorem iw_X1checkKept_X1 : ∀ w ∈ u_ws RX1 TX1 6, w ∈ wsX1_checkKept := by decide +kernel
set_option maxHeartbeats 4000000 in
set_option maxRecDepth 100000 in
theorem c_X1_checkKept (l : Launch) (hst : l.stackTraces = false) {D : va_G} {cI cT cJ : ClassId} (A : Nat → Prop) (x lv kp : Nat) (fL fK : Nat → Option Nat) (o ld b k : Nat) (FZ : va_W) (v : Int32) (hld : ld ≤ 40) (hold : o ≤ ld) : vx_Met l yX1_checkKept wsX1_checkKept (rmD 6 1 6) (XPx D cI cT cJ A [.ref x, .int v] (fun H => va_P D vwCl (CW cT x lv kp fL fK o ld b k FZ) H)) (XSg (fun v9 => v9 = none ∧ Kp o ld v)) (XXc (fun E => E = nIO ∧ ¬ Kp o ld v)) 1 6 (fun _ => False) := by
  refine vx_ofW (cc := cX1_checkKept) (maxL := 2) (ret := none) (by decide) rfl ?_
  intro p e s m args below meth c s₁ B hml hnt hv
  obtain ⟨rfl, hP, hE, hT⟩ := hv
  have hx := B.exec
  have hb := B.bytes
  have hr := B.returns
  have hts := atoms_spec (ws := wsX1_checkKept) B.pre
  have hown : s.vm.findClass RX1 = some m.cls := findClass_of_methodNamed B.named
  have hlocks := B.notSynchronized
  have hl := lv_entry ([.ref x, .int v]) (n := 2) (Nat.le_of_ble_eq_true rfl)
  rw [lg_entry_eq]
  generalize (lg_sl ([.ref x, .int v]) ++ List.replicate (2 - (lg_sl ([.ref x, .int v])).length) Slot.unset).toArray = ls at hl ⊢
  have hl : lv_has ls 2 [(0, .ref x), (1, .int v)] := hl
  have hK := hE.1
  have hS : va_S A s.heap s.heap [] := va_S.rf
  refine lv_iload_n hx hb dX1_checkKept_0 rfl (lv_at hl 1 rfl) ?_
  refine lv_aload_n hx hb dX1_checkKept_1 rfl (lv_at hl 0 rfl) ?_
  refine va_get (ci := 1) (v := .int (nI o)) (C := RX1) (T := TX1) (N := 6) hx hb hts iw_X1checkKept_X1 hown hK hP 0 rfl rfl 2 (by decide) (hts (.fieldLink RX1 21 "BackMirror" "oldestDate" "I") (by decide +kernel)) (fun _ h9 => h9) rfl dX1_checkKept_2 ?_
  refine lv_icmp_lt (tgt := 16) hx hb dX1_checkKept_5 (by decide) (fun c5 => ?_) (fun c5 => ?_)
  · obtain ⟨sa9, hsa9⟩ := hT.1 (119, "no date that is kept") (by decide)
    exact vx_throwS hx hb hst (own := RX1) (cls := nIO) (text := "no date that is kept") (names := nUP) (ik := 111) (is := 119) (ic := 113) hown (by decide +kernel) (by decide +kernel) (hts (.classLink RX1 111 nIO) (by decide +kernel)) (hts (.initialized nIO) (by decide +kernel)) hsa9 (vx_hat (fun w h => hts w (List.mem_cons_of_mem _ (List.mem_append_right _ h))) xb_IO (hT.use (X := nIO) (by decide))) xg_IO hT.2.2.2.1 hT.2.2.2.2 va_S.rf (hl.1.trans hml.symm) dX1_checkKept_16 dX1_checkKept_19 dX1_checkKept_20 dX1_checkKept_22 dX1_checkKept_25 (fun x h => (hnt x h).elim) (Nat.le_of_ble_eq_true rfl) (Nat.le_of_ble_eq_true rfl) (Nat.le_of_ble_eq_true rfl) (Nat.le_of_ble_eq_true rfl) hlocks (fun t9 _ hz9 hk9 => ⟨⟨rfl, by first | exact xKp_f1 hld c5 hold | exact xKp_f2 hld c13⟩, hz9, hk9⟩) (fun _ h => nomatch h) (Nat.le_of_ble_eq_true rfl) (Nat.le_of_ble_eq_true rfl)
  · refine lv_iload_n hx hb dX1_checkKept_8 rfl (lv_at hl 1 rfl) ?_
    refine lv_aload_n hx hb dX1_checkKept_9 rfl (lv_at hl 0 rfl) ?_
    refine va_get (ci := 1) (v := .int (nI ld)) (C := RX1) (T := TX1) (N := 6) hx hb hts iw_X1checkKept_X1 hown hK hP 0 rfl rfl 3 (by decide) (hts (.fieldLink RX1 25 "BackMirror" "lastDate" "I") (by decide +kernel)) (fun _ h9 => h9) rfl dX1_checkKept_10 ?_
    refine lv_icmp_le (tgt := 26) hx hb dX1_checkKept_13 (by decide) (fun c13 => ?_) (fun c13 => ?_)
    · refine vx_ret ?_
      refine W.widen (k := 1) (n := 6) (Nat.le_of_ble_eq_true rfl) (Nat.le_of_ble_eq_true rfl) ?_
      exact W.vret hx hb hr (fun t9 ht9 hW9 => ⟨_, rfl, ⟨rfl, xKp_t hld c5 c13 hold⟩, ht9⟩) (fun _ h => nomatch h) dX1_checkKept_26
    · obtain ⟨sa9, hsa9⟩ := hT.1 (119, "no date that is kept") (by decide)
      exact vx_throwS hx hb hst (own := RX1) (cls := nIO) (text := "no date that is kept") (names := nUP) (ik := 111) (is := 119) (ic := 113) hown (by decide +kernel) (by decide +kernel) (hts (.classLink RX1 111 nIO) (by decide +kernel)) (hts (.initialized nIO) (by decide +kernel)) hsa9 (vx_hat (fun w h => hts w (List.mem_cons_of_mem _ (List.mem_append_right _ h))) xb_IO (hT.use (X := nIO) (by decide))) xg_IO hT.2.2.2.1 hT.2.2.2.2 va_S.rf (hl.1.trans hml.symm) dX1_checkKept_16 dX1_checkKept_19 dX1_checkKept_20 dX1_checkKept_22 dX1_checkKept_25 (fun x h => (hnt x h).elim) (Nat.le_of_ble_eq_true rfl) (Nat.le_of_ble_eq_true rfl) (Nat.le_of_ble_eq_true rfl) (Nat.le_of_ble_eq_true rfl) hlocks (fun t9 _ hz9 hk9 => ⟨⟨rfl, by first | exact xKp_f1 hld c5 hold | exact xKp_f2 hld c13⟩, hz9, hk9⟩) (fun _ h => nomatch h) (Nat.le_of_ble_eq_true rfl) (Nat.le_of_ble_eq_true rfl)

theorem iw_X1thingOn_X1 : ∀ w ∈ u_ws RX1 TX1 6, w ∈ wsX1_thingOn := by decide +kernel
set_option maxHeartbeats 4000000 in
set_option maxRecDepth 100000 in
theorem c_X1_thingOn (l : Launch) (hst : l.stackTraces = false) {D : va_G} {cI cT cJ : ClassId} (A : Nat → Prop) (x lv kp : Nat) (fL fK : Nat → Option Nat) (o ld b k : Nat) (FZ : va_W) (G : Nat → Tv) (hC : CA cI FZ fL fK G) (v w : Int32) (hld : ld ≤ 40) (hold : o ≤ ld) : vx_Met l yX1_thingOn wsX1_thingOn (rmD 7 2 12) (XPx D cI cT cJ A [.ref x, .int v, .int w] (fun H => va_P D vwCl (CW cT x lv kp fL fK o ld b k FZ) H)) (XSg (fun v9 => ∃ (a i : Nat), v9 = some (.ref a) ∧ AT o ld v w i ∧ TH cI FZ a (G i))) (XXc (fun E => E = nIO ∧ ¬ ∃ i, AT o ld v w i)) 2 12 (fun _ => False) := by
  refine vx_ofW (cc := cX1_thingOn) (maxL := 3) (ret := (some (.object "BackMirror$Thing"))) (by decide) rfl ?_
  intro p e s m args below meth c s₁ B hml hnt hv
  obtain ⟨rfl, hP, hE, hT⟩ := hv
  have hx := B.exec
  have hb := B.bytes
  have hr := B.returns
  have hts := atoms_spec (ws := wsX1_thingOn) B.pre
  have hown : s.vm.findClass RX1 = some m.cls := findClass_of_methodNamed B.named
  have hlocks := B.notSynchronized
  have hl := lv_entry ([.ref x, .int v, .int w]) (n := 3) (Nat.le_of_ble_eq_true rfl)
  rw [lg_entry_eq]
  generalize (lg_sl ([.ref x, .int v, .int w]) ++ List.replicate (3 - (lg_sl ([.ref x, .int v, .int w])).length) Slot.unset).toArray = ls at hl ⊢
  have hl : lv_has ls 3 [(0, .ref x), (1, .int v), (2, .int w)] := hl
  have hK := hE.1
  have hS : va_S A s.heap s.heap [] := va_S.rf
  refine lv_iload_n hx hb dX1_thingOn_0 rfl (lv_at hl 1 rfl) ?_
  refine lv_iconst (v := (-1)) hx hb dX1_thingOn_1 (by decide) ?_
  refine lv_icmp_eq (tgt := 10) hx hb dX1_thingOn_2 (by decide) (fun c2 => ?_) (fun c2 => ?_)
  · have c2 : v = -1 := c2
    refine lv_iload_n hx hb dX1_thingOn_10 rfl (lv_at hl 2 rfl) ?_
    refine xcx (vx_runS (As := [.int w]) (rest := []) ⟨hx, hb, hml, hown, hts⟩ (c_X1_checkPlace l hst _ w) (va_cwS 1 hts gX1_thingOn_X1_checkPlace rfl rfl rfl (by decide +kernel) ⟨(Nat.le_of_ble_eq_true rfl), (Nat.le_of_ble_eq_true rfl)⟩) ⟨XPx_blind, XPx_pre hE hT trivial⟩ rfl rfl hl.1 rfl (lv_room (Nat.le_of_ble_eq_true rfl)) dX1_thingOn_11 ⟨Nat.le_of_ble_eq_true rfl, Nat.le_of_ble_eq_true rfl⟩) (fun E9 ce9 q9 H1 hp9 hz9 hk9 hc9 hv9 hcl9 => ?_) (fun v9 hw9 => ?_)
    · exact vx_out (fun x h => (hnt x h).elim) hlocks hc9 hv9 hcl9 (fun t9 ht9 _ => ⟨⟨hp9.1, fun ⟨i, j, h1, h2, h3⟩ => hp9.2 ⟨j, h1, h2⟩⟩, by rw [ht9]; exact hz9, fun q hq => by rw [ht9]; exact hk9 q hq⟩) (fun _ h => nomatch h) (Nat.le_of_ble_eq_true rfl) (Nat.le_of_ble_eq_true rfl)
    obtain ⟨rfl, ⟨j, hj, rfl⟩⟩ := hw9
    refine W.eq (g2 := F0 m 14 ls []) rfl ?_
    refine lv_iload_n hx hb dX1_thingOn_14 rfl (lv_at hl 1 rfl) ?_
    refine lv_iconst (v := (-1)) hx hb dX1_thingOn_15 (by decide) ?_
    refine lv_icmp_ne (tgt := 28) hx hb dX1_thingOn_16 (by decide) (fun c16 => ?_) (fun c16 => ?_)
    · exact absurd c2 c16
    · refine lv_aload_n hx hb dX1_thingOn_19 rfl (lv_at hl 0 rfl) ?_
      refine va_get (ci := 1) (v := .ref lv) (C := RX1) (T := TX1) (N := 6) hx hb hts iw_X1thingOn_X1 hown hK hP 0 rfl rfl 0 (by decide) (hts (.fieldLink RX1 14 "BackMirror" "live" "[LBackMirror$Thing;") (by decide +kernel)) (fun _ h9 => h9) rfl dX1_thingOn_20 ?_
      refine lv_iload_n hx hb dX1_thingOn_23 rfl (lv_at hl 2 rfl) ?_
      refine va_aldq hx hb hK hP 1 1 rfl rfl (xin (by omega) (by omega)) dX1_thingOn_24 ?_
      obtain ⟨a1, ha1, hT1⟩ := hC.2 (j) (by omega)
      refine x_toprf (y := a1) (by rw [nI_clamp (by omega)]; exact ha1) ?_
      obtain ⟨hz1, q1, f1, hm1, hr1, he1⟩ := hT1
      refine lv_goto (tgt := 38) hx hb dX1_thingOn_25 (by decide) ?_
      refine vx_ret ?_
      refine W.widen (k := 2) (n := 12) (Nat.le_of_ble_eq_true rfl) (Nat.le_of_ble_eq_true rfl) ?_
      exact W.aret hx hb hr (Or.inl ⟨_, rfl⟩) (Or.inr ⟨_, rfl⟩) (fun t9 ht9 hW9 => ⟨_, rfl, ⟨a1, 246 + j, rfl, ⟨j, hj, rfl, Or.inl ⟨c2, rfl⟩⟩, ⟨hz1, q1, f1, hm1, hr1, he1⟩⟩, ht9⟩) (fun _ h => nomatch h) dX1_thingOn_38
  · refine lv_aload_n hx hb dX1_thingOn_5 rfl (lv_at hl 0 rfl) ?_
    refine lv_iload_n hx hb dX1_thingOn_6 rfl (lv_at hl 1 rfl) ?_
    refine xcx (vx_runV (As := [.int v]) (rest := []) ⟨hx, hb, hml, hown, hts⟩ (c_X1_checkKept l hst _ x lv kp fL fK o ld b k FZ v hld hold) (cwV 1 hts gX1_thingOn_X1_checkKept rfl rfl rfl (by decide +kernel) ⟨(Nat.le_of_ble_eq_true rfl), (Nat.le_of_ble_eq_true rfl)⟩) ⟨XPx_blind, va_recv hK hP (ci := 1) (q0 := 0) rfl rfl, XPx_pre hE hT hP⟩ rfl rfl hl.1 rfl (lv_room (Nat.le_of_ble_eq_true rfl)) dX1_thingOn_7 ⟨Nat.le_of_ble_eq_true rfl, Nat.le_of_ble_eq_true rfl⟩) (fun E9 ce9 q9 H1 hp9 hz9 hk9 hc9 hv9 hcl9 => ?_) (fun v9 hw9 => ?_)
    · exact vx_out (fun x h => (hnt x h).elim) hlocks hc9 hv9 hcl9 (fun t9 ht9 _ => ⟨⟨hp9.1, fun ⟨i, j, h1, h2, h3⟩ => h3.elim (fun h => c2 h.1) (fun ⟨d, g1, g2, g3, _⟩ => hp9.2 ⟨d, g1, g2, g3⟩)⟩, by rw [ht9]; exact hz9, fun q hq => by rw [ht9]; exact hk9 q hq⟩) (fun _ h => nomatch h) (Nat.le_of_ble_eq_true rfl) (Nat.le_of_ble_eq_true rfl)
    obtain ⟨rfl, ⟨d, hd1, hd2, rfl⟩⟩ := hw9
    refine W.eq (g2 := F0 m 10 ls []) rfl ?_
    refine lv_iload_n hx hb dX1_thingOn_10 rfl (lv_at hl 2 rfl) ?_
    refine xcx (vx_runS (As := [.int w]) (rest := []) ⟨hx, hb, hml, hown, hts⟩ (c_X1_checkPlace l hst _ w) (va_cwS 1 hts gX1_thingOn_X1_checkPlace rfl rfl rfl (by decide +kernel) ⟨(Nat.le_of_ble_eq_true rfl), (Nat.le_of_ble_eq_true rfl)⟩) ⟨XPx_blind, XPx_pre hE hT trivial⟩ rfl rfl hl.1 rfl (lv_room (Nat.le_of_ble_eq_true rfl)) dX1_thingOn_11 ⟨Nat.le_of_ble_eq_true rfl, Nat.le_of_ble_eq_true rfl⟩) (fun E9 ce9 q9 H1 hp9 hz9 hk9 hc9 hv9 hcl9 => ?_) (fun v9 hw9 => ?_)
    · exact vx_out (fun x h => (hnt x h).elim) hlocks hc9 hv9 hcl9 (fun t9 ht9 _ => ⟨⟨hp9.1, fun ⟨i, j, h1, h2, h3⟩ => hp9.2 ⟨j, h1, h2⟩⟩, by rw [ht9]; exact hz9, fun q hq => by rw [ht9]; exact hk9 q hq⟩) (fun _ h => nomatch h) (Nat.le_of_ble_eq_true rfl) (Nat.le_of_ble_eq_true rfl)
    obtain ⟨rfl, ⟨j, hj, rfl⟩⟩ := hw9
    refine W.eq (g2 := F0 m 14 ls []) rfl ?_
    refine lv_iload_n hx hb dX1_thingOn_14 rfl (lv_at hl 1 rfl) ?_
    refine lv_iconst (v := (-1)) hx hb dX1_thingOn_15 (by decide) ?_
    refine lv_icmp_ne (tgt := 28) hx hb dX1_thingOn_16 (by decide) (fun c16 => ?_) (fun c16 => ?_)
    · refine lv_aload_n hx hb dX1_thingOn_28 rfl (lv_at hl 0 rfl) ?_
      refine va_get (ci := 1) (v := .ref kp) (C := RX1) (T := TX1) (N := 6) hx hb hts iw_X1thingOn_X1 hown hK hP 0 rfl rfl 1 (by decide) (hts (.fieldLink RX1 18 "BackMirror" "kept" "[LBackMirror$Thing;") (by decide +kernel)) (fun _ h9 => h9) rfl dX1_thingOn_29 ?_
      refine lv_iload_n hx hb dX1_thingOn_32 rfl (lv_at hl 1 rfl) ?_
      refine lv_iload_n hx hb dX1_thingOn_33 rfl (lv_at hl 2 rfl) ?_
      refine xc_sie (va_runS (As := [.int (nI d), .int (nI j)]) (rest := [.ref kp]) ⟨hx, hb, hml, hown, hts⟩ (c_X1_keptIndex l d j) (va_cwS 2 hts gX1_thingOn_X1_keptIndex rfl rfl rfl (by decide +kernel) ⟨(Nat.le_of_ble_eq_true rfl), (Nat.le_of_ble_eq_true rfl)⟩) ⟨XP_blind, XP_pre hE trivial⟩ rfl rfl hl.1 rfl (lv_room (Nat.le_of_ble_eq_true rfl)) dX1_thingOn_34 ⟨Nat.le_of_ble_eq_true rfl, Nat.le_of_ble_eq_true rfl⟩) ?_
      refine va_aldq hx hb hK hP 2 1 rfl rfl (xin (by omega) (by omega)) dX1_thingOn_37 ?_
      obtain ⟨a1, ha1, hT1⟩ := hC.1 (6 * d + j) (by omega)
      refine x_toprf (y := a1) (by rw [nI_clamp (by omega)]; exact ha1) ?_
      obtain ⟨hz1, q1, f1, hm1, hr1, he1⟩ := hT1
      refine vx_ret ?_
      refine W.widen (k := 2) (n := 12) (Nat.le_of_ble_eq_true rfl) (Nat.le_of_ble_eq_true rfl) ?_
      exact W.aret hx hb hr (Or.inl ⟨_, rfl⟩) (Or.inr ⟨_, rfl⟩) (fun t9 ht9 hW9 => ⟨_, rfl, ⟨a1, 6 * d + j, rfl, ⟨j, hj, rfl, Or.inr ⟨d, hd1, hd2, rfl, rfl⟩⟩, ⟨hz1, q1, f1, hm1, hr1, he1⟩⟩, ht9⟩) (fun _ h => nomatch h) dX1_thingOn_38
    · exact absurd c16 (nI_m1 (by omega))

theorem iw_X1kindAt_X0 : ∀ w ∈ u_ws RX0 TX0 3, w ∈ wsX1_kindAt := by decide +kernel
set_option maxHeartbeats 4000000 in
set_option maxRecDepth 100000 in
theorem c_X1_kindAt (l : Launch) (hst : l.stackTraces = false) {D : va_G} {cI cT cJ : ClassId} (A : Nat → Prop) (x lv kp : Nat) (fL fK : Nat → Option Nat) (o ld b k : Nat) (FZ : va_W) (G : Nat → Tv) (hC : CA cI FZ fL fK G) (v w : Int32) (hld : ld ≤ 40) (hold : o ≤ ld) : vx_Met l yX1_kindAt wsX1_kindAt (rmD 8 2 12) (XPx D cI cT cJ A [.ref x, .int v, .int w] (fun H => va_P D vwCl (CW cT x lv kp fL fK o ld b k FZ) H)) (XSg (fun v9 => ∃ i : Nat, v9 = some (.int (G i).1) ∧ AT o ld v w i)) (XXc (fun E => E = nIO ∧ ¬ ∃ i, AT o ld v w i)) 2 12 (fun _ => False) := by
  refine vx_ofW (cc := cX1_kindAt) (maxL := 3) (ret := (some .int)) (by decide) rfl ?_
  intro p e s m args below meth c s₁ B hml hnt hv
  obtain ⟨rfl, hP, hE, hT⟩ := hv
  have hx := B.exec
  have hb := B.bytes
  have hr := B.returns
  have hts := atoms_spec (ws := wsX1_kindAt) B.pre
  have hown : s.vm.findClass RX1 = some m.cls := findClass_of_methodNamed B.named
  have hlocks := B.notSynchronized
  have hl := lv_entry ([.ref x, .int v, .int w]) (n := 3) (Nat.le_of_ble_eq_true rfl)
  rw [lg_entry_eq]
  generalize (lg_sl ([.ref x, .int v, .int w]) ++ List.replicate (3 - (lg_sl ([.ref x, .int v, .int w])).length) Slot.unset).toArray = ls at hl ⊢
  have hl : lv_has ls 3 [(0, .ref x), (1, .int v), (2, .int w)] := hl
  have hK := hE.1
  have hS : va_S A s.heap s.heap [] := va_S.rf
  refine lv_aload_n hx hb dX1_kindAt_0 rfl (lv_at hl 0 rfl) ?_
  refine lv_iload_n hx hb dX1_kindAt_1 rfl (lv_at hl 1 rfl) ?_
  refine lv_iload_n hx hb dX1_kindAt_2 rfl (lv_at hl 2 rfl) ?_
  refine xcx (vx_runV (As := [.int v, .int w]) (rest := []) ⟨hx, hb, hml, hown, hts⟩ (c_X1_thingOn l hst _ x lv kp fL fK o ld b k FZ G hC v w hld hold) (cwV 2 hts gX1_kindAt_X1_thingOn rfl rfl rfl (by decide +kernel) ⟨(Nat.le_of_ble_eq_true rfl), (Nat.le_of_ble_eq_true rfl)⟩) ⟨XPx_blind, va_recv hK hP (ci := 1) (q0 := 0) rfl rfl, XPx_pre hE hT hP⟩ rfl rfl hl.1 rfl (lv_room (Nat.le_of_ble_eq_true rfl)) dX1_kindAt_3 ⟨Nat.le_of_ble_eq_true rfl, Nat.le_of_ble_eq_true rfl⟩) (fun E9 ce9 q9 H1 hp9 hz9 hk9 hc9 hv9 hcl9 => ?_) (fun v9 hw9 => ?_)
  · exact vx_out (fun x h => (hnt x h).elim) hlocks hc9 hv9 hcl9 (fun t9 ht9 _ => ⟨hp9, by rw [ht9]; exact hz9, fun q hq => by rw [ht9]; exact hk9 q hq⟩) (fun _ h => nomatch h) (Nat.le_of_ble_eq_true rfl) (Nat.le_of_ble_eq_true rfl)
  obtain ⟨a1, i, rfl, hat, hz1, q1, f1, hm1, hr1, he1⟩ := hw9
  refine W.eq (g2 := F0 m 6 ls [.ref a1]) rfl ?_
  refine va_get (ci := 0) (v := .int ((G i).1)) (C := RX0) (T := TX0) (N := 3) hx hb hts iw_X1kindAt_X0 hown hK (x1 hP (xm3 hm1)) 0 rfl rfl 0 (by decide) (hts (.fieldLink RX1 47 "BackMirror$Thing" "kind" "I") (by decide +kernel)) (fun _ h9 => h9) rfl dX1_kindAt_6 ?_
  refine vx_ret ?_
  refine W.widen (k := 2) (n := 12) (Nat.le_of_ble_eq_true rfl) (Nat.le_of_ble_eq_true rfl) ?_
  exact W.iret hx hb hr (fun t9 ht9 hW9 => ⟨_, rfl, ⟨i, rfl, hat⟩, ht9⟩) (fun _ h => nomatch h) dX1_kindAt_9

theorem iw_X1rightsAt_X0 : ∀ w ∈ u_ws RX0 TX0 3, w ∈ wsX1_rightsAt := by decide +kernel
set_option maxHeartbeats 4000000 in
set_option maxRecDepth 100000 in
theorem c_X1_rightsAt (l : Launch) (hst : l.stackTraces = false) {D : va_G} {cI cT cJ : ClassId} (A : Nat → Prop) (x lv kp : Nat) (fL fK : Nat → Option Nat) (o ld b k : Nat) (FZ : va_W) (G : Nat → Tv) (hC : CA cI FZ fL fK G) (v w : Int32) (hld : ld ≤ 40) (hold : o ≤ ld) : vx_Met l yX1_rightsAt wsX1_rightsAt (rmD 8 2 12) (XPx D cI cT cJ A [.ref x, .int v, .int w] (fun H => va_P D vwCl (CW cT x lv kp fL fK o ld b k FZ) H)) (XSg (fun v9 => ∃ i : Nat, v9 = some (.int (G i).2.1) ∧ AT o ld v w i)) (XXc (fun E => E = nIO ∧ ¬ ∃ i, AT o ld v w i)) 2 12 (fun _ => False) := by
  refine vx_ofW (cc := cX1_rightsAt) (maxL := 3) (ret := (some .int)) (by decide) rfl ?_
  intro p e s m args below meth c s₁ B hml hnt hv
  obtain ⟨rfl, hP, hE, hT⟩ := hv
  have hx := B.exec
  have hb := B.bytes
  have hr := B.returns
  have hts := atoms_spec (ws := wsX1_rightsAt) B.pre
  have hown : s.vm.findClass RX1 = some m.cls := findClass_of_methodNamed B.named
  have hlocks := B.notSynchronized
  have hl := lv_entry ([.ref x, .int v, .int w]) (n := 3) (Nat.le_of_ble_eq_true rfl)
  rw [lg_entry_eq]
  generalize (lg_sl ([.ref x, .int v, .int w]) ++ List.replicate (3 - (lg_sl ([.ref x, .int v, .int w])).length) Slot.unset).toArray = ls at hl ⊢
  have hl : lv_has ls 3 [(0, .ref x), (1, .int v), (2, .int w)] := hl
  have hK := hE.1
  have hS : va_S A s.heap s.heap [] := va_S.rf
  refine lv_aload_n hx hb dX1_rightsAt_0 rfl (lv_at hl 0 rfl) ?_
  refine lv_iload_n hx hb dX1_rightsAt_1 rfl (lv_at hl 1 rfl) ?_
  refine lv_iload_n hx hb dX1_rightsAt_2 rfl (lv_at hl 2 rfl) ?_
  refine xcx (vx_runV (As := [.int v, .int w]) (rest := []) ⟨hx, hb, hml, hown, hts⟩ (c_X1_thingOn l hst _ x lv kp fL fK o ld b k FZ G hC v w hld hold) (cwV 2 hts gX1_rightsAt_X1_thingOn rfl rfl rfl (by decide +kernel) ⟨(Nat.le_of_ble_eq_true rfl), (Nat.le_of_ble_eq_true rfl)⟩) ⟨XPx_blind, va_recv hK hP (ci := 1) (q0 := 0) rfl rfl, XPx_pre hE hT hP⟩ rfl rfl hl.1 rfl (lv_room (Nat.le_of_ble_eq_true rfl)) dX1_rightsAt_3 ⟨Nat.le_of_ble_eq_true rfl, Nat.le_of_ble_eq_true rfl⟩) (fun E9 ce9 q9 H1 hp9 hz9 hk9 hc9 hv9 hcl9 => ?_) (fun v9 hw9 => ?_)
  · exact vx_out (fun x h => (hnt x h).elim) hlocks hc9 hv9 hcl9 (fun t9 ht9 _ => ⟨hp9, by rw [ht9]; exact hz9, fun q hq => by rw [ht9]; exact hk9 q hq⟩) (fun _ h => nomatch h) (Nat.le_of_ble_eq_true rfl) (Nat.le_of_ble_eq_true rfl)
  obtain ⟨a1, i, rfl, hat, hz1, q1, f1, hm1, hr1, he1⟩ := hw9
  refine W.eq (g2 := F0 m 6 ls [.ref a1]) rfl ?_
  refine va_get (ci := 0) (v := .int ((G i).2.1)) (C := RX0) (T := TX0) (N := 3) hx hb hts iw_X1rightsAt_X0 hown hK (x1 hP (xm3 hm1)) 0 rfl rfl 1 (by decide) (hts (.fieldLink RX1 62 "BackMirror$Thing" "rights" "I") (by decide +kernel)) (fun _ h9 => h9) rfl dX1_rightsAt_6 ?_
  refine vx_ret ?_
  refine W.widen (k := 2) (n := 12) (Nat.le_of_ble_eq_true rfl) (Nat.le_of_ble_eq_true rfl) ?_
  exact W.iret hx hb hr (fun t9 ht9 hW9 => ⟨_, rfl, ⟨i, rfl, hat⟩, ht9⟩) (fun _ h => nomatch h) dX1_rightsAt_9

theorem iw_X1numberAt_X0 : ∀ w ∈ u_ws RX0 TX0 3, w ∈ wsX1_numberAt := by decide +kernel
set_option maxHeartbeats 4000000 in
set_option maxRecDepth 100000 in
theorem c_X1_numberAt (l : Launch) (hst : l.stackTraces = false) {D : va_G} {cI cT cJ : ClassId} (A : Nat → Prop) (x lv kp : Nat) (fL fK : Nat → Option Nat) (o ld b k : Nat) (FZ : va_W) (G : Nat → Tv) (hC : CA cI FZ fL fK G) (v w z : Int32) (hld : ld ≤ 40) (hold : o ≤ ld) : vx_Met l yX1_numberAt wsX1_numberAt (rmD 8 3 18) (XPx D cI cT cJ A [.ref x, .int v, .int w, .int z] (fun H => va_P D vwCl (CW cT x lv kp fL fK o ld b k FZ) H)) (XSg (fun v9 => ∃ i sp : Nat, AT o ld v w i ∧ sp < 12 ∧ z = nI sp ∧ v9 = some (.int (if sp < (G i).2.2.1 then (G i).2.2.2 sp else -1)))) (XXc (fun E => E = nIO ∧ ¬ ∃ i sp : Nat, AT o ld v w i ∧ sp < 12 ∧ z = nI sp)) 3 18 (fun _ => False) := by
  refine vx_ofW (cc := cX1_numberAt) (maxL := 5) (ret := (some .int)) (by decide) rfl ?_
  intro p e s m args below meth c s₁ B hml hnt hv
  obtain ⟨rfl, hP, hE, hT⟩ := hv
  have hx := B.exec
  have hb := B.bytes
  have hr := B.returns
  have hts := atoms_spec (ws := wsX1_numberAt) B.pre
  have hown : s.vm.findClass RX1 = some m.cls := findClass_of_methodNamed B.named
  have hlocks := B.notSynchronized
  have hl := lv_entry ([.ref x, .int v, .int w, .int z]) (n := 5) (Nat.le_of_ble_eq_true rfl)
  rw [lg_entry_eq]
  generalize (lg_sl ([.ref x, .int v, .int w, .int z]) ++ List.replicate (5 - (lg_sl ([.ref x, .int v, .int w, .int z])).length) Slot.unset).toArray = ls at hl ⊢
  have hl : lv_has ls 5 [(0, .ref x), (1, .int v), (2, .int w), (3, .int z)] := hl
  have hK := hE.1
  have hS : va_S A s.heap s.heap [] := va_S.rf
  refine lv_aload_n hx hb dX1_numberAt_0 rfl (lv_at hl 0 rfl) ?_
  refine lv_iload_n hx hb dX1_numberAt_1 rfl (lv_at hl 1 rfl) ?_
  refine lv_iload_n hx hb dX1_numberAt_2 rfl (lv_at hl 2 rfl) ?_
  refine xcx (vx_runV (As := [.int v, .int w]) (rest := []) ⟨hx, hb, hml, hown, hts⟩ (c_X1_thingOn l hst _ x lv kp fL fK o ld b k FZ G hC v w hld hold) (cwV 2 hts gX1_numberAt_X1_thingOn rfl rfl rfl (by decide +kernel) ⟨(Nat.le_of_ble_eq_true rfl), (Nat.le_of_ble_eq_true rfl)⟩) ⟨XPx_blind, va_recv hK hP (ci := 1) (q0 := 0) rfl rfl, XPx_pre hE hT hP⟩ rfl rfl hl.1 rfl (lv_room (Nat.le_of_ble_eq_true rfl)) dX1_numberAt_3 ⟨Nat.le_of_ble_eq_true rfl, Nat.le_of_ble_eq_true rfl⟩) (fun E9 ce9 q9 H1 hp9 hz9 hk9 hc9 hv9 hcl9 => ?_) (fun v9 hw9 => ?_)
  · exact vx_out (fun x h => (hnt x h).elim) hlocks hc9 hv9 hcl9 (fun t9 ht9 _ => ⟨⟨hp9.1, fun ⟨i, sp, h, _⟩ => hp9.2 ⟨i, h⟩⟩, by rw [ht9]; exact hz9, fun q hq => by rw [ht9]; exact hk9 q hq⟩) (fun _ h => nomatch h) (Nat.le_of_ble_eq_true rfl) (Nat.le_of_ble_eq_true rfl)
  obtain ⟨a1, i, rfl, hat, hz1, q1, f1, hm1, hr1, he1⟩ := hw9
  refine W.eq (g2 := F0 m 6 ls [.ref a1]) rfl ?_
  refine lv_astore (lv' := [(4, .ref a1), (0, .ref x), (1, .int v), (2, .int w), (3, .int z)]) hx hb dX1_numberAt_6 hl (by decide) rfl (fun ls hl => ?_)
  refine lv_iload_n hx hb dX1_numberAt_8 rfl (lv_at hl 4 rfl) ?_
  refine lv_if_lt (tgt := 18) hx hb dX1_numberAt_9 (by decide) (fun c9 => ?_) (fun c9 => ?_)
  · obtain ⟨sa9, hsa9⟩ := hT.1 (71, "no such spot") (by decide)
    exact vx_throwS hx hb hst (own := RX1) (cls := nIO) (text := "no such spot") (names := nUP) (ik := 111) (is := 71) (ic := 113) hown (by decide +kernel) (by decide +kernel) (hts (.classLink RX1 111 nIO) (by decide +kernel)) (hts (.initialized nIO) (by decide +kernel)) hsa9 (vx_hat (fun w h => hts w (List.mem_cons_of_mem _ (List.mem_append_right _ h))) xb_IO (hT.use (X := nIO) (by decide))) xg_IO hT.2.2.2.1 hT.2.2.2.2 va_S.rf (hl.1.trans hml.symm) dX1_numberAt_18 dX1_numberAt_21 dX1_numberAt_22 dX1_numberAt_24 dX1_numberAt_27 (fun x h => (hnt x h).elim) (Nat.le_of_ble_eq_true rfl) (Nat.le_of_ble_eq_true rfl) (Nat.le_of_ble_eq_true rfl) (Nat.le_of_ble_eq_true rfl) hlocks (fun t9 _ hz9 hk9 => ⟨⟨rfl, by rintro ⟨i, sp, -, h1, rfl⟩; first | exact xlt0 (by omega) c9 | exact absurd ((xle (by omega) (by omega)).mp (Int32.not_lt.mp c15)) (by omega)⟩, hz9, hk9⟩) (fun _ h => nomatch h) (Nat.le_of_ble_eq_true rfl) (Nat.le_of_ble_eq_true rfl)
  · refine lv_iload_n hx hb dX1_numberAt_12 rfl (lv_at hl 4 rfl) ?_
    refine lv_bipush (v := nI 12) hx hb dX1_numberAt_13 (by decide) ?_
    refine lv_icmp_lt (tgt := 28) hx hb dX1_numberAt_15 (by decide) (fun c15 => ?_) (fun c15 => ?_)
    · obtain ⟨sp, hsp, rfl⟩ := xSp_t c9 (by assumption)
      refine lv_iload_n hx hb dX1_numberAt_28 rfl (lv_at hl 4 rfl) ?_
      refine lv_aload hx hb dX1_numberAt_29 (lv_at hl 0 rfl) ?_
      refine va_get (ci := 0) (v := .ref q1) (C := RX0) (T := TX0) (N := 3) hx hb hts iw_X1numberAt_X0 hown hK (x1 hP (xm3 hm1)) 0 rfl rfl 2 (by decide) (hts (.fieldLink RX1 43 "BackMirror$Thing" "numbers" "[I") (by decide +kernel)) (fun _ h9 => h9) rfl dX1_numberAt_31 ?_
      refine va_alen hx hb hK (x1 hP (xm3 hr1)) 0 0 rfl rfl (v := nI ((G i).2.2.1)) rfl dX1_numberAt_34 ?_
      refine lv_icmp_ge (tgt := 48) hx hb dX1_numberAt_35 (by decide) (fun c35 => ?_) (fun c35 => ?_)
      · have c35 : ((G i).2.2.1) ≤ sp := (xle (by omega) (by omega)).mp c35
        refine lv_iconst (v := (-1)) hx hb dX1_numberAt_48 (by decide) ?_
        refine vx_ret ?_
        refine W.widen (k := 3) (n := 18) (Nat.le_of_ble_eq_true rfl) (Nat.le_of_ble_eq_true rfl) ?_
        exact W.iret hx hb hr (fun t9 ht9 hW9 => ⟨_, rfl, ⟨i, sp, hat, hsp, rfl, by first | (rw [if_pos (by omega), ← he1 sp (by omega)]; done) | (rw [if_neg (by omega)]; done)⟩, ht9⟩) (fun _ h => nomatch h) dX1_numberAt_49
      · have c35 : ¬ ((G i).2.2.1) ≤ sp := fun h => c35 ((xle (by omega) (by omega)).mpr h)
        refine lv_aload hx hb dX1_numberAt_38 (lv_at hl 0 rfl) ?_
        refine va_get (ci := 0) (v := .ref q1) (C := RX0) (T := TX0) (N := 3) hx hb hts iw_X1numberAt_X0 hown hK (x1 hP (xm3 hm1)) 0 rfl rfl 2 (by decide) (hts (.fieldLink RX1 43 "BackMirror$Thing" "numbers" "[I") (by decide +kernel)) (fun _ h9 => h9) rfl dX1_numberAt_40 ?_
        refine lv_iload_n hx hb dX1_numberAt_43 rfl (lv_at hl 4 rfl) ?_
        refine va_iald hx hb hK (x1 hP (xm3 hr1)) 0 0 rfl rfl (xin (by omega) (by omega)) dX1_numberAt_44 ?_
        refine x_top (f1 sp) (by rw [nI_clamp (by omega)]) ?_
        refine lv_goto (tgt := 49) hx hb dX1_numberAt_45 (by decide) ?_
        refine vx_ret ?_
        refine W.widen (k := 3) (n := 18) (Nat.le_of_ble_eq_true rfl) (Nat.le_of_ble_eq_true rfl) ?_
        exact W.iret hx hb hr (fun t9 ht9 hW9 => ⟨_, rfl, ⟨i, sp, hat, hsp, rfl, by first | (rw [if_pos (by omega), ← he1 sp (by omega)]; done) | (rw [if_neg (by omega)]; done)⟩, ht9⟩) (fun _ h => nomatch h) dX1_numberAt_49
    · obtain ⟨sa9, hsa9⟩ := hT.1 (71, "no such spot") (by decide)
      exact vx_throwS hx hb hst (own := RX1) (cls := nIO) (text := "no such spot") (names := nUP) (ik := 111) (is := 71) (ic := 113) hown (by decide +kernel) (by decide +kernel) (hts (.classLink RX1 111 nIO) (by decide +kernel)) (hts (.initialized nIO) (by decide +kernel)) hsa9 (vx_hat (fun w h => hts w (List.mem_cons_of_mem _ (List.mem_append_right _ h))) xb_IO (hT.use (X := nIO) (by decide))) xg_IO hT.2.2.2.1 hT.2.2.2.2 va_S.rf (hl.1.trans hml.symm) dX1_numberAt_18 dX1_numberAt_21 dX1_numberAt_22 dX1_numberAt_24 dX1_numberAt_27 (fun x h => (hnt x h).elim) (Nat.le_of_ble_eq_true rfl) (Nat.le_of_ble_eq_true rfl) (Nat.le_of_ble_eq_true rfl) (Nat.le_of_ble_eq_true rfl) hlocks (fun t9 _ hz9 hk9 => ⟨⟨rfl, by rintro ⟨i, sp, -, h1, rfl⟩; first | exact xlt0 (by omega) c9 | exact absurd ((xle (by omega) (by omega)).mp (Int32.not_lt.mp c15)) (by omega)⟩, hz9, hk9⟩) (fun _ h => nomatch h) (Nat.le_of_ble_eq_true rfl) (Nat.le_of_ble_eq_true rfl)

set_option maxHeartbeats 4000000 in
set_option maxRecDepth 100000 in
theorem c_X1_sizeAt (l : Launch) (hst : l.stackTraces = false) {D : va_G} {cI cT cJ : ClassId} (A : Nat → Prop) (x lv kp : Nat) (fL fK : Nat → Option Nat) (o ld b k : Nat) (FZ : va_W) (G : Nat → Tv) (hC : CA cI FZ fL fK G) (v w : Int32) (hld : ld ≤ 40) (hold : o ≤ ld) : vx_Met l yX1_sizeAt wsX1_sizeAt (rmD 8 2 12) (XPx D cI cT cJ A [.ref x, .int v, .int w] (fun H => va_P D vwCl (CW cT x lv kp fL fK o ld b k FZ) H)) (XSg (fun v9 => ∃ d j : Nat, o ≤ d ∧ d ≤ ld ∧ v = nI d ∧ j < 6 ∧ w = nI j ∧ v9 = some (.int (nI (difW G ld d j))))) (XXc (fun E => E = nIO ∧ ¬ ∃ d j : Nat, o ≤ d ∧ d ≤ ld ∧ v = nI d ∧ j < 6 ∧ w = nI j)) 2 12 (fun _ => False) := by
  refine vx_ofW (cc := cX1_sizeAt) (maxL := 3) (ret := (some .int)) (by decide) rfl ?_
  intro p e s m args below meth c s₁ B hml hnt hv
  obtain ⟨rfl, hP, hE, hT⟩ := hv
  have hx := B.exec
  have hb := B.bytes
  have hr := B.returns
  have hts := atoms_spec (ws := wsX1_sizeAt) B.pre
  have hown : s.vm.findClass RX1 = some m.cls := findClass_of_methodNamed B.named
  have hlocks := B.notSynchronized
  have hl := lv_entry ([.ref x, .int v, .int w]) (n := 3) (Nat.le_of_ble_eq_true rfl)
  rw [lg_entry_eq]
  generalize (lg_sl ([.ref x, .int v, .int w]) ++ List.replicate (3 - (lg_sl ([.ref x, .int v, .int w])).length) Slot.unset).toArray = ls at hl ⊢
  have hl : lv_has ls 3 [(0, .ref x), (1, .int v), (2, .int w)] := hl
  have hK := hE.1
  have hS : va_S A s.heap s.heap [] := va_S.rf
  refine lv_aload_n hx hb dX1_sizeAt_0 rfl (lv_at hl 0 rfl) ?_
  refine lv_iload_n hx hb dX1_sizeAt_1 rfl (lv_at hl 1 rfl) ?_
  refine xcx (vx_runV (As := [.int v]) (rest := []) ⟨hx, hb, hml, hown, hts⟩ (c_X1_checkKept l hst _ x lv kp fL fK o ld b k FZ v hld hold) (cwV 1 hts gX1_sizeAt_X1_checkKept rfl rfl rfl (by decide +kernel) ⟨(Nat.le_of_ble_eq_true rfl), (Nat.le_of_ble_eq_true rfl)⟩) ⟨XPx_blind, va_recv hK hP (ci := 1) (q0 := 0) rfl rfl, XPx_pre hE hT hP⟩ rfl rfl hl.1 rfl (lv_room (Nat.le_of_ble_eq_true rfl)) dX1_sizeAt_2 ⟨Nat.le_of_ble_eq_true rfl, Nat.le_of_ble_eq_true rfl⟩) (fun E9 ce9 q9 H1 hp9 hz9 hk9 hc9 hv9 hcl9 => ?_) (fun v9 hw9 => ?_)
  · exact vx_out (fun x h => (hnt x h).elim) hlocks hc9 hv9 hcl9 (fun t9 ht9 _ => ⟨⟨hp9.1, fun ⟨d, j, h1, h2, h3, _⟩ => hp9.2 ⟨d, h1, h2, h3⟩⟩, by rw [ht9]; exact hz9, fun q hq => by rw [ht9]; exact hk9 q hq⟩) (fun _ h => nomatch h) (Nat.le_of_ble_eq_true rfl) (Nat.le_of_ble_eq_true rfl)
  obtain ⟨rfl, ⟨d, hd1, hd2, rfl⟩⟩ := hw9
  refine W.eq (g2 := F0 m 5 ls []) rfl ?_
  refine lv_iload_n hx hb dX1_sizeAt_5 rfl (lv_at hl 2 rfl) ?_
  refine xcx (vx_runS (As := [.int w]) (rest := []) ⟨hx, hb, hml, hown, hts⟩ (c_X1_checkPlace l hst _ w) (va_cwS 1 hts gX1_sizeAt_X1_checkPlace rfl rfl rfl (by decide +kernel) ⟨(Nat.le_of_ble_eq_true rfl), (Nat.le_of_ble_eq_true rfl)⟩) ⟨XPx_blind, XPx_pre hE hT trivial⟩ rfl rfl hl.1 rfl (lv_room (Nat.le_of_ble_eq_true rfl)) dX1_sizeAt_6 ⟨Nat.le_of_ble_eq_true rfl, Nat.le_of_ble_eq_true rfl⟩) (fun E9 ce9 q9 H1 hp9 hz9 hk9 hc9 hv9 hcl9 => ?_) (fun v9 hw9 => ?_)
  · exact vx_out (fun x h => (hnt x h).elim) hlocks hc9 hv9 hcl9 (fun t9 ht9 _ => ⟨⟨hp9.1, fun ⟨d, j, h1, h2, h3, h4, h5⟩ => hp9.2 ⟨j, h4, h5⟩⟩, by rw [ht9]; exact hz9, fun q hq => by rw [ht9]; exact hk9 q hq⟩) (fun _ h => nomatch h) (Nat.le_of_ble_eq_true rfl) (Nat.le_of_ble_eq_true rfl)
  obtain ⟨rfl, ⟨j, hj, rfl⟩⟩ := hw9
  refine W.eq (g2 := F0 m 9 ls []) rfl ?_
  refine lv_aload_n hx hb dX1_sizeAt_9 rfl (lv_at hl 0 rfl) ?_
  refine lv_iload_n hx hb dX1_sizeAt_10 rfl (lv_at hl 1 rfl) ?_
  refine lv_iload_n hx hb dX1_sizeAt_11 rfl (lv_at hl 2 rfl) ?_
  refine xc_sie (va_runV (As := [.int (nI d), .int (nI j)]) (rest := []) ⟨hx, hb, hml, hown, hts⟩ (c_X1_differenceTakes l x lv kp fL fK o ld b k FZ G hC d j hld (by omega) (by omega)) (cwV 2 hts gX1_sizeAt_X1_differenceTakes rfl rfl rfl (by decide +kernel) ⟨(Nat.le_of_ble_eq_true rfl), (Nat.le_of_ble_eq_true rfl)⟩) ⟨XP_blind, va_recv hK hP (ci := 1) (q0 := 0) rfl rfl, XP_pre hE hP⟩ rfl rfl hl.1 rfl (lv_room (Nat.le_of_ble_eq_true rfl)) dX1_sizeAt_12 ⟨Nat.le_of_ble_eq_true rfl, Nat.le_of_ble_eq_true rfl⟩) ?_
  refine vx_ret ?_
  refine W.widen (k := 2) (n := 12) (Nat.le_of_ble_eq_true rfl) (Nat.le_of_ble_eq_true rfl) ?_
  exact W.iret hx hb hr (fun t9 ht9 hW9 => ⟨_, rfl, ⟨d, j, hd1, hd2, rfl, hj, rfl, rfl⟩, ht9⟩) (fun _ h => nomatch h) dX1_sizeAt_15
