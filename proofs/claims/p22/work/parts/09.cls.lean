/-! what a BackMirror is: its object, the rows of the live tree and of the dates, and the Things (never changed) in FZ -/
/-- at the address a stands the Thing v, its row too -/
def TH (cI : ClassId) (FZ : va_W) (a : Nat) (v : Tv) : Prop := v.2.2.1 ≤ 12 ∧ ∃ (q : Nat) (f : Nat → Int32), (a, .inr (0, [.int v.1, .int v.2.1, .ref q])) ∈ FZ ∧ (q, .inl (cI, v.2.2.1, .inl f)) ∈ FZ ∧ ∀ j, j < v.2.2.1 → f j = v.2.2.2 j
theorem TH.app {cI : ClassId} {FZ F2 : va_W} {a : Nat} {v : Tv} (h : TH cI FZ a v) : TH cI (FZ ++ F2) a v := by
  obtain ⟨h0, q, f, h1, h2, h3⟩ := h
  exact ⟨h0, q, f, List.mem_append_left _ h1, List.mem_append_left _ h2, h3⟩
/-- the dates' places (0 to 245) and the live tree's (246 to 251) -/
def CA (cI : ClassId) (FZ : va_W) (fL fK : Nat → Option Nat) (G : Nat → Tv) : Prop := (∀ i, i < 246 → ∃ a, fK i = some a ∧ TH cI FZ a (G i)) ∧ ∀ i, i < 6 → ∃ a, fL i = some a ∧ TH cI FZ a (G (246 + i))
theorem CA.app {cI : ClassId} {FZ F2 : va_W} {fL fK : Nat → Option Nat} {G : Nat → Tv} (h : CA cI FZ fL fK G) : CA cI (FZ ++ F2) fL fK G :=
  ⟨fun i hi => (h.1 i hi).elim fun a ha => ⟨a, ha.1, ha.2.app⟩, fun i hi => (h.2 i hi).elim fun a ha => ⟨a, ha.1, ha.2.app⟩⟩
theorem xm3 {α : Type} {a b c q : α} {l : List α} (h : q ∈ l) : q ∈ a :: b :: c :: l := List.mem_cons_of_mem _ (List.mem_cons_of_mem _ (List.mem_cons_of_mem _ h))
theorem x2 {D : va_G} {cl : List vw_C} {ws : va_W} {H : Heap} {a b : Nat × va_E} (hP : va_P D cl ws H) (h1 : a ∈ ws) (h2 : b ∈ ws) : va_P D cl [a, b] H := (x1 hP h1).app (x1 hP h2)
theorem x4 {D : va_G} {cl : List vw_C} {ws : va_W} {H : Heap} {a b c d : Nat × va_E} (hP : va_P D cl ws H) (h1 : a ∈ ws) (h2 : b ∈ ws) (h3 : c ∈ ws) (h4 : d ∈ ws) : va_P D cl [a, b, c, d] H := (x2 hP h1 h2).app (x2 hP h3 h4)
theorem sameB_congr {v w : Tv} {f g : Nat → Int32} (hf : ∀ j, j < v.2.2.1 → f j = v.2.2.2 j) (hg : ∀ j, j < w.2.2.1 → g j = w.2.2.2 j) : sameB (v.1, v.2.1, v.2.2.1, f) (w.1, w.2.1, w.2.2.1, g) = sameB v w := by
  simp only [sameB]
  rw [rowB_congr hf hg]
/-- what sizeAt answers -/
def difW (G : Nat → Tv) (ld d p : Nat) : Nat := if ld ≤ d then 0 else dif (G (6 * d + p)) (G (6 * (d + 1) + p))
/-- the cells of a BackMirror -/
abbrev CW (cT : ClassId) (x lv kp : Nat) (fL fK : Nat → Option Nat) (o ld b k : Nat) (FZ : va_W) : va_W := (x, .inr (1, [.ref lv, .ref kp, .int (nI o), .int (nI ld), .int (nI b), .int (nI k)])) :: (lv, .inl (cT, 6, .inr (.inr (.inr (.inr fL))))) :: (kp, .inl (cT, 246, .inr (.inr (.inr (.inr fK))))) :: FZ

theorem iw_X1last_X1 : ∀ w ∈ u_ws RX1 TX1 6, w ∈ wsX1_last := by decide +kernel
set_option maxHeartbeats 4000000 in
set_option maxRecDepth 100000 in
theorem c_X1_last (l : Launch) {D : va_G} {cI cT cJ : ClassId} (x lv kp : Nat) (fL fK : Nat → Option Nat) (o ld b k : Nat) (FZ : va_W)  : Met l yX1_last wsX1_last (rmD 1 0 0) (XP D cI cT cJ [.ref x] (fun H => va_P D vwCl (CW cT x lv kp fL fK o ld b k FZ) H)) (XSi (fun r => r = nI ld)) 0 0 (fun _ => False) := by
  refine Met.ofW (cc := cX1_last) (maxL := 1) (ret := (some .int)) (by decide) rfl ?_
  intro p e s m args below meth c s₁ B hml hv
  obtain ⟨rfl, hP, hE⟩ := hv
  have hx := B.exec
  have hb := B.bytes
  have hr := B.returns
  have hts := atoms_spec (ws := wsX1_last) B.pre
  have hown : s.vm.findClass RX1 = some m.cls := findClass_of_methodNamed B.named
  have hlocks := B.notSynchronized
  have hl := lv_entry ([.ref x]) (n := 1) (Nat.le_of_ble_eq_true rfl)
  rw [lg_entry_eq]
  generalize (lg_sl ([.ref x]) ++ List.replicate (1 - (lg_sl ([.ref x])).length) Slot.unset).toArray = ls at hl ⊢
  have hl : lv_has ls 1 [(0, .ref x)] := hl
  have hK := hE.1
  refine lv_aload_n hx hb dX1_last_0 rfl (lv_at hl 0 rfl) ?_
  refine va_get (ci := 1) (v := .int (nI ld)) (C := RX1) (T := TX1) (N := 6) hx hb hts iw_X1last_X1 hown hK hP 0 rfl rfl 3 (by decide) (hts (.fieldLink RX1 25 "BackMirror" "lastDate" "I") (by decide +kernel)) (fun _ h9 => h9) rfl dX1_last_1 ?_
  exact W.iret hx hb hr (fun t9 ht9 hW9 => ⟨_, rfl, rfl, ht9⟩) (fun _ h => nomatch h) dX1_last_4

theorem iw_X1oldest_X1 : ∀ w ∈ u_ws RX1 TX1 6, w ∈ wsX1_oldest := by decide +kernel
set_option maxHeartbeats 4000000 in
set_option maxRecDepth 100000 in
theorem c_X1_oldest (l : Launch) {D : va_G} {cI cT cJ : ClassId} (x lv kp : Nat) (fL fK : Nat → Option Nat) (o ld b k : Nat) (FZ : va_W)  : Met l yX1_oldest wsX1_oldest (rmD 1 0 0) (XP D cI cT cJ [.ref x] (fun H => va_P D vwCl (CW cT x lv kp fL fK o ld b k FZ) H)) (XSi (fun r => r = nI o)) 0 0 (fun _ => False) := by
  refine Met.ofW (cc := cX1_oldest) (maxL := 1) (ret := (some .int)) (by decide) rfl ?_
  intro p e s m args below meth c s₁ B hml hv
  obtain ⟨rfl, hP, hE⟩ := hv
  have hx := B.exec
  have hb := B.bytes
  have hr := B.returns
  have hts := atoms_spec (ws := wsX1_oldest) B.pre
  have hown : s.vm.findClass RX1 = some m.cls := findClass_of_methodNamed B.named
  have hlocks := B.notSynchronized
  have hl := lv_entry ([.ref x]) (n := 1) (Nat.le_of_ble_eq_true rfl)
  rw [lg_entry_eq]
  generalize (lg_sl ([.ref x]) ++ List.replicate (1 - (lg_sl ([.ref x])).length) Slot.unset).toArray = ls at hl ⊢
  have hl : lv_has ls 1 [(0, .ref x)] := hl
  have hK := hE.1
  refine lv_aload_n hx hb dX1_oldest_0 rfl (lv_at hl 0 rfl) ?_
  refine va_get (ci := 1) (v := .int (nI o)) (C := RX1) (T := TX1) (N := 6) hx hb hts iw_X1oldest_X1 hown hK hP 0 rfl rfl 2 (by decide) (hts (.fieldLink RX1 21 "BackMirror" "oldestDate" "I") (by decide +kernel)) (fun _ h9 => h9) rfl dX1_oldest_1 ?_
  exact W.iret hx hb hr (fun t9 ht9 hW9 => ⟨_, rfl, rfl, ht9⟩) (fun _ h => nomatch h) dX1_oldest_4

theorem iw_X1isBroken_X1 : ∀ w ∈ u_ws RX1 TX1 6, w ∈ wsX1_isBroken := by decide +kernel
set_option maxHeartbeats 4000000 in
set_option maxRecDepth 100000 in
theorem c_X1_isBroken (l : Launch) {D : va_G} {cI cT cJ : ClassId} (x lv kp : Nat) (fL fK : Nat → Option Nat) (o ld b k : Nat) (FZ : va_W) (hbb : b ≤ 1) : Met l yX1_isBroken wsX1_isBroken (rmD 1 0 0) (XP D cI cT cJ [.ref x] (fun H => va_P D vwCl (CW cT x lv kp fL fK o ld b k FZ) H)) (XSi (fun r => r = nI b)) 0 0 (fun _ => False) := by
  refine Met.ofW (cc := cX1_isBroken) (maxL := 1) (ret := (some .boolean)) (by decide) rfl ?_
  intro p e s m args below meth c s₁ B hml hv
  obtain ⟨rfl, hP, hE⟩ := hv
  have hx := B.exec
  have hb := B.bytes
  have hr := B.returns
  have hts := atoms_spec (ws := wsX1_isBroken) B.pre
  have hown : s.vm.findClass RX1 = some m.cls := findClass_of_methodNamed B.named
  have hlocks := B.notSynchronized
  have hl := lv_entry ([.ref x]) (n := 1) (Nat.le_of_ble_eq_true rfl)
  rw [lg_entry_eq]
  generalize (lg_sl ([.ref x]) ++ List.replicate (1 - (lg_sl ([.ref x])).length) Slot.unset).toArray = ls at hl ⊢
  have hl : lv_has ls 1 [(0, .ref x)] := hl
  have hK := hE.1
  refine lv_aload_n hx hb dX1_isBroken_0 rfl (lv_at hl 0 rfl) ?_
  refine va_get (ci := 1) (v := .int (nI b)) (C := RX1) (T := TX1) (N := 6) hx hb hts iw_X1isBroken_X1 hown hK hP 0 rfl rfl 4 (by decide) (hts (.fieldLink RX1 28 "BackMirror" "broken" "Z") (by decide +kernel)) (fun _ h9 => h9) rfl dX1_isBroken_1 ?_
  exact W.zret hx hb hr (xnb _ (by omega)) (fun t9 ht9 hW9 => ⟨_, rfl, rfl, ht9⟩) (fun _ h => nomatch h) dX1_isBroken_4

theorem iw_X1exchange_X0 : ∀ w ∈ u_ws RX0 TX0 3, w ∈ wsX1_exchange := by decide +kernel
theorem iw_X1exchange_X1 : ∀ w ∈ u_ws RX1 TX1 6, w ∈ wsX1_exchange := by decide +kernel
set_option maxHeartbeats 4000000 in
set_option maxRecDepth 100000 in
theorem c_X1_exchange (l : Launch) {D : va_G} {cI cT cJ : ClassId} (x lv kp : Nat) (fL fK : Nat → Option Nat) (o ld b k : Nat) (FZ : va_W) (G : Nat → Tv) (hC : CA cI FZ fL fK G) (i y sz : Nat) (vs : List Value) (hi : i < 6) (hy : (y, .inr (0, vs)) ∈ FZ) : Met l yX1_exchange wsX1_exchange (rmD 1 0 0) (XP D cI cT cJ [.ref x, .int (nI i), .ref y] (fun H => H.size = sz ∧ va_P D vwCl (CW cT x lv kp fL fK o ld b k FZ) H ∧ va_D (fun _ => True) (CW cT x lv kp fL fK o ld b k FZ))) (va_Qi (S := Unit) (fun r _ => r = (G (246 + i)).1) (fun _ t => va_P D vwCl (CW cT x lv kp (va_up fL i (some y)) fK o ld b k FZ) t.heap ∧ va_D (va_A (CW cT x lv kp fL fK o ld b k FZ) sz) (CW cT x lv kp (va_up fL i (some y)) fK o ld b k FZ)) (va_A (CW cT x lv kp fL fK o ld b k FZ) sz)) 0 0 (va_A (CW cT x lv kp fL fK o ld b k FZ) sz) := by
  refine Met.ofW (cc := cX1_exchange) (maxL := 4) (ret := (some .int)) (by decide) rfl ?_
  intro p e s m args below meth c s₁ B hml hv
  obtain ⟨rfl, ⟨hsz, hP, hD0⟩, hE⟩ := hv
  have hx := B.exec
  have hb := B.bytes
  have hr := B.returns
  have hts := atoms_spec (ws := wsX1_exchange) B.pre
  have hown : s.vm.findClass RX1 = some m.cls := findClass_of_methodNamed B.named
  have hlocks := B.notSynchronized
  have hl := lv_entry ([.ref x, .int (nI i), .ref y]) (n := 4) (Nat.le_of_ble_eq_true rfl)
  rw [lg_entry_eq]
  generalize (lg_sl ([.ref x, .int (nI i), .ref y]) ++ List.replicate (4 - (lg_sl ([.ref x, .int (nI i), .ref y])).length) Slot.unset).toArray = ls at hl ⊢
  have hl : lv_has ls 4 [(0, .ref x), (1, .int (nI i)), (2, .ref y)] := hl
  have hK := hE.1
  subst hsz
  have hD := hD0.self (sz := s.heap.size)
  generalize hAe : va_A ((CW cT x lv kp fL fK o ld b k FZ)) s.heap.size = A at hD ⊢
  have hA : ∀ q : Nat, s.heap.size ≤ q → A q := fun q h => by rw [← hAe]; exact Or.inr h
  have hS : va_S A s.heap s.heap [] := va_S.rf
  refine lv_aload_n hx hb dX1_exchange_0 rfl (lv_at hl 0 rfl) ?_
  refine va_get (ci := 1) (v := .ref lv) (C := RX1) (T := TX1) (N := 6) hx hb hts iw_X1exchange_X1 hown hK hP 0 rfl rfl 0 (by decide) (hts (.fieldLink RX1 14 "BackMirror" "live" "[LBackMirror$Thing;") (by decide +kernel)) (fun _ h9 => h9) rfl dX1_exchange_1 ?_
  refine lv_iload_n hx hb dX1_exchange_4 rfl (lv_at hl 1 rfl) ?_
  refine va_aldq hx hb hK hP 1 1 rfl rfl (xin (by omega) (by omega)) dX1_exchange_5 ?_
  obtain ⟨a1, ha1, hT1⟩ := hC.2 (i) (by omega)
  refine x_toprf (y := a1) (by rw [nI_clamp (by omega)]; exact ha1) ?_
  obtain ⟨hz1, q1, f1, hm1, hr1, he1⟩ := hT1
  refine va_get (ci := 0) (v := .int ((G (246 + i)).1)) (C := RX0) (T := TX0) (N := 3) hx hb hts iw_X1exchange_X0 hown hK (x1 hP (xm3 hm1)) 0 rfl rfl 0 (by decide) (hts (.fieldLink RX1 47 "BackMirror$Thing" "kind" "I") (by decide +kernel)) (fun _ h9 => h9) rfl dX1_exchange_6 ?_
  refine lv_istore_n (lv' := [(3, .int ((G (246 + i)).1)), (0, .ref x), (1, .int (nI i)), (2, .ref y)]) hx hb dX1_exchange_9 rfl hl (by decide) rfl (fun ls hl => ?_)
  refine lv_aload_n hx hb dX1_exchange_10 rfl (lv_at hl 1 rfl) ?_
  refine va_get (ci := 1) (v := .ref lv) (C := RX1) (T := TX1) (N := 6) hx hb hts iw_X1exchange_X1 hown hK hP 0 rfl rfl 0 (by decide) (hts (.fieldLink RX1 14 "BackMirror" "live" "[LBackMirror$Thing;") (by decide +kernel)) (fun _ h9 => h9) rfl dX1_exchange_11 ?_
  refine lv_iload_n hx hb dX1_exchange_14 rfl (lv_at hl 2 rfl) ?_
  refine lv_aload_n hx hb dX1_exchange_15 rfl (lv_at hl 3 rfl) ?_
  obtain ⟨j9, hj9⟩ := List.getElem?_of_mem hy
  refine va_astq (r := (RX0, TX0, 3)) hx hb hK hP hD hS 1 1 (j9 + 3) 0 rfl rfl hj9 rfl (xin (by omega) (by omega)) dX1_exchange_16 (fun H locs hP hD hS => ?_)
  rw [nI_clamp (show i < 2 ^ 31 by omega)] at hP hD
  have hP : va_P D vwCl ((x, .inr (1, [.ref lv, .ref kp, .int (nI o), .int (nI ld), .int (nI b), .int (nI k)])) :: (lv, .inl (cT, 6, .inr (.inr (.inr (.inr (va_up fL i (some y))))))) :: (kp, .inl (cT, 246, .inr (.inr (.inr (.inr fK))))) :: FZ) H := hP
  have hD : va_D A ((x, .inr (1, [.ref lv, .ref kp, .int (nI o), .int (nI ld), .int (nI b), .int (nI k)])) :: (lv, .inl (cT, 6, .inr (.inr (.inr (.inr (va_up fL i (some y))))))) :: (kp, .inl (cT, 246, .inr (.inr (.inr (.inr fK))))) :: FZ) := hD
  refine lv_iload_n hx hb dX1_exchange_17 rfl (lv_at hl 0 rfl) ?_
  exact W.iret hx hb hr (fun t9 ht9 hW9 => ⟨⟨_, (), rfl, rfl, by rw [ht9]; exact hP, hD⟩, hS.F ht9⟩) hS.2.2 dX1_exchange_18

theorem iw_X1undoBrokenRun_X1 : ∀ w ∈ u_ws RX1 TX1 6, w ∈ wsX1_undoBrokenRun := by decide +kernel
set_option maxHeartbeats 4000000 in
set_option maxRecDepth 100000 in
theorem c_X1_undoBrokenRun (l : Launch) {D : va_G} {cI cT cJ : ClassId} (x lv kp : Nat) (fL fK : Nat → Option Nat) (o ld b k : Nat) (FZ : va_W) (sz : Nat) : Met l yX1_undoBrokenRun wsX1_undoBrokenRun (rmD 1 0 0) (XP D cI cT cJ [.ref x] (fun H => H.size = sz ∧ va_P D vwCl (CW cT x lv kp fL fK o ld b k FZ) H ∧ va_D (fun _ => True) (CW cT x lv kp fL fK o ld b k FZ))) (va_Qi (S := Unit) (fun r _ => r = nI k) (fun _ t => va_P D vwCl (CW cT x lv kp fL fK o ld 0 0 FZ) t.heap ∧ va_D (va_A (CW cT x lv kp fL fK o ld b k FZ) sz) (CW cT x lv kp fL fK o ld 0 0 FZ)) (va_A (CW cT x lv kp fL fK o ld b k FZ) sz)) 0 0 (va_A (CW cT x lv kp fL fK o ld b k FZ) sz) := by
  refine Met.ofW (cc := cX1_undoBrokenRun) (maxL := 2) (ret := (some .int)) (by decide) rfl ?_
  intro p e s m args below meth c s₁ B hml hv
  obtain ⟨rfl, ⟨hsz, hP, hD0⟩, hE⟩ := hv
  have hx := B.exec
  have hb := B.bytes
  have hr := B.returns
  have hts := atoms_spec (ws := wsX1_undoBrokenRun) B.pre
  have hown : s.vm.findClass RX1 = some m.cls := findClass_of_methodNamed B.named
  have hlocks := B.notSynchronized
  have hl := lv_entry ([.ref x]) (n := 2) (Nat.le_of_ble_eq_true rfl)
  rw [lg_entry_eq]
  generalize (lg_sl ([.ref x]) ++ List.replicate (2 - (lg_sl ([.ref x])).length) Slot.unset).toArray = ls at hl ⊢
  have hl : lv_has ls 2 [(0, .ref x)] := hl
  have hK := hE.1
  subst hsz
  have hD := hD0.self (sz := s.heap.size)
  generalize hAe : va_A ((CW cT x lv kp fL fK o ld b k FZ)) s.heap.size = A at hD ⊢
  have hA : ∀ q : Nat, s.heap.size ≤ q → A q := fun q h => by rw [← hAe]; exact Or.inr h
  have hS : va_S A s.heap s.heap [] := va_S.rf
  refine lv_aload_n hx hb dX1_undoBrokenRun_0 rfl (lv_at hl 0 rfl) ?_
  refine va_get (ci := 1) (v := .int (nI k)) (C := RX1) (T := TX1) (N := 6) hx hb hts iw_X1undoBrokenRun_X1 hown hK hP 0 rfl rfl 5 (by decide) (hts (.fieldLink RX1 32 "BackMirror" "brokenSteps" "I") (by decide +kernel)) (fun _ h9 => h9) rfl dX1_undoBrokenRun_1 ?_
  refine lv_istore_n (lv' := [(1, .int (nI k)), (0, .ref x)]) hx hb dX1_undoBrokenRun_4 rfl hl (by decide) rfl (fun ls hl => ?_)
  refine lv_aload_n hx hb dX1_undoBrokenRun_5 rfl (lv_at hl 1 rfl) ?_
  refine lv_iconst (v := nI 0) hx hb dX1_undoBrokenRun_6 (by decide) ?_
  refine va_put (ci := 1) (v := .int (nI 0)) (ty := .boolean) (C := RX1) (T := TX1) (N := 6) hx hb hts iw_X1undoBrokenRun_X1 tyX1 tyX1_ok nmX1 hown hK hP hD hS 0 rfl rfl 4 (by decide) (hts (.fieldLink RX1 28 "BackMirror" "broken" "Z") (by decide +kernel)) (fun _ h9 => h9) rfl (by decide +kernel) (by decide) rfl (Nat.le_of_ble_eq_true rfl) dX1_undoBrokenRun_7 (fun H locs hP hD hS => ?_)
  have hP : va_P D vwCl ((x, .inr (1, [.ref lv, .ref kp, .int (nI o), .int (nI ld), .int (nI 0), .int (nI k)])) :: (lv, .inl (cT, 6, .inr (.inr (.inr (.inr fL))))) :: (kp, .inl (cT, 246, .inr (.inr (.inr (.inr fK))))) :: FZ) H := hP
  have hD : va_D A ((x, .inr (1, [.ref lv, .ref kp, .int (nI o), .int (nI ld), .int (nI 0), .int (nI k)])) :: (lv, .inl (cT, 6, .inr (.inr (.inr (.inr fL))))) :: (kp, .inl (cT, 246, .inr (.inr (.inr (.inr fK))))) :: FZ) := hD
  refine lv_aload_n hx hb dX1_undoBrokenRun_10 rfl (lv_at hl 1 rfl) ?_
  refine lv_iconst (v := nI 0) hx hb dX1_undoBrokenRun_11 (by decide) ?_
  refine va_put (ci := 1) (v := .int (nI 0)) (ty := .int) (C := RX1) (T := TX1) (N := 6) hx hb hts iw_X1undoBrokenRun_X1 tyX1 tyX1_ok nmX1 hown hK hP hD hS 0 rfl rfl 5 (by decide) (hts (.fieldLink RX1 32 "BackMirror" "brokenSteps" "I") (by decide +kernel)) (fun _ h9 => h9) rfl (by decide +kernel) rfl rfl (Nat.le_of_ble_eq_true rfl) dX1_undoBrokenRun_12 (fun H locs hP hD hS => ?_)
  have hP : va_P D vwCl ((x, .inr (1, [.ref lv, .ref kp, .int (nI o), .int (nI ld), .int (nI 0), .int (nI 0)])) :: (lv, .inl (cT, 6, .inr (.inr (.inr (.inr fL))))) :: (kp, .inl (cT, 246, .inr (.inr (.inr (.inr fK))))) :: FZ) H := hP
  have hD : va_D A ((x, .inr (1, [.ref lv, .ref kp, .int (nI o), .int (nI ld), .int (nI 0), .int (nI 0)])) :: (lv, .inl (cT, 6, .inr (.inr (.inr (.inr fL))))) :: (kp, .inl (cT, 246, .inr (.inr (.inr (.inr fK))))) :: FZ) := hD
  refine lv_iload_n hx hb dX1_undoBrokenRun_15 rfl (lv_at hl 0 rfl) ?_
  exact W.iret hx hb hr (fun t9 ht9 hW9 => ⟨⟨_, (), rfl, rfl, by rw [ht9]; exact hP, hD⟩, hS.F ht9⟩) hS.2.2 dX1_undoBrokenRun_16

set_option maxHeartbeats 4000000 in
set_option maxRecDepth 100000 in
theorem c_X1_mend (l : Launch) {D : va_G} {cI cT cJ : ClassId} (x lv kp : Nat) (fL fK : Nat → Option Nat) (o ld b k : Nat) (FZ : va_W) (sz : Nat) : Met l yX1_mend wsX1_mend (rmD 2 0 0) (XP D cI cT cJ [.ref x] (fun H => H.size = sz ∧ va_P D vwCl (CW cT x lv kp fL fK o ld b k FZ) H ∧ va_D (fun _ => True) (CW cT x lv kp fL fK o ld b k FZ))) (va_Qi (S := Unit) (fun r _ => r = nI k) (fun _ t => va_P D vwCl (CW cT x lv kp fL fK o ld 0 0 FZ) t.heap ∧ va_D (va_A (CW cT x lv kp fL fK o ld b k FZ) sz) (CW cT x lv kp fL fK o ld 0 0 FZ)) (va_A (CW cT x lv kp fL fK o ld b k FZ) sz)) 0 0 (va_A (CW cT x lv kp fL fK o ld b k FZ) sz) := by
  refine Met.ofW (cc := cX1_mend) (maxL := 1) (ret := (some .int)) (by decide) rfl ?_
  intro p e s m args below meth c s₁ B hml hv
  obtain ⟨rfl, ⟨hsz, hP, hD0⟩, hE⟩ := hv
  have hx := B.exec
  have hb := B.bytes
  have hr := B.returns
  have hts := atoms_spec (ws := wsX1_mend) B.pre
  have hown : s.vm.findClass RX1 = some m.cls := findClass_of_methodNamed B.named
  have hlocks := B.notSynchronized
  have hl := lv_entry ([.ref x]) (n := 1) (Nat.le_of_ble_eq_true rfl)
  rw [lg_entry_eq]
  generalize (lg_sl ([.ref x]) ++ List.replicate (1 - (lg_sl ([.ref x])).length) Slot.unset).toArray = ls at hl ⊢
  have hl : lv_has ls 1 [(0, .ref x)] := hl
  have hK := hE.1
  subst hsz
  have hD := hD0.self (sz := s.heap.size)
  generalize hAe : va_A ((CW cT x lv kp fL fK o ld b k FZ)) s.heap.size = A at hD ⊢
  have hA : ∀ q : Nat, s.heap.size ≤ q → A q := fun q h => by rw [← hAe]; exact Or.inr h
  have hS : va_S A s.heap s.heap [] := va_S.rf
  refine lv_aload_n hx hb dX1_mend_0 rfl (lv_at hl 0 rfl) ?_
  have hP : va_P D vwCl ([] ++ (CW cT x lv kp fL fK o ld b k FZ)) s.heap := hP
  have hD : va_D A ([] ++ (CW cT x lv kp fL fK o ld b k FZ)) := hD
  have hFc := xfree (wc := (CW cT x lv kp fL fK o ld b k FZ)) hD hS hA (fun _ h => List.mem_append_right _ h)
  have hPc := xP_sub (w2 := (CW cT x lv kp fL fK o ld b k FZ)) (fun _ h => List.mem_append_right _ h) hP
  have hDc : va_D (fun _ => True) (CW cT x lv kp fL fK o ld b k FZ) := (xD_sub (List.sublist_append_right _ _) hD).weaken (fun _ _ _ _ => trivial)
  refine va_calli (va_runV (As := []) (rest := []) ⟨hx, hb, hml, hown, hts⟩ (c_X1_undoBrokenRun l x lv kp fL fK o ld b k FZ s.heap.size) (cwV 0 hts gX1_mend_X1_undoBrokenRun rfl rfl rfl (by decide +kernel) ⟨(Nat.le_of_ble_eq_true rfl), (Nat.le_of_ble_eq_true rfl)⟩) ⟨XP_blind, va_recv hK hP (ci := 1) (q0 := 0) rfl rfl, XP_pre hE ⟨rfl, hPc, hDc⟩⟩ rfl rfl hl.1 rfl (lv_room (Nat.le_of_ble_eq_true rfl)) dX1_mend_1 ⟨by first | exact Nat.le_of_ble_eq_true rfl | (show _ + _ ≤ _; omega), by first | exact Nat.le_of_ble_eq_true rfl | (show _ + _ ≤ _; omega)⟩) hS (fun q9 _ h => hFc q9 h) hFc (fun r9 u t9 H1 locs ht9 hvm9 hw9 hB9 hzc hkc hS => ?_)
  obtain ⟨hP1, hD1⟩ := hB9
  rw [ht9] at hP1
  obtain ⟨hP, hD⟩ := xjoin (wr := []) (wc := (CW cT x lv kp fL fK o ld b k FZ)) (w1 := (CW cT x lv kp fL fK o ld 0 0 FZ)) hP hD hkc hFc hP1 hD1
  generalize H1 = H at hP hS ⊢
  subst hw9
  have hP : va_P D vwCl ((x, .inr (1, [.ref lv, .ref kp, .int (nI o), .int (nI ld), .int (nI 0), .int (nI 0)])) :: (lv, .inl (cT, 6, .inr (.inr (.inr (.inr fL))))) :: (kp, .inl (cT, 246, .inr (.inr (.inr (.inr fK))))) :: FZ) H := hP
  have hD : va_D A ((x, .inr (1, [.ref lv, .ref kp, .int (nI o), .int (nI ld), .int (nI 0), .int (nI 0)])) :: (lv, .inl (cT, 6, .inr (.inr (.inr (.inr fL))))) :: (kp, .inl (cT, 246, .inr (.inr (.inr (.inr fK))))) :: FZ) := hD
  exact W.iret hx hb hr (fun t9 ht9 hW9 => ⟨⟨_, (), rfl, rfl, by rw [ht9]; exact hP, hD⟩, hS.F ht9⟩) hS.2.2 dX1_mend_4

theorem rowB_comm {n1 n2 : Nat} {f g : Nat → Int32} : rowB n1 n2 f g = rowB n2 n1 g f := by
  unfold rowB
  exact decide_eq_decide.mpr ⟨fun h => ⟨h.1.symm, fun j hj => (h.2 j (by omega)).symm⟩, fun h => ⟨h.1.symm, fun j hj => (h.2 j (by omega)).symm⟩⟩
theorem sameB_comm {a b : Tv} : sameB a b = sameB b a := by
  simp only [sameB, @eq_comm _ a.1 b.1, @eq_comm _ a.2.1 b.2.1]
  rw [rowB_comm]

theorem iw_X1stepsNeeded_X1 : ∀ w ∈ u_ws RX1 TX1 6, w ∈ wsX1_stepsNeeded := by decide +kernel
set_option maxHeartbeats 4000000 in
set_option maxRecDepth 100000 in
theorem c_X1_stepsNeeded (l : Launch) {D : va_G} {cI cT cJ : ClassId} (x lv kp : Nat) (fL fK : Nat → Option Nat) (o ld b k : Nat) (FZ : va_W) (G : Nat → Tv) (hC : CA cI FZ fL fK G) (hld : ld ≤ 40) : Met l yX1_stepsNeeded wsX1_stepsNeeded (rmD 4 0 0) (XP D cI cT cJ [.ref x] (fun H => va_P D vwCl (CW cT x lv kp fL fK o ld b k FZ) H)) (XSi (fun r => r = nI (dfN G ld 6))) 0 0 (fun _ => False) := by
  refine Met.ofW (cc := cX1_stepsNeeded) (maxL := 3) (ret := (some .int)) (by decide) rfl ?_
  intro p e s m args below meth c s₁ B hml hv
  obtain ⟨rfl, hP, hE⟩ := hv
  have hx := B.exec
  have hb := B.bytes
  have hr := B.returns
  have hts := atoms_spec (ws := wsX1_stepsNeeded) B.pre
  have hown : s.vm.findClass RX1 = some m.cls := findClass_of_methodNamed B.named
  have hlocks := B.notSynchronized
  have hl := lv_entry ([.ref x]) (n := 3) (Nat.le_of_ble_eq_true rfl)
  rw [lg_entry_eq]
  generalize (lg_sl ([.ref x]) ++ List.replicate (3 - (lg_sl ([.ref x])).length) Slot.unset).toArray = ls at hl ⊢
  have hl : lv_has ls 3 [(0, .ref x)] := hl
  have hK := hE.1
  refine lv_iconst (v := nI 0) hx hb dX1_stepsNeeded_0 (by decide) ?_
  refine lv_istore_n (lv' := [(1, .int (nI 0)), (0, .ref x)]) hx hb dX1_stepsNeeded_1 rfl hl (by decide) rfl (fun ls hl => ?_)
  refine lv_iconst (v := nI 0) hx hb dX1_stepsNeeded_2 (by decide) ?_
  refine lv_istore_n (lv' := [(2, .int (nI 0)), (1, .int (nI 0)), (0, .ref x)]) hx hb dX1_stepsNeeded_3 rfl hl (by decide) rfl (fun ls hl => ?_)
  refine x_loopP (fun n ls => ∃ p j : Nat, (j + 1 = n) ∧ (6 ≤ p + j) ∧ (p ≤ 6) ∧ lv_has ls 3 [(2, .int (nI p)), (1, .int (nI (dfN G ld p))), (0, .ref x)]) (7) ⟨0, 6, rfl, by omega, by omega, lv_sub hl [0, 1, 2] rfl⟩ (fun ls h => by obtain ⟨p, j, hk, h1, h2, -⟩ := h; omega) (fun n ls h ih => ?_)
  obtain ⟨p, j, hk, h1, h2, hl⟩ := h
  have hg1 := dfN_le (G := G) (d := ld) p
  refine lv_iload_n hx hb dX1_stepsNeeded_4 rfl (lv_at hl 0 rfl) ?_
  refine lv_bipush (v := nI 6) hx hb dX1_stepsNeeded_5 (by decide) ?_
  refine lv_icmp_ge (tgt := 44) hx hb dX1_stepsNeeded_7 (by decide) (fun c7 => ?_) (fun c7 => ?_)
  · have c7 : 6 ≤ p := (xle (by omega) (by omega)).mp c7
    refine lv_iload_n hx hb dX1_stepsNeeded_44 rfl (lv_at hl 1 rfl) ?_
    exact W.iret hx hb hr (fun t9 ht9 hW9 => ⟨_, rfl, by rw [show p = 6 by omega], ht9⟩) (fun _ h => nomatch h) dX1_stepsNeeded_45
  · have c7 : ¬ 6 ≤ p := fun h => c7 ((xle (by omega) (by omega)).mpr h)
    refine lv_aload_n hx hb dX1_stepsNeeded_10 rfl (lv_at hl 2 rfl) ?_
    refine va_get (ci := 1) (v := .ref lv) (C := RX1) (T := TX1) (N := 6) hx hb hts iw_X1stepsNeeded_X1 hown hK hP 0 rfl rfl 0 (by decide) (hts (.fieldLink RX1 14 "BackMirror" "live" "[LBackMirror$Thing;") (by decide +kernel)) (fun _ h9 => h9) rfl dX1_stepsNeeded_11 ?_
    refine lv_iload_n hx hb dX1_stepsNeeded_14 rfl (lv_at hl 0 rfl) ?_
    refine va_aldq hx hb hK hP 1 1 rfl rfl (xin (by omega) (by omega)) dX1_stepsNeeded_15 ?_
    obtain ⟨a1, ha1, hT1⟩ := hC.2 (p) (by omega)
    refine x_toprf (y := a1) (by rw [nI_clamp (by omega)]; exact ha1) ?_
    obtain ⟨hz1, q1, f1, hm1, hr1, he1⟩ := hT1
    refine lv_aload_n hx hb dX1_stepsNeeded_16 rfl (lv_at hl 2 rfl) ?_
    refine va_get (ci := 1) (v := .ref kp) (C := RX1) (T := TX1) (N := 6) hx hb hts iw_X1stepsNeeded_X1 hown hK hP 0 rfl rfl 1 (by decide) (hts (.fieldLink RX1 18 "BackMirror" "kept" "[LBackMirror$Thing;") (by decide +kernel)) (fun _ h9 => h9) rfl dX1_stepsNeeded_17 ?_
    refine lv_aload_n hx hb dX1_stepsNeeded_20 rfl (lv_at hl 2 rfl) ?_
    refine va_get (ci := 1) (v := .int (nI ld)) (C := RX1) (T := TX1) (N := 6) hx hb hts iw_X1stepsNeeded_X1 hown hK hP 0 rfl rfl 3 (by decide) (hts (.fieldLink RX1 25 "BackMirror" "lastDate" "I") (by decide +kernel)) (fun _ h9 => h9) rfl dX1_stepsNeeded_21 ?_
    refine lv_iload_n hx hb dX1_stepsNeeded_24 rfl (lv_at hl 0 rfl) ?_
    refine xc_sie (va_runS (As := [.int (nI ld), .int (nI p)]) (rest := [.ref kp, .ref a1]) ⟨hx, hb, hml, hown, hts⟩ (c_X1_keptIndex l ld p) (va_cwS 2 hts gX1_stepsNeeded_X1_keptIndex rfl rfl rfl (by decide +kernel) ⟨(Nat.le_of_ble_eq_true rfl), (Nat.le_of_ble_eq_true rfl)⟩) ⟨XP_blind, XP_pre hE trivial⟩ rfl rfl hl.1 rfl (lv_room (Nat.le_of_ble_eq_true rfl)) dX1_stepsNeeded_25 ⟨Nat.le_of_ble_eq_true rfl, Nat.le_of_ble_eq_true rfl⟩) ?_
    refine va_aldq hx hb hK hP 2 1 rfl rfl (xin (by omega) (by omega)) dX1_stepsNeeded_28 ?_
    obtain ⟨a2, ha2, hT2⟩ := hC.1 (6 * ld + p) (by omega)
    refine x_toprf (y := a2) (by rw [nI_clamp (by omega)]; exact ha2) ?_
    obtain ⟨hz2, q2, f2, hm2, hr2, he2⟩ := hT2
    refine xc_sie (va_runV (As := [.ref a2]) (rest := []) ⟨hx, hb, hml, hown, hts⟩ (c_X0_isLike l a1 q1 a2 q2 ((G (246 + p)).2.2.1) ((G (6 * ld + p)).2.2.1) ((G (246 + p)).1) ((G (246 + p)).2.1) ((G (6 * ld + p)).1) ((G (6 * ld + p)).2.1) f1 f2 (by omega) (by omega)) (cwV 1 hts gX1_stepsNeeded_X0_isLike rfl rfl rfl (by decide +kernel) ⟨(Nat.le_of_ble_eq_true rfl), (Nat.le_of_ble_eq_true rfl)⟩) ⟨XP_blind, va_recv hK (x1 hP (xm3 hm1)) (ci := 0) (q0 := 0) rfl rfl, XP_pre hE (x4 hP (xm3 hm1) (xm3 hr1) (xm3 hm2) (xm3 hr2))⟩ rfl rfl hl.1 rfl (lv_room (Nat.le_of_ble_eq_true rfl)) dX1_stepsNeeded_29 ⟨Nat.le_of_ble_eq_true rfl, Nat.le_of_ble_eq_true rfl⟩) ?_
    refine x_top (nI (bN (sameB (G (246 + p)) (G (6 * ld + p))))) (by rw [sameB_congr he1 he2]) ?_
    refine lv_if_ne (tgt := 38) hx hb dX1_stepsNeeded_32 (by decide) (fun c32 => ?_) (fun c32 => ?_)
    · have c32 : (sameB (G (246 + p)) (G (6 * ld + p))) = true := bN_t c32
      refine lv_iinc (v := nI (p + 1)) (lv' := [(2, .int (nI (p + 1))), (1, .int (nI (dfN G ld p))), (0, .ref x)]) hx hb dX1_stepsNeeded_38 hl (k := 0) rfl (xinc _ 1 _ (by decide)) (by decide) rfl (fun ls hl => ?_)
      refine lv_goto (tgt := 4) hx hb dX1_stepsNeeded_41 (by decide) ?_
      have hw : dfN G ld p = dfN G ld (p + 1) := by simp only [dfN]; rw [sameB_comm, c32]; rfl
      rw [hw] at hl
      exact ih _ ⟨p + 1, j - 1, by omega, by omega, by omega, lv_sub hl [0, 1, 2] rfl⟩
    · have c32 : (sameB (G (246 + p)) (G (6 * ld + p))) = false := bN_f c32
      refine lv_iinc (v := nI (dfN G ld p + 1)) (lv' := [(1, .int (nI (dfN G ld p + 1))), (2, .int (nI p)), (0, .ref x)]) hx hb dX1_stepsNeeded_35 hl (k := 1) rfl (xinc _ 1 _ (by decide)) (by decide) rfl (fun ls hl => ?_)
      refine lv_iinc (v := nI (p + 1)) (lv' := [(2, .int (nI (p + 1))), (1, .int (nI (dfN G ld p + 1))), (0, .ref x)]) hx hb dX1_stepsNeeded_38 hl (k := 1) rfl (xinc _ 1 _ (by decide)) (by decide) rfl (fun ls hl => ?_)
      refine lv_goto (tgt := 4) hx hb dX1_stepsNeeded_41 (by decide) ?_
      have hw : dfN G ld p + 1 = dfN G ld (p + 1) := by simp only [dfN]; rw [sameB_comm, c32]; rfl
      rw [hw] at hl
      exact ih _ ⟨p + 1, j - 1, by omega, by omega, by omega, lv_sub hl [0, 1, 2] rfl⟩

set_option maxHeartbeats 4000000 in
set_option maxRecDepth 100000 in
theorem c_X1_needs (l : Launch) {D : va_G} {cI cT cJ : ClassId} (x lv kp : Nat) (fL fK : Nat → Option Nat) (o ld b k : Nat) (FZ : va_W) (G : Nat → Tv) (hC : CA cI FZ fL fK G) (hld : ld ≤ 40) : Met l yX1_needs wsX1_needs (rmD 5 0 0) (XP D cI cT cJ [.ref x] (fun H => va_P D vwCl (CW cT x lv kp fL fK o ld b k FZ) H)) (XSi (fun r => r = nI (dfN G ld 6))) 0 0 (fun _ => False) := by
  refine Met.ofW (cc := cX1_needs) (maxL := 1) (ret := (some .int)) (by decide) rfl ?_
  intro p e s m args below meth c s₁ B hml hv
  obtain ⟨rfl, hP, hE⟩ := hv
  have hx := B.exec
  have hb := B.bytes
  have hr := B.returns
  have hts := atoms_spec (ws := wsX1_needs) B.pre
  have hown : s.vm.findClass RX1 = some m.cls := findClass_of_methodNamed B.named
  have hlocks := B.notSynchronized
  have hl := lv_entry ([.ref x]) (n := 1) (Nat.le_of_ble_eq_true rfl)
  rw [lg_entry_eq]
  generalize (lg_sl ([.ref x]) ++ List.replicate (1 - (lg_sl ([.ref x])).length) Slot.unset).toArray = ls at hl ⊢
  have hl : lv_has ls 1 [(0, .ref x)] := hl
  have hK := hE.1
  refine lv_aload_n hx hb dX1_needs_0 rfl (lv_at hl 0 rfl) ?_
  refine xc_sie (va_runV (As := []) (rest := []) ⟨hx, hb, hml, hown, hts⟩ (c_X1_stepsNeeded l x lv kp fL fK o ld b k FZ G hC (by omega)) (cwV 0 hts gX1_needs_X1_stepsNeeded rfl rfl rfl (by decide +kernel) ⟨(Nat.le_of_ble_eq_true rfl), (Nat.le_of_ble_eq_true rfl)⟩) ⟨XP_blind, va_recv hK hP (ci := 1) (q0 := 0) rfl rfl, XP_pre hE hP⟩ rfl rfl hl.1 rfl (lv_room (Nat.le_of_ble_eq_true rfl)) dX1_needs_1 ⟨Nat.le_of_ble_eq_true rfl, Nat.le_of_ble_eq_true rfl⟩) ?_
  exact W.iret hx hb hr (fun t9 ht9 hW9 => ⟨_, rfl, rfl, ht9⟩) (fun _ h => nomatch h) dX1_needs_4

theorem iw_X1differenceTakes_X0 : ∀ w ∈ u_ws RX0 TX0 3, w ∈ wsX1_differenceTakes := by decide +kernel
theorem iw_X1differenceTakes_X1 : ∀ w ∈ u_ws RX1 TX1 6, w ∈ wsX1_differenceTakes := by decide +kernel
set_option maxHeartbeats 4000000 in
set_option maxRecDepth 100000 in
theorem c_X1_differenceTakes (l : Launch) {D : va_G} {cI cT cJ : ClassId} (x lv kp : Nat) (fL fK : Nat → Option Nat) (o ld b k : Nat) (FZ : va_W) (G : Nat → Tv) (hC : CA cI FZ fL fK G) (d w : Nat) (hld : ld ≤ 40) (hdd : d ≤ 40) (hpp : w < 6) : Met l yX1_differenceTakes wsX1_differenceTakes (rmD 5 0 0) (XP D cI cT cJ [.ref x, .int (nI d), .int (nI w)] (fun H => va_P D vwCl (CW cT x lv kp fL fK o ld b k FZ) H)) (XSi (fun r => r = nI (difW G ld d w))) 0 0 (fun _ => False) := by
  refine Met.ofW (cc := cX1_differenceTakes) (maxL := 6) (ret := (some .int)) (by decide) rfl ?_
  intro p e s m args below meth c s₁ B hml hv
  obtain ⟨rfl, hP, hE⟩ := hv
  have hx := B.exec
  have hb := B.bytes
  have hr := B.returns
  have hts := atoms_spec (ws := wsX1_differenceTakes) B.pre
  have hown : s.vm.findClass RX1 = some m.cls := findClass_of_methodNamed B.named
  have hlocks := B.notSynchronized
  have hl := lv_entry ([.ref x, .int (nI d), .int (nI w)]) (n := 6) (Nat.le_of_ble_eq_true rfl)
  rw [lg_entry_eq]
  generalize (lg_sl ([.ref x, .int (nI d), .int (nI w)]) ++ List.replicate (6 - (lg_sl ([.ref x, .int (nI d), .int (nI w)])).length) Slot.unset).toArray = ls at hl ⊢
  have hl : lv_has ls 6 [(0, .ref x), (1, .int (nI d)), (2, .int (nI w))] := hl
  have hK := hE.1
  refine lv_iload_n hx hb dX1_differenceTakes_0 rfl (lv_at hl 1 rfl) ?_
  refine lv_aload_n hx hb dX1_differenceTakes_1 rfl (lv_at hl 0 rfl) ?_
  refine va_get (ci := 1) (v := .int (nI ld)) (C := RX1) (T := TX1) (N := 6) hx hb hts iw_X1differenceTakes_X1 hown hK hP 0 rfl rfl 3 (by decide) (hts (.fieldLink RX1 25 "BackMirror" "lastDate" "I") (by decide +kernel)) (fun _ h9 => h9) rfl dX1_differenceTakes_2 ?_
  refine lv_icmp_lt (tgt := 10) hx hb dX1_differenceTakes_5 (by decide) (fun c5 => ?_) (fun c5 => ?_)
  · have c5 : d < ld := (xlt (by omega) (by omega)).mp c5
    refine lv_aload_n hx hb dX1_differenceTakes_10 rfl (lv_at hl 0 rfl) ?_
    refine va_get (ci := 1) (v := .ref kp) (C := RX1) (T := TX1) (N := 6) hx hb hts iw_X1differenceTakes_X1 hown hK hP 0 rfl rfl 1 (by decide) (hts (.fieldLink RX1 18 "BackMirror" "kept" "[LBackMirror$Thing;") (by decide +kernel)) (fun _ h9 => h9) rfl dX1_differenceTakes_11 ?_
    refine lv_iload_n hx hb dX1_differenceTakes_14 rfl (lv_at hl 1 rfl) ?_
    refine lv_iload_n hx hb dX1_differenceTakes_15 rfl (lv_at hl 2 rfl) ?_
    refine xc_sie (va_runS (As := [.int (nI d), .int (nI w)]) (rest := [.ref kp]) ⟨hx, hb, hml, hown, hts⟩ (c_X1_keptIndex l d w) (va_cwS 2 hts gX1_differenceTakes_X1_keptIndex rfl rfl rfl (by decide +kernel) ⟨(Nat.le_of_ble_eq_true rfl), (Nat.le_of_ble_eq_true rfl)⟩) ⟨XP_blind, XP_pre hE trivial⟩ rfl rfl hl.1 rfl (lv_room (Nat.le_of_ble_eq_true rfl)) dX1_differenceTakes_16 ⟨Nat.le_of_ble_eq_true rfl, Nat.le_of_ble_eq_true rfl⟩) ?_
    refine va_aldq hx hb hK hP 2 1 rfl rfl (xin (by omega) (by omega)) dX1_differenceTakes_19 ?_
    obtain ⟨a1, ha1, hT1⟩ := hC.1 (6 * d + w) (by omega)
    refine x_toprf (y := a1) (by rw [nI_clamp (by omega)]; exact ha1) ?_
    obtain ⟨hz1, q1, f1, hm1, hr1, he1⟩ := hT1
    refine lv_astore_n (lv' := [(3, .ref a1), (0, .ref x), (1, .int (nI d)), (2, .int (nI w))]) hx hb dX1_differenceTakes_20 rfl hl (by decide) rfl (fun ls hl => ?_)
    refine lv_aload_n hx hb dX1_differenceTakes_21 rfl (lv_at hl 1 rfl) ?_
    refine va_get (ci := 1) (v := .ref kp) (C := RX1) (T := TX1) (N := 6) hx hb hts iw_X1differenceTakes_X1 hown hK hP 0 rfl rfl 1 (by decide) (hts (.fieldLink RX1 18 "BackMirror" "kept" "[LBackMirror$Thing;") (by decide +kernel)) (fun _ h9 => h9) rfl dX1_differenceTakes_22 ?_
    refine lv_iload_n hx hb dX1_differenceTakes_25 rfl (lv_at hl 2 rfl) ?_
    refine lv_iconst (v := nI 1) hx hb dX1_differenceTakes_26 (by decide) ?_
    refine lv_iadd hx hb dX1_differenceTakes_27 ?_
    refine x_top (nI (d + 1)) (xadd (by omega)) ?_
    refine lv_iload_n hx hb dX1_differenceTakes_28 rfl (lv_at hl 3 rfl) ?_
    refine xc_sie (va_runS (As := [.int (nI (d + 1)), .int (nI w)]) (rest := [.ref kp]) ⟨hx, hb, hml, hown, hts⟩ (c_X1_keptIndex l (d + 1) w) (va_cwS 2 hts gX1_differenceTakes_X1_keptIndex rfl rfl rfl (by decide +kernel) ⟨(Nat.le_of_ble_eq_true rfl), (Nat.le_of_ble_eq_true rfl)⟩) ⟨XP_blind, XP_pre hE trivial⟩ rfl rfl hl.1 rfl (lv_room (Nat.le_of_ble_eq_true rfl)) dX1_differenceTakes_29 ⟨Nat.le_of_ble_eq_true rfl, Nat.le_of_ble_eq_true rfl⟩) ?_
    refine va_aldq hx hb hK hP 2 1 rfl rfl (xin (by omega) (by omega)) dX1_differenceTakes_32 ?_
    obtain ⟨a2, ha2, hT2⟩ := hC.1 (6 * (d + 1) + w) (by omega)
    refine x_toprf (y := a2) (by rw [nI_clamp (by omega)]; exact ha2) ?_
    obtain ⟨hz2, q2, f2, hm2, hr2, he2⟩ := hT2
    refine lv_astore (lv' := [(4, .ref a2), (3, .ref a1), (0, .ref x), (1, .int (nI d)), (2, .int (nI w))]) hx hb dX1_differenceTakes_33 hl (by decide) rfl (fun ls hl => ?_)
    refine lv_aload_n hx hb dX1_differenceTakes_35 rfl (lv_at hl 1 rfl) ?_
    refine lv_aload hx hb dX1_differenceTakes_36 (lv_at hl 0 rfl) ?_
    refine xc_sie (va_runV (As := [.ref a2]) (rest := []) ⟨hx, hb, hml, hown, hts⟩ (c_X0_isLike l a1 q1 a2 q2 ((G (6 * d + w)).2.2.1) ((G (6 * (d + 1) + w)).2.2.1) ((G (6 * d + w)).1) ((G (6 * d + w)).2.1) ((G (6 * (d + 1) + w)).1) ((G (6 * (d + 1) + w)).2.1) f1 f2 (by omega) (by omega)) (cwV 1 hts gX1_differenceTakes_X0_isLike rfl rfl rfl (by decide +kernel) ⟨(Nat.le_of_ble_eq_true rfl), (Nat.le_of_ble_eq_true rfl)⟩) ⟨XP_blind, va_recv hK (x1 hP (xm3 hm1)) (ci := 0) (q0 := 0) rfl rfl, XP_pre hE (x4 hP (xm3 hm1) (xm3 hr1) (xm3 hm2) (xm3 hr2))⟩ rfl rfl hl.1 rfl (lv_room (Nat.le_of_ble_eq_true rfl)) dX1_differenceTakes_38 ⟨Nat.le_of_ble_eq_true rfl, Nat.le_of_ble_eq_true rfl⟩) ?_
    refine x_top (nI (bN (sameB (G (6 * d + w)) (G (6 * (d + 1) + w))))) (by rw [sameB_congr he1 he2]) ?_
    refine lv_if_eq (tgt := 46) hx hb dX1_differenceTakes_41 (by decide) (fun c41 => ?_) (fun c41 => ?_)
    · have c41 : (sameB (G (6 * d + w)) (G (6 * (d + 1) + w))) = false := bN_f c41
      refine lv_aload_n hx hb dX1_differenceTakes_46 rfl (lv_at hl 1 rfl) ?_
      refine va_get (ci := 0) (v := .int ((G (6 * d + w)).2.1)) (C := RX0) (T := TX0) (N := 3) hx hb hts iw_X1differenceTakes_X0 hown hK (x1 hP (xm3 hm1)) 0 rfl rfl 1 (by decide) (hts (.fieldLink RX1 62 "BackMirror$Thing" "rights" "I") (by decide +kernel)) (fun _ h9 => h9) rfl dX1_differenceTakes_47 ?_
      refine lv_aload hx hb dX1_differenceTakes_50 (lv_at hl 0 rfl) ?_
      refine va_get (ci := 0) (v := .int ((G (6 * (d + 1) + w)).2.1)) (C := RX0) (T := TX0) (N := 3) hx hb hts iw_X1differenceTakes_X0 hown hK (x1 hP (xm3 hm2)) 0 rfl rfl 1 (by decide) (hts (.fieldLink RX1 62 "BackMirror$Thing" "rights" "I") (by decide +kernel)) (fun _ h9 => h9) rfl dX1_differenceTakes_52 ?_
      refine lv_icmp_ne (tgt := 62) hx hb dX1_differenceTakes_55 (by decide) (fun c55 => ?_) (fun c55 => ?_)
      · refine lv_iconst (v := nI 1) hx hb dX1_differenceTakes_62 (by decide) ?_
        refine lv_istore (lv' := [(5, .int (nI 1)), (4, .ref a2), (3, .ref a1), (0, .ref x), (1, .int (nI d)), (2, .int (nI w))]) hx hb dX1_differenceTakes_63 hl (by decide) rfl (fun ls hl => ?_)
        refine lv_aload_n hx hb dX1_differenceTakes_65 rfl (lv_at hl 2 rfl) ?_
        refine va_get (ci := 0) (v := .int ((G (6 * d + w)).1)) (C := RX0) (T := TX0) (N := 3) hx hb hts iw_X1differenceTakes_X0 hown hK (x1 hP (xm3 hm1)) 0 rfl rfl 0 (by decide) (hts (.fieldLink RX1 47 "BackMirror$Thing" "kind" "I") (by decide +kernel)) (fun _ h9 => h9) rfl dX1_differenceTakes_66 ?_
        refine lv_iconst (v := nI 1) hx hb dX1_differenceTakes_69 (by decide) ?_
        refine lv_icmp_ne (tgt := 98) hx hb dX1_differenceTakes_70 (by decide) (fun c70 => ?_) (fun c70 => ?_)
        · refine lv_iload hx hb dX1_differenceTakes_98 (lv_at hl 0 rfl) ?_
          refine lv_aload_n hx hb dX1_differenceTakes_100 rfl (lv_at hl 2 rfl) ?_
          refine va_get (ci := 0) (v := .int ((G (6 * d + w)).1)) (C := RX0) (T := TX0) (N := 3) hx hb hts iw_X1differenceTakes_X0 hown hK (x1 hP (xm3 hm1)) 0 rfl rfl 0 (by decide) (hts (.fieldLink RX1 47 "BackMirror$Thing" "kind" "I") (by decide +kernel)) (fun _ h9 => h9) rfl dX1_differenceTakes_101 ?_
          refine lv_iconst (v := nI 1) hx hb dX1_differenceTakes_104 (by decide) ?_
          refine lv_icmp_ne (tgt := 118) hx hb dX1_differenceTakes_105 (by decide) (fun c105 => ?_) (fun c105 => ?_)
          · refine lv_iconst (v := nI 1) hx hb dX1_differenceTakes_118 (by decide) ?_
            refine lv_iadd hx hb dX1_differenceTakes_119 ?_
            refine x_top (nI 2) (xadd (by omega)) ?_
            exact W.iret hx hb hr (fun t9 ht9 hW9 => ⟨_, rfl, by first | exact absurd c70 c105 | exact absurd c105 c70 | (unfold difW dif; (repeat (first | rw [if_pos (by first | assumption | omega)] | rw [if_neg (by first | assumption | omega)] | rw [if_neg (by rw [c41]; decide)] | rw [if_pos ⟨by assumption, by assumption⟩] | rw [if_neg (fun h => absurd h.1 (by assumption))] | rw [if_neg (fun h => absurd h.2 (by assumption))])); all_goals (first | rfl | (congr 1; omega))), ht9⟩) (fun _ h => nomatch h) dX1_differenceTakes_120
          · refine lv_aload_n hx hb dX1_differenceTakes_108 rfl (lv_at hl 2 rfl) ?_
            refine va_get (ci := 0) (v := .ref q1) (C := RX0) (T := TX0) (N := 3) hx hb hts iw_X1differenceTakes_X0 hown hK (x1 hP (xm3 hm1)) 0 rfl rfl 2 (by decide) (hts (.fieldLink RX1 43 "BackMirror$Thing" "numbers" "[I") (by decide +kernel)) (fun _ h9 => h9) rfl dX1_differenceTakes_109 ?_
            refine va_alen hx hb hK (x1 hP (xm3 hr1)) 0 0 rfl rfl (v := nI ((G (6 * d + w)).2.2.1)) rfl dX1_differenceTakes_112 ?_
            refine lv_iconst (v := nI 1) hx hb dX1_differenceTakes_113 (by decide) ?_
            refine lv_iadd hx hb dX1_differenceTakes_114 ?_
            refine x_top (nI (((G (6 * d + w)).2.2.1) + 1)) (xadd (by omega)) ?_
            refine lv_goto (tgt := 119) hx hb dX1_differenceTakes_115 (by decide) ?_
            refine lv_iadd hx hb dX1_differenceTakes_119 ?_
            refine x_top (nI (1 + (((G (6 * d + w)).2.2.1) + 1))) (xadd (by omega)) ?_
            exact W.iret hx hb hr (fun t9 ht9 hW9 => ⟨_, rfl, by first | exact absurd c70 c105 | exact absurd c105 c70 | (unfold difW dif; (repeat (first | rw [if_pos (by first | assumption | omega)] | rw [if_neg (by first | assumption | omega)] | rw [if_neg (by rw [c41]; decide)] | rw [if_pos ⟨by assumption, by assumption⟩] | rw [if_neg (fun h => absurd h.1 (by assumption))] | rw [if_neg (fun h => absurd h.2 (by assumption))])); all_goals (first | rfl | (congr 1; omega))), ht9⟩) (fun _ h => nomatch h) dX1_differenceTakes_120
        · refine lv_aload hx hb dX1_differenceTakes_73 (lv_at hl 1 rfl) ?_
          refine va_get (ci := 0) (v := .int ((G (6 * (d + 1) + w)).1)) (C := RX0) (T := TX0) (N := 3) hx hb hts iw_X1differenceTakes_X0 hown hK (x1 hP (xm3 hm2)) 0 rfl rfl 0 (by decide) (hts (.fieldLink RX1 47 "BackMirror$Thing" "kind" "I") (by decide +kernel)) (fun _ h9 => h9) rfl dX1_differenceTakes_75 ?_
          refine lv_iconst (v := nI 1) hx hb dX1_differenceTakes_78 (by decide) ?_
          refine lv_icmp_ne (tgt := 98) hx hb dX1_differenceTakes_79 (by decide) (fun c79 => ?_) (fun c79 => ?_)
          · refine lv_iload hx hb dX1_differenceTakes_98 (lv_at hl 0 rfl) ?_
            refine lv_aload_n hx hb dX1_differenceTakes_100 rfl (lv_at hl 2 rfl) ?_
            refine va_get (ci := 0) (v := .int ((G (6 * d + w)).1)) (C := RX0) (T := TX0) (N := 3) hx hb hts iw_X1differenceTakes_X0 hown hK (x1 hP (xm3 hm1)) 0 rfl rfl 0 (by decide) (hts (.fieldLink RX1 47 "BackMirror$Thing" "kind" "I") (by decide +kernel)) (fun _ h9 => h9) rfl dX1_differenceTakes_101 ?_
            refine lv_iconst (v := nI 1) hx hb dX1_differenceTakes_104 (by decide) ?_
            refine lv_icmp_ne (tgt := 118) hx hb dX1_differenceTakes_105 (by decide) (fun c105 => ?_) (fun c105 => ?_)
            · refine lv_iconst (v := nI 1) hx hb dX1_differenceTakes_118 (by decide) ?_
              refine lv_iadd hx hb dX1_differenceTakes_119 ?_
              refine x_top (nI 2) (xadd (by omega)) ?_
              exact W.iret hx hb hr (fun t9 ht9 hW9 => ⟨_, rfl, by first | exact absurd c70 c105 | exact absurd c105 c70 | (unfold difW dif; (repeat (first | rw [if_pos (by first | assumption | omega)] | rw [if_neg (by first | assumption | omega)] | rw [if_neg (by rw [c41]; decide)] | rw [if_pos ⟨by assumption, by assumption⟩] | rw [if_neg (fun h => absurd h.1 (by assumption))] | rw [if_neg (fun h => absurd h.2 (by assumption))])); all_goals (first | rfl | (congr 1; omega))), ht9⟩) (fun _ h => nomatch h) dX1_differenceTakes_120
            · refine lv_aload_n hx hb dX1_differenceTakes_108 rfl (lv_at hl 2 rfl) ?_
              refine va_get (ci := 0) (v := .ref q1) (C := RX0) (T := TX0) (N := 3) hx hb hts iw_X1differenceTakes_X0 hown hK (x1 hP (xm3 hm1)) 0 rfl rfl 2 (by decide) (hts (.fieldLink RX1 43 "BackMirror$Thing" "numbers" "[I") (by decide +kernel)) (fun _ h9 => h9) rfl dX1_differenceTakes_109 ?_
              refine va_alen hx hb hK (x1 hP (xm3 hr1)) 0 0 rfl rfl (v := nI ((G (6 * d + w)).2.2.1)) rfl dX1_differenceTakes_112 ?_
              refine lv_iconst (v := nI 1) hx hb dX1_differenceTakes_113 (by decide) ?_
              refine lv_iadd hx hb dX1_differenceTakes_114 ?_
              refine x_top (nI (((G (6 * d + w)).2.2.1) + 1)) (xadd (by omega)) ?_
              refine lv_goto (tgt := 119) hx hb dX1_differenceTakes_115 (by decide) ?_
              refine lv_iadd hx hb dX1_differenceTakes_119 ?_
              refine x_top (nI (1 + (((G (6 * d + w)).2.2.1) + 1))) (xadd (by omega)) ?_
              exact W.iret hx hb hr (fun t9 ht9 hW9 => ⟨_, rfl, by first | exact absurd c70 c105 | exact absurd c105 c70 | (unfold difW dif; (repeat (first | rw [if_pos (by first | assumption | omega)] | rw [if_neg (by first | assumption | omega)] | rw [if_neg (by rw [c41]; decide)] | rw [if_pos ⟨by assumption, by assumption⟩] | rw [if_neg (fun h => absurd h.1 (by assumption))] | rw [if_neg (fun h => absurd h.2 (by assumption))])); all_goals (first | rfl | (congr 1; omega))), ht9⟩) (fun _ h => nomatch h) dX1_differenceTakes_120
          · refine lv_iload hx hb dX1_differenceTakes_82 (lv_at hl 0 rfl) ?_
            refine lv_aload_n hx hb dX1_differenceTakes_84 rfl (lv_at hl 2 rfl) ?_
            refine va_get (ci := 0) (v := .ref q1) (C := RX0) (T := TX0) (N := 3) hx hb hts iw_X1differenceTakes_X0 hown hK (x1 hP (xm3 hm1)) 0 rfl rfl 2 (by decide) (hts (.fieldLink RX1 43 "BackMirror$Thing" "numbers" "[I") (by decide +kernel)) (fun _ h9 => h9) rfl dX1_differenceTakes_85 ?_
            refine lv_aload hx hb dX1_differenceTakes_88 (lv_at hl 1 rfl) ?_
            refine va_get (ci := 0) (v := .ref q2) (C := RX0) (T := TX0) (N := 3) hx hb hts iw_X1differenceTakes_X0 hown hK (x1 hP (xm3 hm2)) 0 rfl rfl 2 (by decide) (hts (.fieldLink RX1 43 "BackMirror$Thing" "numbers" "[I") (by decide +kernel)) (fun _ h9 => h9) rfl dX1_differenceTakes_90 ?_
            refine xc_sie (va_runS (As := [.ref q1, .ref q2]) (rest := [.int (nI 1)]) ⟨hx, hb, hml, hown, hts⟩ (c_X1_rowTakes l q1 q2 (G (6 * d + w)).2.2.1 (G (6 * (d + 1) + w)).2.2.1 f1 f2 (by omega) (by omega)) (va_cwS 2 hts gX1_differenceTakes_X1_rowTakes rfl rfl rfl (by decide +kernel) ⟨(Nat.le_of_ble_eq_true rfl), (Nat.le_of_ble_eq_true rfl)⟩) ⟨XP_blind, XP_pre hE (x2 hP (xm3 hr1) (xm3 hr2))⟩ rfl rfl hl.1 rfl (lv_room (Nat.le_of_ble_eq_true rfl)) dX1_differenceTakes_93 ⟨Nat.le_of_ble_eq_true rfl, Nat.le_of_ble_eq_true rfl⟩) ?_
            refine x_top (nI (tak (G (6 * d + w)).2.2.2 (G (6 * (d + 1) + w)).2.2.2 (G (6 * d + w)).2.2.1 (G (6 * (d + 1) + w)).2.2.1 (G (6 * d + w)).2.2.1 0)) (by rw [tak_congr he1 he2]) ?_
            refine lv_iadd hx hb dX1_differenceTakes_96 ?_
            refine x_top (nI (1 + (tak (G (6 * d + w)).2.2.2 (G (6 * (d + 1) + w)).2.2.2 (G (6 * d + w)).2.2.1 (G (6 * (d + 1) + w)).2.2.1 (G (6 * d + w)).2.2.1 0))) (xadd (by omega)) ?_
            exact W.iret hx hb hr (fun t9 ht9 hW9 => ⟨_, rfl, by first | exact absurd c70 c105 | exact absurd c105 c70 | (unfold difW dif; (repeat (first | rw [if_pos (by first | assumption | omega)] | rw [if_neg (by first | assumption | omega)] | rw [if_neg (by rw [c41]; decide)] | rw [if_pos ⟨by assumption, by assumption⟩] | rw [if_neg (fun h => absurd h.1 (by assumption))] | rw [if_neg (fun h => absurd h.2 (by assumption))])); all_goals (first | rfl | (congr 1; omega))), ht9⟩) (fun _ h => nomatch h) dX1_differenceTakes_97
      · refine lv_iconst (v := nI 0) hx hb dX1_differenceTakes_58 (by decide) ?_
        refine lv_goto (tgt := 63) hx hb dX1_differenceTakes_59 (by decide) ?_
        refine lv_istore (lv' := [(5, .int (nI 0)), (4, .ref a2), (3, .ref a1), (0, .ref x), (1, .int (nI d)), (2, .int (nI w))]) hx hb dX1_differenceTakes_63 hl (by decide) rfl (fun ls hl => ?_)
        refine lv_aload_n hx hb dX1_differenceTakes_65 rfl (lv_at hl 2 rfl) ?_
        refine va_get (ci := 0) (v := .int ((G (6 * d + w)).1)) (C := RX0) (T := TX0) (N := 3) hx hb hts iw_X1differenceTakes_X0 hown hK (x1 hP (xm3 hm1)) 0 rfl rfl 0 (by decide) (hts (.fieldLink RX1 47 "BackMirror$Thing" "kind" "I") (by decide +kernel)) (fun _ h9 => h9) rfl dX1_differenceTakes_66 ?_
        refine lv_iconst (v := nI 1) hx hb dX1_differenceTakes_69 (by decide) ?_
        refine lv_icmp_ne (tgt := 98) hx hb dX1_differenceTakes_70 (by decide) (fun c70 => ?_) (fun c70 => ?_)
        · refine lv_iload hx hb dX1_differenceTakes_98 (lv_at hl 0 rfl) ?_
          refine lv_aload_n hx hb dX1_differenceTakes_100 rfl (lv_at hl 2 rfl) ?_
          refine va_get (ci := 0) (v := .int ((G (6 * d + w)).1)) (C := RX0) (T := TX0) (N := 3) hx hb hts iw_X1differenceTakes_X0 hown hK (x1 hP (xm3 hm1)) 0 rfl rfl 0 (by decide) (hts (.fieldLink RX1 47 "BackMirror$Thing" "kind" "I") (by decide +kernel)) (fun _ h9 => h9) rfl dX1_differenceTakes_101 ?_
          refine lv_iconst (v := nI 1) hx hb dX1_differenceTakes_104 (by decide) ?_
          refine lv_icmp_ne (tgt := 118) hx hb dX1_differenceTakes_105 (by decide) (fun c105 => ?_) (fun c105 => ?_)
          · refine lv_iconst (v := nI 1) hx hb dX1_differenceTakes_118 (by decide) ?_
            refine lv_iadd hx hb dX1_differenceTakes_119 ?_
            refine x_top (nI 1) (xadd (by omega)) ?_
            exact W.iret hx hb hr (fun t9 ht9 hW9 => ⟨_, rfl, by first | exact absurd c70 c105 | exact absurd c105 c70 | (unfold difW dif; (repeat (first | rw [if_pos (by first | assumption | omega)] | rw [if_neg (by first | assumption | omega)] | rw [if_neg (by rw [c41]; decide)] | rw [if_pos ⟨by assumption, by assumption⟩] | rw [if_neg (fun h => absurd h.1 (by assumption))] | rw [if_neg (fun h => absurd h.2 (by assumption))])); all_goals (first | rfl | (congr 1; omega))), ht9⟩) (fun _ h => nomatch h) dX1_differenceTakes_120
          · refine lv_aload_n hx hb dX1_differenceTakes_108 rfl (lv_at hl 2 rfl) ?_
            refine va_get (ci := 0) (v := .ref q1) (C := RX0) (T := TX0) (N := 3) hx hb hts iw_X1differenceTakes_X0 hown hK (x1 hP (xm3 hm1)) 0 rfl rfl 2 (by decide) (hts (.fieldLink RX1 43 "BackMirror$Thing" "numbers" "[I") (by decide +kernel)) (fun _ h9 => h9) rfl dX1_differenceTakes_109 ?_
            refine va_alen hx hb hK (x1 hP (xm3 hr1)) 0 0 rfl rfl (v := nI ((G (6 * d + w)).2.2.1)) rfl dX1_differenceTakes_112 ?_
            refine lv_iconst (v := nI 1) hx hb dX1_differenceTakes_113 (by decide) ?_
            refine lv_iadd hx hb dX1_differenceTakes_114 ?_
            refine x_top (nI (((G (6 * d + w)).2.2.1) + 1)) (xadd (by omega)) ?_
            refine lv_goto (tgt := 119) hx hb dX1_differenceTakes_115 (by decide) ?_
            refine lv_iadd hx hb dX1_differenceTakes_119 ?_
            refine x_top (nI (((G (6 * d + w)).2.2.1) + 1)) (xadd (by omega)) ?_
            exact W.iret hx hb hr (fun t9 ht9 hW9 => ⟨_, rfl, by first | exact absurd c70 c105 | exact absurd c105 c70 | (unfold difW dif; (repeat (first | rw [if_pos (by first | assumption | omega)] | rw [if_neg (by first | assumption | omega)] | rw [if_neg (by rw [c41]; decide)] | rw [if_pos ⟨by assumption, by assumption⟩] | rw [if_neg (fun h => absurd h.1 (by assumption))] | rw [if_neg (fun h => absurd h.2 (by assumption))])); all_goals (first | rfl | (congr 1; omega))), ht9⟩) (fun _ h => nomatch h) dX1_differenceTakes_120
        · refine lv_aload hx hb dX1_differenceTakes_73 (lv_at hl 1 rfl) ?_
          refine va_get (ci := 0) (v := .int ((G (6 * (d + 1) + w)).1)) (C := RX0) (T := TX0) (N := 3) hx hb hts iw_X1differenceTakes_X0 hown hK (x1 hP (xm3 hm2)) 0 rfl rfl 0 (by decide) (hts (.fieldLink RX1 47 "BackMirror$Thing" "kind" "I") (by decide +kernel)) (fun _ h9 => h9) rfl dX1_differenceTakes_75 ?_
          refine lv_iconst (v := nI 1) hx hb dX1_differenceTakes_78 (by decide) ?_
          refine lv_icmp_ne (tgt := 98) hx hb dX1_differenceTakes_79 (by decide) (fun c79 => ?_) (fun c79 => ?_)
          · refine lv_iload hx hb dX1_differenceTakes_98 (lv_at hl 0 rfl) ?_
            refine lv_aload_n hx hb dX1_differenceTakes_100 rfl (lv_at hl 2 rfl) ?_
            refine va_get (ci := 0) (v := .int ((G (6 * d + w)).1)) (C := RX0) (T := TX0) (N := 3) hx hb hts iw_X1differenceTakes_X0 hown hK (x1 hP (xm3 hm1)) 0 rfl rfl 0 (by decide) (hts (.fieldLink RX1 47 "BackMirror$Thing" "kind" "I") (by decide +kernel)) (fun _ h9 => h9) rfl dX1_differenceTakes_101 ?_
            refine lv_iconst (v := nI 1) hx hb dX1_differenceTakes_104 (by decide) ?_
            refine lv_icmp_ne (tgt := 118) hx hb dX1_differenceTakes_105 (by decide) (fun c105 => ?_) (fun c105 => ?_)
            · refine lv_iconst (v := nI 1) hx hb dX1_differenceTakes_118 (by decide) ?_
              refine lv_iadd hx hb dX1_differenceTakes_119 ?_
              refine x_top (nI 1) (xadd (by omega)) ?_
              exact W.iret hx hb hr (fun t9 ht9 hW9 => ⟨_, rfl, by first | exact absurd c70 c105 | exact absurd c105 c70 | (unfold difW dif; (repeat (first | rw [if_pos (by first | assumption | omega)] | rw [if_neg (by first | assumption | omega)] | rw [if_neg (by rw [c41]; decide)] | rw [if_pos ⟨by assumption, by assumption⟩] | rw [if_neg (fun h => absurd h.1 (by assumption))] | rw [if_neg (fun h => absurd h.2 (by assumption))])); all_goals (first | rfl | (congr 1; omega))), ht9⟩) (fun _ h => nomatch h) dX1_differenceTakes_120
            · refine lv_aload_n hx hb dX1_differenceTakes_108 rfl (lv_at hl 2 rfl) ?_
              refine va_get (ci := 0) (v := .ref q1) (C := RX0) (T := TX0) (N := 3) hx hb hts iw_X1differenceTakes_X0 hown hK (x1 hP (xm3 hm1)) 0 rfl rfl 2 (by decide) (hts (.fieldLink RX1 43 "BackMirror$Thing" "numbers" "[I") (by decide +kernel)) (fun _ h9 => h9) rfl dX1_differenceTakes_109 ?_
              refine va_alen hx hb hK (x1 hP (xm3 hr1)) 0 0 rfl rfl (v := nI ((G (6 * d + w)).2.2.1)) rfl dX1_differenceTakes_112 ?_
              refine lv_iconst (v := nI 1) hx hb dX1_differenceTakes_113 (by decide) ?_
              refine lv_iadd hx hb dX1_differenceTakes_114 ?_
              refine x_top (nI (((G (6 * d + w)).2.2.1) + 1)) (xadd (by omega)) ?_
              refine lv_goto (tgt := 119) hx hb dX1_differenceTakes_115 (by decide) ?_
              refine lv_iadd hx hb dX1_differenceTakes_119 ?_
              refine x_top (nI (((G (6 * d + w)).2.2.1) + 1)) (xadd (by omega)) ?_
              exact W.iret hx hb hr (fun t9 ht9 hW9 => ⟨_, rfl, by first | exact absurd c70 c105 | exact absurd c105 c70 | (unfold difW dif; (repeat (first | rw [if_pos (by first | assumption | omega)] | rw [if_neg (by first | assumption | omega)] | rw [if_neg (by rw [c41]; decide)] | rw [if_pos ⟨by assumption, by assumption⟩] | rw [if_neg (fun h => absurd h.1 (by assumption))] | rw [if_neg (fun h => absurd h.2 (by assumption))])); all_goals (first | rfl | (congr 1; omega))), ht9⟩) (fun _ h => nomatch h) dX1_differenceTakes_120
          · refine lv_iload hx hb dX1_differenceTakes_82 (lv_at hl 0 rfl) ?_
            refine lv_aload_n hx hb dX1_differenceTakes_84 rfl (lv_at hl 2 rfl) ?_
            refine va_get (ci := 0) (v := .ref q1) (C := RX0) (T := TX0) (N := 3) hx hb hts iw_X1differenceTakes_X0 hown hK (x1 hP (xm3 hm1)) 0 rfl rfl 2 (by decide) (hts (.fieldLink RX1 43 "BackMirror$Thing" "numbers" "[I") (by decide +kernel)) (fun _ h9 => h9) rfl dX1_differenceTakes_85 ?_
            refine lv_aload hx hb dX1_differenceTakes_88 (lv_at hl 1 rfl) ?_
            refine va_get (ci := 0) (v := .ref q2) (C := RX0) (T := TX0) (N := 3) hx hb hts iw_X1differenceTakes_X0 hown hK (x1 hP (xm3 hm2)) 0 rfl rfl 2 (by decide) (hts (.fieldLink RX1 43 "BackMirror$Thing" "numbers" "[I") (by decide +kernel)) (fun _ h9 => h9) rfl dX1_differenceTakes_90 ?_
            refine xc_sie (va_runS (As := [.ref q1, .ref q2]) (rest := [.int (nI 0)]) ⟨hx, hb, hml, hown, hts⟩ (c_X1_rowTakes l q1 q2 (G (6 * d + w)).2.2.1 (G (6 * (d + 1) + w)).2.2.1 f1 f2 (by omega) (by omega)) (va_cwS 2 hts gX1_differenceTakes_X1_rowTakes rfl rfl rfl (by decide +kernel) ⟨(Nat.le_of_ble_eq_true rfl), (Nat.le_of_ble_eq_true rfl)⟩) ⟨XP_blind, XP_pre hE (x2 hP (xm3 hr1) (xm3 hr2))⟩ rfl rfl hl.1 rfl (lv_room (Nat.le_of_ble_eq_true rfl)) dX1_differenceTakes_93 ⟨Nat.le_of_ble_eq_true rfl, Nat.le_of_ble_eq_true rfl⟩) ?_
            refine x_top (nI (tak (G (6 * d + w)).2.2.2 (G (6 * (d + 1) + w)).2.2.2 (G (6 * d + w)).2.2.1 (G (6 * (d + 1) + w)).2.2.1 (G (6 * d + w)).2.2.1 0)) (by rw [tak_congr he1 he2]) ?_
            refine lv_iadd hx hb dX1_differenceTakes_96 ?_
            refine x_top (nI (tak (G (6 * d + w)).2.2.2 (G (6 * (d + 1) + w)).2.2.2 (G (6 * d + w)).2.2.1 (G (6 * (d + 1) + w)).2.2.1 (G (6 * d + w)).2.2.1 0)) (xadd (by omega)) ?_
            exact W.iret hx hb hr (fun t9 ht9 hW9 => ⟨_, rfl, by first | exact absurd c70 c105 | exact absurd c105 c70 | (unfold difW dif; (repeat (first | rw [if_pos (by first | assumption | omega)] | rw [if_neg (by first | assumption | omega)] | rw [if_neg (by rw [c41]; decide)] | rw [if_pos ⟨by assumption, by assumption⟩] | rw [if_neg (fun h => absurd h.1 (by assumption))] | rw [if_neg (fun h => absurd h.2 (by assumption))])); all_goals (first | rfl | (congr 1; omega))), ht9⟩) (fun _ h => nomatch h) dX1_differenceTakes_97
    · have c41 : (sameB (G (6 * d + w)) (G (6 * (d + 1) + w))) = true := bN_t c41
      refine lv_iconst (v := nI 0) hx hb dX1_differenceTakes_44 (by decide) ?_
      exact W.iret hx hb hr (fun t9 ht9 hW9 => ⟨_, rfl, by first | exact absurd c70 c105 | exact absurd c105 c70 | (unfold difW dif; (repeat (first | rw [if_pos (by first | assumption | omega)] | rw [if_neg (by first | assumption | omega)] | rw [if_neg (by rw [c41]; decide)] | rw [if_pos ⟨by assumption, by assumption⟩] | rw [if_neg (fun h => absurd h.1 (by assumption))] | rw [if_neg (fun h => absurd h.2 (by assumption))])); all_goals (first | rfl | (congr 1; omega))), ht9⟩) (fun _ h => nomatch h) dX1_differenceTakes_45
  · have c5 : ¬ d < ld := fun h => c5 ((xlt (by omega) (by omega)).mpr h)
    refine lv_iconst (v := nI 0) hx hb dX1_differenceTakes_8 (by decide) ?_
    exact W.iret hx hb hr (fun t9 ht9 hW9 => ⟨_, rfl, by first | exact absurd c70 c105 | exact absurd c105 c70 | (unfold difW dif; (repeat (first | rw [if_pos (by first | assumption | omega)] | rw [if_neg (by first | assumption | omega)] | rw [if_neg (by rw [c41]; decide)] | rw [if_pos ⟨by assumption, by assumption⟩] | rw [if_neg (fun h => absurd h.1 (by assumption))] | rw [if_neg (fun h => absurd h.2 (by assumption))])); all_goals (first | rfl | (congr 1; omega))), ht9⟩) (fun _ h => nomatch h) dX1_differenceTakes_9

theorem iw_X1size_X1 : ∀ w ∈ u_ws RX1 TX1 6, w ∈ wsX1_size := by decide +kernel
set_option maxHeartbeats 4000000 in
set_option maxRecDepth 100000 in
theorem c_X1_size (l : Launch) {D : va_G} {cI cT cJ : ClassId} (x lv kp : Nat) (fL fK : Nat → Option Nat) (o ld b k : Nat) (FZ : va_W) (G : Nat → Tv) (hC : CA cI FZ fL fK G) (hld : ld ≤ 40) (hold : o ≤ ld) : Met l yX1_size wsX1_size (rmD 6 0 0) (XP D cI cT cJ [.ref x] (fun H => va_P D vwCl (CW cT x lv kp fL fK o ld b k FZ) H)) (XSi (fun r => r = nI (szN G (6 * o) (6 * (ld - o))))) 0 0 (fun _ => False) := by
  refine Met.ofW (cc := cX1_size) (maxL := 4) (ret := (some .int)) (by decide) rfl ?_
  intro p e s m args below meth c s₁ B hml hv
  obtain ⟨rfl, hP, hE⟩ := hv
  have hx := B.exec
  have hb := B.bytes
  have hr := B.returns
  have hts := atoms_spec (ws := wsX1_size) B.pre
  have hown : s.vm.findClass RX1 = some m.cls := findClass_of_methodNamed B.named
  have hlocks := B.notSynchronized
  have hl := lv_entry ([.ref x]) (n := 4) (Nat.le_of_ble_eq_true rfl)
  rw [lg_entry_eq]
  generalize (lg_sl ([.ref x]) ++ List.replicate (4 - (lg_sl ([.ref x])).length) Slot.unset).toArray = ls at hl ⊢
  have hl : lv_has ls 4 [(0, .ref x)] := hl
  have hK := hE.1
  refine lv_iconst (v := nI 0) hx hb dX1_size_0 (by decide) ?_
  refine lv_istore_n (lv' := [(1, .int (nI 0)), (0, .ref x)]) hx hb dX1_size_1 rfl hl (by decide) rfl (fun ls hl => ?_)
  refine lv_aload_n hx hb dX1_size_2 rfl (lv_at hl 1 rfl) ?_
  refine va_get (ci := 1) (v := .int (nI o)) (C := RX1) (T := TX1) (N := 6) hx hb hts iw_X1size_X1 hown hK hP 0 rfl rfl 2 (by decide) (hts (.fieldLink RX1 21 "BackMirror" "oldestDate" "I") (by decide +kernel)) (fun _ h9 => h9) rfl dX1_size_3 ?_
  refine lv_istore_n (lv' := [(2, .int (nI o)), (1, .int (nI 0)), (0, .ref x)]) hx hb dX1_size_6 rfl hl (by decide) rfl (fun ls hl => ?_)
  have hl : lv_has ls 4 [(2, .int (nI o)), (1, .int (nI (szN G (6 * o) (6 * (o - o))))), (0, .ref x)] := by rw [Nat.sub_self]; exact hl
  refine x_loopP (fun n ls => ∃ d j : Nat, (j + 1 = n) ∧ (ld ≤ d + j) ∧ (d ≤ ld) ∧ (o ≤ d) ∧ lv_has ls 4 [(2, .int (nI d)), (1, .int (nI (szN G (6 * o) (6 * (d - o))))), (0, .ref x)]) (ld - o + 1) ⟨o, ld - o, rfl, by omega, by omega, by omega, lv_sub hl [0, 1, 2] rfl⟩ (fun ls h => by obtain ⟨d, j, hk, h1, h2, h3, -⟩ := h; omega) (fun n ls h ih => ?_)
  obtain ⟨d, j, hk, h1, h2, h3, hl⟩ := h
  refine lv_iload_n hx hb dX1_size_7 rfl (lv_at hl 0 rfl) ?_
  refine lv_aload_n hx hb dX1_size_8 rfl (lv_at hl 2 rfl) ?_
  refine va_get (ci := 1) (v := .int (nI ld)) (C := RX1) (T := TX1) (N := 6) hx hb hts iw_X1size_X1 hown hK hP 0 rfl rfl 3 (by decide) (hts (.fieldLink RX1 25 "BackMirror" "lastDate" "I") (by decide +kernel)) (fun _ h9 => h9) rfl dX1_size_9 ?_
  refine lv_icmp_ge (tgt := 44) hx hb dX1_size_12 (by decide) (fun c12 => ?_) (fun c12 => ?_)
  · have c12 : ld ≤ d := (xle (by omega) (by omega)).mp c12
    refine lv_iload_n hx hb dX1_size_44 rfl (lv_at hl 1 rfl) ?_
    exact W.iret hx hb hr (fun t9 ht9 hW9 => ⟨_, rfl, by rw [show d = ld by omega], ht9⟩) (fun _ h => nomatch h) dX1_size_45
  · have c12 : ¬ ld ≤ d := fun h => c12 ((xle (by omega) (by omega)).mpr h)
    refine lv_iconst (v := nI 0) hx hb dX1_size_15 (by decide) ?_
    refine lv_istore_n (lv' := [(3, .int (nI 0)), (2, .int (nI d)), (1, .int (nI (szN G (6 * o) (6 * (d - o))))), (0, .ref x)]) hx hb dX1_size_16 rfl hl (by decide) rfl (fun ls hl => ?_)
    have ih1 := ih
    clear ih
    refine x_loopP (fun n ls => ∃ p j2 : Nat, (j2 + 1 = n) ∧ (6 ≤ p + j2) ∧ (p ≤ 6) ∧ lv_has ls 4 [(3, .int (nI p)), (2, .int (nI d)), (1, .int (nI (szN G (6 * o) (6 * (d - o) + p)))), (0, .ref x)]) (7) ⟨0, 6, rfl, by omega, by omega, lv_sub hl [0, 1, 2, 3] rfl⟩ (fun ls h => by obtain ⟨p, j2, hk2, h12, h22, -⟩ := h; omega) (fun n ls h ih => ?_)
    obtain ⟨p, j2, hk2, h12, h22, hl⟩ := h
    refine lv_iload_n hx hb dX1_size_17 rfl (lv_at hl 0 rfl) ?_
    refine lv_bipush (v := nI 6) hx hb dX1_size_18 (by decide) ?_
    refine lv_icmp_ge (tgt := 38) hx hb dX1_size_20 (by decide) (fun c20 => ?_) (fun c20 => ?_)
    · have c20 : 6 ≤ p := (xle (by omega) (by omega)).mp c20
      refine lv_iinc (v := nI (d + 1)) (lv' := [(2, .int (nI (d + 1))), (3, .int (nI p)), (1, .int (nI (szN G (6 * o) (6 * (d - o) + p)))), (0, .ref x)]) hx hb dX1_size_38 hl (k := 1) rfl (xinc _ 1 _ (by decide)) (by decide) rfl (fun ls hl => ?_)
      refine lv_goto (tgt := 7) hx hb dX1_size_41 (by decide) ?_
      have hw : 6 * (d - o) + p = 6 * (d + 1 - o) := by omega
      rw [hw] at hl
      exact ih1 _ ⟨d + 1, j - 1, by omega, by omega, by omega, by omega, lv_sub hl [0, 2, 3] rfl⟩
    · have c20 : ¬ 6 ≤ p := fun h => c20 ((xle (by omega) (by omega)).mpr h)
      refine lv_iload_n hx hb dX1_size_23 rfl (lv_at hl 2 rfl) ?_
      refine lv_aload_n hx hb dX1_size_24 rfl (lv_at hl 3 rfl) ?_
      refine lv_iload_n hx hb dX1_size_25 rfl (lv_at hl 1 rfl) ?_
      refine lv_iload_n hx hb dX1_size_26 rfl (lv_at hl 0 rfl) ?_
      refine xc_sie (va_runV (As := [.int (nI d), .int (nI p)]) (rest := [.int (nI (szN G (6 * o) (6 * (d - o) + p)))]) ⟨hx, hb, hml, hown, hts⟩ (c_X1_differenceTakes l x lv kp fL fK o ld b k FZ G hC d p hld (by omega) (by omega)) (cwV 2 hts gX1_size_X1_differenceTakes rfl rfl rfl (by decide +kernel) ⟨(Nat.le_of_ble_eq_true rfl), (Nat.le_of_ble_eq_true rfl)⟩) ⟨XP_blind, va_recv hK hP (ci := 1) (q0 := 0) rfl rfl, XP_pre hE hP⟩ rfl rfl hl.1 rfl (lv_room (Nat.le_of_ble_eq_true rfl)) dX1_size_27 ⟨Nat.le_of_ble_eq_true rfl, Nat.le_of_ble_eq_true rfl⟩) ?_
      refine lv_iadd hx hb dX1_size_30 ?_
      refine x_top (nI ((szN G (6 * o) (6 * (d - o) + p)) + (difW G ld d p))) (xadd (by omega)) ?_
      refine lv_istore_n (lv' := [(1, .int (nI ((szN G (6 * o) (6 * (d - o) + p)) + (difW G ld d p)))), (3, .int (nI p)), (2, .int (nI d)), (0, .ref x)]) hx hb dX1_size_31 rfl hl (by decide) rfl (fun ls hl => ?_)
      refine lv_iinc (v := nI (p + 1)) (lv' := [(3, .int (nI (p + 1))), (1, .int (nI ((szN G (6 * o) (6 * (d - o) + p)) + (difW G ld d p)))), (2, .int (nI d)), (0, .ref x)]) hx hb dX1_size_32 hl (k := 1) rfl (xinc _ 1 _ (by decide)) (by decide) rfl (fun ls hl => ?_)
      refine lv_goto (tgt := 17) hx hb dX1_size_35 (by decide) ?_
      have hw : (szN G (6 * o) (6 * (d - o) + p)) + (difW G ld d p) = szN G (6 * o) (6 * (d - o) + (p + 1)) := by show _ = szN G (6 * o) (6 * (d - o) + p) + dif (G (6 * o + (6 * (d - o) + p))) (G (6 * o + (6 * (d - o) + p) + 6)); unfold difW; rw [if_neg (by omega), show 6 * o + (6 * (d - o) + p) = 6 * d + p by omega, show 6 * d + p + 6 = 6 * (d + 1) + p by omega]
      rw [hw] at hl
      exact ih _ ⟨p + 1, j2 - 1, by omega, by omega, by omega, lv_sub hl [0, 2, 1, 3] rfl⟩
