/-! the law's own methods: a call of the class, its exceptions by their numbers -/
def XN (U : State) : Prop := va_Nc nIS nIO U ∧ va_Nc nIA nIO U ∧ va_Nc nIA nIS U ∧ va_Nc nIS nIA U
theorem XN.moved {u U : State} (hvm : u.vm.Alike U.vm) (h : XN u) : XN U := ⟨va_Nc.moved hvm h.1, va_Nc.moved hvm h.2.1, va_Nc.moved hvm h.2.2.1, va_Nc.moved hvm h.2.2.2⟩
def XPl (D : va_G) (cI cT cJ : ClassId) (A : Nat → Prop) (av : List Value) (F : Heap → Prop) : Array Value → State → Prop := va_Pc av (fun U => F U.heap ∧ XE D cI cT cJ U ∧ XT A U U.heap ∧ XN U)
theorem XPl_blind {D : va_G} {cI cT cJ : ClassId} {A : Nat → Prop} {av : List Value} {F : Heap → Prop} : FrameBlind (XPl D cI cT cJ A av F) := fun a U g mk q => ⟨q.1, q.2.1, XE.same (s := U) (U := U.calling g mk a) rfl q.2.2.1, XT.same (s := U) (U := U.calling g mk a) rfl q.2.2.2.1, XN.moved (u := U) (U := U.calling g mk a) (Vm.Alike.refl U.vm) q.2.2.2.2⟩
theorem XPl_pre {D : va_G} {cI cT cJ : ClassId} {A : Nat → Prop} {av : List Value} {F : Heap → Prop} {s : State} {H : Heap} (hE : XE D cI cT cJ s) (hT : XT A s H) (hN : XN s) (hF : F H) : ∀ U : State, U.heap = H → s.WarmedH U.vm → XPl D cI cT cJ A av F av.toArray U := fun U hU hW => ⟨rfl, by rw [hU]; exact hF, XE.warm hW hE, XT.warm hW (by rw [hU]; exact hT), XN.moved hW.alike hN⟩
/-- the mirror and the law's row of one long -/
abbrev LWs (cT cJ : ClassId) (ou x lv kp : Nat) (fo : Nat → Int64) (fL fK : Nat → Option Nat) (o ld b k : Nat) (FZ : va_W) : va_W := (ou, .inl (cJ, 1, .inr (.inl fo))) :: CW cT x lv kp fL fK o ld b k FZ
def LB (D : va_G) (cI cT cJ : ClassId) (ou x lv kp : Nat) (A : Nat → Prop) (u : Sv) (z : Int64) (H : Heap) : Prop := ∃ (fo : Nat → Int64) (fL fK : Nat → Option Nat) (FZ : va_W), va_P D vwCl (LWs cT cJ ou x lv kp fo fL fK u.2.1 u.2.2.1 u.2.2.2.1 u.2.2.2.2 FZ) H ∧ va_D A (LWs cT cJ ou x lv kp fo fL fK u.2.1 u.2.2.1 u.2.2.2.1 u.2.2.2.2 FZ) ∧ CA cI FZ fL fK u.1 ∧ fo 0 = z

set_option maxHeartbeats 4000000 in
set_option maxRecDepth 100000 in
theorem c_L_makeFile (l : Launch) (hst : l.stackTraces = false) {D : va_G} {cI cT cJ : ClassId} (Ax : Nat → Prop) (ou x lv kp : Nat) (fo : Nat → Int64) (fL fK : Nat → Option Nat) (o ld b k : Nat) (FZ : va_W) (G : Nat → Tv) (hC : CA cI FZ fL fK G) (v : Int32)  (sz : Nat) : vx_Met l yL_makeFile wsL_makeFile (rmD 9 8 40) (XPl D cI cT cJ Ax [.ref x, .int v, .ref ou] (fun H => H.size = sz ∧ va_P D vwCl (LWs cT cJ ou x lv kp fo fL fK o ld b k FZ) H ∧ va_D (fun _ => True) (LWs cT cJ ou x lv kp fo fL fK o ld b k FZ))) (va_Qi (S := Sv × Int64) (fun r u => (r = nI 0 ∧ ∃ r0 : Int32, u.2 = r0.toInt64 ∧ (fun (r : Int32) (u : Sv) => ∃ j, j < 6 ∧ v = nI j ∧ r = (G (246 + j)).1 ∧ u = (va_up G (246 + j) (nI 1, nI 0, 0, fun _ => 0), o, ld, b, k)) r0 u.1) ∨ (r = nI 1 ∧ u.1 = (G, o, ld, b, k) ∧ ¬ Pl v)) (fun u t => LB D cI cT cJ ou x lv kp (va_A (LWs cT cJ ou x lv kp fo fL fK o ld b k FZ) sz) u.1 u.2 t.heap) (va_A (LWs cT cJ ou x lv kp fo fL fK o ld b k FZ) sz)) (XXc (fun _ => False)) 8 40 (va_A (LWs cT cJ ou x lv kp fo fL fK o ld b k FZ) sz) := by
  refine vx_ofWH (cc := cL_makeFile) (maxL := 4) (ret := (some .int)) (hh := [(0, 9, 12, 13)]) (by decide) rfl ?_
  intro p e s m args below meth c s₁ B hml hv
  obtain ⟨rfl, ⟨hsz, hP, hD0⟩, hE, hT, hN⟩ := hv
  have hx := B.exec
  have hb := B.bytes
  have hr := B.returns
  have hts := atoms_spec (ws := wsL_makeFile) B.pre
  have hown : s.vm.findClass RL = some m.cls := findClass_of_methodNamed B.named
  have hlocks := B.notSynchronized
  have hl := lv_entry ([.ref x, .int v, .ref ou]) (n := 4) (Nat.le_of_ble_eq_true rfl)
  rw [lg_entry_eq]
  generalize (lg_sl ([.ref x, .int v, .ref ou]) ++ List.replicate (4 - (lg_sl ([.ref x, .int v, .ref ou])).length) Slot.unset).toArray = ls at hl ⊢
  have hl : lv_has ls 4 [(0, .ref x), (1, .int v), (2, .ref ou)] := hl
  have htab := vx_table (x := yL_makeFile) B (hts (.codeWith yL_makeFile cL_makeFile 4 (some .int) [(0, 9, 12, 13)]) List.mem_cons_self)
  have hK := hE.1
  subst hsz
  have hD := hD0.self (sz := s.heap.size)
  generalize hAe : va_A (LWs cT cJ ou x lv kp fo fL fK o ld b k FZ) s.heap.size = A at hD ⊢
  have hA : ∀ q : Nat, s.heap.size ≤ q → A q := fun q h => by rw [← hAe]; exact Or.inr h
  have hS : va_S A s.heap s.heap [] := va_S.rf
  refine lv_aload_n hx hb dL_makeFile_0 rfl (lv_at hl 2 rfl) ?_
  refine lv_iconst (v := nI 0) hx hb dL_makeFile_1 (by decide) ?_
  refine lv_aload_n hx hb dL_makeFile_2 rfl (lv_at hl 0 rfl) ?_
  refine lv_iload_n hx hb dL_makeFile_3 rfl (lv_at hl 1 rfl) ?_
  have hP : va_P D vwCl ([(ou, .inl (cJ, 1, .inr (.inl fo)))] ++ (CW cT x lv kp fL fK o ld b k FZ)) s.heap := hP
  have hD : va_D A ([(ou, .inl (cJ, 1, .inr (.inl fo)))] ++ (CW cT x lv kp fL fK o ld b k FZ)) := hD
  have hPc : va_P D vwCl (CW cT x lv kp fL fK o ld b k FZ) s.heap := xP_sub (fun _ h => List.mem_cons_of_mem _ h) hP
  have hDc : va_D (fun _ => True) (CW cT x lv kp fL fK o ld b k FZ) := (xD_sub (List.sublist_cons_self _ _) hD).weaken (fun _ _ _ _ => trivial)
  have hFc := xfree (wc := (CW cT x lv kp fL fK o ld b k FZ)) hD hS hA (fun _ h => List.mem_cons_of_mem _ h)
  refine xcw (vx_runV (As := [.int v]) (rest := [.int (nI 0), .ref ou]) ⟨hx, hb, hml, hown, hts⟩ (c_X1_makeFile l hst Ax x lv kp fL fK o ld b k FZ G hC v s.heap.size) (cwV 1 hts gL_makeFile_X1_makeFile rfl rfl rfl (by decide +kernel) ⟨(Nat.le_of_ble_eq_true rfl), (Nat.le_of_ble_eq_true rfl)⟩) ⟨XPx_blind, va_recv hK hPc (ci := 1) (q0 := 0) rfl rfl, XPx_pre hE hT ⟨rfl, hPc, hDc⟩⟩ rfl rfl hl.1 rfl (lv_room (Nat.le_of_ble_eq_true rfl)) dL_makeFile_4 ⟨Nat.le_of_ble_eq_true rfl, Nat.le_of_ble_eq_true rfl⟩) hS (fun q9 _ h => hFc q9 h) hFc (fun E9 ce9 q9 H1 locs hp9 hz9 hk9 hS hc9 hv9 hcl9 => ?_) (fun r9 u t9 H1 locs ht9 hvm9 hw9 hB9 hzc hkc hS => ?_)
  · have hP := xkept hP hk9
    generalize H1 = H at hP hS hc9 ⊢
    obtain ⟨rfl, hp9⟩ := hp9
    refine vx_catch hown [] ⟨0, 9, 12, 13⟩ [] (by rw [htab]; rfl) (fun _ h => nomatch h) (by decide) (by decide) (hts (.classLink RL 13 nIO) (by decide +kernel)) (va_Nw.use rfl (hT.2.1 nIO (by decide))) hc9 hv9 hcl9 ?_
    refine W.eq (g2 := F0 m 12 ls [.ref q9]) rfl ?_
    refine lv_astore_n (lv' := [(3, .ref q9), (0, .ref x), (1, .int v), (2, .ref ou)]) hx hb dL_makeFile_12 rfl hl (by decide) rfl (fun ls hl => ?_)
    refine lv_iconst (v := nI 1) hx hb dL_makeFile_13 (by decide) ?_
    refine vx_ret ?_
    refine W.widen (k := 8) (n := 40) (Nat.le_of_ble_eq_true rfl) (Nat.le_of_ble_eq_true rfl) ?_
    exact W.iret hx hb hr (fun t9 ht9 hW9 => ⟨⟨_, ((G, o, ld, b, k), fo 0), rfl, Or.inr (⟨rfl, rfl, hp9⟩), fo, fL, fK, FZ, by rw [ht9]; exact hP, hD, hC, rfl⟩, hS.F ht9⟩) hS.2.2 dL_makeFile_14
  · obtain ⟨fL', fK', FZ', hP1, hD1, hC'⟩ := hB9
    rw [ht9] at hP1
    obtain ⟨hP, hD⟩ := xjoin (wr := [(ou, .inl (cJ, 1, .inr (.inl fo)))]) (wc := (CW cT x lv kp fL fK o ld b k FZ)) (w1 := CW cT x lv kp fL' fK' u.2.1 u.2.2.1 u.2.2.2.1 u.2.2.2.2 FZ') hP hD hkc hFc hP1 hD1
    generalize H1 = H at hP hS ⊢
    have hP : va_P D vwCl ((ou, .inl (cJ, 1, .inr (.inl fo))) :: (x, .inr (1, [.ref lv, .ref kp, .int (nI u.2.1), .int (nI u.2.2.1), .int (nI u.2.2.2.1), .int (nI u.2.2.2.2)])) :: (lv, .inl (cT, 6, .inr (.inr (.inr (.inr fL'))))) :: (kp, .inl (cT, 246, .inr (.inr (.inr (.inr fK'))))) :: FZ') H := hP
    have hD : va_D A ((ou, .inl (cJ, 1, .inr (.inl fo))) :: (x, .inr (1, [.ref lv, .ref kp, .int (nI u.2.1), .int (nI u.2.2.1), .int (nI u.2.2.2.1), .int (nI u.2.2.2.2)])) :: (lv, .inl (cT, 6, .inr (.inr (.inr (.inr fL'))))) :: (kp, .inl (cT, 246, .inr (.inr (.inr (.inr fK'))))) :: FZ') := hD
    refine lv_i2l (v := (r9).toInt64) hx hb dL_makeFile_7 rfl ?_
    refine va_last hx hb hK hP hD hS 0 2 rfl rfl (xin (by omega) (by omega)) dL_makeFile_8 (fun H locs hP hD hS => ?_)
    rw [nI_clamp (show 0 < 2 ^ 31 by omega)] at hP hD
    have hP : va_P D vwCl ((ou, .inl (cJ, 1, .inr (.inl (vp_updL fo 0 ((r9).toInt64))))) :: (x, .inr (1, [.ref lv, .ref kp, .int (nI u.2.1), .int (nI u.2.2.1), .int (nI u.2.2.2.1), .int (nI u.2.2.2.2)])) :: (lv, .inl (cT, 6, .inr (.inr (.inr (.inr fL'))))) :: (kp, .inl (cT, 246, .inr (.inr (.inr (.inr fK'))))) :: FZ') H := hP
    have hD : va_D A ((ou, .inl (cJ, 1, .inr (.inl (vp_updL fo 0 ((r9).toInt64))))) :: (x, .inr (1, [.ref lv, .ref kp, .int (nI u.2.1), .int (nI u.2.2.1), .int (nI u.2.2.2.1), .int (nI u.2.2.2.2)])) :: (lv, .inl (cT, 6, .inr (.inr (.inr (.inr fL'))))) :: (kp, .inl (cT, 246, .inr (.inr (.inr (.inr fK'))))) :: FZ') := hD
    refine lv_goto (tgt := 15) hx hb dL_makeFile_9 (by decide) ?_
    refine lv_iconst (v := nI 0) hx hb dL_makeFile_15 (by decide) ?_
    refine vx_ret ?_
    refine W.widen (k := 8) (n := 40) (Nat.le_of_ble_eq_true rfl) (Nat.le_of_ble_eq_true rfl) ?_
    exact W.iret hx hb hr (fun t9 ht9 hW9 => ⟨⟨_, (u, r9.toInt64), rfl, Or.inl (⟨rfl, r9, rfl, hw9⟩), _, fL', fK', FZ', by rw [ht9]; exact hP, hD, hC', if_pos rfl⟩, hS.F ht9⟩) hS.2.2 dL_makeFile_16

set_option maxHeartbeats 4000000 in
set_option maxRecDepth 100000 in
theorem c_L_remove (l : Launch) (hst : l.stackTraces = false) {D : va_G} {cI cT cJ : ClassId} (Ax : Nat → Prop) (ou x lv kp : Nat) (fo : Nat → Int64) (fL fK : Nat → Option Nat) (o ld b k : Nat) (FZ : va_W) (G : Nat → Tv) (hC : CA cI FZ fL fK G) (v : Int32)  (sz : Nat) : vx_Met l yL_remove wsL_remove (rmD 9 8 40) (XPl D cI cT cJ Ax [.ref x, .int v, .ref ou] (fun H => H.size = sz ∧ va_P D vwCl (LWs cT cJ ou x lv kp fo fL fK o ld b k FZ) H ∧ va_D (fun _ => True) (LWs cT cJ ou x lv kp fo fL fK o ld b k FZ))) (va_Qi (S := Sv × Int64) (fun r u => (r = nI 0 ∧ ∃ r0 : Int32, u.2 = r0.toInt64 ∧ (fun (r : Int32) (u : Sv) => ∃ j, j < 6 ∧ v = nI j ∧ r = (G (246 + j)).1 ∧ u = (va_up G (246 + j) (nI 0, nI 0, 0, fun _ => 0), o, ld, b, k)) r0 u.1) ∨ (r = nI 1 ∧ u.1 = (G, o, ld, b, k) ∧ ¬ Pl v)) (fun u t => LB D cI cT cJ ou x lv kp (va_A (LWs cT cJ ou x lv kp fo fL fK o ld b k FZ) sz) u.1 u.2 t.heap) (va_A (LWs cT cJ ou x lv kp fo fL fK o ld b k FZ) sz)) (XXc (fun _ => False)) 8 40 (va_A (LWs cT cJ ou x lv kp fo fL fK o ld b k FZ) sz) := by
  refine vx_ofWH (cc := cL_remove) (maxL := 4) (ret := (some .int)) (hh := [(0, 9, 12, 13)]) (by decide) rfl ?_
  intro p e s m args below meth c s₁ B hml hv
  obtain ⟨rfl, ⟨hsz, hP, hD0⟩, hE, hT, hN⟩ := hv
  have hx := B.exec
  have hb := B.bytes
  have hr := B.returns
  have hts := atoms_spec (ws := wsL_remove) B.pre
  have hown : s.vm.findClass RL = some m.cls := findClass_of_methodNamed B.named
  have hlocks := B.notSynchronized
  have hl := lv_entry ([.ref x, .int v, .ref ou]) (n := 4) (Nat.le_of_ble_eq_true rfl)
  rw [lg_entry_eq]
  generalize (lg_sl ([.ref x, .int v, .ref ou]) ++ List.replicate (4 - (lg_sl ([.ref x, .int v, .ref ou])).length) Slot.unset).toArray = ls at hl ⊢
  have hl : lv_has ls 4 [(0, .ref x), (1, .int v), (2, .ref ou)] := hl
  have htab := vx_table (x := yL_remove) B (hts (.codeWith yL_remove cL_remove 4 (some .int) [(0, 9, 12, 13)]) List.mem_cons_self)
  have hK := hE.1
  subst hsz
  have hD := hD0.self (sz := s.heap.size)
  generalize hAe : va_A (LWs cT cJ ou x lv kp fo fL fK o ld b k FZ) s.heap.size = A at hD ⊢
  have hA : ∀ q : Nat, s.heap.size ≤ q → A q := fun q h => by rw [← hAe]; exact Or.inr h
  have hS : va_S A s.heap s.heap [] := va_S.rf
  refine lv_aload_n hx hb dL_remove_0 rfl (lv_at hl 2 rfl) ?_
  refine lv_iconst (v := nI 0) hx hb dL_remove_1 (by decide) ?_
  refine lv_aload_n hx hb dL_remove_2 rfl (lv_at hl 0 rfl) ?_
  refine lv_iload_n hx hb dL_remove_3 rfl (lv_at hl 1 rfl) ?_
  have hP : va_P D vwCl ([(ou, .inl (cJ, 1, .inr (.inl fo)))] ++ (CW cT x lv kp fL fK o ld b k FZ)) s.heap := hP
  have hD : va_D A ([(ou, .inl (cJ, 1, .inr (.inl fo)))] ++ (CW cT x lv kp fL fK o ld b k FZ)) := hD
  have hPc : va_P D vwCl (CW cT x lv kp fL fK o ld b k FZ) s.heap := xP_sub (fun _ h => List.mem_cons_of_mem _ h) hP
  have hDc : va_D (fun _ => True) (CW cT x lv kp fL fK o ld b k FZ) := (xD_sub (List.sublist_cons_self _ _) hD).weaken (fun _ _ _ _ => trivial)
  have hFc := xfree (wc := (CW cT x lv kp fL fK o ld b k FZ)) hD hS hA (fun _ h => List.mem_cons_of_mem _ h)
  refine xcw (vx_runV (As := [.int v]) (rest := [.int (nI 0), .ref ou]) ⟨hx, hb, hml, hown, hts⟩ (c_X1_remove l hst Ax x lv kp fL fK o ld b k FZ G hC v s.heap.size) (cwV 1 hts gL_remove_X1_remove rfl rfl rfl (by decide +kernel) ⟨(Nat.le_of_ble_eq_true rfl), (Nat.le_of_ble_eq_true rfl)⟩) ⟨XPx_blind, va_recv hK hPc (ci := 1) (q0 := 0) rfl rfl, XPx_pre hE hT ⟨rfl, hPc, hDc⟩⟩ rfl rfl hl.1 rfl (lv_room (Nat.le_of_ble_eq_true rfl)) dL_remove_4 ⟨Nat.le_of_ble_eq_true rfl, Nat.le_of_ble_eq_true rfl⟩) hS (fun q9 _ h => hFc q9 h) hFc (fun E9 ce9 q9 H1 locs hp9 hz9 hk9 hS hc9 hv9 hcl9 => ?_) (fun r9 u t9 H1 locs ht9 hvm9 hw9 hB9 hzc hkc hS => ?_)
  · have hP := xkept hP hk9
    generalize H1 = H at hP hS hc9 ⊢
    obtain ⟨rfl, hp9⟩ := hp9
    refine vx_catch hown [] ⟨0, 9, 12, 13⟩ [] (by rw [htab]; rfl) (fun _ h => nomatch h) (by decide) (by decide) (hts (.classLink RL 13 nIO) (by decide +kernel)) (va_Nw.use rfl (hT.2.1 nIO (by decide))) hc9 hv9 hcl9 ?_
    refine W.eq (g2 := F0 m 12 ls [.ref q9]) rfl ?_
    refine lv_astore_n (lv' := [(3, .ref q9), (0, .ref x), (1, .int v), (2, .ref ou)]) hx hb dL_remove_12 rfl hl (by decide) rfl (fun ls hl => ?_)
    refine lv_iconst (v := nI 1) hx hb dL_remove_13 (by decide) ?_
    refine vx_ret ?_
    refine W.widen (k := 8) (n := 40) (Nat.le_of_ble_eq_true rfl) (Nat.le_of_ble_eq_true rfl) ?_
    exact W.iret hx hb hr (fun t9 ht9 hW9 => ⟨⟨_, ((G, o, ld, b, k), fo 0), rfl, Or.inr (⟨rfl, rfl, hp9⟩), fo, fL, fK, FZ, by rw [ht9]; exact hP, hD, hC, rfl⟩, hS.F ht9⟩) hS.2.2 dL_remove_14
  · obtain ⟨fL', fK', FZ', hP1, hD1, hC'⟩ := hB9
    rw [ht9] at hP1
    obtain ⟨hP, hD⟩ := xjoin (wr := [(ou, .inl (cJ, 1, .inr (.inl fo)))]) (wc := (CW cT x lv kp fL fK o ld b k FZ)) (w1 := CW cT x lv kp fL' fK' u.2.1 u.2.2.1 u.2.2.2.1 u.2.2.2.2 FZ') hP hD hkc hFc hP1 hD1
    generalize H1 = H at hP hS ⊢
    have hP : va_P D vwCl ((ou, .inl (cJ, 1, .inr (.inl fo))) :: (x, .inr (1, [.ref lv, .ref kp, .int (nI u.2.1), .int (nI u.2.2.1), .int (nI u.2.2.2.1), .int (nI u.2.2.2.2)])) :: (lv, .inl (cT, 6, .inr (.inr (.inr (.inr fL'))))) :: (kp, .inl (cT, 246, .inr (.inr (.inr (.inr fK'))))) :: FZ') H := hP
    have hD : va_D A ((ou, .inl (cJ, 1, .inr (.inl fo))) :: (x, .inr (1, [.ref lv, .ref kp, .int (nI u.2.1), .int (nI u.2.2.1), .int (nI u.2.2.2.1), .int (nI u.2.2.2.2)])) :: (lv, .inl (cT, 6, .inr (.inr (.inr (.inr fL'))))) :: (kp, .inl (cT, 246, .inr (.inr (.inr (.inr fK'))))) :: FZ') := hD
    refine lv_i2l (v := (r9).toInt64) hx hb dL_remove_7 rfl ?_
    refine va_last hx hb hK hP hD hS 0 2 rfl rfl (xin (by omega) (by omega)) dL_remove_8 (fun H locs hP hD hS => ?_)
    rw [nI_clamp (show 0 < 2 ^ 31 by omega)] at hP hD
    have hP : va_P D vwCl ((ou, .inl (cJ, 1, .inr (.inl (vp_updL fo 0 ((r9).toInt64))))) :: (x, .inr (1, [.ref lv, .ref kp, .int (nI u.2.1), .int (nI u.2.2.1), .int (nI u.2.2.2.1), .int (nI u.2.2.2.2)])) :: (lv, .inl (cT, 6, .inr (.inr (.inr (.inr fL'))))) :: (kp, .inl (cT, 246, .inr (.inr (.inr (.inr fK'))))) :: FZ') H := hP
    have hD : va_D A ((ou, .inl (cJ, 1, .inr (.inl (vp_updL fo 0 ((r9).toInt64))))) :: (x, .inr (1, [.ref lv, .ref kp, .int (nI u.2.1), .int (nI u.2.2.1), .int (nI u.2.2.2.1), .int (nI u.2.2.2.2)])) :: (lv, .inl (cT, 6, .inr (.inr (.inr (.inr fL'))))) :: (kp, .inl (cT, 246, .inr (.inr (.inr (.inr fK'))))) :: FZ') := hD
    refine lv_goto (tgt := 15) hx hb dL_remove_9 (by decide) ?_
    refine lv_iconst (v := nI 0) hx hb dL_remove_15 (by decide) ?_
    refine vx_ret ?_
    refine W.widen (k := 8) (n := 40) (Nat.le_of_ble_eq_true rfl) (Nat.le_of_ble_eq_true rfl) ?_
    exact W.iret hx hb hr (fun t9 ht9 hW9 => ⟨⟨_, (u, r9.toInt64), rfl, Or.inl (⟨rfl, r9, rfl, hw9⟩), _, fL', fK', FZ', by rw [ht9]; exact hP, hD, hC', if_pos rfl⟩, hS.F ht9⟩) hS.2.2 dL_remove_16

set_option maxHeartbeats 4000000 in
set_option maxRecDepth 100000 in
theorem c_L_makeLink (l : Launch) (hst : l.stackTraces = false) {D : va_G} {cI cT cJ : ClassId} (Ax : Nat → Prop) (ou x lv kp : Nat) (fo : Nat → Int64) (fL fK : Nat → Option Nat) (o ld b k : Nat) (FZ : va_W) (G : Nat → Tv) (hC : CA cI FZ fL fK G) (v w : Int32)  (sz : Nat) : vx_Met l yL_makeLink wsL_makeLink (rmD 9 8 40) (XPl D cI cT cJ Ax [.ref x, .int v, .int w, .ref ou] (fun H => H.size = sz ∧ va_P D vwCl (LWs cT cJ ou x lv kp fo fL fK o ld b k FZ) H ∧ va_D (fun _ => True) (LWs cT cJ ou x lv kp fo fL fK o ld b k FZ))) (va_Qi (S := Sv × Int64) (fun r u => (r = nI 0 ∧ ∃ r0 : Int32, u.2 = r0.toInt64 ∧ (fun (r : Int32) (u : Sv) => ∃ j t, j < 6 ∧ t < 6 ∧ v = nI j ∧ w = nI t ∧ r = (G (246 + j)).1 ∧ u = (va_up G (246 + j) (nI 2, nI 0, 1, fun _ => nI t), o, ld, b, k)) r0 u.1) ∨ (r = nI 1 ∧ u.1 = (G, o, ld, b, k) ∧ ¬ (Pl v ∧ Pl w))) (fun u t => LB D cI cT cJ ou x lv kp (va_A (LWs cT cJ ou x lv kp fo fL fK o ld b k FZ) sz) u.1 u.2 t.heap) (va_A (LWs cT cJ ou x lv kp fo fL fK o ld b k FZ) sz)) (XXc (fun _ => False)) 8 40 (va_A (LWs cT cJ ou x lv kp fo fL fK o ld b k FZ) sz) := by
  refine vx_ofWH (cc := cL_makeLink) (maxL := 5) (ret := (some .int)) (hh := [(0, 10, 13, 13)]) (by decide) rfl ?_
  intro p e s m args below meth c s₁ B hml hv
  obtain ⟨rfl, ⟨hsz, hP, hD0⟩, hE, hT, hN⟩ := hv
  have hx := B.exec
  have hb := B.bytes
  have hr := B.returns
  have hts := atoms_spec (ws := wsL_makeLink) B.pre
  have hown : s.vm.findClass RL = some m.cls := findClass_of_methodNamed B.named
  have hlocks := B.notSynchronized
  have hl := lv_entry ([.ref x, .int v, .int w, .ref ou]) (n := 5) (Nat.le_of_ble_eq_true rfl)
  rw [lg_entry_eq]
  generalize (lg_sl ([.ref x, .int v, .int w, .ref ou]) ++ List.replicate (5 - (lg_sl ([.ref x, .int v, .int w, .ref ou])).length) Slot.unset).toArray = ls at hl ⊢
  have hl : lv_has ls 5 [(0, .ref x), (1, .int v), (2, .int w), (3, .ref ou)] := hl
  have htab := vx_table (x := yL_makeLink) B (hts (.codeWith yL_makeLink cL_makeLink 5 (some .int) [(0, 10, 13, 13)]) List.mem_cons_self)
  have hK := hE.1
  subst hsz
  have hD := hD0.self (sz := s.heap.size)
  generalize hAe : va_A (LWs cT cJ ou x lv kp fo fL fK o ld b k FZ) s.heap.size = A at hD ⊢
  have hA : ∀ q : Nat, s.heap.size ≤ q → A q := fun q h => by rw [← hAe]; exact Or.inr h
  have hS : va_S A s.heap s.heap [] := va_S.rf
  refine lv_aload_n hx hb dL_makeLink_0 rfl (lv_at hl 3 rfl) ?_
  refine lv_iconst (v := nI 0) hx hb dL_makeLink_1 (by decide) ?_
  refine lv_aload_n hx hb dL_makeLink_2 rfl (lv_at hl 0 rfl) ?_
  refine lv_iload_n hx hb dL_makeLink_3 rfl (lv_at hl 1 rfl) ?_
  refine lv_iload_n hx hb dL_makeLink_4 rfl (lv_at hl 2 rfl) ?_
  have hP : va_P D vwCl ([(ou, .inl (cJ, 1, .inr (.inl fo)))] ++ (CW cT x lv kp fL fK o ld b k FZ)) s.heap := hP
  have hD : va_D A ([(ou, .inl (cJ, 1, .inr (.inl fo)))] ++ (CW cT x lv kp fL fK o ld b k FZ)) := hD
  have hPc : va_P D vwCl (CW cT x lv kp fL fK o ld b k FZ) s.heap := xP_sub (fun _ h => List.mem_cons_of_mem _ h) hP
  have hDc : va_D (fun _ => True) (CW cT x lv kp fL fK o ld b k FZ) := (xD_sub (List.sublist_cons_self _ _) hD).weaken (fun _ _ _ _ => trivial)
  have hFc := xfree (wc := (CW cT x lv kp fL fK o ld b k FZ)) hD hS hA (fun _ h => List.mem_cons_of_mem _ h)
  refine xcw (vx_runV (As := [.int v, .int w]) (rest := [.int (nI 0), .ref ou]) ⟨hx, hb, hml, hown, hts⟩ (c_X1_makeLink l hst Ax x lv kp fL fK o ld b k FZ G hC v w s.heap.size) (cwV 2 hts gL_makeLink_X1_makeLink rfl rfl rfl (by decide +kernel) ⟨(Nat.le_of_ble_eq_true rfl), (Nat.le_of_ble_eq_true rfl)⟩) ⟨XPx_blind, va_recv hK hPc (ci := 1) (q0 := 0) rfl rfl, XPx_pre hE hT ⟨rfl, hPc, hDc⟩⟩ rfl rfl hl.1 rfl (lv_room (Nat.le_of_ble_eq_true rfl)) dL_makeLink_5 ⟨Nat.le_of_ble_eq_true rfl, Nat.le_of_ble_eq_true rfl⟩) hS (fun q9 _ h => hFc q9 h) hFc (fun E9 ce9 q9 H1 locs hp9 hz9 hk9 hS hc9 hv9 hcl9 => ?_) (fun r9 u t9 H1 locs ht9 hvm9 hw9 hB9 hzc hkc hS => ?_)
  · have hP := xkept hP hk9
    generalize H1 = H at hP hS hc9 ⊢
    obtain ⟨rfl, hp9⟩ := hp9
    refine vx_catch hown [] ⟨0, 10, 13, 13⟩ [] (by rw [htab]; rfl) (fun _ h => nomatch h) (by decide) (by decide) (hts (.classLink RL 13 nIO) (by decide +kernel)) (va_Nw.use rfl (hT.2.1 nIO (by decide))) hc9 hv9 hcl9 ?_
    refine W.eq (g2 := F0 m 13 ls [.ref q9]) rfl ?_
    refine lv_astore (lv' := [(4, .ref q9), (0, .ref x), (1, .int v), (2, .int w), (3, .ref ou)]) hx hb dL_makeLink_13 hl (by decide) rfl (fun ls hl => ?_)
    refine lv_iconst (v := nI 1) hx hb dL_makeLink_15 (by decide) ?_
    refine vx_ret ?_
    refine W.widen (k := 8) (n := 40) (Nat.le_of_ble_eq_true rfl) (Nat.le_of_ble_eq_true rfl) ?_
    exact W.iret hx hb hr (fun t9 ht9 hW9 => ⟨⟨_, ((G, o, ld, b, k), fo 0), rfl, Or.inr (⟨rfl, rfl, hp9⟩), fo, fL, fK, FZ, by rw [ht9]; exact hP, hD, hC, rfl⟩, hS.F ht9⟩) hS.2.2 dL_makeLink_16
  · obtain ⟨fL', fK', FZ', hP1, hD1, hC'⟩ := hB9
    rw [ht9] at hP1
    obtain ⟨hP, hD⟩ := xjoin (wr := [(ou, .inl (cJ, 1, .inr (.inl fo)))]) (wc := (CW cT x lv kp fL fK o ld b k FZ)) (w1 := CW cT x lv kp fL' fK' u.2.1 u.2.2.1 u.2.2.2.1 u.2.2.2.2 FZ') hP hD hkc hFc hP1 hD1
    generalize H1 = H at hP hS ⊢
    have hP : va_P D vwCl ((ou, .inl (cJ, 1, .inr (.inl fo))) :: (x, .inr (1, [.ref lv, .ref kp, .int (nI u.2.1), .int (nI u.2.2.1), .int (nI u.2.2.2.1), .int (nI u.2.2.2.2)])) :: (lv, .inl (cT, 6, .inr (.inr (.inr (.inr fL'))))) :: (kp, .inl (cT, 246, .inr (.inr (.inr (.inr fK'))))) :: FZ') H := hP
    have hD : va_D A ((ou, .inl (cJ, 1, .inr (.inl fo))) :: (x, .inr (1, [.ref lv, .ref kp, .int (nI u.2.1), .int (nI u.2.2.1), .int (nI u.2.2.2.1), .int (nI u.2.2.2.2)])) :: (lv, .inl (cT, 6, .inr (.inr (.inr (.inr fL'))))) :: (kp, .inl (cT, 246, .inr (.inr (.inr (.inr fK'))))) :: FZ') := hD
    refine lv_i2l (v := (r9).toInt64) hx hb dL_makeLink_8 rfl ?_
    refine va_last hx hb hK hP hD hS 0 2 rfl rfl (xin (by omega) (by omega)) dL_makeLink_9 (fun H locs hP hD hS => ?_)
    rw [nI_clamp (show 0 < 2 ^ 31 by omega)] at hP hD
    have hP : va_P D vwCl ((ou, .inl (cJ, 1, .inr (.inl (vp_updL fo 0 ((r9).toInt64))))) :: (x, .inr (1, [.ref lv, .ref kp, .int (nI u.2.1), .int (nI u.2.2.1), .int (nI u.2.2.2.1), .int (nI u.2.2.2.2)])) :: (lv, .inl (cT, 6, .inr (.inr (.inr (.inr fL'))))) :: (kp, .inl (cT, 246, .inr (.inr (.inr (.inr fK'))))) :: FZ') H := hP
    have hD : va_D A ((ou, .inl (cJ, 1, .inr (.inl (vp_updL fo 0 ((r9).toInt64))))) :: (x, .inr (1, [.ref lv, .ref kp, .int (nI u.2.1), .int (nI u.2.2.1), .int (nI u.2.2.2.1), .int (nI u.2.2.2.2)])) :: (lv, .inl (cT, 6, .inr (.inr (.inr (.inr fL'))))) :: (kp, .inl (cT, 246, .inr (.inr (.inr (.inr fK'))))) :: FZ') := hD
    refine lv_goto (tgt := 17) hx hb dL_makeLink_10 (by decide) ?_
    refine lv_iconst (v := nI 0) hx hb dL_makeLink_17 (by decide) ?_
    refine vx_ret ?_
    refine W.widen (k := 8) (n := 40) (Nat.le_of_ble_eq_true rfl) (Nat.le_of_ble_eq_true rfl) ?_
    exact W.iret hx hb hr (fun t9 ht9 hW9 => ⟨⟨_, (u, r9.toInt64), rfl, Or.inl (⟨rfl, r9, rfl, hw9⟩), _, fL', fK', FZ', by rw [ht9]; exact hP, hD, hC', if_pos rfl⟩, hS.F ht9⟩) hS.2.2 dL_makeLink_18

set_option maxHeartbeats 4000000 in
set_option maxRecDepth 100000 in
theorem c_L_put (l : Launch) (hst : l.stackTraces = false) {D : va_G} {cI cT cJ : ClassId} (Ax : Nat → Prop) (ou x lv kp : Nat) (fo : Nat → Int64) (fL fK : Nat → Option Nat) (o ld b k : Nat) (FZ : va_W) (G : Nat → Tv) (hC : CA cI FZ fL fK G) (v w z : Int32)  (sz : Nat) : vx_Met l yL_put wsL_put (rmD 9 8 40) (XPl D cI cT cJ Ax [.ref x, .int v, .int w, .int z, .ref ou] (fun H => H.size = sz ∧ va_P D vwCl (LWs cT cJ ou x lv kp fo fL fK o ld b k FZ) H ∧ va_D (fun _ => True) (LWs cT cJ ou x lv kp fo fL fK o ld b k FZ))) (va_Qi (S := Sv × Int64) (fun r u => (r = nI 0 ∧ ∃ r0 : Int32, u.2 = r0.toInt64 ∧ (fun (r : Int32) (u : Sv) => ∃ j sp y, j < 6 ∧ v = nI j ∧ PutK (G (246 + j)) ∧ sp ≤ (G (246 + j)).2.2.1 ∧ w = nI sp ∧ y ≤ 9 ∧ z = nI y ∧ r = nI ((G (246 + j)).2.2.1 + 1) ∧ u = (va_up G (246 + j) (nI 1, (G (246 + j)).2.1, (G (246 + j)).2.2.1 + 1, insR (G (246 + j)).2.2.2 sp (nI y)), o, ld, b, k)) r0 u.1) ∨ (r = nI 1 ∧ u.1 = (G, o, ld, b, k) ∧ ¬ Pl v) ∨ (r = nI 2 ∧ u.1 = (G, o, ld, b, k) ∧ ∃ j, j < 6 ∧ v = nI j ∧ ¬ PutK (G (246 + j))) ∨ (r = nI 3 ∧ u.1 = (G, o, ld, b, k) ∧ ∃ j, j < 6 ∧ v = nI j ∧ PutK (G (246 + j)) ∧ ¬ ∃ sp y, sp ≤ (G (246 + j)).2.2.1 ∧ w = nI sp ∧ y ≤ 9 ∧ z = nI y)) (fun u t => LB D cI cT cJ ou x lv kp (va_A (LWs cT cJ ou x lv kp fo fL fK o ld b k FZ) sz) u.1 u.2 t.heap) (va_A (LWs cT cJ ou x lv kp fo fL fK o ld b k FZ) sz)) (XXc (fun _ => False)) 8 40 (va_A (LWs cT cJ ou x lv kp fo fL fK o ld b k FZ) sz) := by
  refine vx_ofWH (cc := cL_put) (maxL := 6) (ret := (some .int)) (hh := [(0, 12, 15, 13), (0, 12, 19, 26), (0, 12, 23, 28)]) (by decide) rfl ?_
  intro p e s m args below meth c s₁ B hml hv
  obtain ⟨rfl, ⟨hsz, hP, hD0⟩, hE, hT, hN⟩ := hv
  have hx := B.exec
  have hb := B.bytes
  have hr := B.returns
  have hts := atoms_spec (ws := wsL_put) B.pre
  have hown : s.vm.findClass RL = some m.cls := findClass_of_methodNamed B.named
  have hlocks := B.notSynchronized
  have hl := lv_entry ([.ref x, .int v, .int w, .int z, .ref ou]) (n := 6) (Nat.le_of_ble_eq_true rfl)
  rw [lg_entry_eq]
  generalize (lg_sl ([.ref x, .int v, .int w, .int z, .ref ou]) ++ List.replicate (6 - (lg_sl ([.ref x, .int v, .int w, .int z, .ref ou])).length) Slot.unset).toArray = ls at hl ⊢
  have hl : lv_has ls 6 [(0, .ref x), (1, .int v), (2, .int w), (3, .int z), (4, .ref ou)] := hl
  have htab := vx_table (x := yL_put) B (hts (.codeWith yL_put cL_put 6 (some .int) [(0, 12, 15, 13), (0, 12, 19, 26), (0, 12, 23, 28)]) List.mem_cons_self)
  have hK := hE.1
  subst hsz
  have hD := hD0.self (sz := s.heap.size)
  generalize hAe : va_A (LWs cT cJ ou x lv kp fo fL fK o ld b k FZ) s.heap.size = A at hD ⊢
  have hA : ∀ q : Nat, s.heap.size ≤ q → A q := fun q h => by rw [← hAe]; exact Or.inr h
  have hS : va_S A s.heap s.heap [] := va_S.rf
  refine lv_aload hx hb dL_put_0 (lv_at hl 4 rfl) ?_
  refine lv_iconst (v := nI 0) hx hb dL_put_2 (by decide) ?_
  refine lv_aload_n hx hb dL_put_3 rfl (lv_at hl 0 rfl) ?_
  refine lv_iload_n hx hb dL_put_4 rfl (lv_at hl 1 rfl) ?_
  refine lv_iload_n hx hb dL_put_5 rfl (lv_at hl 2 rfl) ?_
  refine lv_iload_n hx hb dL_put_6 rfl (lv_at hl 3 rfl) ?_
  have hP : va_P D vwCl ([(ou, .inl (cJ, 1, .inr (.inl fo)))] ++ (CW cT x lv kp fL fK o ld b k FZ)) s.heap := hP
  have hD : va_D A ([(ou, .inl (cJ, 1, .inr (.inl fo)))] ++ (CW cT x lv kp fL fK o ld b k FZ)) := hD
  have hPc : va_P D vwCl (CW cT x lv kp fL fK o ld b k FZ) s.heap := xP_sub (fun _ h => List.mem_cons_of_mem _ h) hP
  have hDc : va_D (fun _ => True) (CW cT x lv kp fL fK o ld b k FZ) := (xD_sub (List.sublist_cons_self _ _) hD).weaken (fun _ _ _ _ => trivial)
  have hFc := xfree (wc := (CW cT x lv kp fL fK o ld b k FZ)) hD hS hA (fun _ h => List.mem_cons_of_mem _ h)
  refine xcw (vx_runV (As := [.int v, .int w, .int z]) (rest := [.int (nI 0), .ref ou]) ⟨hx, hb, hml, hown, hts⟩ (c_X1_put l hst Ax x lv kp fL fK o ld b k FZ G hC v w z s.heap.size) (cwV 3 hts gL_put_X1_put rfl rfl rfl (by decide +kernel) ⟨(Nat.le_of_ble_eq_true rfl), (Nat.le_of_ble_eq_true rfl)⟩) ⟨XPx_blind, va_recv hK hPc (ci := 1) (q0 := 0) rfl rfl, XPx_pre hE hT ⟨rfl, hPc, hDc⟩⟩ rfl rfl hl.1 rfl (lv_room (Nat.le_of_ble_eq_true rfl)) dL_put_7 ⟨Nat.le_of_ble_eq_true rfl, Nat.le_of_ble_eq_true rfl⟩) hS (fun q9 _ h => hFc q9 h) hFc (fun E9 ce9 q9 H1 locs hp9 hz9 hk9 hS hc9 hv9 hcl9 => ?_) (fun r9 u t9 H1 locs ht9 hvm9 hw9 hB9 hzc hkc hS => ?_)
  · have hP := xkept hP hk9
    generalize H1 = H at hP hS hc9 ⊢
    rcases hp9 with ⟨rfl, hp9⟩ | ⟨rfl, hp9⟩ | ⟨rfl, hp9⟩
    · refine vx_catch hown [] ⟨0, 12, 15, 13⟩ [⟨0, 12, 19, 26⟩, ⟨0, 12, 23, 28⟩] (by rw [htab]; rfl) (fun _ h => nomatch h) (by decide) (by decide) (hts (.classLink RL 13 nIO) (by decide +kernel)) (va_Nw.use rfl (hT.2.1 nIO (by decide))) hc9 hv9 hcl9 ?_
      refine W.eq (g2 := F0 m 15 ls [.ref q9]) rfl ?_
      refine lv_astore (lv' := [(5, .ref q9), (0, .ref x), (1, .int v), (2, .int w), (3, .int z), (4, .ref ou)]) hx hb dL_put_15 hl (by decide) rfl (fun ls hl => ?_)
      refine lv_iconst (v := nI 1) hx hb dL_put_17 (by decide) ?_
      refine vx_ret ?_
      refine W.widen (k := 8) (n := 40) (Nat.le_of_ble_eq_true rfl) (Nat.le_of_ble_eq_true rfl) ?_
      exact W.iret hx hb hr (fun t9 ht9 hW9 => ⟨⟨_, ((G, o, ld, b, k), fo 0), rfl, Or.inr (Or.inl (⟨rfl, rfl, hp9⟩)), fo, fL, fK, FZ, by rw [ht9]; exact hP, hD, hC, rfl⟩, hS.F ht9⟩) hS.2.2 dL_put_18
    · refine vx_catch hown [⟨0, 12, 15, 13⟩] ⟨0, 12, 19, 26⟩ [⟨0, 12, 23, 28⟩] (by rw [htab]; rfl) (by intro z9 hz9; rw [List.mem_singleton.mp hz9]; exact Or.inr ⟨by decide, nIO, hts (.classLink RL 13 nIO) (by decide +kernel), hN.1⟩) (by decide) (by decide) (hts (.classLink RL 26 nIS) (by decide +kernel)) (va_Nw.use rfl (hT.2.1 nIS (by decide))) hc9 hv9 hcl9 ?_
      refine W.eq (g2 := F0 m 19 ls [.ref q9]) rfl ?_
      refine lv_astore (lv' := [(5, .ref q9), (0, .ref x), (1, .int v), (2, .int w), (3, .int z), (4, .ref ou)]) hx hb dL_put_19 hl (by decide) rfl (fun ls hl => ?_)
      refine lv_iconst (v := nI 2) hx hb dL_put_21 (by decide) ?_
      refine vx_ret ?_
      refine W.widen (k := 8) (n := 40) (Nat.le_of_ble_eq_true rfl) (Nat.le_of_ble_eq_true rfl) ?_
      exact W.iret hx hb hr (fun t9 ht9 hW9 => ⟨⟨_, ((G, o, ld, b, k), fo 0), rfl, Or.inr (Or.inr (Or.inl (⟨rfl, rfl, hp9⟩))), fo, fL, fK, FZ, by rw [ht9]; exact hP, hD, hC, rfl⟩, hS.F ht9⟩) hS.2.2 dL_put_22
    · refine vx_catch hown [⟨0, 12, 15, 13⟩, ⟨0, 12, 19, 26⟩] ⟨0, 12, 23, 28⟩ [] (by rw [htab]; rfl) (by intro z9 hz9; rcases List.mem_cons.mp hz9 with rfl | hz9; exact Or.inr ⟨by decide, nIO, hts (.classLink RL 13 nIO) (by decide +kernel), hN.2.1⟩; rw [List.mem_singleton.mp hz9]; exact Or.inr ⟨by decide, nIS, hts (.classLink RL 26 nIS) (by decide +kernel), hN.2.2.1⟩) (by decide) (by decide) (hts (.classLink RL 28 nIA) (by decide +kernel)) (va_Nw.use rfl (hT.2.1 nIA (by decide))) hc9 hv9 hcl9 ?_
      refine W.eq (g2 := F0 m 23 ls [.ref q9]) rfl ?_
      refine lv_astore (lv' := [(5, .ref q9), (0, .ref x), (1, .int v), (2, .int w), (3, .int z), (4, .ref ou)]) hx hb dL_put_23 hl (by decide) rfl (fun ls hl => ?_)
      refine lv_iconst (v := nI 3) hx hb dL_put_25 (by decide) ?_
      refine vx_ret ?_
      refine W.widen (k := 8) (n := 40) (Nat.le_of_ble_eq_true rfl) (Nat.le_of_ble_eq_true rfl) ?_
      exact W.iret hx hb hr (fun t9 ht9 hW9 => ⟨⟨_, ((G, o, ld, b, k), fo 0), rfl, Or.inr (Or.inr (Or.inr (⟨rfl, rfl, hp9⟩))), fo, fL, fK, FZ, by rw [ht9]; exact hP, hD, hC, rfl⟩, hS.F ht9⟩) hS.2.2 dL_put_26
  · obtain ⟨fL', fK', FZ', hP1, hD1, hC'⟩ := hB9
    rw [ht9] at hP1
    obtain ⟨hP, hD⟩ := xjoin (wr := [(ou, .inl (cJ, 1, .inr (.inl fo)))]) (wc := (CW cT x lv kp fL fK o ld b k FZ)) (w1 := CW cT x lv kp fL' fK' u.2.1 u.2.2.1 u.2.2.2.1 u.2.2.2.2 FZ') hP hD hkc hFc hP1 hD1
    generalize H1 = H at hP hS ⊢
    have hP : va_P D vwCl ((ou, .inl (cJ, 1, .inr (.inl fo))) :: (x, .inr (1, [.ref lv, .ref kp, .int (nI u.2.1), .int (nI u.2.2.1), .int (nI u.2.2.2.1), .int (nI u.2.2.2.2)])) :: (lv, .inl (cT, 6, .inr (.inr (.inr (.inr fL'))))) :: (kp, .inl (cT, 246, .inr (.inr (.inr (.inr fK'))))) :: FZ') H := hP
    have hD : va_D A ((ou, .inl (cJ, 1, .inr (.inl fo))) :: (x, .inr (1, [.ref lv, .ref kp, .int (nI u.2.1), .int (nI u.2.2.1), .int (nI u.2.2.2.1), .int (nI u.2.2.2.2)])) :: (lv, .inl (cT, 6, .inr (.inr (.inr (.inr fL'))))) :: (kp, .inl (cT, 246, .inr (.inr (.inr (.inr fK'))))) :: FZ') := hD
    refine lv_i2l (v := (r9).toInt64) hx hb dL_put_10 rfl ?_
    refine va_last hx hb hK hP hD hS 0 2 rfl rfl (xin (by omega) (by omega)) dL_put_11 (fun H locs hP hD hS => ?_)
    rw [nI_clamp (show 0 < 2 ^ 31 by omega)] at hP hD
    have hP : va_P D vwCl ((ou, .inl (cJ, 1, .inr (.inl (vp_updL fo 0 ((r9).toInt64))))) :: (x, .inr (1, [.ref lv, .ref kp, .int (nI u.2.1), .int (nI u.2.2.1), .int (nI u.2.2.2.1), .int (nI u.2.2.2.2)])) :: (lv, .inl (cT, 6, .inr (.inr (.inr (.inr fL'))))) :: (kp, .inl (cT, 246, .inr (.inr (.inr (.inr fK'))))) :: FZ') H := hP
    have hD : va_D A ((ou, .inl (cJ, 1, .inr (.inl (vp_updL fo 0 ((r9).toInt64))))) :: (x, .inr (1, [.ref lv, .ref kp, .int (nI u.2.1), .int (nI u.2.2.1), .int (nI u.2.2.2.1), .int (nI u.2.2.2.2)])) :: (lv, .inl (cT, 6, .inr (.inr (.inr (.inr fL'))))) :: (kp, .inl (cT, 246, .inr (.inr (.inr (.inr fK'))))) :: FZ') := hD
    refine lv_goto (tgt := 27) hx hb dL_put_12 (by decide) ?_
    refine lv_iconst (v := nI 0) hx hb dL_put_27 (by decide) ?_
    refine vx_ret ?_
    refine W.widen (k := 8) (n := 40) (Nat.le_of_ble_eq_true rfl) (Nat.le_of_ble_eq_true rfl) ?_
    exact W.iret hx hb hr (fun t9 ht9 hW9 => ⟨⟨_, (u, r9.toInt64), rfl, Or.inl (⟨rfl, r9, rfl, hw9⟩), _, fL', fK', FZ', by rw [ht9]; exact hP, hD, hC', if_pos rfl⟩, hS.F ht9⟩) hS.2.2 dL_put_28

set_option maxHeartbeats 4000000 in
set_option maxRecDepth 100000 in
theorem c_L_take (l : Launch) (hst : l.stackTraces = false) {D : va_G} {cI cT cJ : ClassId} (Ax : Nat → Prop) (ou x lv kp : Nat) (fo : Nat → Int64) (fL fK : Nat → Option Nat) (o ld b k : Nat) (FZ : va_W) (G : Nat → Tv) (hC : CA cI FZ fL fK G) (v w : Int32)  (sz : Nat) : vx_Met l yL_take wsL_take (rmD 9 8 40) (XPl D cI cT cJ Ax [.ref x, .int v, .int w, .ref ou] (fun H => H.size = sz ∧ va_P D vwCl (LWs cT cJ ou x lv kp fo fL fK o ld b k FZ) H ∧ va_D (fun _ => True) (LWs cT cJ ou x lv kp fo fL fK o ld b k FZ))) (va_Qi (S := Sv × Int64) (fun r u => (r = nI 0 ∧ ∃ r0 : Int32, u.2 = r0.toInt64 ∧ (fun (r : Int32) (u : Sv) => ∃ j sp, j < 6 ∧ v = nI j ∧ (G (246 + j)).1 = nI 1 ∧ sp < (G (246 + j)).2.2.1 ∧ w = nI sp ∧ r = (G (246 + j)).2.2.2 sp ∧ u = (va_up G (246 + j) (nI 1, (G (246 + j)).2.1, (G (246 + j)).2.2.1 - 1, delR (G (246 + j)).2.2.2 sp), o, ld, b, k)) r0 u.1) ∨ (r = nI 1 ∧ u.1 = (G, o, ld, b, k) ∧ ¬ Pl v) ∨ (r = nI 2 ∧ u.1 = (G, o, ld, b, k) ∧ ∃ j, j < 6 ∧ v = nI j ∧ ¬ (G (246 + j)).1 = nI 1) ∨ (r = nI 3 ∧ u.1 = (G, o, ld, b, k) ∧ ∃ j, j < 6 ∧ v = nI j ∧ (G (246 + j)).1 = nI 1 ∧ ¬ ∃ sp, sp < (G (246 + j)).2.2.1 ∧ w = nI sp)) (fun u t => LB D cI cT cJ ou x lv kp (va_A (LWs cT cJ ou x lv kp fo fL fK o ld b k FZ) sz) u.1 u.2 t.heap) (va_A (LWs cT cJ ou x lv kp fo fL fK o ld b k FZ) sz)) (XXc (fun _ => False)) 8 40 (va_A (LWs cT cJ ou x lv kp fo fL fK o ld b k FZ) sz) := by
  refine vx_ofWH (cc := cL_take) (maxL := 5) (ret := (some .int)) (hh := [(0, 10, 13, 13), (0, 10, 17, 26), (0, 10, 21, 28)]) (by decide) rfl ?_
  intro p e s m args below meth c s₁ B hml hv
  obtain ⟨rfl, ⟨hsz, hP, hD0⟩, hE, hT, hN⟩ := hv
  have hx := B.exec
  have hb := B.bytes
  have hr := B.returns
  have hts := atoms_spec (ws := wsL_take) B.pre
  have hown : s.vm.findClass RL = some m.cls := findClass_of_methodNamed B.named
  have hlocks := B.notSynchronized
  have hl := lv_entry ([.ref x, .int v, .int w, .ref ou]) (n := 5) (Nat.le_of_ble_eq_true rfl)
  rw [lg_entry_eq]
  generalize (lg_sl ([.ref x, .int v, .int w, .ref ou]) ++ List.replicate (5 - (lg_sl ([.ref x, .int v, .int w, .ref ou])).length) Slot.unset).toArray = ls at hl ⊢
  have hl : lv_has ls 5 [(0, .ref x), (1, .int v), (2, .int w), (3, .ref ou)] := hl
  have htab := vx_table (x := yL_take) B (hts (.codeWith yL_take cL_take 5 (some .int) [(0, 10, 13, 13), (0, 10, 17, 26), (0, 10, 21, 28)]) List.mem_cons_self)
  have hK := hE.1
  subst hsz
  have hD := hD0.self (sz := s.heap.size)
  generalize hAe : va_A (LWs cT cJ ou x lv kp fo fL fK o ld b k FZ) s.heap.size = A at hD ⊢
  have hA : ∀ q : Nat, s.heap.size ≤ q → A q := fun q h => by rw [← hAe]; exact Or.inr h
  have hS : va_S A s.heap s.heap [] := va_S.rf
  refine lv_aload_n hx hb dL_take_0 rfl (lv_at hl 3 rfl) ?_
  refine lv_iconst (v := nI 0) hx hb dL_take_1 (by decide) ?_
  refine lv_aload_n hx hb dL_take_2 rfl (lv_at hl 0 rfl) ?_
  refine lv_iload_n hx hb dL_take_3 rfl (lv_at hl 1 rfl) ?_
  refine lv_iload_n hx hb dL_take_4 rfl (lv_at hl 2 rfl) ?_
  have hP : va_P D vwCl ([(ou, .inl (cJ, 1, .inr (.inl fo)))] ++ (CW cT x lv kp fL fK o ld b k FZ)) s.heap := hP
  have hD : va_D A ([(ou, .inl (cJ, 1, .inr (.inl fo)))] ++ (CW cT x lv kp fL fK o ld b k FZ)) := hD
  have hPc : va_P D vwCl (CW cT x lv kp fL fK o ld b k FZ) s.heap := xP_sub (fun _ h => List.mem_cons_of_mem _ h) hP
  have hDc : va_D (fun _ => True) (CW cT x lv kp fL fK o ld b k FZ) := (xD_sub (List.sublist_cons_self _ _) hD).weaken (fun _ _ _ _ => trivial)
  have hFc := xfree (wc := (CW cT x lv kp fL fK o ld b k FZ)) hD hS hA (fun _ h => List.mem_cons_of_mem _ h)
  refine xcw (vx_runV (As := [.int v, .int w]) (rest := [.int (nI 0), .ref ou]) ⟨hx, hb, hml, hown, hts⟩ (c_X1_take l hst Ax x lv kp fL fK o ld b k FZ G hC v w s.heap.size) (cwV 2 hts gL_take_X1_take rfl rfl rfl (by decide +kernel) ⟨(Nat.le_of_ble_eq_true rfl), (Nat.le_of_ble_eq_true rfl)⟩) ⟨XPx_blind, va_recv hK hPc (ci := 1) (q0 := 0) rfl rfl, XPx_pre hE hT ⟨rfl, hPc, hDc⟩⟩ rfl rfl hl.1 rfl (lv_room (Nat.le_of_ble_eq_true rfl)) dL_take_5 ⟨Nat.le_of_ble_eq_true rfl, Nat.le_of_ble_eq_true rfl⟩) hS (fun q9 _ h => hFc q9 h) hFc (fun E9 ce9 q9 H1 locs hp9 hz9 hk9 hS hc9 hv9 hcl9 => ?_) (fun r9 u t9 H1 locs ht9 hvm9 hw9 hB9 hzc hkc hS => ?_)
  · have hP := xkept hP hk9
    generalize H1 = H at hP hS hc9 ⊢
    rcases hp9 with ⟨rfl, hp9⟩ | ⟨rfl, hp9⟩ | ⟨rfl, hp9⟩
    · refine vx_catch hown [] ⟨0, 10, 13, 13⟩ [⟨0, 10, 17, 26⟩, ⟨0, 10, 21, 28⟩] (by rw [htab]; rfl) (fun _ h => nomatch h) (by decide) (by decide) (hts (.classLink RL 13 nIO) (by decide +kernel)) (va_Nw.use rfl (hT.2.1 nIO (by decide))) hc9 hv9 hcl9 ?_
      refine W.eq (g2 := F0 m 13 ls [.ref q9]) rfl ?_
      refine lv_astore (lv' := [(4, .ref q9), (0, .ref x), (1, .int v), (2, .int w), (3, .ref ou)]) hx hb dL_take_13 hl (by decide) rfl (fun ls hl => ?_)
      refine lv_iconst (v := nI 1) hx hb dL_take_15 (by decide) ?_
      refine vx_ret ?_
      refine W.widen (k := 8) (n := 40) (Nat.le_of_ble_eq_true rfl) (Nat.le_of_ble_eq_true rfl) ?_
      exact W.iret hx hb hr (fun t9 ht9 hW9 => ⟨⟨_, ((G, o, ld, b, k), fo 0), rfl, Or.inr (Or.inl (⟨rfl, rfl, hp9⟩)), fo, fL, fK, FZ, by rw [ht9]; exact hP, hD, hC, rfl⟩, hS.F ht9⟩) hS.2.2 dL_take_16
    · refine vx_catch hown [⟨0, 10, 13, 13⟩] ⟨0, 10, 17, 26⟩ [⟨0, 10, 21, 28⟩] (by rw [htab]; rfl) (by intro z9 hz9; rw [List.mem_singleton.mp hz9]; exact Or.inr ⟨by decide, nIO, hts (.classLink RL 13 nIO) (by decide +kernel), hN.1⟩) (by decide) (by decide) (hts (.classLink RL 26 nIS) (by decide +kernel)) (va_Nw.use rfl (hT.2.1 nIS (by decide))) hc9 hv9 hcl9 ?_
      refine W.eq (g2 := F0 m 17 ls [.ref q9]) rfl ?_
      refine lv_astore (lv' := [(4, .ref q9), (0, .ref x), (1, .int v), (2, .int w), (3, .ref ou)]) hx hb dL_take_17 hl (by decide) rfl (fun ls hl => ?_)
      refine lv_iconst (v := nI 2) hx hb dL_take_19 (by decide) ?_
      refine vx_ret ?_
      refine W.widen (k := 8) (n := 40) (Nat.le_of_ble_eq_true rfl) (Nat.le_of_ble_eq_true rfl) ?_
      exact W.iret hx hb hr (fun t9 ht9 hW9 => ⟨⟨_, ((G, o, ld, b, k), fo 0), rfl, Or.inr (Or.inr (Or.inl (⟨rfl, rfl, hp9⟩))), fo, fL, fK, FZ, by rw [ht9]; exact hP, hD, hC, rfl⟩, hS.F ht9⟩) hS.2.2 dL_take_20
    · refine vx_catch hown [⟨0, 10, 13, 13⟩, ⟨0, 10, 17, 26⟩] ⟨0, 10, 21, 28⟩ [] (by rw [htab]; rfl) (by intro z9 hz9; rcases List.mem_cons.mp hz9 with rfl | hz9; exact Or.inr ⟨by decide, nIO, hts (.classLink RL 13 nIO) (by decide +kernel), hN.2.1⟩; rw [List.mem_singleton.mp hz9]; exact Or.inr ⟨by decide, nIS, hts (.classLink RL 26 nIS) (by decide +kernel), hN.2.2.1⟩) (by decide) (by decide) (hts (.classLink RL 28 nIA) (by decide +kernel)) (va_Nw.use rfl (hT.2.1 nIA (by decide))) hc9 hv9 hcl9 ?_
      refine W.eq (g2 := F0 m 21 ls [.ref q9]) rfl ?_
      refine lv_astore (lv' := [(4, .ref q9), (0, .ref x), (1, .int v), (2, .int w), (3, .ref ou)]) hx hb dL_take_21 hl (by decide) rfl (fun ls hl => ?_)
      refine lv_iconst (v := nI 3) hx hb dL_take_23 (by decide) ?_
      refine vx_ret ?_
      refine W.widen (k := 8) (n := 40) (Nat.le_of_ble_eq_true rfl) (Nat.le_of_ble_eq_true rfl) ?_
      exact W.iret hx hb hr (fun t9 ht9 hW9 => ⟨⟨_, ((G, o, ld, b, k), fo 0), rfl, Or.inr (Or.inr (Or.inr (⟨rfl, rfl, hp9⟩))), fo, fL, fK, FZ, by rw [ht9]; exact hP, hD, hC, rfl⟩, hS.F ht9⟩) hS.2.2 dL_take_24
  · obtain ⟨fL', fK', FZ', hP1, hD1, hC'⟩ := hB9
    rw [ht9] at hP1
    obtain ⟨hP, hD⟩ := xjoin (wr := [(ou, .inl (cJ, 1, .inr (.inl fo)))]) (wc := (CW cT x lv kp fL fK o ld b k FZ)) (w1 := CW cT x lv kp fL' fK' u.2.1 u.2.2.1 u.2.2.2.1 u.2.2.2.2 FZ') hP hD hkc hFc hP1 hD1
    generalize H1 = H at hP hS ⊢
    have hP : va_P D vwCl ((ou, .inl (cJ, 1, .inr (.inl fo))) :: (x, .inr (1, [.ref lv, .ref kp, .int (nI u.2.1), .int (nI u.2.2.1), .int (nI u.2.2.2.1), .int (nI u.2.2.2.2)])) :: (lv, .inl (cT, 6, .inr (.inr (.inr (.inr fL'))))) :: (kp, .inl (cT, 246, .inr (.inr (.inr (.inr fK'))))) :: FZ') H := hP
    have hD : va_D A ((ou, .inl (cJ, 1, .inr (.inl fo))) :: (x, .inr (1, [.ref lv, .ref kp, .int (nI u.2.1), .int (nI u.2.2.1), .int (nI u.2.2.2.1), .int (nI u.2.2.2.2)])) :: (lv, .inl (cT, 6, .inr (.inr (.inr (.inr fL'))))) :: (kp, .inl (cT, 246, .inr (.inr (.inr (.inr fK'))))) :: FZ') := hD
    refine lv_i2l (v := (r9).toInt64) hx hb dL_take_8 rfl ?_
    refine va_last hx hb hK hP hD hS 0 2 rfl rfl (xin (by omega) (by omega)) dL_take_9 (fun H locs hP hD hS => ?_)
    rw [nI_clamp (show 0 < 2 ^ 31 by omega)] at hP hD
    have hP : va_P D vwCl ((ou, .inl (cJ, 1, .inr (.inl (vp_updL fo 0 ((r9).toInt64))))) :: (x, .inr (1, [.ref lv, .ref kp, .int (nI u.2.1), .int (nI u.2.2.1), .int (nI u.2.2.2.1), .int (nI u.2.2.2.2)])) :: (lv, .inl (cT, 6, .inr (.inr (.inr (.inr fL'))))) :: (kp, .inl (cT, 246, .inr (.inr (.inr (.inr fK'))))) :: FZ') H := hP
    have hD : va_D A ((ou, .inl (cJ, 1, .inr (.inl (vp_updL fo 0 ((r9).toInt64))))) :: (x, .inr (1, [.ref lv, .ref kp, .int (nI u.2.1), .int (nI u.2.2.1), .int (nI u.2.2.2.1), .int (nI u.2.2.2.2)])) :: (lv, .inl (cT, 6, .inr (.inr (.inr (.inr fL'))))) :: (kp, .inl (cT, 246, .inr (.inr (.inr (.inr fK'))))) :: FZ') := hD
    refine lv_goto (tgt := 25) hx hb dL_take_10 (by decide) ?_
    refine lv_iconst (v := nI 0) hx hb dL_take_25 (by decide) ?_
    refine vx_ret ?_
    refine W.widen (k := 8) (n := 40) (Nat.le_of_ble_eq_true rfl) (Nat.le_of_ble_eq_true rfl) ?_
    exact W.iret hx hb hr (fun t9 ht9 hW9 => ⟨⟨_, (u, r9.toInt64), rfl, Or.inl (⟨rfl, r9, rfl, hw9⟩), _, fL', fK', FZ', by rw [ht9]; exact hP, hD, hC', if_pos rfl⟩, hS.F ht9⟩) hS.2.2 dL_take_26

set_option maxHeartbeats 4000000 in
set_option maxRecDepth 100000 in
theorem c_L_setRights (l : Launch) (hst : l.stackTraces = false) {D : va_G} {cI cT cJ : ClassId} (Ax : Nat → Prop) (ou x lv kp : Nat) (fo : Nat → Int64) (fL fK : Nat → Option Nat) (o ld b k : Nat) (FZ : va_W) (G : Nat → Tv) (hC : CA cI FZ fL fK G) (v w : Int32)  (sz : Nat) : vx_Met l yL_setRights wsL_setRights (rmD 9 8 40) (XPl D cI cT cJ Ax [.ref x, .int v, .int w, .ref ou] (fun H => H.size = sz ∧ va_P D vwCl (LWs cT cJ ou x lv kp fo fL fK o ld b k FZ) H ∧ va_D (fun _ => True) (LWs cT cJ ou x lv kp fo fL fK o ld b k FZ))) (va_Qi (S := Sv × Int64) (fun r u => (r = nI 0 ∧ ∃ r0 : Int32, u.2 = r0.toInt64 ∧ (fun (r : Int32) (u : Sv) => ∃ j y, j < 6 ∧ v = nI j ∧ ¬ (G (246 + j)).1 = nI 0 ∧ y ≤ 7 ∧ w = nI y ∧ r = (G (246 + j)).2.1 ∧ u = (va_up G (246 + j) ((G (246 + j)).1, nI y, (G (246 + j)).2.2.1, (G (246 + j)).2.2.2), o, ld, b, k)) r0 u.1) ∨ (r = nI 1 ∧ u.1 = (G, o, ld, b, k) ∧ ¬ Pl v) ∨ (r = nI 2 ∧ u.1 = (G, o, ld, b, k) ∧ ∃ j, j < 6 ∧ v = nI j ∧ (G (246 + j)).1 = nI 0) ∨ (r = nI 3 ∧ u.1 = (G, o, ld, b, k) ∧ ∃ j, j < 6 ∧ v = nI j ∧ ¬ (G (246 + j)).1 = nI 0 ∧ ¬ ∃ y, y ≤ 7 ∧ w = nI y)) (fun u t => LB D cI cT cJ ou x lv kp (va_A (LWs cT cJ ou x lv kp fo fL fK o ld b k FZ) sz) u.1 u.2 t.heap) (va_A (LWs cT cJ ou x lv kp fo fL fK o ld b k FZ) sz)) (XXc (fun _ => False)) 8 40 (va_A (LWs cT cJ ou x lv kp fo fL fK o ld b k FZ) sz) := by
  refine vx_ofWH (cc := cL_setRights) (maxL := 5) (ret := (some .int)) (hh := [(0, 10, 13, 13), (0, 10, 17, 26), (0, 10, 21, 28)]) (by decide) rfl ?_
  intro p e s m args below meth c s₁ B hml hv
  obtain ⟨rfl, ⟨hsz, hP, hD0⟩, hE, hT, hN⟩ := hv
  have hx := B.exec
  have hb := B.bytes
  have hr := B.returns
  have hts := atoms_spec (ws := wsL_setRights) B.pre
  have hown : s.vm.findClass RL = some m.cls := findClass_of_methodNamed B.named
  have hlocks := B.notSynchronized
  have hl := lv_entry ([.ref x, .int v, .int w, .ref ou]) (n := 5) (Nat.le_of_ble_eq_true rfl)
  rw [lg_entry_eq]
  generalize (lg_sl ([.ref x, .int v, .int w, .ref ou]) ++ List.replicate (5 - (lg_sl ([.ref x, .int v, .int w, .ref ou])).length) Slot.unset).toArray = ls at hl ⊢
  have hl : lv_has ls 5 [(0, .ref x), (1, .int v), (2, .int w), (3, .ref ou)] := hl
  have htab := vx_table (x := yL_setRights) B (hts (.codeWith yL_setRights cL_setRights 5 (some .int) [(0, 10, 13, 13), (0, 10, 17, 26), (0, 10, 21, 28)]) List.mem_cons_self)
  have hK := hE.1
  subst hsz
  have hD := hD0.self (sz := s.heap.size)
  generalize hAe : va_A (LWs cT cJ ou x lv kp fo fL fK o ld b k FZ) s.heap.size = A at hD ⊢
  have hA : ∀ q : Nat, s.heap.size ≤ q → A q := fun q h => by rw [← hAe]; exact Or.inr h
  have hS : va_S A s.heap s.heap [] := va_S.rf
  refine lv_aload_n hx hb dL_setRights_0 rfl (lv_at hl 3 rfl) ?_
  refine lv_iconst (v := nI 0) hx hb dL_setRights_1 (by decide) ?_
  refine lv_aload_n hx hb dL_setRights_2 rfl (lv_at hl 0 rfl) ?_
  refine lv_iload_n hx hb dL_setRights_3 rfl (lv_at hl 1 rfl) ?_
  refine lv_iload_n hx hb dL_setRights_4 rfl (lv_at hl 2 rfl) ?_
  have hP : va_P D vwCl ([(ou, .inl (cJ, 1, .inr (.inl fo)))] ++ (CW cT x lv kp fL fK o ld b k FZ)) s.heap := hP
  have hD : va_D A ([(ou, .inl (cJ, 1, .inr (.inl fo)))] ++ (CW cT x lv kp fL fK o ld b k FZ)) := hD
  have hPc : va_P D vwCl (CW cT x lv kp fL fK o ld b k FZ) s.heap := xP_sub (fun _ h => List.mem_cons_of_mem _ h) hP
  have hDc : va_D (fun _ => True) (CW cT x lv kp fL fK o ld b k FZ) := (xD_sub (List.sublist_cons_self _ _) hD).weaken (fun _ _ _ _ => trivial)
  have hFc := xfree (wc := (CW cT x lv kp fL fK o ld b k FZ)) hD hS hA (fun _ h => List.mem_cons_of_mem _ h)
  refine xcw (vx_runV (As := [.int v, .int w]) (rest := [.int (nI 0), .ref ou]) ⟨hx, hb, hml, hown, hts⟩ (c_X1_setRights l hst Ax x lv kp fL fK o ld b k FZ G hC v w s.heap.size) (cwV 2 hts gL_setRights_X1_setRights rfl rfl rfl (by decide +kernel) ⟨(Nat.le_of_ble_eq_true rfl), (Nat.le_of_ble_eq_true rfl)⟩) ⟨XPx_blind, va_recv hK hPc (ci := 1) (q0 := 0) rfl rfl, XPx_pre hE hT ⟨rfl, hPc, hDc⟩⟩ rfl rfl hl.1 rfl (lv_room (Nat.le_of_ble_eq_true rfl)) dL_setRights_5 ⟨Nat.le_of_ble_eq_true rfl, Nat.le_of_ble_eq_true rfl⟩) hS (fun q9 _ h => hFc q9 h) hFc (fun E9 ce9 q9 H1 locs hp9 hz9 hk9 hS hc9 hv9 hcl9 => ?_) (fun r9 u t9 H1 locs ht9 hvm9 hw9 hB9 hzc hkc hS => ?_)
  · have hP := xkept hP hk9
    generalize H1 = H at hP hS hc9 ⊢
    rcases hp9 with ⟨rfl, hp9⟩ | ⟨rfl, hp9⟩ | ⟨rfl, hp9⟩
    · refine vx_catch hown [] ⟨0, 10, 13, 13⟩ [⟨0, 10, 17, 26⟩, ⟨0, 10, 21, 28⟩] (by rw [htab]; rfl) (fun _ h => nomatch h) (by decide) (by decide) (hts (.classLink RL 13 nIO) (by decide +kernel)) (va_Nw.use rfl (hT.2.1 nIO (by decide))) hc9 hv9 hcl9 ?_
      refine W.eq (g2 := F0 m 13 ls [.ref q9]) rfl ?_
      refine lv_astore (lv' := [(4, .ref q9), (0, .ref x), (1, .int v), (2, .int w), (3, .ref ou)]) hx hb dL_setRights_13 hl (by decide) rfl (fun ls hl => ?_)
      refine lv_iconst (v := nI 1) hx hb dL_setRights_15 (by decide) ?_
      refine vx_ret ?_
      refine W.widen (k := 8) (n := 40) (Nat.le_of_ble_eq_true rfl) (Nat.le_of_ble_eq_true rfl) ?_
      exact W.iret hx hb hr (fun t9 ht9 hW9 => ⟨⟨_, ((G, o, ld, b, k), fo 0), rfl, Or.inr (Or.inl (⟨rfl, rfl, hp9⟩)), fo, fL, fK, FZ, by rw [ht9]; exact hP, hD, hC, rfl⟩, hS.F ht9⟩) hS.2.2 dL_setRights_16
    · refine vx_catch hown [⟨0, 10, 13, 13⟩] ⟨0, 10, 17, 26⟩ [⟨0, 10, 21, 28⟩] (by rw [htab]; rfl) (by intro z9 hz9; rw [List.mem_singleton.mp hz9]; exact Or.inr ⟨by decide, nIO, hts (.classLink RL 13 nIO) (by decide +kernel), hN.1⟩) (by decide) (by decide) (hts (.classLink RL 26 nIS) (by decide +kernel)) (va_Nw.use rfl (hT.2.1 nIS (by decide))) hc9 hv9 hcl9 ?_
      refine W.eq (g2 := F0 m 17 ls [.ref q9]) rfl ?_
      refine lv_astore (lv' := [(4, .ref q9), (0, .ref x), (1, .int v), (2, .int w), (3, .ref ou)]) hx hb dL_setRights_17 hl (by decide) rfl (fun ls hl => ?_)
      refine lv_iconst (v := nI 2) hx hb dL_setRights_19 (by decide) ?_
      refine vx_ret ?_
      refine W.widen (k := 8) (n := 40) (Nat.le_of_ble_eq_true rfl) (Nat.le_of_ble_eq_true rfl) ?_
      exact W.iret hx hb hr (fun t9 ht9 hW9 => ⟨⟨_, ((G, o, ld, b, k), fo 0), rfl, Or.inr (Or.inr (Or.inl (⟨rfl, rfl, hp9⟩))), fo, fL, fK, FZ, by rw [ht9]; exact hP, hD, hC, rfl⟩, hS.F ht9⟩) hS.2.2 dL_setRights_20
    · refine vx_catch hown [⟨0, 10, 13, 13⟩, ⟨0, 10, 17, 26⟩] ⟨0, 10, 21, 28⟩ [] (by rw [htab]; rfl) (by intro z9 hz9; rcases List.mem_cons.mp hz9 with rfl | hz9; exact Or.inr ⟨by decide, nIO, hts (.classLink RL 13 nIO) (by decide +kernel), hN.2.1⟩; rw [List.mem_singleton.mp hz9]; exact Or.inr ⟨by decide, nIS, hts (.classLink RL 26 nIS) (by decide +kernel), hN.2.2.1⟩) (by decide) (by decide) (hts (.classLink RL 28 nIA) (by decide +kernel)) (va_Nw.use rfl (hT.2.1 nIA (by decide))) hc9 hv9 hcl9 ?_
      refine W.eq (g2 := F0 m 21 ls [.ref q9]) rfl ?_
      refine lv_astore (lv' := [(4, .ref q9), (0, .ref x), (1, .int v), (2, .int w), (3, .ref ou)]) hx hb dL_setRights_21 hl (by decide) rfl (fun ls hl => ?_)
      refine lv_iconst (v := nI 3) hx hb dL_setRights_23 (by decide) ?_
      refine vx_ret ?_
      refine W.widen (k := 8) (n := 40) (Nat.le_of_ble_eq_true rfl) (Nat.le_of_ble_eq_true rfl) ?_
      exact W.iret hx hb hr (fun t9 ht9 hW9 => ⟨⟨_, ((G, o, ld, b, k), fo 0), rfl, Or.inr (Or.inr (Or.inr (⟨rfl, rfl, hp9⟩))), fo, fL, fK, FZ, by rw [ht9]; exact hP, hD, hC, rfl⟩, hS.F ht9⟩) hS.2.2 dL_setRights_24
  · obtain ⟨fL', fK', FZ', hP1, hD1, hC'⟩ := hB9
    rw [ht9] at hP1
    obtain ⟨hP, hD⟩ := xjoin (wr := [(ou, .inl (cJ, 1, .inr (.inl fo)))]) (wc := (CW cT x lv kp fL fK o ld b k FZ)) (w1 := CW cT x lv kp fL' fK' u.2.1 u.2.2.1 u.2.2.2.1 u.2.2.2.2 FZ') hP hD hkc hFc hP1 hD1
    generalize H1 = H at hP hS ⊢
    have hP : va_P D vwCl ((ou, .inl (cJ, 1, .inr (.inl fo))) :: (x, .inr (1, [.ref lv, .ref kp, .int (nI u.2.1), .int (nI u.2.2.1), .int (nI u.2.2.2.1), .int (nI u.2.2.2.2)])) :: (lv, .inl (cT, 6, .inr (.inr (.inr (.inr fL'))))) :: (kp, .inl (cT, 246, .inr (.inr (.inr (.inr fK'))))) :: FZ') H := hP
    have hD : va_D A ((ou, .inl (cJ, 1, .inr (.inl fo))) :: (x, .inr (1, [.ref lv, .ref kp, .int (nI u.2.1), .int (nI u.2.2.1), .int (nI u.2.2.2.1), .int (nI u.2.2.2.2)])) :: (lv, .inl (cT, 6, .inr (.inr (.inr (.inr fL'))))) :: (kp, .inl (cT, 246, .inr (.inr (.inr (.inr fK'))))) :: FZ') := hD
    refine lv_i2l (v := (r9).toInt64) hx hb dL_setRights_8 rfl ?_
    refine va_last hx hb hK hP hD hS 0 2 rfl rfl (xin (by omega) (by omega)) dL_setRights_9 (fun H locs hP hD hS => ?_)
    rw [nI_clamp (show 0 < 2 ^ 31 by omega)] at hP hD
    have hP : va_P D vwCl ((ou, .inl (cJ, 1, .inr (.inl (vp_updL fo 0 ((r9).toInt64))))) :: (x, .inr (1, [.ref lv, .ref kp, .int (nI u.2.1), .int (nI u.2.2.1), .int (nI u.2.2.2.1), .int (nI u.2.2.2.2)])) :: (lv, .inl (cT, 6, .inr (.inr (.inr (.inr fL'))))) :: (kp, .inl (cT, 246, .inr (.inr (.inr (.inr fK'))))) :: FZ') H := hP
    have hD : va_D A ((ou, .inl (cJ, 1, .inr (.inl (vp_updL fo 0 ((r9).toInt64))))) :: (x, .inr (1, [.ref lv, .ref kp, .int (nI u.2.1), .int (nI u.2.2.1), .int (nI u.2.2.2.1), .int (nI u.2.2.2.2)])) :: (lv, .inl (cT, 6, .inr (.inr (.inr (.inr fL'))))) :: (kp, .inl (cT, 246, .inr (.inr (.inr (.inr fK'))))) :: FZ') := hD
    refine lv_goto (tgt := 25) hx hb dL_setRights_10 (by decide) ?_
    refine lv_iconst (v := nI 0) hx hb dL_setRights_25 (by decide) ?_
    refine vx_ret ?_
    refine W.widen (k := 8) (n := 40) (Nat.le_of_ble_eq_true rfl) (Nat.le_of_ble_eq_true rfl) ?_
    exact W.iret hx hb hr (fun t9 ht9 hW9 => ⟨⟨_, (u, r9.toInt64), rfl, Or.inl (⟨rfl, r9, rfl, hw9⟩), _, fL', fK', FZ', by rw [ht9]; exact hP, hD, hC', if_pos rfl⟩, hS.F ht9⟩) hS.2.2 dL_setRights_26

set_option maxHeartbeats 4000000 in
set_option maxRecDepth 100000 in
theorem c_L_run (l : Launch) (hst : l.stackTraces = false) {D : va_G} {cI cT cJ : ClassId} (Ax : Nat → Prop) (ou x lv kp : Nat) (fo : Nat → Int64) (fL fK : Nat → Option Nat) (o ld b k : Nat) (FZ : va_W) (G : Nat → Tv) (hC : CA cI FZ fL fK G) (v : Int32) (hld : ld ≤ 40) (sz : Nat) : vx_Met l yL_run wsL_run (rmD 9 8 40) (XPl D cI cT cJ Ax [.ref x, .int v, .ref ou] (fun H => H.size = sz ∧ va_P D vwCl (LWs cT cJ ou x lv kp fo fL fK o ld b k FZ) H ∧ va_D (fun _ => True) (LWs cT cJ ou x lv kp fo fL fK o ld b k FZ))) (va_Qi (S := Sv × Int64) (fun r u => (r = nI 0 ∧ ∃ r0 : Int32, u.2 = r0.toInt64 ∧ (fun (r : Int32) (u : Sv) => ∃ s, s ≤ 6 ∧ v = nI s ∧ ld < 40 ∧ ((s < dfN G ld 6 ∧ r = -1 ∧ u = (G, o, ld, 1, s)) ∨ (dfN G ld 6 ≤ s ∧ r = nI (ld + 1) ∧ u = (cpD G (ld + 1) 6, o, ld + 1, 0, 0)))) r0 u.1) ∨ (r = nI 1 ∧ u.1 = (G, o, ld, b, k) ∧ ¬ ∃ s, s ≤ 6 ∧ v = nI s) ∨ (r = nI 2 ∧ u.1 = (G, o, ld, b, k) ∧ (∃ s, s ≤ 6 ∧ v = nI s) ∧ ¬ ld < 40)) (fun u t => LB D cI cT cJ ou x lv kp (va_A (LWs cT cJ ou x lv kp fo fL fK o ld b k FZ) sz) u.1 u.2 t.heap) (va_A (LWs cT cJ ou x lv kp fo fL fK o ld b k FZ) sz)) (XXc (fun _ => False)) 8 40 (va_A (LWs cT cJ ou x lv kp fo fL fK o ld b k FZ) sz) := by
  refine vx_ofWH (cc := cL_run) (maxL := 4) (ret := (some .int)) (hh := [(0, 9, 12, 28), (0, 9, 15, 26)]) (by decide) rfl ?_
  intro p e s m args below meth c s₁ B hml hv
  obtain ⟨rfl, ⟨hsz, hP, hD0⟩, hE, hT, hN⟩ := hv
  have hx := B.exec
  have hb := B.bytes
  have hr := B.returns
  have hts := atoms_spec (ws := wsL_run) B.pre
  have hown : s.vm.findClass RL = some m.cls := findClass_of_methodNamed B.named
  have hlocks := B.notSynchronized
  have hl := lv_entry ([.ref x, .int v, .ref ou]) (n := 4) (Nat.le_of_ble_eq_true rfl)
  rw [lg_entry_eq]
  generalize (lg_sl ([.ref x, .int v, .ref ou]) ++ List.replicate (4 - (lg_sl ([.ref x, .int v, .ref ou])).length) Slot.unset).toArray = ls at hl ⊢
  have hl : lv_has ls 4 [(0, .ref x), (1, .int v), (2, .ref ou)] := hl
  have htab := vx_table (x := yL_run) B (hts (.codeWith yL_run cL_run 4 (some .int) [(0, 9, 12, 28), (0, 9, 15, 26)]) List.mem_cons_self)
  have hK := hE.1
  subst hsz
  have hD := hD0.self (sz := s.heap.size)
  generalize hAe : va_A (LWs cT cJ ou x lv kp fo fL fK o ld b k FZ) s.heap.size = A at hD ⊢
  have hA : ∀ q : Nat, s.heap.size ≤ q → A q := fun q h => by rw [← hAe]; exact Or.inr h
  have hS : va_S A s.heap s.heap [] := va_S.rf
  refine lv_aload_n hx hb dL_run_0 rfl (lv_at hl 2 rfl) ?_
  refine lv_iconst (v := nI 0) hx hb dL_run_1 (by decide) ?_
  refine lv_aload_n hx hb dL_run_2 rfl (lv_at hl 0 rfl) ?_
  refine lv_iload_n hx hb dL_run_3 rfl (lv_at hl 1 rfl) ?_
  have hP : va_P D vwCl ([(ou, .inl (cJ, 1, .inr (.inl fo)))] ++ (CW cT x lv kp fL fK o ld b k FZ)) s.heap := hP
  have hD : va_D A ([(ou, .inl (cJ, 1, .inr (.inl fo)))] ++ (CW cT x lv kp fL fK o ld b k FZ)) := hD
  have hPc : va_P D vwCl (CW cT x lv kp fL fK o ld b k FZ) s.heap := xP_sub (fun _ h => List.mem_cons_of_mem _ h) hP
  have hDc : va_D (fun _ => True) (CW cT x lv kp fL fK o ld b k FZ) := (xD_sub (List.sublist_cons_self _ _) hD).weaken (fun _ _ _ _ => trivial)
  have hFc := xfree (wc := (CW cT x lv kp fL fK o ld b k FZ)) hD hS hA (fun _ h => List.mem_cons_of_mem _ h)
  refine xcw (vx_runV (As := [.int v]) (rest := [.int (nI 0), .ref ou]) ⟨hx, hb, hml, hown, hts⟩ (c_X1_run l hst Ax x lv kp fL fK o ld b k FZ G hC v hld s.heap.size) (cwV 1 hts gL_run_X1_run rfl rfl rfl (by decide +kernel) ⟨(Nat.le_of_ble_eq_true rfl), (Nat.le_of_ble_eq_true rfl)⟩) ⟨XPx_blind, va_recv hK hPc (ci := 1) (q0 := 0) rfl rfl, XPx_pre hE hT ⟨rfl, hPc, hDc⟩⟩ rfl rfl hl.1 rfl (lv_room (Nat.le_of_ble_eq_true rfl)) dL_run_4 ⟨Nat.le_of_ble_eq_true rfl, Nat.le_of_ble_eq_true rfl⟩) hS (fun q9 _ h => hFc q9 h) hFc (fun E9 ce9 q9 H1 locs hp9 hz9 hk9 hS hc9 hv9 hcl9 => ?_) (fun r9 u t9 H1 locs ht9 hvm9 hw9 hB9 hzc hkc hS => ?_)
  · have hP := xkept hP hk9
    generalize H1 = H at hP hS hc9 ⊢
    rcases hp9 with ⟨rfl, hp9⟩ | ⟨rfl, hp9⟩
    · refine vx_catch hown [] ⟨0, 9, 12, 28⟩ [⟨0, 9, 15, 26⟩] (by rw [htab]; rfl) (fun _ h => nomatch h) (by decide) (by decide) (hts (.classLink RL 28 nIA) (by decide +kernel)) (va_Nw.use rfl (hT.2.1 nIA (by decide))) hc9 hv9 hcl9 ?_
      refine W.eq (g2 := F0 m 12 ls [.ref q9]) rfl ?_
      refine lv_astore_n (lv' := [(3, .ref q9), (0, .ref x), (1, .int v), (2, .ref ou)]) hx hb dL_run_12 rfl hl (by decide) rfl (fun ls hl => ?_)
      refine lv_iconst (v := nI 1) hx hb dL_run_13 (by decide) ?_
      refine vx_ret ?_
      refine W.widen (k := 8) (n := 40) (Nat.le_of_ble_eq_true rfl) (Nat.le_of_ble_eq_true rfl) ?_
      exact W.iret hx hb hr (fun t9 ht9 hW9 => ⟨⟨_, ((G, o, ld, b, k), fo 0), rfl, Or.inr (Or.inl (⟨rfl, rfl, hp9⟩)), fo, fL, fK, FZ, by rw [ht9]; exact hP, hD, hC, rfl⟩, hS.F ht9⟩) hS.2.2 dL_run_14
    · refine vx_catch hown [⟨0, 9, 12, 28⟩] ⟨0, 9, 15, 26⟩ [] (by rw [htab]; rfl) (by intro z9 hz9; rw [List.mem_singleton.mp hz9]; exact Or.inr ⟨by decide, nIA, hts (.classLink RL 28 nIA) (by decide +kernel), hN.2.2.2⟩) (by decide) (by decide) (hts (.classLink RL 26 nIS) (by decide +kernel)) (va_Nw.use rfl (hT.2.1 nIS (by decide))) hc9 hv9 hcl9 ?_
      refine W.eq (g2 := F0 m 15 ls [.ref q9]) rfl ?_
      refine lv_astore_n (lv' := [(3, .ref q9), (0, .ref x), (1, .int v), (2, .ref ou)]) hx hb dL_run_15 rfl hl (by decide) rfl (fun ls hl => ?_)
      refine lv_iconst (v := nI 2) hx hb dL_run_16 (by decide) ?_
      refine vx_ret ?_
      refine W.widen (k := 8) (n := 40) (Nat.le_of_ble_eq_true rfl) (Nat.le_of_ble_eq_true rfl) ?_
      exact W.iret hx hb hr (fun t9 ht9 hW9 => ⟨⟨_, ((G, o, ld, b, k), fo 0), rfl, Or.inr (Or.inr (⟨rfl, rfl, hp9⟩)), fo, fL, fK, FZ, by rw [ht9]; exact hP, hD, hC, rfl⟩, hS.F ht9⟩) hS.2.2 dL_run_17
  · obtain ⟨fL', fK', FZ', hP1, hD1, hC'⟩ := hB9
    rw [ht9] at hP1
    obtain ⟨hP, hD⟩ := xjoin (wr := [(ou, .inl (cJ, 1, .inr (.inl fo)))]) (wc := (CW cT x lv kp fL fK o ld b k FZ)) (w1 := CW cT x lv kp fL' fK' u.2.1 u.2.2.1 u.2.2.2.1 u.2.2.2.2 FZ') hP hD hkc hFc hP1 hD1
    generalize H1 = H at hP hS ⊢
    have hP : va_P D vwCl ((ou, .inl (cJ, 1, .inr (.inl fo))) :: (x, .inr (1, [.ref lv, .ref kp, .int (nI u.2.1), .int (nI u.2.2.1), .int (nI u.2.2.2.1), .int (nI u.2.2.2.2)])) :: (lv, .inl (cT, 6, .inr (.inr (.inr (.inr fL'))))) :: (kp, .inl (cT, 246, .inr (.inr (.inr (.inr fK'))))) :: FZ') H := hP
    have hD : va_D A ((ou, .inl (cJ, 1, .inr (.inl fo))) :: (x, .inr (1, [.ref lv, .ref kp, .int (nI u.2.1), .int (nI u.2.2.1), .int (nI u.2.2.2.1), .int (nI u.2.2.2.2)])) :: (lv, .inl (cT, 6, .inr (.inr (.inr (.inr fL'))))) :: (kp, .inl (cT, 246, .inr (.inr (.inr (.inr fK'))))) :: FZ') := hD
    refine lv_i2l (v := (r9).toInt64) hx hb dL_run_7 rfl ?_
    refine va_last hx hb hK hP hD hS 0 2 rfl rfl (xin (by omega) (by omega)) dL_run_8 (fun H locs hP hD hS => ?_)
    rw [nI_clamp (show 0 < 2 ^ 31 by omega)] at hP hD
    have hP : va_P D vwCl ((ou, .inl (cJ, 1, .inr (.inl (vp_updL fo 0 ((r9).toInt64))))) :: (x, .inr (1, [.ref lv, .ref kp, .int (nI u.2.1), .int (nI u.2.2.1), .int (nI u.2.2.2.1), .int (nI u.2.2.2.2)])) :: (lv, .inl (cT, 6, .inr (.inr (.inr (.inr fL'))))) :: (kp, .inl (cT, 246, .inr (.inr (.inr (.inr fK'))))) :: FZ') H := hP
    have hD : va_D A ((ou, .inl (cJ, 1, .inr (.inl (vp_updL fo 0 ((r9).toInt64))))) :: (x, .inr (1, [.ref lv, .ref kp, .int (nI u.2.1), .int (nI u.2.2.1), .int (nI u.2.2.2.1), .int (nI u.2.2.2.2)])) :: (lv, .inl (cT, 6, .inr (.inr (.inr (.inr fL'))))) :: (kp, .inl (cT, 246, .inr (.inr (.inr (.inr fK'))))) :: FZ') := hD
    refine lv_goto (tgt := 18) hx hb dL_run_9 (by decide) ?_
    refine lv_iconst (v := nI 0) hx hb dL_run_18 (by decide) ?_
    refine vx_ret ?_
    refine W.widen (k := 8) (n := 40) (Nat.le_of_ble_eq_true rfl) (Nat.le_of_ble_eq_true rfl) ?_
    exact W.iret hx hb hr (fun t9 ht9 hW9 => ⟨⟨_, (u, r9.toInt64), rfl, Or.inl (⟨rfl, r9, rfl, hw9⟩), _, fL', fK', FZ', by rw [ht9]; exact hP, hD, hC', if_pos rfl⟩, hS.F ht9⟩) hS.2.2 dL_run_19

set_option maxHeartbeats 4000000 in
set_option maxRecDepth 100000 in
theorem c_L_thin (l : Launch) (hst : l.stackTraces = false) {D : va_G} {cI cT cJ : ClassId} (Ax : Nat → Prop) (ou x lv kp : Nat) (fo : Nat → Int64) (fL fK : Nat → Option Nat) (o ld b k : Nat) (FZ : va_W) (G : Nat → Tv) (hC : CA cI FZ fL fK G) (v : Int32) (hld : ld ≤ 40) (hold : o ≤ ld) (sz : Nat) : vx_Met l yL_thin wsL_thin (rmD 9 8 40) (XPl D cI cT cJ Ax [.ref x, .int v, .ref ou] (fun H => H.size = sz ∧ va_P D vwCl (LWs cT cJ ou x lv kp fo fL fK o ld b k FZ) H ∧ va_D (fun _ => True) (LWs cT cJ ou x lv kp fo fL fK o ld b k FZ))) (va_Qi (S := Sv × Int64) (fun r u => (r = nI 0 ∧ ∃ r0 : Int32, u.2 = r0.toInt64 ∧ (fun (r : Int32) (u : Sv) => ∃ s, 1 ≤ s ∧ s ≤ 40 ∧ v = nI s ∧ o + s ≤ ld ∧ r = nI (o + s) ∧ u = (G, o + s, ld, 0, 0)) r0 u.1) ∨ (r = nI 1 ∧ u.1 = (G, o, ld, b, k) ∧ ¬ ∃ s, 1 ≤ s ∧ s ≤ 40 ∧ v = nI s) ∨ (r = nI 2 ∧ u.1 = (G, o, ld, b, k) ∧ ∃ s, 1 ≤ s ∧ s ≤ 40 ∧ v = nI s ∧ ¬ o + s ≤ ld)) (fun u t => LB D cI cT cJ ou x lv kp (va_A (LWs cT cJ ou x lv kp fo fL fK o ld b k FZ) sz) u.1 u.2 t.heap) (va_A (LWs cT cJ ou x lv kp fo fL fK o ld b k FZ) sz)) (XXc (fun _ => False)) 8 40 (va_A (LWs cT cJ ou x lv kp fo fL fK o ld b k FZ) sz) := by
  refine vx_ofWH (cc := cL_thin) (maxL := 4) (ret := (some .int)) (hh := [(0, 9, 12, 28), (0, 9, 15, 26)]) (by decide) rfl ?_
  intro p e s m args below meth c s₁ B hml hv
  obtain ⟨rfl, ⟨hsz, hP, hD0⟩, hE, hT, hN⟩ := hv
  have hx := B.exec
  have hb := B.bytes
  have hr := B.returns
  have hts := atoms_spec (ws := wsL_thin) B.pre
  have hown : s.vm.findClass RL = some m.cls := findClass_of_methodNamed B.named
  have hlocks := B.notSynchronized
  have hl := lv_entry ([.ref x, .int v, .ref ou]) (n := 4) (Nat.le_of_ble_eq_true rfl)
  rw [lg_entry_eq]
  generalize (lg_sl ([.ref x, .int v, .ref ou]) ++ List.replicate (4 - (lg_sl ([.ref x, .int v, .ref ou])).length) Slot.unset).toArray = ls at hl ⊢
  have hl : lv_has ls 4 [(0, .ref x), (1, .int v), (2, .ref ou)] := hl
  have htab := vx_table (x := yL_thin) B (hts (.codeWith yL_thin cL_thin 4 (some .int) [(0, 9, 12, 28), (0, 9, 15, 26)]) List.mem_cons_self)
  have hK := hE.1
  subst hsz
  have hD := hD0.self (sz := s.heap.size)
  generalize hAe : va_A (LWs cT cJ ou x lv kp fo fL fK o ld b k FZ) s.heap.size = A at hD ⊢
  have hA : ∀ q : Nat, s.heap.size ≤ q → A q := fun q h => by rw [← hAe]; exact Or.inr h
  have hS : va_S A s.heap s.heap [] := va_S.rf
  refine lv_aload_n hx hb dL_thin_0 rfl (lv_at hl 2 rfl) ?_
  refine lv_iconst (v := nI 0) hx hb dL_thin_1 (by decide) ?_
  refine lv_aload_n hx hb dL_thin_2 rfl (lv_at hl 0 rfl) ?_
  refine lv_iload_n hx hb dL_thin_3 rfl (lv_at hl 1 rfl) ?_
  have hP : va_P D vwCl ([(ou, .inl (cJ, 1, .inr (.inl fo)))] ++ (CW cT x lv kp fL fK o ld b k FZ)) s.heap := hP
  have hD : va_D A ([(ou, .inl (cJ, 1, .inr (.inl fo)))] ++ (CW cT x lv kp fL fK o ld b k FZ)) := hD
  have hPc : va_P D vwCl (CW cT x lv kp fL fK o ld b k FZ) s.heap := xP_sub (fun _ h => List.mem_cons_of_mem _ h) hP
  have hDc : va_D (fun _ => True) (CW cT x lv kp fL fK o ld b k FZ) := (xD_sub (List.sublist_cons_self _ _) hD).weaken (fun _ _ _ _ => trivial)
  have hFc := xfree (wc := (CW cT x lv kp fL fK o ld b k FZ)) hD hS hA (fun _ h => List.mem_cons_of_mem _ h)
  refine xcw (vx_runV (As := [.int v]) (rest := [.int (nI 0), .ref ou]) ⟨hx, hb, hml, hown, hts⟩ (c_X1_thin l hst Ax x lv kp fL fK o ld b k FZ G hC v hld hold s.heap.size) (cwV 1 hts gL_thin_X1_thin rfl rfl rfl (by decide +kernel) ⟨(Nat.le_of_ble_eq_true rfl), (Nat.le_of_ble_eq_true rfl)⟩) ⟨XPx_blind, va_recv hK hPc (ci := 1) (q0 := 0) rfl rfl, XPx_pre hE hT ⟨rfl, hPc, hDc⟩⟩ rfl rfl hl.1 rfl (lv_room (Nat.le_of_ble_eq_true rfl)) dL_thin_4 ⟨Nat.le_of_ble_eq_true rfl, Nat.le_of_ble_eq_true rfl⟩) hS (fun q9 _ h => hFc q9 h) hFc (fun E9 ce9 q9 H1 locs hp9 hz9 hk9 hS hc9 hv9 hcl9 => ?_) (fun r9 u t9 H1 locs ht9 hvm9 hw9 hB9 hzc hkc hS => ?_)
  · have hP := xkept hP hk9
    generalize H1 = H at hP hS hc9 ⊢
    rcases hp9 with ⟨rfl, hp9⟩ | ⟨rfl, hp9⟩
    · refine vx_catch hown [] ⟨0, 9, 12, 28⟩ [⟨0, 9, 15, 26⟩] (by rw [htab]; rfl) (fun _ h => nomatch h) (by decide) (by decide) (hts (.classLink RL 28 nIA) (by decide +kernel)) (va_Nw.use rfl (hT.2.1 nIA (by decide))) hc9 hv9 hcl9 ?_
      refine W.eq (g2 := F0 m 12 ls [.ref q9]) rfl ?_
      refine lv_astore_n (lv' := [(3, .ref q9), (0, .ref x), (1, .int v), (2, .ref ou)]) hx hb dL_thin_12 rfl hl (by decide) rfl (fun ls hl => ?_)
      refine lv_iconst (v := nI 1) hx hb dL_thin_13 (by decide) ?_
      refine vx_ret ?_
      refine W.widen (k := 8) (n := 40) (Nat.le_of_ble_eq_true rfl) (Nat.le_of_ble_eq_true rfl) ?_
      exact W.iret hx hb hr (fun t9 ht9 hW9 => ⟨⟨_, ((G, o, ld, b, k), fo 0), rfl, Or.inr (Or.inl (⟨rfl, rfl, hp9⟩)), fo, fL, fK, FZ, by rw [ht9]; exact hP, hD, hC, rfl⟩, hS.F ht9⟩) hS.2.2 dL_thin_14
    · refine vx_catch hown [⟨0, 9, 12, 28⟩] ⟨0, 9, 15, 26⟩ [] (by rw [htab]; rfl) (by intro z9 hz9; rw [List.mem_singleton.mp hz9]; exact Or.inr ⟨by decide, nIA, hts (.classLink RL 28 nIA) (by decide +kernel), hN.2.2.2⟩) (by decide) (by decide) (hts (.classLink RL 26 nIS) (by decide +kernel)) (va_Nw.use rfl (hT.2.1 nIS (by decide))) hc9 hv9 hcl9 ?_
      refine W.eq (g2 := F0 m 15 ls [.ref q9]) rfl ?_
      refine lv_astore_n (lv' := [(3, .ref q9), (0, .ref x), (1, .int v), (2, .ref ou)]) hx hb dL_thin_15 rfl hl (by decide) rfl (fun ls hl => ?_)
      refine lv_iconst (v := nI 2) hx hb dL_thin_16 (by decide) ?_
      refine vx_ret ?_
      refine W.widen (k := 8) (n := 40) (Nat.le_of_ble_eq_true rfl) (Nat.le_of_ble_eq_true rfl) ?_
      exact W.iret hx hb hr (fun t9 ht9 hW9 => ⟨⟨_, ((G, o, ld, b, k), fo 0), rfl, Or.inr (Or.inr (⟨rfl, rfl, hp9⟩)), fo, fL, fK, FZ, by rw [ht9]; exact hP, hD, hC, rfl⟩, hS.F ht9⟩) hS.2.2 dL_thin_17
  · obtain ⟨fL', fK', FZ', hP1, hD1, hC'⟩ := hB9
    rw [ht9] at hP1
    obtain ⟨hP, hD⟩ := xjoin (wr := [(ou, .inl (cJ, 1, .inr (.inl fo)))]) (wc := (CW cT x lv kp fL fK o ld b k FZ)) (w1 := CW cT x lv kp fL' fK' u.2.1 u.2.2.1 u.2.2.2.1 u.2.2.2.2 FZ') hP hD hkc hFc hP1 hD1
    generalize H1 = H at hP hS ⊢
    have hP : va_P D vwCl ((ou, .inl (cJ, 1, .inr (.inl fo))) :: (x, .inr (1, [.ref lv, .ref kp, .int (nI u.2.1), .int (nI u.2.2.1), .int (nI u.2.2.2.1), .int (nI u.2.2.2.2)])) :: (lv, .inl (cT, 6, .inr (.inr (.inr (.inr fL'))))) :: (kp, .inl (cT, 246, .inr (.inr (.inr (.inr fK'))))) :: FZ') H := hP
    have hD : va_D A ((ou, .inl (cJ, 1, .inr (.inl fo))) :: (x, .inr (1, [.ref lv, .ref kp, .int (nI u.2.1), .int (nI u.2.2.1), .int (nI u.2.2.2.1), .int (nI u.2.2.2.2)])) :: (lv, .inl (cT, 6, .inr (.inr (.inr (.inr fL'))))) :: (kp, .inl (cT, 246, .inr (.inr (.inr (.inr fK'))))) :: FZ') := hD
    refine lv_i2l (v := (r9).toInt64) hx hb dL_thin_7 rfl ?_
    refine va_last hx hb hK hP hD hS 0 2 rfl rfl (xin (by omega) (by omega)) dL_thin_8 (fun H locs hP hD hS => ?_)
    rw [nI_clamp (show 0 < 2 ^ 31 by omega)] at hP hD
    have hP : va_P D vwCl ((ou, .inl (cJ, 1, .inr (.inl (vp_updL fo 0 ((r9).toInt64))))) :: (x, .inr (1, [.ref lv, .ref kp, .int (nI u.2.1), .int (nI u.2.2.1), .int (nI u.2.2.2.1), .int (nI u.2.2.2.2)])) :: (lv, .inl (cT, 6, .inr (.inr (.inr (.inr fL'))))) :: (kp, .inl (cT, 246, .inr (.inr (.inr (.inr fK'))))) :: FZ') H := hP
    have hD : va_D A ((ou, .inl (cJ, 1, .inr (.inl (vp_updL fo 0 ((r9).toInt64))))) :: (x, .inr (1, [.ref lv, .ref kp, .int (nI u.2.1), .int (nI u.2.2.1), .int (nI u.2.2.2.1), .int (nI u.2.2.2.2)])) :: (lv, .inl (cT, 6, .inr (.inr (.inr (.inr fL'))))) :: (kp, .inl (cT, 246, .inr (.inr (.inr (.inr fK'))))) :: FZ') := hD
    refine lv_goto (tgt := 18) hx hb dL_thin_9 (by decide) ?_
    refine lv_iconst (v := nI 0) hx hb dL_thin_18 (by decide) ?_
    refine vx_ret ?_
    refine W.widen (k := 8) (n := 40) (Nat.le_of_ble_eq_true rfl) (Nat.le_of_ble_eq_true rfl) ?_
    exact W.iret hx hb hr (fun t9 ht9 hW9 => ⟨⟨_, (u, r9.toInt64), rfl, Or.inl (⟨rfl, r9, rfl, hw9⟩), _, fL', fK', FZ', by rw [ht9]; exact hP, hD, hC', if_pos rfl⟩, hS.F ht9⟩) hS.2.2 dL_thin_19

set_option maxHeartbeats 4000000 in
set_option maxRecDepth 100000 in
theorem c_L_restore (l : Launch) (hst : l.stackTraces = false) {D : va_G} {cI cT cJ : ClassId} (Ax : Nat → Prop) (ou x lv kp : Nat) (fo : Nat → Int64) (fL fK : Nat → Option Nat) (o ld b k : Nat) (FZ : va_W) (G : Nat → Tv) (hC : CA cI FZ fL fK G) (v : Int32) (hld : ld ≤ 40) (hold : o ≤ ld) (sz : Nat) : vx_Met l yL_restore wsL_restore (rmD 9 8 40) (XPl D cI cT cJ Ax [.ref x, .int v, .ref ou] (fun H => H.size = sz ∧ va_P D vwCl (LWs cT cJ ou x lv kp fo fL fK o ld b k FZ) H ∧ va_D (fun _ => True) (LWs cT cJ ou x lv kp fo fL fK o ld b k FZ))) (va_Qi (S := Sv × Int64) (fun r u => (r = nI 0 ∧ ∃ r0 : Int32, u.2 = r0.toInt64 ∧ (fun (r : Int32) (u : Sv) => ∃ d, o ≤ d ∧ d ≤ ld ∧ v = nI d ∧ r = nI (dfN G d 6) ∧ u = (cpL G d 6, o, ld, 0, 0)) r0 u.1) ∨ (r = nI 1 ∧ u.1 = (G, o, ld, b, k) ∧ ¬ Kp o ld v)) (fun u t => LB D cI cT cJ ou x lv kp (va_A (LWs cT cJ ou x lv kp fo fL fK o ld b k FZ) sz) u.1 u.2 t.heap) (va_A (LWs cT cJ ou x lv kp fo fL fK o ld b k FZ) sz)) (XXc (fun _ => False)) 8 40 (va_A (LWs cT cJ ou x lv kp fo fL fK o ld b k FZ) sz) := by
  refine vx_ofWH (cc := cL_restore) (maxL := 4) (ret := (some .int)) (hh := [(0, 9, 12, 13)]) (by decide) rfl ?_
  intro p e s m args below meth c s₁ B hml hv
  obtain ⟨rfl, ⟨hsz, hP, hD0⟩, hE, hT, hN⟩ := hv
  have hx := B.exec
  have hb := B.bytes
  have hr := B.returns
  have hts := atoms_spec (ws := wsL_restore) B.pre
  have hown : s.vm.findClass RL = some m.cls := findClass_of_methodNamed B.named
  have hlocks := B.notSynchronized
  have hl := lv_entry ([.ref x, .int v, .ref ou]) (n := 4) (Nat.le_of_ble_eq_true rfl)
  rw [lg_entry_eq]
  generalize (lg_sl ([.ref x, .int v, .ref ou]) ++ List.replicate (4 - (lg_sl ([.ref x, .int v, .ref ou])).length) Slot.unset).toArray = ls at hl ⊢
  have hl : lv_has ls 4 [(0, .ref x), (1, .int v), (2, .ref ou)] := hl
  have htab := vx_table (x := yL_restore) B (hts (.codeWith yL_restore cL_restore 4 (some .int) [(0, 9, 12, 13)]) List.mem_cons_self)
  have hK := hE.1
  subst hsz
  have hD := hD0.self (sz := s.heap.size)
  generalize hAe : va_A (LWs cT cJ ou x lv kp fo fL fK o ld b k FZ) s.heap.size = A at hD ⊢
  have hA : ∀ q : Nat, s.heap.size ≤ q → A q := fun q h => by rw [← hAe]; exact Or.inr h
  have hS : va_S A s.heap s.heap [] := va_S.rf
  refine lv_aload_n hx hb dL_restore_0 rfl (lv_at hl 2 rfl) ?_
  refine lv_iconst (v := nI 0) hx hb dL_restore_1 (by decide) ?_
  refine lv_aload_n hx hb dL_restore_2 rfl (lv_at hl 0 rfl) ?_
  refine lv_iload_n hx hb dL_restore_3 rfl (lv_at hl 1 rfl) ?_
  have hP : va_P D vwCl ([(ou, .inl (cJ, 1, .inr (.inl fo)))] ++ (CW cT x lv kp fL fK o ld b k FZ)) s.heap := hP
  have hD : va_D A ([(ou, .inl (cJ, 1, .inr (.inl fo)))] ++ (CW cT x lv kp fL fK o ld b k FZ)) := hD
  have hPc : va_P D vwCl (CW cT x lv kp fL fK o ld b k FZ) s.heap := xP_sub (fun _ h => List.mem_cons_of_mem _ h) hP
  have hDc : va_D (fun _ => True) (CW cT x lv kp fL fK o ld b k FZ) := (xD_sub (List.sublist_cons_self _ _) hD).weaken (fun _ _ _ _ => trivial)
  have hFc := xfree (wc := (CW cT x lv kp fL fK o ld b k FZ)) hD hS hA (fun _ h => List.mem_cons_of_mem _ h)
  refine xcw (vx_runV (As := [.int v]) (rest := [.int (nI 0), .ref ou]) ⟨hx, hb, hml, hown, hts⟩ (c_X1_restore l hst Ax x lv kp fL fK o ld b k FZ G hC v hld hold s.heap.size) (cwV 1 hts gL_restore_X1_restore rfl rfl rfl (by decide +kernel) ⟨(Nat.le_of_ble_eq_true rfl), (Nat.le_of_ble_eq_true rfl)⟩) ⟨XPx_blind, va_recv hK hPc (ci := 1) (q0 := 0) rfl rfl, XPx_pre hE hT ⟨rfl, hPc, hDc⟩⟩ rfl rfl hl.1 rfl (lv_room (Nat.le_of_ble_eq_true rfl)) dL_restore_4 ⟨Nat.le_of_ble_eq_true rfl, Nat.le_of_ble_eq_true rfl⟩) hS (fun q9 _ h => hFc q9 h) hFc (fun E9 ce9 q9 H1 locs hp9 hz9 hk9 hS hc9 hv9 hcl9 => ?_) (fun r9 u t9 H1 locs ht9 hvm9 hw9 hB9 hzc hkc hS => ?_)
  · have hP := xkept hP hk9
    generalize H1 = H at hP hS hc9 ⊢
    obtain ⟨rfl, hp9⟩ := hp9
    refine vx_catch hown [] ⟨0, 9, 12, 13⟩ [] (by rw [htab]; rfl) (fun _ h => nomatch h) (by decide) (by decide) (hts (.classLink RL 13 nIO) (by decide +kernel)) (va_Nw.use rfl (hT.2.1 nIO (by decide))) hc9 hv9 hcl9 ?_
    refine W.eq (g2 := F0 m 12 ls [.ref q9]) rfl ?_
    refine lv_astore_n (lv' := [(3, .ref q9), (0, .ref x), (1, .int v), (2, .ref ou)]) hx hb dL_restore_12 rfl hl (by decide) rfl (fun ls hl => ?_)
    refine lv_iconst (v := nI 1) hx hb dL_restore_13 (by decide) ?_
    refine vx_ret ?_
    refine W.widen (k := 8) (n := 40) (Nat.le_of_ble_eq_true rfl) (Nat.le_of_ble_eq_true rfl) ?_
    exact W.iret hx hb hr (fun t9 ht9 hW9 => ⟨⟨_, ((G, o, ld, b, k), fo 0), rfl, Or.inr (⟨rfl, rfl, hp9⟩), fo, fL, fK, FZ, by rw [ht9]; exact hP, hD, hC, rfl⟩, hS.F ht9⟩) hS.2.2 dL_restore_14
  · obtain ⟨fL', fK', FZ', hP1, hD1, hC'⟩ := hB9
    rw [ht9] at hP1
    obtain ⟨hP, hD⟩ := xjoin (wr := [(ou, .inl (cJ, 1, .inr (.inl fo)))]) (wc := (CW cT x lv kp fL fK o ld b k FZ)) (w1 := CW cT x lv kp fL' fK' u.2.1 u.2.2.1 u.2.2.2.1 u.2.2.2.2 FZ') hP hD hkc hFc hP1 hD1
    generalize H1 = H at hP hS ⊢
    have hP : va_P D vwCl ((ou, .inl (cJ, 1, .inr (.inl fo))) :: (x, .inr (1, [.ref lv, .ref kp, .int (nI u.2.1), .int (nI u.2.2.1), .int (nI u.2.2.2.1), .int (nI u.2.2.2.2)])) :: (lv, .inl (cT, 6, .inr (.inr (.inr (.inr fL'))))) :: (kp, .inl (cT, 246, .inr (.inr (.inr (.inr fK'))))) :: FZ') H := hP
    have hD : va_D A ((ou, .inl (cJ, 1, .inr (.inl fo))) :: (x, .inr (1, [.ref lv, .ref kp, .int (nI u.2.1), .int (nI u.2.2.1), .int (nI u.2.2.2.1), .int (nI u.2.2.2.2)])) :: (lv, .inl (cT, 6, .inr (.inr (.inr (.inr fL'))))) :: (kp, .inl (cT, 246, .inr (.inr (.inr (.inr fK'))))) :: FZ') := hD
    refine lv_i2l (v := (r9).toInt64) hx hb dL_restore_7 rfl ?_
    refine va_last hx hb hK hP hD hS 0 2 rfl rfl (xin (by omega) (by omega)) dL_restore_8 (fun H locs hP hD hS => ?_)
    rw [nI_clamp (show 0 < 2 ^ 31 by omega)] at hP hD
    have hP : va_P D vwCl ((ou, .inl (cJ, 1, .inr (.inl (vp_updL fo 0 ((r9).toInt64))))) :: (x, .inr (1, [.ref lv, .ref kp, .int (nI u.2.1), .int (nI u.2.2.1), .int (nI u.2.2.2.1), .int (nI u.2.2.2.2)])) :: (lv, .inl (cT, 6, .inr (.inr (.inr (.inr fL'))))) :: (kp, .inl (cT, 246, .inr (.inr (.inr (.inr fK'))))) :: FZ') H := hP
    have hD : va_D A ((ou, .inl (cJ, 1, .inr (.inl (vp_updL fo 0 ((r9).toInt64))))) :: (x, .inr (1, [.ref lv, .ref kp, .int (nI u.2.1), .int (nI u.2.2.1), .int (nI u.2.2.2.1), .int (nI u.2.2.2.2)])) :: (lv, .inl (cT, 6, .inr (.inr (.inr (.inr fL'))))) :: (kp, .inl (cT, 246, .inr (.inr (.inr (.inr fK'))))) :: FZ') := hD
    refine lv_goto (tgt := 15) hx hb dL_restore_9 (by decide) ?_
    refine lv_iconst (v := nI 0) hx hb dL_restore_15 (by decide) ?_
    refine vx_ret ?_
    refine W.widen (k := 8) (n := 40) (Nat.le_of_ble_eq_true rfl) (Nat.le_of_ble_eq_true rfl) ?_
    exact W.iret hx hb hr (fun t9 ht9 hW9 => ⟨⟨_, (u, r9.toInt64), rfl, Or.inl (⟨rfl, r9, rfl, hw9⟩), _, fL', fK', FZ', by rw [ht9]; exact hP, hD, hC', if_pos rfl⟩, hS.F ht9⟩) hS.2.2 dL_restore_16

set_option maxHeartbeats 4000000 in
set_option maxRecDepth 100000 in
theorem c_L_kindAt (l : Launch) (hst : l.stackTraces = false) {D : va_G} {cI cT cJ : ClassId} (Ax : Nat → Prop) (ou x lv kp : Nat) (fo : Nat → Int64) (fL fK : Nat → Option Nat) (o ld b k : Nat) (FZ : va_W) (G : Nat → Tv) (hC : CA cI FZ fL fK G) (v w : Int32) (hld : ld ≤ 40) (hold : o ≤ ld) (sz : Nat) : vx_Met l yL_kindAt wsL_kindAt (rmD 9 8 40) (XPl D cI cT cJ Ax [.ref x, .int v, .int w, .ref ou] (fun H => H.size = sz ∧ va_P D vwCl (LWs cT cJ ou x lv kp fo fL fK o ld b k FZ) H ∧ va_D (fun _ => True) (LWs cT cJ ou x lv kp fo fL fK o ld b k FZ))) (va_Qi (S := Sv × Int64) (fun r u => (r = nI 0 ∧ u.1 = (G, o, ld, b, k) ∧ ∃ i, AT o ld v w i ∧ u.2 = ((G i).1).toInt64) ∨ (r = nI 1 ∧ u.1 = (G, o, ld, b, k) ∧ ¬ ∃ i, AT o ld v w i)) (fun u t => LB D cI cT cJ ou x lv kp (va_A (LWs cT cJ ou x lv kp fo fL fK o ld b k FZ) sz) u.1 u.2 t.heap) (va_A (LWs cT cJ ou x lv kp fo fL fK o ld b k FZ) sz)) (XXc (fun _ => False)) 8 40 (va_A (LWs cT cJ ou x lv kp fo fL fK o ld b k FZ) sz) := by
  refine vx_ofWH (cc := cL_kindAt) (maxL := 5) (ret := (some .int)) (hh := [(0, 10, 13, 13)]) (by decide) rfl ?_
  intro p e s m args below meth c s₁ B hml hv
  obtain ⟨rfl, ⟨hsz, hP, hD0⟩, hE, hT, hN⟩ := hv
  have hx := B.exec
  have hb := B.bytes
  have hr := B.returns
  have hts := atoms_spec (ws := wsL_kindAt) B.pre
  have hown : s.vm.findClass RL = some m.cls := findClass_of_methodNamed B.named
  have hlocks := B.notSynchronized
  have hl := lv_entry ([.ref x, .int v, .int w, .ref ou]) (n := 5) (Nat.le_of_ble_eq_true rfl)
  rw [lg_entry_eq]
  generalize (lg_sl ([.ref x, .int v, .int w, .ref ou]) ++ List.replicate (5 - (lg_sl ([.ref x, .int v, .int w, .ref ou])).length) Slot.unset).toArray = ls at hl ⊢
  have hl : lv_has ls 5 [(0, .ref x), (1, .int v), (2, .int w), (3, .ref ou)] := hl
  have htab := vx_table (x := yL_kindAt) B (hts (.codeWith yL_kindAt cL_kindAt 5 (some .int) [(0, 10, 13, 13)]) List.mem_cons_self)
  have hK := hE.1
  subst hsz
  have hD := hD0.self (sz := s.heap.size)
  generalize hAe : va_A (LWs cT cJ ou x lv kp fo fL fK o ld b k FZ) s.heap.size = A at hD ⊢
  have hA : ∀ q : Nat, s.heap.size ≤ q → A q := fun q h => by rw [← hAe]; exact Or.inr h
  have hS : va_S A s.heap s.heap [] := va_S.rf
  refine lv_aload_n hx hb dL_kindAt_0 rfl (lv_at hl 3 rfl) ?_
  refine lv_iconst (v := nI 0) hx hb dL_kindAt_1 (by decide) ?_
  refine lv_aload_n hx hb dL_kindAt_2 rfl (lv_at hl 0 rfl) ?_
  refine lv_iload_n hx hb dL_kindAt_3 rfl (lv_at hl 1 rfl) ?_
  refine lv_iload_n hx hb dL_kindAt_4 rfl (lv_at hl 2 rfl) ?_
  have hPc : va_P D vwCl (CW cT x lv kp fL fK o ld b k FZ) s.heap := xP_sub (fun _ h => List.mem_cons_of_mem _ h) hP
  refine xcx (vx_runV (As := [.int v, .int w]) (rest := [.int (nI 0), .ref ou]) ⟨hx, hb, hml, hown, hts⟩ (c_X1_kindAt l hst Ax x lv kp fL fK o ld b k FZ G hC v w hld hold) (cwV 2 hts gL_kindAt_X1_kindAt rfl rfl rfl (by decide +kernel) ⟨(Nat.le_of_ble_eq_true rfl), (Nat.le_of_ble_eq_true rfl)⟩) ⟨XPx_blind, va_recv hK hPc (ci := 1) (q0 := 0) rfl rfl, XPx_pre hE hT hPc⟩ rfl rfl hl.1 rfl (lv_room (Nat.le_of_ble_eq_true rfl)) dL_kindAt_5 ⟨Nat.le_of_ble_eq_true rfl, Nat.le_of_ble_eq_true rfl⟩) (fun E9 ce9 q9 H1 hp9 hz9 hk9 hc9 hv9 hcl9 => ?_) (fun v9 hw9 => ?_)
  · have hP := xkept hP hk9
    have hS : va_S A s.heap H1 [] := ⟨hz9, fun q hq _ => hk9 q hq, fun _ h => nomatch h⟩
    generalize H1 = H at hP hS hc9 ⊢
    obtain ⟨rfl, hp9⟩ := hp9
    refine vx_catch hown [] ⟨0, 10, 13, 13⟩ [] (by rw [htab]; rfl) (fun _ h => nomatch h) (by decide) (by decide) (hts (.classLink RL 13 nIO) (by decide +kernel)) (va_Nw.use rfl (hT.2.1 nIO (by decide))) hc9 hv9 hcl9 ?_
    refine W.eq (g2 := F0 m 13 ls [.ref q9]) rfl ?_
    refine lv_astore (lv' := [(4, .ref q9), (0, .ref x), (1, .int v), (2, .int w), (3, .ref ou)]) hx hb dL_kindAt_13 hl (by decide) rfl (fun ls hl => ?_)
    refine lv_iconst (v := nI 1) hx hb dL_kindAt_15 (by decide) ?_
    refine vx_ret ?_
    refine W.widen (k := 8) (n := 40) (Nat.le_of_ble_eq_true rfl) (Nat.le_of_ble_eq_true rfl) ?_
    exact W.iret hx hb hr (fun t9 ht9 hW9 => ⟨⟨_, ((G, o, ld, b, k), fo 0), rfl, Or.inr ⟨rfl, rfl, hp9⟩, fo, fL, fK, FZ, by rw [ht9]; exact hP, hD, hC, rfl⟩, hS.F ht9⟩) hS.2.2 dL_kindAt_16
  · obtain ⟨i, rfl, hat⟩ := hw9
    refine W.eq (g2 := F0 m 8 ls [.int ((G i).1), .int (nI 0), .ref ou]) rfl ?_
    refine lv_i2l (v := ((G i).1).toInt64) hx hb dL_kindAt_8 rfl ?_
    refine va_last hx hb hK hP hD hS 0 2 rfl rfl (xin (by omega) (by omega)) dL_kindAt_9 (fun H locs hP hD hS => ?_)
    rw [nI_clamp (show 0 < 2 ^ 31 by omega)] at hP hD
    have hP : va_P D vwCl ((ou, .inl (cJ, 1, .inr (.inl (vp_updL fo 0 (((G i).1).toInt64))))) :: (x, .inr (1, [.ref lv, .ref kp, .int (nI o), .int (nI ld), .int (nI b), .int (nI k)])) :: (lv, .inl (cT, 6, .inr (.inr (.inr (.inr fL))))) :: (kp, .inl (cT, 246, .inr (.inr (.inr (.inr fK))))) :: FZ) H := hP
    have hD : va_D A ((ou, .inl (cJ, 1, .inr (.inl (vp_updL fo 0 (((G i).1).toInt64))))) :: (x, .inr (1, [.ref lv, .ref kp, .int (nI o), .int (nI ld), .int (nI b), .int (nI k)])) :: (lv, .inl (cT, 6, .inr (.inr (.inr (.inr fL))))) :: (kp, .inl (cT, 246, .inr (.inr (.inr (.inr fK))))) :: FZ) := hD
    refine lv_goto (tgt := 17) hx hb dL_kindAt_10 (by decide) ?_
    refine lv_iconst (v := nI 0) hx hb dL_kindAt_17 (by decide) ?_
    refine vx_ret ?_
    refine W.widen (k := 8) (n := 40) (Nat.le_of_ble_eq_true rfl) (Nat.le_of_ble_eq_true rfl) ?_
    exact W.iret hx hb hr (fun t9 ht9 hW9 => ⟨⟨_, ((G, o, ld, b, k), ((G i).1).toInt64), rfl, Or.inl ⟨rfl, rfl, i, hat, rfl⟩, _, fL, fK, FZ, by rw [ht9]; exact hP, hD, hC, if_pos rfl⟩, hS.F ht9⟩) hS.2.2 dL_kindAt_18

set_option maxHeartbeats 4000000 in
set_option maxRecDepth 100000 in
theorem c_L_rightsAt (l : Launch) (hst : l.stackTraces = false) {D : va_G} {cI cT cJ : ClassId} (Ax : Nat → Prop) (ou x lv kp : Nat) (fo : Nat → Int64) (fL fK : Nat → Option Nat) (o ld b k : Nat) (FZ : va_W) (G : Nat → Tv) (hC : CA cI FZ fL fK G) (v w : Int32) (hld : ld ≤ 40) (hold : o ≤ ld) (sz : Nat) : vx_Met l yL_rightsAt wsL_rightsAt (rmD 9 8 40) (XPl D cI cT cJ Ax [.ref x, .int v, .int w, .ref ou] (fun H => H.size = sz ∧ va_P D vwCl (LWs cT cJ ou x lv kp fo fL fK o ld b k FZ) H ∧ va_D (fun _ => True) (LWs cT cJ ou x lv kp fo fL fK o ld b k FZ))) (va_Qi (S := Sv × Int64) (fun r u => (r = nI 0 ∧ u.1 = (G, o, ld, b, k) ∧ ∃ i, AT o ld v w i ∧ u.2 = ((G i).2.1).toInt64) ∨ (r = nI 1 ∧ u.1 = (G, o, ld, b, k) ∧ ¬ ∃ i, AT o ld v w i)) (fun u t => LB D cI cT cJ ou x lv kp (va_A (LWs cT cJ ou x lv kp fo fL fK o ld b k FZ) sz) u.1 u.2 t.heap) (va_A (LWs cT cJ ou x lv kp fo fL fK o ld b k FZ) sz)) (XXc (fun _ => False)) 8 40 (va_A (LWs cT cJ ou x lv kp fo fL fK o ld b k FZ) sz) := by
  refine vx_ofWH (cc := cL_rightsAt) (maxL := 5) (ret := (some .int)) (hh := [(0, 10, 13, 13)]) (by decide) rfl ?_
  intro p e s m args below meth c s₁ B hml hv
  obtain ⟨rfl, ⟨hsz, hP, hD0⟩, hE, hT, hN⟩ := hv
  have hx := B.exec
  have hb := B.bytes
  have hr := B.returns
  have hts := atoms_spec (ws := wsL_rightsAt) B.pre
  have hown : s.vm.findClass RL = some m.cls := findClass_of_methodNamed B.named
  have hlocks := B.notSynchronized
  have hl := lv_entry ([.ref x, .int v, .int w, .ref ou]) (n := 5) (Nat.le_of_ble_eq_true rfl)
  rw [lg_entry_eq]
  generalize (lg_sl ([.ref x, .int v, .int w, .ref ou]) ++ List.replicate (5 - (lg_sl ([.ref x, .int v, .int w, .ref ou])).length) Slot.unset).toArray = ls at hl ⊢
  have hl : lv_has ls 5 [(0, .ref x), (1, .int v), (2, .int w), (3, .ref ou)] := hl
  have htab := vx_table (x := yL_rightsAt) B (hts (.codeWith yL_rightsAt cL_rightsAt 5 (some .int) [(0, 10, 13, 13)]) List.mem_cons_self)
  have hK := hE.1
  subst hsz
  have hD := hD0.self (sz := s.heap.size)
  generalize hAe : va_A (LWs cT cJ ou x lv kp fo fL fK o ld b k FZ) s.heap.size = A at hD ⊢
  have hA : ∀ q : Nat, s.heap.size ≤ q → A q := fun q h => by rw [← hAe]; exact Or.inr h
  have hS : va_S A s.heap s.heap [] := va_S.rf
  refine lv_aload_n hx hb dL_rightsAt_0 rfl (lv_at hl 3 rfl) ?_
  refine lv_iconst (v := nI 0) hx hb dL_rightsAt_1 (by decide) ?_
  refine lv_aload_n hx hb dL_rightsAt_2 rfl (lv_at hl 0 rfl) ?_
  refine lv_iload_n hx hb dL_rightsAt_3 rfl (lv_at hl 1 rfl) ?_
  refine lv_iload_n hx hb dL_rightsAt_4 rfl (lv_at hl 2 rfl) ?_
  have hPc : va_P D vwCl (CW cT x lv kp fL fK o ld b k FZ) s.heap := xP_sub (fun _ h => List.mem_cons_of_mem _ h) hP
  refine xcx (vx_runV (As := [.int v, .int w]) (rest := [.int (nI 0), .ref ou]) ⟨hx, hb, hml, hown, hts⟩ (c_X1_rightsAt l hst Ax x lv kp fL fK o ld b k FZ G hC v w hld hold) (cwV 2 hts gL_rightsAt_X1_rightsAt rfl rfl rfl (by decide +kernel) ⟨(Nat.le_of_ble_eq_true rfl), (Nat.le_of_ble_eq_true rfl)⟩) ⟨XPx_blind, va_recv hK hPc (ci := 1) (q0 := 0) rfl rfl, XPx_pre hE hT hPc⟩ rfl rfl hl.1 rfl (lv_room (Nat.le_of_ble_eq_true rfl)) dL_rightsAt_5 ⟨Nat.le_of_ble_eq_true rfl, Nat.le_of_ble_eq_true rfl⟩) (fun E9 ce9 q9 H1 hp9 hz9 hk9 hc9 hv9 hcl9 => ?_) (fun v9 hw9 => ?_)
  · have hP := xkept hP hk9
    have hS : va_S A s.heap H1 [] := ⟨hz9, fun q hq _ => hk9 q hq, fun _ h => nomatch h⟩
    generalize H1 = H at hP hS hc9 ⊢
    obtain ⟨rfl, hp9⟩ := hp9
    refine vx_catch hown [] ⟨0, 10, 13, 13⟩ [] (by rw [htab]; rfl) (fun _ h => nomatch h) (by decide) (by decide) (hts (.classLink RL 13 nIO) (by decide +kernel)) (va_Nw.use rfl (hT.2.1 nIO (by decide))) hc9 hv9 hcl9 ?_
    refine W.eq (g2 := F0 m 13 ls [.ref q9]) rfl ?_
    refine lv_astore (lv' := [(4, .ref q9), (0, .ref x), (1, .int v), (2, .int w), (3, .ref ou)]) hx hb dL_rightsAt_13 hl (by decide) rfl (fun ls hl => ?_)
    refine lv_iconst (v := nI 1) hx hb dL_rightsAt_15 (by decide) ?_
    refine vx_ret ?_
    refine W.widen (k := 8) (n := 40) (Nat.le_of_ble_eq_true rfl) (Nat.le_of_ble_eq_true rfl) ?_
    exact W.iret hx hb hr (fun t9 ht9 hW9 => ⟨⟨_, ((G, o, ld, b, k), fo 0), rfl, Or.inr ⟨rfl, rfl, hp9⟩, fo, fL, fK, FZ, by rw [ht9]; exact hP, hD, hC, rfl⟩, hS.F ht9⟩) hS.2.2 dL_rightsAt_16
  · obtain ⟨i, rfl, hat⟩ := hw9
    refine W.eq (g2 := F0 m 8 ls [.int ((G i).2.1), .int (nI 0), .ref ou]) rfl ?_
    refine lv_i2l (v := ((G i).2.1).toInt64) hx hb dL_rightsAt_8 rfl ?_
    refine va_last hx hb hK hP hD hS 0 2 rfl rfl (xin (by omega) (by omega)) dL_rightsAt_9 (fun H locs hP hD hS => ?_)
    rw [nI_clamp (show 0 < 2 ^ 31 by omega)] at hP hD
    have hP : va_P D vwCl ((ou, .inl (cJ, 1, .inr (.inl (vp_updL fo 0 (((G i).2.1).toInt64))))) :: (x, .inr (1, [.ref lv, .ref kp, .int (nI o), .int (nI ld), .int (nI b), .int (nI k)])) :: (lv, .inl (cT, 6, .inr (.inr (.inr (.inr fL))))) :: (kp, .inl (cT, 246, .inr (.inr (.inr (.inr fK))))) :: FZ) H := hP
    have hD : va_D A ((ou, .inl (cJ, 1, .inr (.inl (vp_updL fo 0 (((G i).2.1).toInt64))))) :: (x, .inr (1, [.ref lv, .ref kp, .int (nI o), .int (nI ld), .int (nI b), .int (nI k)])) :: (lv, .inl (cT, 6, .inr (.inr (.inr (.inr fL))))) :: (kp, .inl (cT, 246, .inr (.inr (.inr (.inr fK))))) :: FZ) := hD
    refine lv_goto (tgt := 17) hx hb dL_rightsAt_10 (by decide) ?_
    refine lv_iconst (v := nI 0) hx hb dL_rightsAt_17 (by decide) ?_
    refine vx_ret ?_
    refine W.widen (k := 8) (n := 40) (Nat.le_of_ble_eq_true rfl) (Nat.le_of_ble_eq_true rfl) ?_
    exact W.iret hx hb hr (fun t9 ht9 hW9 => ⟨⟨_, ((G, o, ld, b, k), ((G i).2.1).toInt64), rfl, Or.inl ⟨rfl, rfl, i, hat, rfl⟩, _, fL, fK, FZ, by rw [ht9]; exact hP, hD, hC, if_pos rfl⟩, hS.F ht9⟩) hS.2.2 dL_rightsAt_18

set_option maxHeartbeats 4000000 in
set_option maxRecDepth 100000 in
theorem c_L_numberAt (l : Launch) (hst : l.stackTraces = false) {D : va_G} {cI cT cJ : ClassId} (Ax : Nat → Prop) (ou x lv kp : Nat) (fo : Nat → Int64) (fL fK : Nat → Option Nat) (o ld b k : Nat) (FZ : va_W) (G : Nat → Tv) (hC : CA cI FZ fL fK G) (v w z : Int32) (hld : ld ≤ 40) (hold : o ≤ ld) (sz : Nat) : vx_Met l yL_numberAt wsL_numberAt (rmD 9 8 40) (XPl D cI cT cJ Ax [.ref x, .int v, .int w, .int z, .ref ou] (fun H => H.size = sz ∧ va_P D vwCl (LWs cT cJ ou x lv kp fo fL fK o ld b k FZ) H ∧ va_D (fun _ => True) (LWs cT cJ ou x lv kp fo fL fK o ld b k FZ))) (va_Qi (S := Sv × Int64) (fun r u => (r = nI 0 ∧ u.1 = (G, o, ld, b, k) ∧ ∃ i sp : Nat, AT o ld v w i ∧ sp < 12 ∧ z = nI sp ∧ u.2 = (if sp < (G i).2.2.1 then (G i).2.2.2 sp else -1).toInt64) ∨ (r = nI 1 ∧ u.1 = (G, o, ld, b, k) ∧ ¬ ∃ i sp : Nat, AT o ld v w i ∧ sp < 12 ∧ z = nI sp)) (fun u t => LB D cI cT cJ ou x lv kp (va_A (LWs cT cJ ou x lv kp fo fL fK o ld b k FZ) sz) u.1 u.2 t.heap) (va_A (LWs cT cJ ou x lv kp fo fL fK o ld b k FZ) sz)) (XXc (fun _ => False)) 8 40 (va_A (LWs cT cJ ou x lv kp fo fL fK o ld b k FZ) sz) := by
  refine vx_ofWH (cc := cL_numberAt) (maxL := 6) (ret := (some .int)) (hh := [(0, 12, 15, 13)]) (by decide) rfl ?_
  intro p e s m args below meth c s₁ B hml hv
  obtain ⟨rfl, ⟨hsz, hP, hD0⟩, hE, hT, hN⟩ := hv
  have hx := B.exec
  have hb := B.bytes
  have hr := B.returns
  have hts := atoms_spec (ws := wsL_numberAt) B.pre
  have hown : s.vm.findClass RL = some m.cls := findClass_of_methodNamed B.named
  have hlocks := B.notSynchronized
  have hl := lv_entry ([.ref x, .int v, .int w, .int z, .ref ou]) (n := 6) (Nat.le_of_ble_eq_true rfl)
  rw [lg_entry_eq]
  generalize (lg_sl ([.ref x, .int v, .int w, .int z, .ref ou]) ++ List.replicate (6 - (lg_sl ([.ref x, .int v, .int w, .int z, .ref ou])).length) Slot.unset).toArray = ls at hl ⊢
  have hl : lv_has ls 6 [(0, .ref x), (1, .int v), (2, .int w), (3, .int z), (4, .ref ou)] := hl
  have htab := vx_table (x := yL_numberAt) B (hts (.codeWith yL_numberAt cL_numberAt 6 (some .int) [(0, 12, 15, 13)]) List.mem_cons_self)
  have hK := hE.1
  subst hsz
  have hD := hD0.self (sz := s.heap.size)
  generalize hAe : va_A (LWs cT cJ ou x lv kp fo fL fK o ld b k FZ) s.heap.size = A at hD ⊢
  have hA : ∀ q : Nat, s.heap.size ≤ q → A q := fun q h => by rw [← hAe]; exact Or.inr h
  have hS : va_S A s.heap s.heap [] := va_S.rf
  refine lv_aload hx hb dL_numberAt_0 (lv_at hl 4 rfl) ?_
  refine lv_iconst (v := nI 0) hx hb dL_numberAt_2 (by decide) ?_
  refine lv_aload_n hx hb dL_numberAt_3 rfl (lv_at hl 0 rfl) ?_
  refine lv_iload_n hx hb dL_numberAt_4 rfl (lv_at hl 1 rfl) ?_
  refine lv_iload_n hx hb dL_numberAt_5 rfl (lv_at hl 2 rfl) ?_
  refine lv_iload_n hx hb dL_numberAt_6 rfl (lv_at hl 3 rfl) ?_
  have hPc : va_P D vwCl (CW cT x lv kp fL fK o ld b k FZ) s.heap := xP_sub (fun _ h => List.mem_cons_of_mem _ h) hP
  refine xcx (vx_runV (As := [.int v, .int w, .int z]) (rest := [.int (nI 0), .ref ou]) ⟨hx, hb, hml, hown, hts⟩ (c_X1_numberAt l hst Ax x lv kp fL fK o ld b k FZ G hC v w z hld hold) (cwV 3 hts gL_numberAt_X1_numberAt rfl rfl rfl (by decide +kernel) ⟨(Nat.le_of_ble_eq_true rfl), (Nat.le_of_ble_eq_true rfl)⟩) ⟨XPx_blind, va_recv hK hPc (ci := 1) (q0 := 0) rfl rfl, XPx_pre hE hT hPc⟩ rfl rfl hl.1 rfl (lv_room (Nat.le_of_ble_eq_true rfl)) dL_numberAt_7 ⟨Nat.le_of_ble_eq_true rfl, Nat.le_of_ble_eq_true rfl⟩) (fun E9 ce9 q9 H1 hp9 hz9 hk9 hc9 hv9 hcl9 => ?_) (fun v9 hw9 => ?_)
  · have hP := xkept hP hk9
    have hS : va_S A s.heap H1 [] := ⟨hz9, fun q hq _ => hk9 q hq, fun _ h => nomatch h⟩
    generalize H1 = H at hP hS hc9 ⊢
    obtain ⟨rfl, hp9⟩ := hp9
    refine vx_catch hown [] ⟨0, 12, 15, 13⟩ [] (by rw [htab]; rfl) (fun _ h => nomatch h) (by decide) (by decide) (hts (.classLink RL 13 nIO) (by decide +kernel)) (va_Nw.use rfl (hT.2.1 nIO (by decide))) hc9 hv9 hcl9 ?_
    refine W.eq (g2 := F0 m 15 ls [.ref q9]) rfl ?_
    refine lv_astore (lv' := [(5, .ref q9), (0, .ref x), (1, .int v), (2, .int w), (3, .int z), (4, .ref ou)]) hx hb dL_numberAt_15 hl (by decide) rfl (fun ls hl => ?_)
    refine lv_iconst (v := nI 1) hx hb dL_numberAt_17 (by decide) ?_
    refine vx_ret ?_
    refine W.widen (k := 8) (n := 40) (Nat.le_of_ble_eq_true rfl) (Nat.le_of_ble_eq_true rfl) ?_
    exact W.iret hx hb hr (fun t9 ht9 hW9 => ⟨⟨_, ((G, o, ld, b, k), fo 0), rfl, Or.inr ⟨rfl, rfl, hp9⟩, fo, fL, fK, FZ, by rw [ht9]; exact hP, hD, hC, rfl⟩, hS.F ht9⟩) hS.2.2 dL_numberAt_18
  · obtain ⟨i, sp, hat, hsp, hzz, rfl⟩ := hw9
    refine W.eq (g2 := F0 m 10 ls [.int (if sp < (G i).2.2.1 then (G i).2.2.2 sp else -1), .int (nI 0), .ref ou]) rfl ?_
    refine lv_i2l (v := (if sp < (G i).2.2.1 then (G i).2.2.2 sp else -1).toInt64) hx hb dL_numberAt_10 rfl ?_
    refine va_last hx hb hK hP hD hS 0 2 rfl rfl (xin (by omega) (by omega)) dL_numberAt_11 (fun H locs hP hD hS => ?_)
    rw [nI_clamp (show 0 < 2 ^ 31 by omega)] at hP hD
    have hP : va_P D vwCl ((ou, .inl (cJ, 1, .inr (.inl (vp_updL fo 0 ((if sp < (G i).2.2.1 then (G i).2.2.2 sp else -1).toInt64))))) :: (x, .inr (1, [.ref lv, .ref kp, .int (nI o), .int (nI ld), .int (nI b), .int (nI k)])) :: (lv, .inl (cT, 6, .inr (.inr (.inr (.inr fL))))) :: (kp, .inl (cT, 246, .inr (.inr (.inr (.inr fK))))) :: FZ) H := hP
    have hD : va_D A ((ou, .inl (cJ, 1, .inr (.inl (vp_updL fo 0 ((if sp < (G i).2.2.1 then (G i).2.2.2 sp else -1).toInt64))))) :: (x, .inr (1, [.ref lv, .ref kp, .int (nI o), .int (nI ld), .int (nI b), .int (nI k)])) :: (lv, .inl (cT, 6, .inr (.inr (.inr (.inr fL))))) :: (kp, .inl (cT, 246, .inr (.inr (.inr (.inr fK))))) :: FZ) := hD
    refine lv_goto (tgt := 19) hx hb dL_numberAt_12 (by decide) ?_
    refine lv_iconst (v := nI 0) hx hb dL_numberAt_19 (by decide) ?_
    refine vx_ret ?_
    refine W.widen (k := 8) (n := 40) (Nat.le_of_ble_eq_true rfl) (Nat.le_of_ble_eq_true rfl) ?_
    exact W.iret hx hb hr (fun t9 ht9 hW9 => ⟨⟨_, ((G, o, ld, b, k), (if sp < (G i).2.2.1 then (G i).2.2.2 sp else -1).toInt64), rfl, Or.inl ⟨rfl, rfl, i, sp, hat, hsp, hzz, rfl⟩, _, fL, fK, FZ, by rw [ht9]; exact hP, hD, hC, if_pos rfl⟩, hS.F ht9⟩) hS.2.2 dL_numberAt_20

set_option maxHeartbeats 4000000 in
set_option maxRecDepth 100000 in
theorem c_L_sizeAt (l : Launch) (hst : l.stackTraces = false) {D : va_G} {cI cT cJ : ClassId} (Ax : Nat → Prop) (ou x lv kp : Nat) (fo : Nat → Int64) (fL fK : Nat → Option Nat) (o ld b k : Nat) (FZ : va_W) (G : Nat → Tv) (hC : CA cI FZ fL fK G) (v w : Int32) (hld : ld ≤ 40) (hold : o ≤ ld) (sz : Nat) : vx_Met l yL_sizeAt wsL_sizeAt (rmD 9 8 40) (XPl D cI cT cJ Ax [.ref x, .int v, .int w, .ref ou] (fun H => H.size = sz ∧ va_P D vwCl (LWs cT cJ ou x lv kp fo fL fK o ld b k FZ) H ∧ va_D (fun _ => True) (LWs cT cJ ou x lv kp fo fL fK o ld b k FZ))) (va_Qi (S := Sv × Int64) (fun r u => (r = nI 0 ∧ u.1 = (G, o, ld, b, k) ∧ ∃ d j : Nat, o ≤ d ∧ d ≤ ld ∧ v = nI d ∧ j < 6 ∧ w = nI j ∧ u.2 = (nI (difW G ld d j)).toInt64) ∨ (r = nI 1 ∧ u.1 = (G, o, ld, b, k) ∧ ¬ ∃ d j : Nat, o ≤ d ∧ d ≤ ld ∧ v = nI d ∧ j < 6 ∧ w = nI j)) (fun u t => LB D cI cT cJ ou x lv kp (va_A (LWs cT cJ ou x lv kp fo fL fK o ld b k FZ) sz) u.1 u.2 t.heap) (va_A (LWs cT cJ ou x lv kp fo fL fK o ld b k FZ) sz)) (XXc (fun _ => False)) 8 40 (va_A (LWs cT cJ ou x lv kp fo fL fK o ld b k FZ) sz) := by
  refine vx_ofWH (cc := cL_sizeAt) (maxL := 5) (ret := (some .int)) (hh := [(0, 10, 13, 13)]) (by decide) rfl ?_
  intro p e s m args below meth c s₁ B hml hv
  obtain ⟨rfl, ⟨hsz, hP, hD0⟩, hE, hT, hN⟩ := hv
  have hx := B.exec
  have hb := B.bytes
  have hr := B.returns
  have hts := atoms_spec (ws := wsL_sizeAt) B.pre
  have hown : s.vm.findClass RL = some m.cls := findClass_of_methodNamed B.named
  have hlocks := B.notSynchronized
  have hl := lv_entry ([.ref x, .int v, .int w, .ref ou]) (n := 5) (Nat.le_of_ble_eq_true rfl)
  rw [lg_entry_eq]
  generalize (lg_sl ([.ref x, .int v, .int w, .ref ou]) ++ List.replicate (5 - (lg_sl ([.ref x, .int v, .int w, .ref ou])).length) Slot.unset).toArray = ls at hl ⊢
  have hl : lv_has ls 5 [(0, .ref x), (1, .int v), (2, .int w), (3, .ref ou)] := hl
  have htab := vx_table (x := yL_sizeAt) B (hts (.codeWith yL_sizeAt cL_sizeAt 5 (some .int) [(0, 10, 13, 13)]) List.mem_cons_self)
  have hK := hE.1
  subst hsz
  have hD := hD0.self (sz := s.heap.size)
  generalize hAe : va_A (LWs cT cJ ou x lv kp fo fL fK o ld b k FZ) s.heap.size = A at hD ⊢
  have hA : ∀ q : Nat, s.heap.size ≤ q → A q := fun q h => by rw [← hAe]; exact Or.inr h
  have hS : va_S A s.heap s.heap [] := va_S.rf
  refine lv_aload_n hx hb dL_sizeAt_0 rfl (lv_at hl 3 rfl) ?_
  refine lv_iconst (v := nI 0) hx hb dL_sizeAt_1 (by decide) ?_
  refine lv_aload_n hx hb dL_sizeAt_2 rfl (lv_at hl 0 rfl) ?_
  refine lv_iload_n hx hb dL_sizeAt_3 rfl (lv_at hl 1 rfl) ?_
  refine lv_iload_n hx hb dL_sizeAt_4 rfl (lv_at hl 2 rfl) ?_
  have hPc : va_P D vwCl (CW cT x lv kp fL fK o ld b k FZ) s.heap := xP_sub (fun _ h => List.mem_cons_of_mem _ h) hP
  refine xcx (vx_runV (As := [.int v, .int w]) (rest := [.int (nI 0), .ref ou]) ⟨hx, hb, hml, hown, hts⟩ (c_X1_sizeAt l hst Ax x lv kp fL fK o ld b k FZ G hC v w hld hold) (cwV 2 hts gL_sizeAt_X1_sizeAt rfl rfl rfl (by decide +kernel) ⟨(Nat.le_of_ble_eq_true rfl), (Nat.le_of_ble_eq_true rfl)⟩) ⟨XPx_blind, va_recv hK hPc (ci := 1) (q0 := 0) rfl rfl, XPx_pre hE hT hPc⟩ rfl rfl hl.1 rfl (lv_room (Nat.le_of_ble_eq_true rfl)) dL_sizeAt_5 ⟨Nat.le_of_ble_eq_true rfl, Nat.le_of_ble_eq_true rfl⟩) (fun E9 ce9 q9 H1 hp9 hz9 hk9 hc9 hv9 hcl9 => ?_) (fun v9 hw9 => ?_)
  · have hP := xkept hP hk9
    have hS : va_S A s.heap H1 [] := ⟨hz9, fun q hq _ => hk9 q hq, fun _ h => nomatch h⟩
    generalize H1 = H at hP hS hc9 ⊢
    obtain ⟨rfl, hp9⟩ := hp9
    refine vx_catch hown [] ⟨0, 10, 13, 13⟩ [] (by rw [htab]; rfl) (fun _ h => nomatch h) (by decide) (by decide) (hts (.classLink RL 13 nIO) (by decide +kernel)) (va_Nw.use rfl (hT.2.1 nIO (by decide))) hc9 hv9 hcl9 ?_
    refine W.eq (g2 := F0 m 13 ls [.ref q9]) rfl ?_
    refine lv_astore (lv' := [(4, .ref q9), (0, .ref x), (1, .int v), (2, .int w), (3, .ref ou)]) hx hb dL_sizeAt_13 hl (by decide) rfl (fun ls hl => ?_)
    refine lv_iconst (v := nI 1) hx hb dL_sizeAt_15 (by decide) ?_
    refine vx_ret ?_
    refine W.widen (k := 8) (n := 40) (Nat.le_of_ble_eq_true rfl) (Nat.le_of_ble_eq_true rfl) ?_
    exact W.iret hx hb hr (fun t9 ht9 hW9 => ⟨⟨_, ((G, o, ld, b, k), fo 0), rfl, Or.inr ⟨rfl, rfl, hp9⟩, fo, fL, fK, FZ, by rw [ht9]; exact hP, hD, hC, rfl⟩, hS.F ht9⟩) hS.2.2 dL_sizeAt_16
  · obtain ⟨d, j, hd1, hd2, hdv, hj, hjw, rfl⟩ := hw9
    refine W.eq (g2 := F0 m 8 ls [.int (nI (difW G ld d j)), .int (nI 0), .ref ou]) rfl ?_
    refine lv_i2l (v := (nI (difW G ld d j)).toInt64) hx hb dL_sizeAt_8 rfl ?_
    refine va_last hx hb hK hP hD hS 0 2 rfl rfl (xin (by omega) (by omega)) dL_sizeAt_9 (fun H locs hP hD hS => ?_)
    rw [nI_clamp (show 0 < 2 ^ 31 by omega)] at hP hD
    have hP : va_P D vwCl ((ou, .inl (cJ, 1, .inr (.inl (vp_updL fo 0 ((nI (difW G ld d j)).toInt64))))) :: (x, .inr (1, [.ref lv, .ref kp, .int (nI o), .int (nI ld), .int (nI b), .int (nI k)])) :: (lv, .inl (cT, 6, .inr (.inr (.inr (.inr fL))))) :: (kp, .inl (cT, 246, .inr (.inr (.inr (.inr fK))))) :: FZ) H := hP
    have hD : va_D A ((ou, .inl (cJ, 1, .inr (.inl (vp_updL fo 0 ((nI (difW G ld d j)).toInt64))))) :: (x, .inr (1, [.ref lv, .ref kp, .int (nI o), .int (nI ld), .int (nI b), .int (nI k)])) :: (lv, .inl (cT, 6, .inr (.inr (.inr (.inr fL))))) :: (kp, .inl (cT, 246, .inr (.inr (.inr (.inr fK))))) :: FZ) := hD
    refine lv_goto (tgt := 17) hx hb dL_sizeAt_10 (by decide) ?_
    refine lv_iconst (v := nI 0) hx hb dL_sizeAt_17 (by decide) ?_
    refine vx_ret ?_
    refine W.widen (k := 8) (n := 40) (Nat.le_of_ble_eq_true rfl) (Nat.le_of_ble_eq_true rfl) ?_
    exact W.iret hx hb hr (fun t9 ht9 hW9 => ⟨⟨_, ((G, o, ld, b, k), (nI (difW G ld d j)).toInt64), rfl, Or.inl ⟨rfl, rfl, d, j, hd1, hd2, hdv, hj, hjw, rfl⟩, _, fL, fK, FZ, by rw [ht9]; exact hP, hD, hC, if_pos rfl⟩, hS.F ht9⟩) hS.2.2 dL_sizeAt_18
