set_option maxHeartbeats 4000000 in
set_option maxRecDepth 100000 in
theorem a_makeFile_O (l : Launch) (hst : l.stackTraces = false) {D : va_G} {cI cT cJ : ClassId} (Ax : Nat → Prop) (x lv kp : Nat) (fL fK : Nat → Option Nat) (o ld b k : Nat) (FZ : va_W) (G : Nat → Tv) (hC : CA cI FZ fL fK G) (a9 b9 c9 : Int32) (h : ¬ Pl a9) : vx_Met l yL_act wsL_act (rmD 9 8 40) (XPl D cI cT cJ Ax [.ref x, .int (nI 0), .int a9, .int b9, .int c9] (fun H => va_P D vwCl (CW cT x lv kp fL fK o ld b k FZ) H ∧ va_D (fun _ => True) (CW cT x lv kp fL fK o ld b k FZ))) (XRi (fun r => r = (-1161))) (XXc (fun _ => False)) 8 40 (fun _ => False) := by
  refine vx_ofWH (cc := cL_act) (maxL := 6) (ret := (some .int)) (hh := [(0, 116, 117, 41), (0, 116, 123, 43), (0, 116, 129, 45)]) (by decide) rfl ?_
  intro p e s m args below meth c s₁ B hml hv
  obtain ⟨rfl, ⟨hP, hD0⟩, hE, hT, hN⟩ := hv
  have hx := B.exec
  have hb := B.bytes
  have hr := B.returns
  have hts := atoms_spec (ws := wsL_act) B.pre
  have hown : s.vm.findClass RL = some m.cls := findClass_of_methodNamed B.named
  have hlocks := B.notSynchronized
  have hl := lv_entry ([.ref x, .int (nI 0), .int a9, .int b9, .int c9]) (n := 6) (Nat.le_of_ble_eq_true rfl)
  rw [lg_entry_eq]
  generalize (lg_sl ([.ref x, .int (nI 0), .int a9, .int b9, .int c9]) ++ List.replicate (6 - (lg_sl ([.ref x, .int (nI 0), .int a9, .int b9, .int c9])).length) Slot.unset).toArray = ls at hl ⊢
  have hl : lv_has ls 6 [(0, .ref x), (1, .int (nI 0)), (2, .int a9), (3, .int b9), (4, .int c9)] := hl
  have htab := vx_table (x := yL_act) B (hts (.codeWith yL_act cL_act 6 (some .int) [(0, 116, 117, 41), (0, 116, 123, 43), (0, 116, 129, 45)]) List.mem_cons_self)
  have hK := hE.1
  refine lv_iload_n hx hb dL_act_0 rfl (lv_at hl 1 rfl) ?_
  refine lv_if_ne (tgt := 12) hx hb dL_act_1 (by decide) (fun h => absurd h (by decide)) (fun _ => ?_)
  refine lv_aload_n hx hb dL_act_4 rfl (lv_at hl 0 rfl) ?_
  refine lv_iload_n hx hb dL_act_5 rfl (lv_at hl 2 rfl) ?_
  refine xcw (vx_runV (As := [.int a9]) (rest := []) ⟨hx, hb, hml, hown, hts⟩ (c_X1_makeFile l hst Ax x lv kp fL fK o ld b k FZ G hC a9 s.heap.size) (cwV 1 hts gL_act_X1_makeFile rfl rfl rfl (by decide +kernel) ⟨(Nat.le_of_ble_eq_true rfl), (Nat.le_of_ble_eq_true rfl)⟩) ⟨XPx_blind, va_recv hK hP (ci := 1) (q0 := 0) rfl rfl, XPx_pre hE hT ⟨rfl, hP, hD0⟩⟩ rfl rfl hl.1 rfl (lv_room (Nat.le_of_ble_eq_true rfl)) dL_act_6 ⟨Nat.le_of_ble_eq_true rfl, Nat.le_of_ble_eq_true rfl⟩) (va_S.rf (A := va_A (CW cT x lv kp fL fK o ld b k FZ) s.heap.size)) (fun q9 _ h => h) (fun q9 h => h) (fun E9 ce9 q9 H1 locs hp9 hz9 hk9 hS hc9 hv9 hcl9 => ?_) (fun r9 u t9 H1 locs ht9 hvm9 hw9 hB9 hzc hkc hS => ?_)
  · obtain ⟨rfl, hp9⟩ := hp9
    refine vx_catch hown [] ⟨0, 116, 117, 41⟩ [⟨0, 116, 123, 43⟩, ⟨0, 116, 129, 45⟩] (by rw [htab]; rfl) (fun _ h => nomatch h) (by decide) (by decide) (hts (.classLink RL 41 nIO) (by decide +kernel)) (va_Nw.use rfl (hT.2.1 nIO (by decide))) hc9 hv9 hcl9 ?_
    refine W.eq (g2 := F0 m 117 ls [.ref q9]) rfl ?_
    refine lv_astore (lv' := [(5, .ref q9), (0, .ref x), (1, .int (nI 0)), (2, .int a9), (3, .int b9), (4, .int c9)]) hx hb dL_act_117 hl (by decide) rfl (fun ls hl => ?_)
    refine lv_sipush (v := (-1161)) hx hb dL_act_119 (by decide) ?_
    refine vx_ret ?_
    refine xforget hk9 ?_
    refine W.widen (k := 8) (n := 40) (Nat.le_of_ble_eq_true rfl) (Nat.le_of_ble_eq_true rfl) ?_
    exact W.iret hx hb hr (fun t9 ht9 hW9 => ⟨_, rfl, rfl, by rw [ht9]; exact hz9, by rw [ht9]; exact hk9⟩) (fun _ h => nomatch h) dL_act_122
  · exact (by obtain ⟨j, hj, e, -⟩ := hw9; exact absurd ⟨j, hj, e⟩ h)

set_option maxHeartbeats 4000000 in
set_option maxRecDepth 100000 in
theorem a_makeLink_O (l : Launch) (hst : l.stackTraces = false) {D : va_G} {cI cT cJ : ClassId} (Ax : Nat → Prop) (x lv kp : Nat) (fL fK : Nat → Option Nat) (o ld b k : Nat) (FZ : va_W) (G : Nat → Tv) (hC : CA cI FZ fL fK G) (a9 b9 c9 : Int32) (h : ¬ (Pl a9 ∧ Pl b9)) : vx_Met l yL_act wsL_act (rmD 9 8 40) (XPl D cI cT cJ Ax [.ref x, .int (nI 1), .int a9, .int b9, .int c9] (fun H => va_P D vwCl (CW cT x lv kp fL fK o ld b k FZ) H ∧ va_D (fun _ => True) (CW cT x lv kp fL fK o ld b k FZ))) (XRi (fun r => r = (-1161))) (XXc (fun _ => False)) 8 40 (fun _ => False) := by
  refine vx_ofWH (cc := cL_act) (maxL := 6) (ret := (some .int)) (hh := [(0, 116, 117, 41), (0, 116, 123, 43), (0, 116, 129, 45)]) (by decide) rfl ?_
  intro p e s m args below meth c s₁ B hml hv
  obtain ⟨rfl, ⟨hP, hD0⟩, hE, hT, hN⟩ := hv
  have hx := B.exec
  have hb := B.bytes
  have hr := B.returns
  have hts := atoms_spec (ws := wsL_act) B.pre
  have hown : s.vm.findClass RL = some m.cls := findClass_of_methodNamed B.named
  have hlocks := B.notSynchronized
  have hl := lv_entry ([.ref x, .int (nI 1), .int a9, .int b9, .int c9]) (n := 6) (Nat.le_of_ble_eq_true rfl)
  rw [lg_entry_eq]
  generalize (lg_sl ([.ref x, .int (nI 1), .int a9, .int b9, .int c9]) ++ List.replicate (6 - (lg_sl ([.ref x, .int (nI 1), .int a9, .int b9, .int c9])).length) Slot.unset).toArray = ls at hl ⊢
  have hl : lv_has ls 6 [(0, .ref x), (1, .int (nI 1)), (2, .int a9), (3, .int b9), (4, .int c9)] := hl
  have htab := vx_table (x := yL_act) B (hts (.codeWith yL_act cL_act 6 (some .int) [(0, 116, 117, 41), (0, 116, 123, 43), (0, 116, 129, 45)]) List.mem_cons_self)
  have hK := hE.1
  refine lv_iload_n hx hb dL_act_0 rfl (lv_at hl 1 rfl) ?_
  refine lv_if_ne (tgt := 12) hx hb dL_act_1 (by decide) (fun _ => ?_) (fun h => absurd h (by decide))
  refine lv_iload_n hx hb dL_act_12 rfl (lv_at hl 1 rfl) ?_
  refine lv_iconst (v := nI 1) hx hb dL_act_13 (by decide) ?_
  refine lv_icmp_ne (tgt := 26) hx hb dL_act_14 (by decide) (fun h => absurd h (by decide)) (fun _ => ?_)
  refine lv_aload_n hx hb dL_act_17 rfl (lv_at hl 0 rfl) ?_
  refine lv_iload_n hx hb dL_act_18 rfl (lv_at hl 2 rfl) ?_
  refine lv_iload_n hx hb dL_act_19 rfl (lv_at hl 3 rfl) ?_
  refine xcw (vx_runV (As := [.int a9, .int b9]) (rest := []) ⟨hx, hb, hml, hown, hts⟩ (c_X1_makeLink l hst Ax x lv kp fL fK o ld b k FZ G hC a9 b9 s.heap.size) (cwV 2 hts gL_act_X1_makeLink rfl rfl rfl (by decide +kernel) ⟨(Nat.le_of_ble_eq_true rfl), (Nat.le_of_ble_eq_true rfl)⟩) ⟨XPx_blind, va_recv hK hP (ci := 1) (q0 := 0) rfl rfl, XPx_pre hE hT ⟨rfl, hP, hD0⟩⟩ rfl rfl hl.1 rfl (lv_room (Nat.le_of_ble_eq_true rfl)) dL_act_20 ⟨Nat.le_of_ble_eq_true rfl, Nat.le_of_ble_eq_true rfl⟩) (va_S.rf (A := va_A (CW cT x lv kp fL fK o ld b k FZ) s.heap.size)) (fun q9 _ h => h) (fun q9 h => h) (fun E9 ce9 q9 H1 locs hp9 hz9 hk9 hS hc9 hv9 hcl9 => ?_) (fun r9 u t9 H1 locs ht9 hvm9 hw9 hB9 hzc hkc hS => ?_)
  · obtain ⟨rfl, hp9⟩ := hp9
    refine vx_catch hown [] ⟨0, 116, 117, 41⟩ [⟨0, 116, 123, 43⟩, ⟨0, 116, 129, 45⟩] (by rw [htab]; rfl) (fun _ h => nomatch h) (by decide) (by decide) (hts (.classLink RL 41 nIO) (by decide +kernel)) (va_Nw.use rfl (hT.2.1 nIO (by decide))) hc9 hv9 hcl9 ?_
    refine W.eq (g2 := F0 m 117 ls [.ref q9]) rfl ?_
    refine lv_astore (lv' := [(5, .ref q9), (0, .ref x), (1, .int (nI 1)), (2, .int a9), (3, .int b9), (4, .int c9)]) hx hb dL_act_117 hl (by decide) rfl (fun ls hl => ?_)
    refine lv_sipush (v := (-1161)) hx hb dL_act_119 (by decide) ?_
    refine vx_ret ?_
    refine xforget hk9 ?_
    refine W.widen (k := 8) (n := 40) (Nat.le_of_ble_eq_true rfl) (Nat.le_of_ble_eq_true rfl) ?_
    exact W.iret hx hb hr (fun t9 ht9 hW9 => ⟨_, rfl, rfl, by rw [ht9]; exact hz9, by rw [ht9]; exact hk9⟩) (fun _ h => nomatch h) dL_act_122
  · exact (by obtain ⟨j, t, hj, ht, e, e2, -⟩ := hw9; exact absurd ⟨⟨j, hj, e⟩, ⟨t, ht, e2⟩⟩ h)

set_option maxHeartbeats 4000000 in
set_option maxRecDepth 100000 in
theorem a_remove_O (l : Launch) (hst : l.stackTraces = false) {D : va_G} {cI cT cJ : ClassId} (Ax : Nat → Prop) (x lv kp : Nat) (fL fK : Nat → Option Nat) (o ld b k : Nat) (FZ : va_W) (G : Nat → Tv) (hC : CA cI FZ fL fK G) (a9 b9 c9 : Int32) (h : ¬ Pl a9) : vx_Met l yL_act wsL_act (rmD 9 8 40) (XPl D cI cT cJ Ax [.ref x, .int (nI 2), .int a9, .int b9, .int c9] (fun H => va_P D vwCl (CW cT x lv kp fL fK o ld b k FZ) H ∧ va_D (fun _ => True) (CW cT x lv kp fL fK o ld b k FZ))) (XRi (fun r => r = (-1161))) (XXc (fun _ => False)) 8 40 (fun _ => False) := by
  refine vx_ofWH (cc := cL_act) (maxL := 6) (ret := (some .int)) (hh := [(0, 116, 117, 41), (0, 116, 123, 43), (0, 116, 129, 45)]) (by decide) rfl ?_
  intro p e s m args below meth c s₁ B hml hv
  obtain ⟨rfl, ⟨hP, hD0⟩, hE, hT, hN⟩ := hv
  have hx := B.exec
  have hb := B.bytes
  have hr := B.returns
  have hts := atoms_spec (ws := wsL_act) B.pre
  have hown : s.vm.findClass RL = some m.cls := findClass_of_methodNamed B.named
  have hlocks := B.notSynchronized
  have hl := lv_entry ([.ref x, .int (nI 2), .int a9, .int b9, .int c9]) (n := 6) (Nat.le_of_ble_eq_true rfl)
  rw [lg_entry_eq]
  generalize (lg_sl ([.ref x, .int (nI 2), .int a9, .int b9, .int c9]) ++ List.replicate (6 - (lg_sl ([.ref x, .int (nI 2), .int a9, .int b9, .int c9])).length) Slot.unset).toArray = ls at hl ⊢
  have hl : lv_has ls 6 [(0, .ref x), (1, .int (nI 2)), (2, .int a9), (3, .int b9), (4, .int c9)] := hl
  have htab := vx_table (x := yL_act) B (hts (.codeWith yL_act cL_act 6 (some .int) [(0, 116, 117, 41), (0, 116, 123, 43), (0, 116, 129, 45)]) List.mem_cons_self)
  have hK := hE.1
  refine lv_iload_n hx hb dL_act_0 rfl (lv_at hl 1 rfl) ?_
  refine lv_if_ne (tgt := 12) hx hb dL_act_1 (by decide) (fun _ => ?_) (fun h => absurd h (by decide))
  refine lv_iload_n hx hb dL_act_12 rfl (lv_at hl 1 rfl) ?_
  refine lv_iconst (v := nI 1) hx hb dL_act_13 (by decide) ?_
  refine lv_icmp_ne (tgt := 26) hx hb dL_act_14 (by decide) (fun _ => ?_) (fun h => absurd h (by decide))
  refine lv_iload_n hx hb dL_act_26 rfl (lv_at hl 1 rfl) ?_
  refine lv_iconst (v := nI 2) hx hb dL_act_27 (by decide) ?_
  refine lv_icmp_ne (tgt := 39) hx hb dL_act_28 (by decide) (fun h => absurd h (by decide)) (fun _ => ?_)
  refine lv_aload_n hx hb dL_act_31 rfl (lv_at hl 0 rfl) ?_
  refine lv_iload_n hx hb dL_act_32 rfl (lv_at hl 2 rfl) ?_
  refine xcw (vx_runV (As := [.int a9]) (rest := []) ⟨hx, hb, hml, hown, hts⟩ (c_X1_remove l hst Ax x lv kp fL fK o ld b k FZ G hC a9 s.heap.size) (cwV 1 hts gL_act_X1_remove rfl rfl rfl (by decide +kernel) ⟨(Nat.le_of_ble_eq_true rfl), (Nat.le_of_ble_eq_true rfl)⟩) ⟨XPx_blind, va_recv hK hP (ci := 1) (q0 := 0) rfl rfl, XPx_pre hE hT ⟨rfl, hP, hD0⟩⟩ rfl rfl hl.1 rfl (lv_room (Nat.le_of_ble_eq_true rfl)) dL_act_33 ⟨Nat.le_of_ble_eq_true rfl, Nat.le_of_ble_eq_true rfl⟩) (va_S.rf (A := va_A (CW cT x lv kp fL fK o ld b k FZ) s.heap.size)) (fun q9 _ h => h) (fun q9 h => h) (fun E9 ce9 q9 H1 locs hp9 hz9 hk9 hS hc9 hv9 hcl9 => ?_) (fun r9 u t9 H1 locs ht9 hvm9 hw9 hB9 hzc hkc hS => ?_)
  · obtain ⟨rfl, hp9⟩ := hp9
    refine vx_catch hown [] ⟨0, 116, 117, 41⟩ [⟨0, 116, 123, 43⟩, ⟨0, 116, 129, 45⟩] (by rw [htab]; rfl) (fun _ h => nomatch h) (by decide) (by decide) (hts (.classLink RL 41 nIO) (by decide +kernel)) (va_Nw.use rfl (hT.2.1 nIO (by decide))) hc9 hv9 hcl9 ?_
    refine W.eq (g2 := F0 m 117 ls [.ref q9]) rfl ?_
    refine lv_astore (lv' := [(5, .ref q9), (0, .ref x), (1, .int (nI 2)), (2, .int a9), (3, .int b9), (4, .int c9)]) hx hb dL_act_117 hl (by decide) rfl (fun ls hl => ?_)
    refine lv_sipush (v := (-1161)) hx hb dL_act_119 (by decide) ?_
    refine vx_ret ?_
    refine xforget hk9 ?_
    refine W.widen (k := 8) (n := 40) (Nat.le_of_ble_eq_true rfl) (Nat.le_of_ble_eq_true rfl) ?_
    exact W.iret hx hb hr (fun t9 ht9 hW9 => ⟨_, rfl, rfl, by rw [ht9]; exact hz9, by rw [ht9]; exact hk9⟩) (fun _ h => nomatch h) dL_act_122
  · exact (by obtain ⟨j, hj, e, -⟩ := hw9; exact absurd ⟨j, hj, e⟩ h)

set_option maxHeartbeats 4000000 in
set_option maxRecDepth 100000 in
theorem a_put_O (l : Launch) (hst : l.stackTraces = false) {D : va_G} {cI cT cJ : ClassId} (Ax : Nat → Prop) (x lv kp : Nat) (fL fK : Nat → Option Nat) (o ld b k : Nat) (FZ : va_W) (G : Nat → Tv) (hC : CA cI FZ fL fK G) (a9 b9 c9 : Int32) (h : ¬ Pl a9) : vx_Met l yL_act wsL_act (rmD 9 8 40) (XPl D cI cT cJ Ax [.ref x, .int (nI 3), .int a9, .int b9, .int c9] (fun H => va_P D vwCl (CW cT x lv kp fL fK o ld b k FZ) H ∧ va_D (fun _ => True) (CW cT x lv kp fL fK o ld b k FZ))) (XRi (fun r => r = (-1161))) (XXc (fun _ => False)) 8 40 (fun _ => False) := by
  refine vx_ofWH (cc := cL_act) (maxL := 6) (ret := (some .int)) (hh := [(0, 116, 117, 41), (0, 116, 123, 43), (0, 116, 129, 45)]) (by decide) rfl ?_
  intro p e s m args below meth c s₁ B hml hv
  obtain ⟨rfl, ⟨hP, hD0⟩, hE, hT, hN⟩ := hv
  have hx := B.exec
  have hb := B.bytes
  have hr := B.returns
  have hts := atoms_spec (ws := wsL_act) B.pre
  have hown : s.vm.findClass RL = some m.cls := findClass_of_methodNamed B.named
  have hlocks := B.notSynchronized
  have hl := lv_entry ([.ref x, .int (nI 3), .int a9, .int b9, .int c9]) (n := 6) (Nat.le_of_ble_eq_true rfl)
  rw [lg_entry_eq]
  generalize (lg_sl ([.ref x, .int (nI 3), .int a9, .int b9, .int c9]) ++ List.replicate (6 - (lg_sl ([.ref x, .int (nI 3), .int a9, .int b9, .int c9])).length) Slot.unset).toArray = ls at hl ⊢
  have hl : lv_has ls 6 [(0, .ref x), (1, .int (nI 3)), (2, .int a9), (3, .int b9), (4, .int c9)] := hl
  have htab := vx_table (x := yL_act) B (hts (.codeWith yL_act cL_act 6 (some .int) [(0, 116, 117, 41), (0, 116, 123, 43), (0, 116, 129, 45)]) List.mem_cons_self)
  have hK := hE.1
  refine lv_iload_n hx hb dL_act_0 rfl (lv_at hl 1 rfl) ?_
  refine lv_if_ne (tgt := 12) hx hb dL_act_1 (by decide) (fun _ => ?_) (fun h => absurd h (by decide))
  refine lv_iload_n hx hb dL_act_12 rfl (lv_at hl 1 rfl) ?_
  refine lv_iconst (v := nI 1) hx hb dL_act_13 (by decide) ?_
  refine lv_icmp_ne (tgt := 26) hx hb dL_act_14 (by decide) (fun _ => ?_) (fun h => absurd h (by decide))
  refine lv_iload_n hx hb dL_act_26 rfl (lv_at hl 1 rfl) ?_
  refine lv_iconst (v := nI 2) hx hb dL_act_27 (by decide) ?_
  refine lv_icmp_ne (tgt := 39) hx hb dL_act_28 (by decide) (fun _ => ?_) (fun h => absurd h (by decide))
  refine lv_iload_n hx hb dL_act_39 rfl (lv_at hl 1 rfl) ?_
  refine lv_iconst (v := nI 3) hx hb dL_act_40 (by decide) ?_
  refine lv_icmp_ne (tgt := 55) hx hb dL_act_41 (by decide) (fun h => absurd h (by decide)) (fun _ => ?_)
  refine lv_aload_n hx hb dL_act_44 rfl (lv_at hl 0 rfl) ?_
  refine lv_iload_n hx hb dL_act_45 rfl (lv_at hl 2 rfl) ?_
  refine lv_iload_n hx hb dL_act_46 rfl (lv_at hl 3 rfl) ?_
  refine lv_iload hx hb dL_act_47 (lv_at hl 4 rfl) ?_
  refine xcw (vx_runV (As := [.int a9, .int b9, .int c9]) (rest := []) ⟨hx, hb, hml, hown, hts⟩ (c_X1_put l hst Ax x lv kp fL fK o ld b k FZ G hC a9 b9 c9 s.heap.size) (cwV 3 hts gL_act_X1_put rfl rfl rfl (by decide +kernel) ⟨(Nat.le_of_ble_eq_true rfl), (Nat.le_of_ble_eq_true rfl)⟩) ⟨XPx_blind, va_recv hK hP (ci := 1) (q0 := 0) rfl rfl, XPx_pre hE hT ⟨rfl, hP, hD0⟩⟩ rfl rfl hl.1 rfl (lv_room (Nat.le_of_ble_eq_true rfl)) dL_act_49 ⟨Nat.le_of_ble_eq_true rfl, Nat.le_of_ble_eq_true rfl⟩) (va_S.rf (A := va_A (CW cT x lv kp fL fK o ld b k FZ) s.heap.size)) (fun q9 _ h => h) (fun q9 h => h) (fun E9 ce9 q9 H1 locs hp9 hz9 hk9 hS hc9 hv9 hcl9 => ?_) (fun r9 u t9 H1 locs ht9 hvm9 hw9 hB9 hzc hkc hS => ?_)
  · rcases hp9 with ⟨rfl, hp9⟩ | ⟨rfl, hp9⟩ | ⟨rfl, hp9⟩
    · refine vx_catch hown [] ⟨0, 116, 117, 41⟩ [⟨0, 116, 123, 43⟩, ⟨0, 116, 129, 45⟩] (by rw [htab]; rfl) (fun _ h => nomatch h) (by decide) (by decide) (hts (.classLink RL 41 nIO) (by decide +kernel)) (va_Nw.use rfl (hT.2.1 nIO (by decide))) hc9 hv9 hcl9 ?_
      refine W.eq (g2 := F0 m 117 ls [.ref q9]) rfl ?_
      refine lv_astore (lv' := [(5, .ref q9), (0, .ref x), (1, .int (nI 3)), (2, .int a9), (3, .int b9), (4, .int c9)]) hx hb dL_act_117 hl (by decide) rfl (fun ls hl => ?_)
      refine lv_sipush (v := (-1161)) hx hb dL_act_119 (by decide) ?_
      refine vx_ret ?_
      refine xforget hk9 ?_
      refine W.widen (k := 8) (n := 40) (Nat.le_of_ble_eq_true rfl) (Nat.le_of_ble_eq_true rfl) ?_
      exact W.iret hx hb hr (fun t9 ht9 hW9 => ⟨_, rfl, rfl, by rw [ht9]; exact hz9, by rw [ht9]; exact hk9⟩) (fun _ h => nomatch h) dL_act_122
    · exact (by obtain ⟨j, hj, e, -⟩ := hp9; exact absurd ⟨j, hj, e⟩ h)
    · exact (by obtain ⟨j, hj, e, -⟩ := hp9; exact absurd ⟨j, hj, e⟩ h)
  · exact (by obtain ⟨j, sp, y, hj, e, -⟩ := hw9; exact absurd ⟨j, hj, e⟩ h)

set_option maxHeartbeats 4000000 in
set_option maxRecDepth 100000 in
theorem a_put_S (l : Launch) (hst : l.stackTraces = false) {D : va_G} {cI cT cJ : ClassId} (Ax : Nat → Prop) (x lv kp : Nat) (fL fK : Nat → Option Nat) (o ld b k : Nat) (FZ : va_W) (G : Nat → Tv) (hC : CA cI FZ fL fK G) {j : Nat} (hj : j < 6)(b9 c9 : Int32) (h : ¬ PutK (G (246 + j))) : vx_Met l yL_act wsL_act (rmD 9 8 40) (XPl D cI cT cJ Ax [.ref x, .int (nI 3), .int (nI j), .int b9, .int c9] (fun H => va_P D vwCl (CW cT x lv kp fL fK o ld b k FZ) H ∧ va_D (fun _ => True) (CW cT x lv kp fL fK o ld b k FZ))) (XRi (fun r => r = (-1163))) (XXc (fun _ => False)) 8 40 (fun _ => False) := by
  refine vx_ofWH (cc := cL_act) (maxL := 6) (ret := (some .int)) (hh := [(0, 116, 117, 41), (0, 116, 123, 43), (0, 116, 129, 45)]) (by decide) rfl ?_
  intro p e s m args below meth c s₁ B hml hv
  obtain ⟨rfl, ⟨hP, hD0⟩, hE, hT, hN⟩ := hv
  have hx := B.exec
  have hb := B.bytes
  have hr := B.returns
  have hts := atoms_spec (ws := wsL_act) B.pre
  have hown : s.vm.findClass RL = some m.cls := findClass_of_methodNamed B.named
  have hlocks := B.notSynchronized
  have hl := lv_entry ([.ref x, .int (nI 3), .int (nI j), .int b9, .int c9]) (n := 6) (Nat.le_of_ble_eq_true rfl)
  rw [lg_entry_eq]
  generalize (lg_sl ([.ref x, .int (nI 3), .int (nI j), .int b9, .int c9]) ++ List.replicate (6 - (lg_sl ([.ref x, .int (nI 3), .int (nI j), .int b9, .int c9])).length) Slot.unset).toArray = ls at hl ⊢
  have hl : lv_has ls 6 [(0, .ref x), (1, .int (nI 3)), (2, .int (nI j)), (3, .int b9), (4, .int c9)] := hl
  have htab := vx_table (x := yL_act) B (hts (.codeWith yL_act cL_act 6 (some .int) [(0, 116, 117, 41), (0, 116, 123, 43), (0, 116, 129, 45)]) List.mem_cons_self)
  have hK := hE.1
  refine lv_iload_n hx hb dL_act_0 rfl (lv_at hl 1 rfl) ?_
  refine lv_if_ne (tgt := 12) hx hb dL_act_1 (by decide) (fun _ => ?_) (fun h => absurd h (by decide))
  refine lv_iload_n hx hb dL_act_12 rfl (lv_at hl 1 rfl) ?_
  refine lv_iconst (v := nI 1) hx hb dL_act_13 (by decide) ?_
  refine lv_icmp_ne (tgt := 26) hx hb dL_act_14 (by decide) (fun _ => ?_) (fun h => absurd h (by decide))
  refine lv_iload_n hx hb dL_act_26 rfl (lv_at hl 1 rfl) ?_
  refine lv_iconst (v := nI 2) hx hb dL_act_27 (by decide) ?_
  refine lv_icmp_ne (tgt := 39) hx hb dL_act_28 (by decide) (fun _ => ?_) (fun h => absurd h (by decide))
  refine lv_iload_n hx hb dL_act_39 rfl (lv_at hl 1 rfl) ?_
  refine lv_iconst (v := nI 3) hx hb dL_act_40 (by decide) ?_
  refine lv_icmp_ne (tgt := 55) hx hb dL_act_41 (by decide) (fun h => absurd h (by decide)) (fun _ => ?_)
  refine lv_aload_n hx hb dL_act_44 rfl (lv_at hl 0 rfl) ?_
  refine lv_iload_n hx hb dL_act_45 rfl (lv_at hl 2 rfl) ?_
  refine lv_iload_n hx hb dL_act_46 rfl (lv_at hl 3 rfl) ?_
  refine lv_iload hx hb dL_act_47 (lv_at hl 4 rfl) ?_
  refine xcw (vx_runV (As := [.int (nI j), .int b9, .int c9]) (rest := []) ⟨hx, hb, hml, hown, hts⟩ (c_X1_put l hst Ax x lv kp fL fK o ld b k FZ G hC (nI j) b9 c9 s.heap.size) (cwV 3 hts gL_act_X1_put rfl rfl rfl (by decide +kernel) ⟨(Nat.le_of_ble_eq_true rfl), (Nat.le_of_ble_eq_true rfl)⟩) ⟨XPx_blind, va_recv hK hP (ci := 1) (q0 := 0) rfl rfl, XPx_pre hE hT ⟨rfl, hP, hD0⟩⟩ rfl rfl hl.1 rfl (lv_room (Nat.le_of_ble_eq_true rfl)) dL_act_49 ⟨Nat.le_of_ble_eq_true rfl, Nat.le_of_ble_eq_true rfl⟩) (va_S.rf (A := va_A (CW cT x lv kp fL fK o ld b k FZ) s.heap.size)) (fun q9 _ h => h) (fun q9 h => h) (fun E9 ce9 q9 H1 locs hp9 hz9 hk9 hS hc9 hv9 hcl9 => ?_) (fun r9 u t9 H1 locs ht9 hvm9 hw9 hB9 hzc hkc hS => ?_)
  · rcases hp9 with ⟨rfl, hp9⟩ | ⟨rfl, hp9⟩ | ⟨rfl, hp9⟩
    · exact absurd ⟨j, hj, rfl⟩ hp9
    · refine vx_catch hown [⟨0, 116, 117, 41⟩, ⟨0, 116, 123, 43⟩] ⟨0, 116, 129, 45⟩ [] (by rw [htab]; rfl) (by intro z9 hz9; rcases List.mem_cons.mp hz9 with rfl | hz9; exact Or.inr ⟨by decide, nIO, hts (.classLink RL 41 nIO) (by decide +kernel), hN.1⟩; rw [List.mem_singleton.mp hz9]; exact Or.inr ⟨by decide, nIA, hts (.classLink RL 43 nIA) (by decide +kernel), hN.2.2.2⟩) (by decide) (by decide) (hts (.classLink RL 45 nIS) (by decide +kernel)) (va_Nw.use rfl (hT.2.1 nIS (by decide))) hc9 hv9 hcl9 ?_
      refine W.eq (g2 := F0 m 129 ls [.ref q9]) rfl ?_
      refine lv_astore (lv' := [(5, .ref q9), (0, .ref x), (1, .int (nI 3)), (2, .int (nI j)), (3, .int b9), (4, .int c9)]) hx hb dL_act_129 hl (by decide) rfl (fun ls hl => ?_)
      refine lv_sipush (v := (-1163)) hx hb dL_act_131 (by decide) ?_
      refine vx_ret ?_
      refine xforget hk9 ?_
      refine W.widen (k := 8) (n := 40) (Nat.le_of_ble_eq_true rfl) (Nat.le_of_ble_eq_true rfl) ?_
      exact W.iret hx hb hr (fun t9 ht9 hW9 => ⟨_, rfl, rfl, by rw [ht9]; exact hz9, by rw [ht9]; exact hk9⟩) (fun _ h => nomatch h) dL_act_134
    · exact (by obtain ⟨j2, hj2, e, hp9⟩ := hp9; rw [← (xeq (by omega) (by omega)).mp e] at hp9; exact absurd hp9.1 h)
  · exact (by obtain ⟨j2, sp, y, hj2, e, hw9, -⟩ := hw9; rw [← (xeq (by omega) (by omega)).mp e] at hw9; exact absurd hw9 h)

set_option maxHeartbeats 4000000 in
set_option maxRecDepth 100000 in
theorem a_put_A (l : Launch) (hst : l.stackTraces = false) {D : va_G} {cI cT cJ : ClassId} (Ax : Nat → Prop) (x lv kp : Nat) (fL fK : Nat → Option Nat) (o ld b k : Nat) (FZ : va_W) (G : Nat → Tv) (hC : CA cI FZ fL fK G) {j : Nat} (hj : j < 6)(b9 c9 : Int32) (h : PutK (G (246 + j))) (h2 : ¬ ∃ sp y, sp ≤ (G (246 + j)).2.2.1 ∧ b9 = nI sp ∧ y ≤ 9 ∧ c9 = nI y) : vx_Met l yL_act wsL_act (rmD 9 8 40) (XPl D cI cT cJ Ax [.ref x, .int (nI 3), .int (nI j), .int b9, .int c9] (fun H => va_P D vwCl (CW cT x lv kp fL fK o ld b k FZ) H ∧ va_D (fun _ => True) (CW cT x lv kp fL fK o ld b k FZ))) (XRi (fun r => r = (-1162))) (XXc (fun _ => False)) 8 40 (fun _ => False) := by
  refine vx_ofWH (cc := cL_act) (maxL := 6) (ret := (some .int)) (hh := [(0, 116, 117, 41), (0, 116, 123, 43), (0, 116, 129, 45)]) (by decide) rfl ?_
  intro p e s m args below meth c s₁ B hml hv
  obtain ⟨rfl, ⟨hP, hD0⟩, hE, hT, hN⟩ := hv
  have hx := B.exec
  have hb := B.bytes
  have hr := B.returns
  have hts := atoms_spec (ws := wsL_act) B.pre
  have hown : s.vm.findClass RL = some m.cls := findClass_of_methodNamed B.named
  have hlocks := B.notSynchronized
  have hl := lv_entry ([.ref x, .int (nI 3), .int (nI j), .int b9, .int c9]) (n := 6) (Nat.le_of_ble_eq_true rfl)
  rw [lg_entry_eq]
  generalize (lg_sl ([.ref x, .int (nI 3), .int (nI j), .int b9, .int c9]) ++ List.replicate (6 - (lg_sl ([.ref x, .int (nI 3), .int (nI j), .int b9, .int c9])).length) Slot.unset).toArray = ls at hl ⊢
  have hl : lv_has ls 6 [(0, .ref x), (1, .int (nI 3)), (2, .int (nI j)), (3, .int b9), (4, .int c9)] := hl
  have htab := vx_table (x := yL_act) B (hts (.codeWith yL_act cL_act 6 (some .int) [(0, 116, 117, 41), (0, 116, 123, 43), (0, 116, 129, 45)]) List.mem_cons_self)
  have hK := hE.1
  refine lv_iload_n hx hb dL_act_0 rfl (lv_at hl 1 rfl) ?_
  refine lv_if_ne (tgt := 12) hx hb dL_act_1 (by decide) (fun _ => ?_) (fun h => absurd h (by decide))
  refine lv_iload_n hx hb dL_act_12 rfl (lv_at hl 1 rfl) ?_
  refine lv_iconst (v := nI 1) hx hb dL_act_13 (by decide) ?_
  refine lv_icmp_ne (tgt := 26) hx hb dL_act_14 (by decide) (fun _ => ?_) (fun h => absurd h (by decide))
  refine lv_iload_n hx hb dL_act_26 rfl (lv_at hl 1 rfl) ?_
  refine lv_iconst (v := nI 2) hx hb dL_act_27 (by decide) ?_
  refine lv_icmp_ne (tgt := 39) hx hb dL_act_28 (by decide) (fun _ => ?_) (fun h => absurd h (by decide))
  refine lv_iload_n hx hb dL_act_39 rfl (lv_at hl 1 rfl) ?_
  refine lv_iconst (v := nI 3) hx hb dL_act_40 (by decide) ?_
  refine lv_icmp_ne (tgt := 55) hx hb dL_act_41 (by decide) (fun h => absurd h (by decide)) (fun _ => ?_)
  refine lv_aload_n hx hb dL_act_44 rfl (lv_at hl 0 rfl) ?_
  refine lv_iload_n hx hb dL_act_45 rfl (lv_at hl 2 rfl) ?_
  refine lv_iload_n hx hb dL_act_46 rfl (lv_at hl 3 rfl) ?_
  refine lv_iload hx hb dL_act_47 (lv_at hl 4 rfl) ?_
  refine xcw (vx_runV (As := [.int (nI j), .int b9, .int c9]) (rest := []) ⟨hx, hb, hml, hown, hts⟩ (c_X1_put l hst Ax x lv kp fL fK o ld b k FZ G hC (nI j) b9 c9 s.heap.size) (cwV 3 hts gL_act_X1_put rfl rfl rfl (by decide +kernel) ⟨(Nat.le_of_ble_eq_true rfl), (Nat.le_of_ble_eq_true rfl)⟩) ⟨XPx_blind, va_recv hK hP (ci := 1) (q0 := 0) rfl rfl, XPx_pre hE hT ⟨rfl, hP, hD0⟩⟩ rfl rfl hl.1 rfl (lv_room (Nat.le_of_ble_eq_true rfl)) dL_act_49 ⟨Nat.le_of_ble_eq_true rfl, Nat.le_of_ble_eq_true rfl⟩) (va_S.rf (A := va_A (CW cT x lv kp fL fK o ld b k FZ) s.heap.size)) (fun q9 _ h => h) (fun q9 h => h) (fun E9 ce9 q9 H1 locs hp9 hz9 hk9 hS hc9 hv9 hcl9 => ?_) (fun r9 u t9 H1 locs ht9 hvm9 hw9 hB9 hzc hkc hS => ?_)
  · rcases hp9 with ⟨rfl, hp9⟩ | ⟨rfl, hp9⟩ | ⟨rfl, hp9⟩
    · exact absurd ⟨j, hj, rfl⟩ hp9
    · exact (by obtain ⟨j2, hj2, e, hp9⟩ := hp9; rw [← (xeq (by omega) (by omega)).mp e] at hp9; exact absurd h hp9)
    · refine vx_catch hown [⟨0, 116, 117, 41⟩] ⟨0, 116, 123, 43⟩ [⟨0, 116, 129, 45⟩] (by rw [htab]; rfl) (by intro z9 hz9; rw [List.mem_singleton.mp hz9]; exact Or.inr ⟨by decide, nIO, hts (.classLink RL 41 nIO) (by decide +kernel), hN.2.1⟩) (by decide) (by decide) (hts (.classLink RL 43 nIA) (by decide +kernel)) (va_Nw.use rfl (hT.2.1 nIA (by decide))) hc9 hv9 hcl9 ?_
      refine W.eq (g2 := F0 m 123 ls [.ref q9]) rfl ?_
      refine lv_astore (lv' := [(5, .ref q9), (0, .ref x), (1, .int (nI 3)), (2, .int (nI j)), (3, .int b9), (4, .int c9)]) hx hb dL_act_123 hl (by decide) rfl (fun ls hl => ?_)
      refine lv_sipush (v := (-1162)) hx hb dL_act_125 (by decide) ?_
      refine vx_ret ?_
      refine xforget hk9 ?_
      refine W.widen (k := 8) (n := 40) (Nat.le_of_ble_eq_true rfl) (Nat.le_of_ble_eq_true rfl) ?_
      exact W.iret hx hb hr (fun t9 ht9 hW9 => ⟨_, rfl, rfl, by rw [ht9]; exact hz9, by rw [ht9]; exact hk9⟩) (fun _ h => nomatch h) dL_act_128
  · exact (by obtain ⟨j2, sp, y, hj2, e, -, hs, e2, hy, e3, -⟩ := hw9; rw [← (xeq (by omega) (by omega)).mp e] at hs; exact absurd ⟨sp, y, hs, e2, hy, e3⟩ h2)

set_option maxHeartbeats 4000000 in
set_option maxRecDepth 100000 in
theorem a_take_O (l : Launch) (hst : l.stackTraces = false) {D : va_G} {cI cT cJ : ClassId} (Ax : Nat → Prop) (x lv kp : Nat) (fL fK : Nat → Option Nat) (o ld b k : Nat) (FZ : va_W) (G : Nat → Tv) (hC : CA cI FZ fL fK G) (a9 b9 c9 : Int32) (h : ¬ Pl a9) : vx_Met l yL_act wsL_act (rmD 9 8 40) (XPl D cI cT cJ Ax [.ref x, .int (nI 4), .int a9, .int b9, .int c9] (fun H => va_P D vwCl (CW cT x lv kp fL fK o ld b k FZ) H ∧ va_D (fun _ => True) (CW cT x lv kp fL fK o ld b k FZ))) (XRi (fun r => r = (-1161))) (XXc (fun _ => False)) 8 40 (fun _ => False) := by
  refine vx_ofWH (cc := cL_act) (maxL := 6) (ret := (some .int)) (hh := [(0, 116, 117, 41), (0, 116, 123, 43), (0, 116, 129, 45)]) (by decide) rfl ?_
  intro p e s m args below meth c s₁ B hml hv
  obtain ⟨rfl, ⟨hP, hD0⟩, hE, hT, hN⟩ := hv
  have hx := B.exec
  have hb := B.bytes
  have hr := B.returns
  have hts := atoms_spec (ws := wsL_act) B.pre
  have hown : s.vm.findClass RL = some m.cls := findClass_of_methodNamed B.named
  have hlocks := B.notSynchronized
  have hl := lv_entry ([.ref x, .int (nI 4), .int a9, .int b9, .int c9]) (n := 6) (Nat.le_of_ble_eq_true rfl)
  rw [lg_entry_eq]
  generalize (lg_sl ([.ref x, .int (nI 4), .int a9, .int b9, .int c9]) ++ List.replicate (6 - (lg_sl ([.ref x, .int (nI 4), .int a9, .int b9, .int c9])).length) Slot.unset).toArray = ls at hl ⊢
  have hl : lv_has ls 6 [(0, .ref x), (1, .int (nI 4)), (2, .int a9), (3, .int b9), (4, .int c9)] := hl
  have htab := vx_table (x := yL_act) B (hts (.codeWith yL_act cL_act 6 (some .int) [(0, 116, 117, 41), (0, 116, 123, 43), (0, 116, 129, 45)]) List.mem_cons_self)
  have hK := hE.1
  refine lv_iload_n hx hb dL_act_0 rfl (lv_at hl 1 rfl) ?_
  refine lv_if_ne (tgt := 12) hx hb dL_act_1 (by decide) (fun _ => ?_) (fun h => absurd h (by decide))
  refine lv_iload_n hx hb dL_act_12 rfl (lv_at hl 1 rfl) ?_
  refine lv_iconst (v := nI 1) hx hb dL_act_13 (by decide) ?_
  refine lv_icmp_ne (tgt := 26) hx hb dL_act_14 (by decide) (fun _ => ?_) (fun h => absurd h (by decide))
  refine lv_iload_n hx hb dL_act_26 rfl (lv_at hl 1 rfl) ?_
  refine lv_iconst (v := nI 2) hx hb dL_act_27 (by decide) ?_
  refine lv_icmp_ne (tgt := 39) hx hb dL_act_28 (by decide) (fun _ => ?_) (fun h => absurd h (by decide))
  refine lv_iload_n hx hb dL_act_39 rfl (lv_at hl 1 rfl) ?_
  refine lv_iconst (v := nI 3) hx hb dL_act_40 (by decide) ?_
  refine lv_icmp_ne (tgt := 55) hx hb dL_act_41 (by decide) (fun _ => ?_) (fun h => absurd h (by decide))
  refine lv_iload_n hx hb dL_act_55 rfl (lv_at hl 1 rfl) ?_
  refine lv_iconst (v := nI 4) hx hb dL_act_56 (by decide) ?_
  refine lv_icmp_ne (tgt := 69) hx hb dL_act_57 (by decide) (fun h => absurd h (by decide)) (fun _ => ?_)
  refine lv_aload_n hx hb dL_act_60 rfl (lv_at hl 0 rfl) ?_
  refine lv_iload_n hx hb dL_act_61 rfl (lv_at hl 2 rfl) ?_
  refine lv_iload_n hx hb dL_act_62 rfl (lv_at hl 3 rfl) ?_
  refine xcw (vx_runV (As := [.int a9, .int b9]) (rest := []) ⟨hx, hb, hml, hown, hts⟩ (c_X1_take l hst Ax x lv kp fL fK o ld b k FZ G hC a9 b9 s.heap.size) (cwV 2 hts gL_act_X1_take rfl rfl rfl (by decide +kernel) ⟨(Nat.le_of_ble_eq_true rfl), (Nat.le_of_ble_eq_true rfl)⟩) ⟨XPx_blind, va_recv hK hP (ci := 1) (q0 := 0) rfl rfl, XPx_pre hE hT ⟨rfl, hP, hD0⟩⟩ rfl rfl hl.1 rfl (lv_room (Nat.le_of_ble_eq_true rfl)) dL_act_63 ⟨Nat.le_of_ble_eq_true rfl, Nat.le_of_ble_eq_true rfl⟩) (va_S.rf (A := va_A (CW cT x lv kp fL fK o ld b k FZ) s.heap.size)) (fun q9 _ h => h) (fun q9 h => h) (fun E9 ce9 q9 H1 locs hp9 hz9 hk9 hS hc9 hv9 hcl9 => ?_) (fun r9 u t9 H1 locs ht9 hvm9 hw9 hB9 hzc hkc hS => ?_)
  · rcases hp9 with ⟨rfl, hp9⟩ | ⟨rfl, hp9⟩ | ⟨rfl, hp9⟩
    · refine vx_catch hown [] ⟨0, 116, 117, 41⟩ [⟨0, 116, 123, 43⟩, ⟨0, 116, 129, 45⟩] (by rw [htab]; rfl) (fun _ h => nomatch h) (by decide) (by decide) (hts (.classLink RL 41 nIO) (by decide +kernel)) (va_Nw.use rfl (hT.2.1 nIO (by decide))) hc9 hv9 hcl9 ?_
      refine W.eq (g2 := F0 m 117 ls [.ref q9]) rfl ?_
      refine lv_astore (lv' := [(5, .ref q9), (0, .ref x), (1, .int (nI 4)), (2, .int a9), (3, .int b9), (4, .int c9)]) hx hb dL_act_117 hl (by decide) rfl (fun ls hl => ?_)
      refine lv_sipush (v := (-1161)) hx hb dL_act_119 (by decide) ?_
      refine vx_ret ?_
      refine xforget hk9 ?_
      refine W.widen (k := 8) (n := 40) (Nat.le_of_ble_eq_true rfl) (Nat.le_of_ble_eq_true rfl) ?_
      exact W.iret hx hb hr (fun t9 ht9 hW9 => ⟨_, rfl, rfl, by rw [ht9]; exact hz9, by rw [ht9]; exact hk9⟩) (fun _ h => nomatch h) dL_act_122
    · exact (by obtain ⟨j, hj, e, -⟩ := hp9; exact absurd ⟨j, hj, e⟩ h)
    · exact (by obtain ⟨j, hj, e, -⟩ := hp9; exact absurd ⟨j, hj, e⟩ h)
  · exact (by obtain ⟨j, sp, hj, e, -⟩ := hw9; exact absurd ⟨j, hj, e⟩ h)

set_option maxHeartbeats 4000000 in
set_option maxRecDepth 100000 in
theorem a_take_S (l : Launch) (hst : l.stackTraces = false) {D : va_G} {cI cT cJ : ClassId} (Ax : Nat → Prop) (x lv kp : Nat) (fL fK : Nat → Option Nat) (o ld b k : Nat) (FZ : va_W) (G : Nat → Tv) (hC : CA cI FZ fL fK G) {j : Nat} (hj : j < 6)(b9 c9 : Int32) (h : ¬ (G (246 + j)).1 = nI 1) : vx_Met l yL_act wsL_act (rmD 9 8 40) (XPl D cI cT cJ Ax [.ref x, .int (nI 4), .int (nI j), .int b9, .int c9] (fun H => va_P D vwCl (CW cT x lv kp fL fK o ld b k FZ) H ∧ va_D (fun _ => True) (CW cT x lv kp fL fK o ld b k FZ))) (XRi (fun r => r = (-1163))) (XXc (fun _ => False)) 8 40 (fun _ => False) := by
  refine vx_ofWH (cc := cL_act) (maxL := 6) (ret := (some .int)) (hh := [(0, 116, 117, 41), (0, 116, 123, 43), (0, 116, 129, 45)]) (by decide) rfl ?_
  intro p e s m args below meth c s₁ B hml hv
  obtain ⟨rfl, ⟨hP, hD0⟩, hE, hT, hN⟩ := hv
  have hx := B.exec
  have hb := B.bytes
  have hr := B.returns
  have hts := atoms_spec (ws := wsL_act) B.pre
  have hown : s.vm.findClass RL = some m.cls := findClass_of_methodNamed B.named
  have hlocks := B.notSynchronized
  have hl := lv_entry ([.ref x, .int (nI 4), .int (nI j), .int b9, .int c9]) (n := 6) (Nat.le_of_ble_eq_true rfl)
  rw [lg_entry_eq]
  generalize (lg_sl ([.ref x, .int (nI 4), .int (nI j), .int b9, .int c9]) ++ List.replicate (6 - (lg_sl ([.ref x, .int (nI 4), .int (nI j), .int b9, .int c9])).length) Slot.unset).toArray = ls at hl ⊢
  have hl : lv_has ls 6 [(0, .ref x), (1, .int (nI 4)), (2, .int (nI j)), (3, .int b9), (4, .int c9)] := hl
  have htab := vx_table (x := yL_act) B (hts (.codeWith yL_act cL_act 6 (some .int) [(0, 116, 117, 41), (0, 116, 123, 43), (0, 116, 129, 45)]) List.mem_cons_self)
  have hK := hE.1
  refine lv_iload_n hx hb dL_act_0 rfl (lv_at hl 1 rfl) ?_
  refine lv_if_ne (tgt := 12) hx hb dL_act_1 (by decide) (fun _ => ?_) (fun h => absurd h (by decide))
  refine lv_iload_n hx hb dL_act_12 rfl (lv_at hl 1 rfl) ?_
  refine lv_iconst (v := nI 1) hx hb dL_act_13 (by decide) ?_
  refine lv_icmp_ne (tgt := 26) hx hb dL_act_14 (by decide) (fun _ => ?_) (fun h => absurd h (by decide))
  refine lv_iload_n hx hb dL_act_26 rfl (lv_at hl 1 rfl) ?_
  refine lv_iconst (v := nI 2) hx hb dL_act_27 (by decide) ?_
  refine lv_icmp_ne (tgt := 39) hx hb dL_act_28 (by decide) (fun _ => ?_) (fun h => absurd h (by decide))
  refine lv_iload_n hx hb dL_act_39 rfl (lv_at hl 1 rfl) ?_
  refine lv_iconst (v := nI 3) hx hb dL_act_40 (by decide) ?_
  refine lv_icmp_ne (tgt := 55) hx hb dL_act_41 (by decide) (fun _ => ?_) (fun h => absurd h (by decide))
  refine lv_iload_n hx hb dL_act_55 rfl (lv_at hl 1 rfl) ?_
  refine lv_iconst (v := nI 4) hx hb dL_act_56 (by decide) ?_
  refine lv_icmp_ne (tgt := 69) hx hb dL_act_57 (by decide) (fun h => absurd h (by decide)) (fun _ => ?_)
  refine lv_aload_n hx hb dL_act_60 rfl (lv_at hl 0 rfl) ?_
  refine lv_iload_n hx hb dL_act_61 rfl (lv_at hl 2 rfl) ?_
  refine lv_iload_n hx hb dL_act_62 rfl (lv_at hl 3 rfl) ?_
  refine xcw (vx_runV (As := [.int (nI j), .int b9]) (rest := []) ⟨hx, hb, hml, hown, hts⟩ (c_X1_take l hst Ax x lv kp fL fK o ld b k FZ G hC (nI j) b9 s.heap.size) (cwV 2 hts gL_act_X1_take rfl rfl rfl (by decide +kernel) ⟨(Nat.le_of_ble_eq_true rfl), (Nat.le_of_ble_eq_true rfl)⟩) ⟨XPx_blind, va_recv hK hP (ci := 1) (q0 := 0) rfl rfl, XPx_pre hE hT ⟨rfl, hP, hD0⟩⟩ rfl rfl hl.1 rfl (lv_room (Nat.le_of_ble_eq_true rfl)) dL_act_63 ⟨Nat.le_of_ble_eq_true rfl, Nat.le_of_ble_eq_true rfl⟩) (va_S.rf (A := va_A (CW cT x lv kp fL fK o ld b k FZ) s.heap.size)) (fun q9 _ h => h) (fun q9 h => h) (fun E9 ce9 q9 H1 locs hp9 hz9 hk9 hS hc9 hv9 hcl9 => ?_) (fun r9 u t9 H1 locs ht9 hvm9 hw9 hB9 hzc hkc hS => ?_)
  · rcases hp9 with ⟨rfl, hp9⟩ | ⟨rfl, hp9⟩ | ⟨rfl, hp9⟩
    · exact absurd ⟨j, hj, rfl⟩ hp9
    · refine vx_catch hown [⟨0, 116, 117, 41⟩, ⟨0, 116, 123, 43⟩] ⟨0, 116, 129, 45⟩ [] (by rw [htab]; rfl) (by intro z9 hz9; rcases List.mem_cons.mp hz9 with rfl | hz9; exact Or.inr ⟨by decide, nIO, hts (.classLink RL 41 nIO) (by decide +kernel), hN.1⟩; rw [List.mem_singleton.mp hz9]; exact Or.inr ⟨by decide, nIA, hts (.classLink RL 43 nIA) (by decide +kernel), hN.2.2.2⟩) (by decide) (by decide) (hts (.classLink RL 45 nIS) (by decide +kernel)) (va_Nw.use rfl (hT.2.1 nIS (by decide))) hc9 hv9 hcl9 ?_
      refine W.eq (g2 := F0 m 129 ls [.ref q9]) rfl ?_
      refine lv_astore (lv' := [(5, .ref q9), (0, .ref x), (1, .int (nI 4)), (2, .int (nI j)), (3, .int b9), (4, .int c9)]) hx hb dL_act_129 hl (by decide) rfl (fun ls hl => ?_)
      refine lv_sipush (v := (-1163)) hx hb dL_act_131 (by decide) ?_
      refine vx_ret ?_
      refine xforget hk9 ?_
      refine W.widen (k := 8) (n := 40) (Nat.le_of_ble_eq_true rfl) (Nat.le_of_ble_eq_true rfl) ?_
      exact W.iret hx hb hr (fun t9 ht9 hW9 => ⟨_, rfl, rfl, by rw [ht9]; exact hz9, by rw [ht9]; exact hk9⟩) (fun _ h => nomatch h) dL_act_134
    · exact (by obtain ⟨j2, hj2, e, hp9⟩ := hp9; rw [← (xeq (by omega) (by omega)).mp e] at hp9; exact absurd hp9.1 h)
  · exact (by obtain ⟨j2, sp, hj2, e, hw9, -⟩ := hw9; rw [← (xeq (by omega) (by omega)).mp e] at hw9; exact absurd hw9 h)

set_option maxHeartbeats 4000000 in
set_option maxRecDepth 100000 in
theorem a_take_A (l : Launch) (hst : l.stackTraces = false) {D : va_G} {cI cT cJ : ClassId} (Ax : Nat → Prop) (x lv kp : Nat) (fL fK : Nat → Option Nat) (o ld b k : Nat) (FZ : va_W) (G : Nat → Tv) (hC : CA cI FZ fL fK G) {j : Nat} (hj : j < 6)(b9 c9 : Int32) (h : (G (246 + j)).1 = nI 1) (h2 : ¬ ∃ sp, sp < (G (246 + j)).2.2.1 ∧ b9 = nI sp) : vx_Met l yL_act wsL_act (rmD 9 8 40) (XPl D cI cT cJ Ax [.ref x, .int (nI 4), .int (nI j), .int b9, .int c9] (fun H => va_P D vwCl (CW cT x lv kp fL fK o ld b k FZ) H ∧ va_D (fun _ => True) (CW cT x lv kp fL fK o ld b k FZ))) (XRi (fun r => r = (-1162))) (XXc (fun _ => False)) 8 40 (fun _ => False) := by
  refine vx_ofWH (cc := cL_act) (maxL := 6) (ret := (some .int)) (hh := [(0, 116, 117, 41), (0, 116, 123, 43), (0, 116, 129, 45)]) (by decide) rfl ?_
  intro p e s m args below meth c s₁ B hml hv
  obtain ⟨rfl, ⟨hP, hD0⟩, hE, hT, hN⟩ := hv
  have hx := B.exec
  have hb := B.bytes
  have hr := B.returns
  have hts := atoms_spec (ws := wsL_act) B.pre
  have hown : s.vm.findClass RL = some m.cls := findClass_of_methodNamed B.named
  have hlocks := B.notSynchronized
  have hl := lv_entry ([.ref x, .int (nI 4), .int (nI j), .int b9, .int c9]) (n := 6) (Nat.le_of_ble_eq_true rfl)
  rw [lg_entry_eq]
  generalize (lg_sl ([.ref x, .int (nI 4), .int (nI j), .int b9, .int c9]) ++ List.replicate (6 - (lg_sl ([.ref x, .int (nI 4), .int (nI j), .int b9, .int c9])).length) Slot.unset).toArray = ls at hl ⊢
  have hl : lv_has ls 6 [(0, .ref x), (1, .int (nI 4)), (2, .int (nI j)), (3, .int b9), (4, .int c9)] := hl
  have htab := vx_table (x := yL_act) B (hts (.codeWith yL_act cL_act 6 (some .int) [(0, 116, 117, 41), (0, 116, 123, 43), (0, 116, 129, 45)]) List.mem_cons_self)
  have hK := hE.1
  refine lv_iload_n hx hb dL_act_0 rfl (lv_at hl 1 rfl) ?_
  refine lv_if_ne (tgt := 12) hx hb dL_act_1 (by decide) (fun _ => ?_) (fun h => absurd h (by decide))
  refine lv_iload_n hx hb dL_act_12 rfl (lv_at hl 1 rfl) ?_
  refine lv_iconst (v := nI 1) hx hb dL_act_13 (by decide) ?_
  refine lv_icmp_ne (tgt := 26) hx hb dL_act_14 (by decide) (fun _ => ?_) (fun h => absurd h (by decide))
  refine lv_iload_n hx hb dL_act_26 rfl (lv_at hl 1 rfl) ?_
  refine lv_iconst (v := nI 2) hx hb dL_act_27 (by decide) ?_
  refine lv_icmp_ne (tgt := 39) hx hb dL_act_28 (by decide) (fun _ => ?_) (fun h => absurd h (by decide))
  refine lv_iload_n hx hb dL_act_39 rfl (lv_at hl 1 rfl) ?_
  refine lv_iconst (v := nI 3) hx hb dL_act_40 (by decide) ?_
  refine lv_icmp_ne (tgt := 55) hx hb dL_act_41 (by decide) (fun _ => ?_) (fun h => absurd h (by decide))
  refine lv_iload_n hx hb dL_act_55 rfl (lv_at hl 1 rfl) ?_
  refine lv_iconst (v := nI 4) hx hb dL_act_56 (by decide) ?_
  refine lv_icmp_ne (tgt := 69) hx hb dL_act_57 (by decide) (fun h => absurd h (by decide)) (fun _ => ?_)
  refine lv_aload_n hx hb dL_act_60 rfl (lv_at hl 0 rfl) ?_
  refine lv_iload_n hx hb dL_act_61 rfl (lv_at hl 2 rfl) ?_
  refine lv_iload_n hx hb dL_act_62 rfl (lv_at hl 3 rfl) ?_
  refine xcw (vx_runV (As := [.int (nI j), .int b9]) (rest := []) ⟨hx, hb, hml, hown, hts⟩ (c_X1_take l hst Ax x lv kp fL fK o ld b k FZ G hC (nI j) b9 s.heap.size) (cwV 2 hts gL_act_X1_take rfl rfl rfl (by decide +kernel) ⟨(Nat.le_of_ble_eq_true rfl), (Nat.le_of_ble_eq_true rfl)⟩) ⟨XPx_blind, va_recv hK hP (ci := 1) (q0 := 0) rfl rfl, XPx_pre hE hT ⟨rfl, hP, hD0⟩⟩ rfl rfl hl.1 rfl (lv_room (Nat.le_of_ble_eq_true rfl)) dL_act_63 ⟨Nat.le_of_ble_eq_true rfl, Nat.le_of_ble_eq_true rfl⟩) (va_S.rf (A := va_A (CW cT x lv kp fL fK o ld b k FZ) s.heap.size)) (fun q9 _ h => h) (fun q9 h => h) (fun E9 ce9 q9 H1 locs hp9 hz9 hk9 hS hc9 hv9 hcl9 => ?_) (fun r9 u t9 H1 locs ht9 hvm9 hw9 hB9 hzc hkc hS => ?_)
  · rcases hp9 with ⟨rfl, hp9⟩ | ⟨rfl, hp9⟩ | ⟨rfl, hp9⟩
    · exact absurd ⟨j, hj, rfl⟩ hp9
    · exact (by obtain ⟨j2, hj2, e, hp9⟩ := hp9; rw [← (xeq (by omega) (by omega)).mp e] at hp9; exact absurd h hp9)
    · refine vx_catch hown [⟨0, 116, 117, 41⟩] ⟨0, 116, 123, 43⟩ [⟨0, 116, 129, 45⟩] (by rw [htab]; rfl) (by intro z9 hz9; rw [List.mem_singleton.mp hz9]; exact Or.inr ⟨by decide, nIO, hts (.classLink RL 41 nIO) (by decide +kernel), hN.2.1⟩) (by decide) (by decide) (hts (.classLink RL 43 nIA) (by decide +kernel)) (va_Nw.use rfl (hT.2.1 nIA (by decide))) hc9 hv9 hcl9 ?_
      refine W.eq (g2 := F0 m 123 ls [.ref q9]) rfl ?_
      refine lv_astore (lv' := [(5, .ref q9), (0, .ref x), (1, .int (nI 4)), (2, .int (nI j)), (3, .int b9), (4, .int c9)]) hx hb dL_act_123 hl (by decide) rfl (fun ls hl => ?_)
      refine lv_sipush (v := (-1162)) hx hb dL_act_125 (by decide) ?_
      refine vx_ret ?_
      refine xforget hk9 ?_
      refine W.widen (k := 8) (n := 40) (Nat.le_of_ble_eq_true rfl) (Nat.le_of_ble_eq_true rfl) ?_
      exact W.iret hx hb hr (fun t9 ht9 hW9 => ⟨_, rfl, rfl, by rw [ht9]; exact hz9, by rw [ht9]; exact hk9⟩) (fun _ h => nomatch h) dL_act_128
  · exact (by obtain ⟨j2, sp, hj2, e, -, hs, e2, -⟩ := hw9; rw [← (xeq (by omega) (by omega)).mp e] at hs; exact absurd ⟨sp, hs, e2⟩ h2)

set_option maxHeartbeats 4000000 in
set_option maxRecDepth 100000 in
theorem a_setRights_O (l : Launch) (hst : l.stackTraces = false) {D : va_G} {cI cT cJ : ClassId} (Ax : Nat → Prop) (x lv kp : Nat) (fL fK : Nat → Option Nat) (o ld b k : Nat) (FZ : va_W) (G : Nat → Tv) (hC : CA cI FZ fL fK G) (a9 b9 c9 : Int32) (h : ¬ Pl a9) : vx_Met l yL_act wsL_act (rmD 9 8 40) (XPl D cI cT cJ Ax [.ref x, .int (nI 5), .int a9, .int b9, .int c9] (fun H => va_P D vwCl (CW cT x lv kp fL fK o ld b k FZ) H ∧ va_D (fun _ => True) (CW cT x lv kp fL fK o ld b k FZ))) (XRi (fun r => r = (-1161))) (XXc (fun _ => False)) 8 40 (fun _ => False) := by
  refine vx_ofWH (cc := cL_act) (maxL := 6) (ret := (some .int)) (hh := [(0, 116, 117, 41), (0, 116, 123, 43), (0, 116, 129, 45)]) (by decide) rfl ?_
  intro p e s m args below meth c s₁ B hml hv
  obtain ⟨rfl, ⟨hP, hD0⟩, hE, hT, hN⟩ := hv
  have hx := B.exec
  have hb := B.bytes
  have hr := B.returns
  have hts := atoms_spec (ws := wsL_act) B.pre
  have hown : s.vm.findClass RL = some m.cls := findClass_of_methodNamed B.named
  have hlocks := B.notSynchronized
  have hl := lv_entry ([.ref x, .int (nI 5), .int a9, .int b9, .int c9]) (n := 6) (Nat.le_of_ble_eq_true rfl)
  rw [lg_entry_eq]
  generalize (lg_sl ([.ref x, .int (nI 5), .int a9, .int b9, .int c9]) ++ List.replicate (6 - (lg_sl ([.ref x, .int (nI 5), .int a9, .int b9, .int c9])).length) Slot.unset).toArray = ls at hl ⊢
  have hl : lv_has ls 6 [(0, .ref x), (1, .int (nI 5)), (2, .int a9), (3, .int b9), (4, .int c9)] := hl
  have htab := vx_table (x := yL_act) B (hts (.codeWith yL_act cL_act 6 (some .int) [(0, 116, 117, 41), (0, 116, 123, 43), (0, 116, 129, 45)]) List.mem_cons_self)
  have hK := hE.1
  refine lv_iload_n hx hb dL_act_0 rfl (lv_at hl 1 rfl) ?_
  refine lv_if_ne (tgt := 12) hx hb dL_act_1 (by decide) (fun _ => ?_) (fun h => absurd h (by decide))
  refine lv_iload_n hx hb dL_act_12 rfl (lv_at hl 1 rfl) ?_
  refine lv_iconst (v := nI 1) hx hb dL_act_13 (by decide) ?_
  refine lv_icmp_ne (tgt := 26) hx hb dL_act_14 (by decide) (fun _ => ?_) (fun h => absurd h (by decide))
  refine lv_iload_n hx hb dL_act_26 rfl (lv_at hl 1 rfl) ?_
  refine lv_iconst (v := nI 2) hx hb dL_act_27 (by decide) ?_
  refine lv_icmp_ne (tgt := 39) hx hb dL_act_28 (by decide) (fun _ => ?_) (fun h => absurd h (by decide))
  refine lv_iload_n hx hb dL_act_39 rfl (lv_at hl 1 rfl) ?_
  refine lv_iconst (v := nI 3) hx hb dL_act_40 (by decide) ?_
  refine lv_icmp_ne (tgt := 55) hx hb dL_act_41 (by decide) (fun _ => ?_) (fun h => absurd h (by decide))
  refine lv_iload_n hx hb dL_act_55 rfl (lv_at hl 1 rfl) ?_
  refine lv_iconst (v := nI 4) hx hb dL_act_56 (by decide) ?_
  refine lv_icmp_ne (tgt := 69) hx hb dL_act_57 (by decide) (fun _ => ?_) (fun h => absurd h (by decide))
  refine lv_iload_n hx hb dL_act_69 rfl (lv_at hl 1 rfl) ?_
  refine lv_iconst (v := nI 5) hx hb dL_act_70 (by decide) ?_
  refine lv_icmp_ne (tgt := 83) hx hb dL_act_71 (by decide) (fun h => absurd h (by decide)) (fun _ => ?_)
  refine lv_aload_n hx hb dL_act_74 rfl (lv_at hl 0 rfl) ?_
  refine lv_iload_n hx hb dL_act_75 rfl (lv_at hl 2 rfl) ?_
  refine lv_iload_n hx hb dL_act_76 rfl (lv_at hl 3 rfl) ?_
  refine xcw (vx_runV (As := [.int a9, .int b9]) (rest := []) ⟨hx, hb, hml, hown, hts⟩ (c_X1_setRights l hst Ax x lv kp fL fK o ld b k FZ G hC a9 b9 s.heap.size) (cwV 2 hts gL_act_X1_setRights rfl rfl rfl (by decide +kernel) ⟨(Nat.le_of_ble_eq_true rfl), (Nat.le_of_ble_eq_true rfl)⟩) ⟨XPx_blind, va_recv hK hP (ci := 1) (q0 := 0) rfl rfl, XPx_pre hE hT ⟨rfl, hP, hD0⟩⟩ rfl rfl hl.1 rfl (lv_room (Nat.le_of_ble_eq_true rfl)) dL_act_77 ⟨Nat.le_of_ble_eq_true rfl, Nat.le_of_ble_eq_true rfl⟩) (va_S.rf (A := va_A (CW cT x lv kp fL fK o ld b k FZ) s.heap.size)) (fun q9 _ h => h) (fun q9 h => h) (fun E9 ce9 q9 H1 locs hp9 hz9 hk9 hS hc9 hv9 hcl9 => ?_) (fun r9 u t9 H1 locs ht9 hvm9 hw9 hB9 hzc hkc hS => ?_)
  · rcases hp9 with ⟨rfl, hp9⟩ | ⟨rfl, hp9⟩ | ⟨rfl, hp9⟩
    · refine vx_catch hown [] ⟨0, 116, 117, 41⟩ [⟨0, 116, 123, 43⟩, ⟨0, 116, 129, 45⟩] (by rw [htab]; rfl) (fun _ h => nomatch h) (by decide) (by decide) (hts (.classLink RL 41 nIO) (by decide +kernel)) (va_Nw.use rfl (hT.2.1 nIO (by decide))) hc9 hv9 hcl9 ?_
      refine W.eq (g2 := F0 m 117 ls [.ref q9]) rfl ?_
      refine lv_astore (lv' := [(5, .ref q9), (0, .ref x), (1, .int (nI 5)), (2, .int a9), (3, .int b9), (4, .int c9)]) hx hb dL_act_117 hl (by decide) rfl (fun ls hl => ?_)
      refine lv_sipush (v := (-1161)) hx hb dL_act_119 (by decide) ?_
      refine vx_ret ?_
      refine xforget hk9 ?_
      refine W.widen (k := 8) (n := 40) (Nat.le_of_ble_eq_true rfl) (Nat.le_of_ble_eq_true rfl) ?_
      exact W.iret hx hb hr (fun t9 ht9 hW9 => ⟨_, rfl, rfl, by rw [ht9]; exact hz9, by rw [ht9]; exact hk9⟩) (fun _ h => nomatch h) dL_act_122
    · exact (by obtain ⟨j, hj, e, -⟩ := hp9; exact absurd ⟨j, hj, e⟩ h)
    · exact (by obtain ⟨j, hj, e, -⟩ := hp9; exact absurd ⟨j, hj, e⟩ h)
  · exact (by obtain ⟨j, y, hj, e, -⟩ := hw9; exact absurd ⟨j, hj, e⟩ h)

set_option maxHeartbeats 4000000 in
set_option maxRecDepth 100000 in
theorem a_setRights_S (l : Launch) (hst : l.stackTraces = false) {D : va_G} {cI cT cJ : ClassId} (Ax : Nat → Prop) (x lv kp : Nat) (fL fK : Nat → Option Nat) (o ld b k : Nat) (FZ : va_W) (G : Nat → Tv) (hC : CA cI FZ fL fK G) {j : Nat} (hj : j < 6)(b9 c9 : Int32) (h : (G (246 + j)).1 = nI 0) : vx_Met l yL_act wsL_act (rmD 9 8 40) (XPl D cI cT cJ Ax [.ref x, .int (nI 5), .int (nI j), .int b9, .int c9] (fun H => va_P D vwCl (CW cT x lv kp fL fK o ld b k FZ) H ∧ va_D (fun _ => True) (CW cT x lv kp fL fK o ld b k FZ))) (XRi (fun r => r = (-1163))) (XXc (fun _ => False)) 8 40 (fun _ => False) := by
  refine vx_ofWH (cc := cL_act) (maxL := 6) (ret := (some .int)) (hh := [(0, 116, 117, 41), (0, 116, 123, 43), (0, 116, 129, 45)]) (by decide) rfl ?_
  intro p e s m args below meth c s₁ B hml hv
  obtain ⟨rfl, ⟨hP, hD0⟩, hE, hT, hN⟩ := hv
  have hx := B.exec
  have hb := B.bytes
  have hr := B.returns
  have hts := atoms_spec (ws := wsL_act) B.pre
  have hown : s.vm.findClass RL = some m.cls := findClass_of_methodNamed B.named
  have hlocks := B.notSynchronized
  have hl := lv_entry ([.ref x, .int (nI 5), .int (nI j), .int b9, .int c9]) (n := 6) (Nat.le_of_ble_eq_true rfl)
  rw [lg_entry_eq]
  generalize (lg_sl ([.ref x, .int (nI 5), .int (nI j), .int b9, .int c9]) ++ List.replicate (6 - (lg_sl ([.ref x, .int (nI 5), .int (nI j), .int b9, .int c9])).length) Slot.unset).toArray = ls at hl ⊢
  have hl : lv_has ls 6 [(0, .ref x), (1, .int (nI 5)), (2, .int (nI j)), (3, .int b9), (4, .int c9)] := hl
  have htab := vx_table (x := yL_act) B (hts (.codeWith yL_act cL_act 6 (some .int) [(0, 116, 117, 41), (0, 116, 123, 43), (0, 116, 129, 45)]) List.mem_cons_self)
  have hK := hE.1
  refine lv_iload_n hx hb dL_act_0 rfl (lv_at hl 1 rfl) ?_
  refine lv_if_ne (tgt := 12) hx hb dL_act_1 (by decide) (fun _ => ?_) (fun h => absurd h (by decide))
  refine lv_iload_n hx hb dL_act_12 rfl (lv_at hl 1 rfl) ?_
  refine lv_iconst (v := nI 1) hx hb dL_act_13 (by decide) ?_
  refine lv_icmp_ne (tgt := 26) hx hb dL_act_14 (by decide) (fun _ => ?_) (fun h => absurd h (by decide))
  refine lv_iload_n hx hb dL_act_26 rfl (lv_at hl 1 rfl) ?_
  refine lv_iconst (v := nI 2) hx hb dL_act_27 (by decide) ?_
  refine lv_icmp_ne (tgt := 39) hx hb dL_act_28 (by decide) (fun _ => ?_) (fun h => absurd h (by decide))
  refine lv_iload_n hx hb dL_act_39 rfl (lv_at hl 1 rfl) ?_
  refine lv_iconst (v := nI 3) hx hb dL_act_40 (by decide) ?_
  refine lv_icmp_ne (tgt := 55) hx hb dL_act_41 (by decide) (fun _ => ?_) (fun h => absurd h (by decide))
  refine lv_iload_n hx hb dL_act_55 rfl (lv_at hl 1 rfl) ?_
  refine lv_iconst (v := nI 4) hx hb dL_act_56 (by decide) ?_
  refine lv_icmp_ne (tgt := 69) hx hb dL_act_57 (by decide) (fun _ => ?_) (fun h => absurd h (by decide))
  refine lv_iload_n hx hb dL_act_69 rfl (lv_at hl 1 rfl) ?_
  refine lv_iconst (v := nI 5) hx hb dL_act_70 (by decide) ?_
  refine lv_icmp_ne (tgt := 83) hx hb dL_act_71 (by decide) (fun h => absurd h (by decide)) (fun _ => ?_)
  refine lv_aload_n hx hb dL_act_74 rfl (lv_at hl 0 rfl) ?_
  refine lv_iload_n hx hb dL_act_75 rfl (lv_at hl 2 rfl) ?_
  refine lv_iload_n hx hb dL_act_76 rfl (lv_at hl 3 rfl) ?_
  refine xcw (vx_runV (As := [.int (nI j), .int b9]) (rest := []) ⟨hx, hb, hml, hown, hts⟩ (c_X1_setRights l hst Ax x lv kp fL fK o ld b k FZ G hC (nI j) b9 s.heap.size) (cwV 2 hts gL_act_X1_setRights rfl rfl rfl (by decide +kernel) ⟨(Nat.le_of_ble_eq_true rfl), (Nat.le_of_ble_eq_true rfl)⟩) ⟨XPx_blind, va_recv hK hP (ci := 1) (q0 := 0) rfl rfl, XPx_pre hE hT ⟨rfl, hP, hD0⟩⟩ rfl rfl hl.1 rfl (lv_room (Nat.le_of_ble_eq_true rfl)) dL_act_77 ⟨Nat.le_of_ble_eq_true rfl, Nat.le_of_ble_eq_true rfl⟩) (va_S.rf (A := va_A (CW cT x lv kp fL fK o ld b k FZ) s.heap.size)) (fun q9 _ h => h) (fun q9 h => h) (fun E9 ce9 q9 H1 locs hp9 hz9 hk9 hS hc9 hv9 hcl9 => ?_) (fun r9 u t9 H1 locs ht9 hvm9 hw9 hB9 hzc hkc hS => ?_)
  · rcases hp9 with ⟨rfl, hp9⟩ | ⟨rfl, hp9⟩ | ⟨rfl, hp9⟩
    · exact absurd ⟨j, hj, rfl⟩ hp9
    · refine vx_catch hown [⟨0, 116, 117, 41⟩, ⟨0, 116, 123, 43⟩] ⟨0, 116, 129, 45⟩ [] (by rw [htab]; rfl) (by intro z9 hz9; rcases List.mem_cons.mp hz9 with rfl | hz9; exact Or.inr ⟨by decide, nIO, hts (.classLink RL 41 nIO) (by decide +kernel), hN.1⟩; rw [List.mem_singleton.mp hz9]; exact Or.inr ⟨by decide, nIA, hts (.classLink RL 43 nIA) (by decide +kernel), hN.2.2.2⟩) (by decide) (by decide) (hts (.classLink RL 45 nIS) (by decide +kernel)) (va_Nw.use rfl (hT.2.1 nIS (by decide))) hc9 hv9 hcl9 ?_
      refine W.eq (g2 := F0 m 129 ls [.ref q9]) rfl ?_
      refine lv_astore (lv' := [(5, .ref q9), (0, .ref x), (1, .int (nI 5)), (2, .int (nI j)), (3, .int b9), (4, .int c9)]) hx hb dL_act_129 hl (by decide) rfl (fun ls hl => ?_)
      refine lv_sipush (v := (-1163)) hx hb dL_act_131 (by decide) ?_
      refine vx_ret ?_
      refine xforget hk9 ?_
      refine W.widen (k := 8) (n := 40) (Nat.le_of_ble_eq_true rfl) (Nat.le_of_ble_eq_true rfl) ?_
      exact W.iret hx hb hr (fun t9 ht9 hW9 => ⟨_, rfl, rfl, by rw [ht9]; exact hz9, by rw [ht9]; exact hk9⟩) (fun _ h => nomatch h) dL_act_134
    · exact (by obtain ⟨j2, hj2, e, hp9⟩ := hp9; rw [← (xeq (by omega) (by omega)).mp e] at hp9; exact absurd h hp9.1)
  · exact (by obtain ⟨j2, y, hj2, e, hw9, -⟩ := hw9; rw [← (xeq (by omega) (by omega)).mp e] at hw9; exact absurd h hw9)

set_option maxHeartbeats 4000000 in
set_option maxRecDepth 100000 in
theorem a_setRights_A (l : Launch) (hst : l.stackTraces = false) {D : va_G} {cI cT cJ : ClassId} (Ax : Nat → Prop) (x lv kp : Nat) (fL fK : Nat → Option Nat) (o ld b k : Nat) (FZ : va_W) (G : Nat → Tv) (hC : CA cI FZ fL fK G) {j : Nat} (hj : j < 6)(b9 c9 : Int32) (h : ¬ (G (246 + j)).1 = nI 0) (h2 : ¬ ∃ y, y ≤ 7 ∧ b9 = nI y) : vx_Met l yL_act wsL_act (rmD 9 8 40) (XPl D cI cT cJ Ax [.ref x, .int (nI 5), .int (nI j), .int b9, .int c9] (fun H => va_P D vwCl (CW cT x lv kp fL fK o ld b k FZ) H ∧ va_D (fun _ => True) (CW cT x lv kp fL fK o ld b k FZ))) (XRi (fun r => r = (-1162))) (XXc (fun _ => False)) 8 40 (fun _ => False) := by
  refine vx_ofWH (cc := cL_act) (maxL := 6) (ret := (some .int)) (hh := [(0, 116, 117, 41), (0, 116, 123, 43), (0, 116, 129, 45)]) (by decide) rfl ?_
  intro p e s m args below meth c s₁ B hml hv
  obtain ⟨rfl, ⟨hP, hD0⟩, hE, hT, hN⟩ := hv
  have hx := B.exec
  have hb := B.bytes
  have hr := B.returns
  have hts := atoms_spec (ws := wsL_act) B.pre
  have hown : s.vm.findClass RL = some m.cls := findClass_of_methodNamed B.named
  have hlocks := B.notSynchronized
  have hl := lv_entry ([.ref x, .int (nI 5), .int (nI j), .int b9, .int c9]) (n := 6) (Nat.le_of_ble_eq_true rfl)
  rw [lg_entry_eq]
  generalize (lg_sl ([.ref x, .int (nI 5), .int (nI j), .int b9, .int c9]) ++ List.replicate (6 - (lg_sl ([.ref x, .int (nI 5), .int (nI j), .int b9, .int c9])).length) Slot.unset).toArray = ls at hl ⊢
  have hl : lv_has ls 6 [(0, .ref x), (1, .int (nI 5)), (2, .int (nI j)), (3, .int b9), (4, .int c9)] := hl
  have htab := vx_table (x := yL_act) B (hts (.codeWith yL_act cL_act 6 (some .int) [(0, 116, 117, 41), (0, 116, 123, 43), (0, 116, 129, 45)]) List.mem_cons_self)
  have hK := hE.1
  refine lv_iload_n hx hb dL_act_0 rfl (lv_at hl 1 rfl) ?_
  refine lv_if_ne (tgt := 12) hx hb dL_act_1 (by decide) (fun _ => ?_) (fun h => absurd h (by decide))
  refine lv_iload_n hx hb dL_act_12 rfl (lv_at hl 1 rfl) ?_
  refine lv_iconst (v := nI 1) hx hb dL_act_13 (by decide) ?_
  refine lv_icmp_ne (tgt := 26) hx hb dL_act_14 (by decide) (fun _ => ?_) (fun h => absurd h (by decide))
  refine lv_iload_n hx hb dL_act_26 rfl (lv_at hl 1 rfl) ?_
  refine lv_iconst (v := nI 2) hx hb dL_act_27 (by decide) ?_
  refine lv_icmp_ne (tgt := 39) hx hb dL_act_28 (by decide) (fun _ => ?_) (fun h => absurd h (by decide))
  refine lv_iload_n hx hb dL_act_39 rfl (lv_at hl 1 rfl) ?_
  refine lv_iconst (v := nI 3) hx hb dL_act_40 (by decide) ?_
  refine lv_icmp_ne (tgt := 55) hx hb dL_act_41 (by decide) (fun _ => ?_) (fun h => absurd h (by decide))
  refine lv_iload_n hx hb dL_act_55 rfl (lv_at hl 1 rfl) ?_
  refine lv_iconst (v := nI 4) hx hb dL_act_56 (by decide) ?_
  refine lv_icmp_ne (tgt := 69) hx hb dL_act_57 (by decide) (fun _ => ?_) (fun h => absurd h (by decide))
  refine lv_iload_n hx hb dL_act_69 rfl (lv_at hl 1 rfl) ?_
  refine lv_iconst (v := nI 5) hx hb dL_act_70 (by decide) ?_
  refine lv_icmp_ne (tgt := 83) hx hb dL_act_71 (by decide) (fun h => absurd h (by decide)) (fun _ => ?_)
  refine lv_aload_n hx hb dL_act_74 rfl (lv_at hl 0 rfl) ?_
  refine lv_iload_n hx hb dL_act_75 rfl (lv_at hl 2 rfl) ?_
  refine lv_iload_n hx hb dL_act_76 rfl (lv_at hl 3 rfl) ?_
  refine xcw (vx_runV (As := [.int (nI j), .int b9]) (rest := []) ⟨hx, hb, hml, hown, hts⟩ (c_X1_setRights l hst Ax x lv kp fL fK o ld b k FZ G hC (nI j) b9 s.heap.size) (cwV 2 hts gL_act_X1_setRights rfl rfl rfl (by decide +kernel) ⟨(Nat.le_of_ble_eq_true rfl), (Nat.le_of_ble_eq_true rfl)⟩) ⟨XPx_blind, va_recv hK hP (ci := 1) (q0 := 0) rfl rfl, XPx_pre hE hT ⟨rfl, hP, hD0⟩⟩ rfl rfl hl.1 rfl (lv_room (Nat.le_of_ble_eq_true rfl)) dL_act_77 ⟨Nat.le_of_ble_eq_true rfl, Nat.le_of_ble_eq_true rfl⟩) (va_S.rf (A := va_A (CW cT x lv kp fL fK o ld b k FZ) s.heap.size)) (fun q9 _ h => h) (fun q9 h => h) (fun E9 ce9 q9 H1 locs hp9 hz9 hk9 hS hc9 hv9 hcl9 => ?_) (fun r9 u t9 H1 locs ht9 hvm9 hw9 hB9 hzc hkc hS => ?_)
  · rcases hp9 with ⟨rfl, hp9⟩ | ⟨rfl, hp9⟩ | ⟨rfl, hp9⟩
    · exact absurd ⟨j, hj, rfl⟩ hp9
    · exact (by obtain ⟨j2, hj2, e, hp9⟩ := hp9; rw [← (xeq (by omega) (by omega)).mp e] at hp9; exact absurd hp9 h)
    · refine vx_catch hown [⟨0, 116, 117, 41⟩] ⟨0, 116, 123, 43⟩ [⟨0, 116, 129, 45⟩] (by rw [htab]; rfl) (by intro z9 hz9; rw [List.mem_singleton.mp hz9]; exact Or.inr ⟨by decide, nIO, hts (.classLink RL 41 nIO) (by decide +kernel), hN.2.1⟩) (by decide) (by decide) (hts (.classLink RL 43 nIA) (by decide +kernel)) (va_Nw.use rfl (hT.2.1 nIA (by decide))) hc9 hv9 hcl9 ?_
      refine W.eq (g2 := F0 m 123 ls [.ref q9]) rfl ?_
      refine lv_astore (lv' := [(5, .ref q9), (0, .ref x), (1, .int (nI 5)), (2, .int (nI j)), (3, .int b9), (4, .int c9)]) hx hb dL_act_123 hl (by decide) rfl (fun ls hl => ?_)
      refine lv_sipush (v := (-1162)) hx hb dL_act_125 (by decide) ?_
      refine vx_ret ?_
      refine xforget hk9 ?_
      refine W.widen (k := 8) (n := 40) (Nat.le_of_ble_eq_true rfl) (Nat.le_of_ble_eq_true rfl) ?_
      exact W.iret hx hb hr (fun t9 ht9 hW9 => ⟨_, rfl, rfl, by rw [ht9]; exact hz9, by rw [ht9]; exact hk9⟩) (fun _ h => nomatch h) dL_act_128
  · exact (by obtain ⟨j2, y, hj2, e, -, hy, e2, -⟩ := hw9; exact absurd ⟨y, hy, e2⟩ h2)

set_option maxHeartbeats 4000000 in
set_option maxRecDepth 100000 in
theorem a_run_A (l : Launch) (hst : l.stackTraces = false) {D : va_G} {cI cT cJ : ClassId} (Ax : Nat → Prop) (x lv kp : Nat) (fL fK : Nat → Option Nat) (o ld b k : Nat) (FZ : va_W) (G : Nat → Tv) (hC : CA cI FZ fL fK G) (a9 b9 c9 : Int32) (h : ¬ ∃ s, s ≤ 6 ∧ a9 = nI s) (hld : ld ≤ 40) : vx_Met l yL_act wsL_act (rmD 9 8 40) (XPl D cI cT cJ Ax [.ref x, .int (nI 6), .int a9, .int b9, .int c9] (fun H => va_P D vwCl (CW cT x lv kp fL fK o ld b k FZ) H ∧ va_D (fun _ => True) (CW cT x lv kp fL fK o ld b k FZ))) (XRi (fun r => r = (-1162))) (XXc (fun _ => False)) 8 40 (fun _ => False) := by
  refine vx_ofWH (cc := cL_act) (maxL := 6) (ret := (some .int)) (hh := [(0, 116, 117, 41), (0, 116, 123, 43), (0, 116, 129, 45)]) (by decide) rfl ?_
  intro p e s m args below meth c s₁ B hml hv
  obtain ⟨rfl, ⟨hP, hD0⟩, hE, hT, hN⟩ := hv
  have hx := B.exec
  have hb := B.bytes
  have hr := B.returns
  have hts := atoms_spec (ws := wsL_act) B.pre
  have hown : s.vm.findClass RL = some m.cls := findClass_of_methodNamed B.named
  have hlocks := B.notSynchronized
  have hl := lv_entry ([.ref x, .int (nI 6), .int a9, .int b9, .int c9]) (n := 6) (Nat.le_of_ble_eq_true rfl)
  rw [lg_entry_eq]
  generalize (lg_sl ([.ref x, .int (nI 6), .int a9, .int b9, .int c9]) ++ List.replicate (6 - (lg_sl ([.ref x, .int (nI 6), .int a9, .int b9, .int c9])).length) Slot.unset).toArray = ls at hl ⊢
  have hl : lv_has ls 6 [(0, .ref x), (1, .int (nI 6)), (2, .int a9), (3, .int b9), (4, .int c9)] := hl
  have htab := vx_table (x := yL_act) B (hts (.codeWith yL_act cL_act 6 (some .int) [(0, 116, 117, 41), (0, 116, 123, 43), (0, 116, 129, 45)]) List.mem_cons_self)
  have hK := hE.1
  refine lv_iload_n hx hb dL_act_0 rfl (lv_at hl 1 rfl) ?_
  refine lv_if_ne (tgt := 12) hx hb dL_act_1 (by decide) (fun _ => ?_) (fun h => absurd h (by decide))
  refine lv_iload_n hx hb dL_act_12 rfl (lv_at hl 1 rfl) ?_
  refine lv_iconst (v := nI 1) hx hb dL_act_13 (by decide) ?_
  refine lv_icmp_ne (tgt := 26) hx hb dL_act_14 (by decide) (fun _ => ?_) (fun h => absurd h (by decide))
  refine lv_iload_n hx hb dL_act_26 rfl (lv_at hl 1 rfl) ?_
  refine lv_iconst (v := nI 2) hx hb dL_act_27 (by decide) ?_
  refine lv_icmp_ne (tgt := 39) hx hb dL_act_28 (by decide) (fun _ => ?_) (fun h => absurd h (by decide))
  refine lv_iload_n hx hb dL_act_39 rfl (lv_at hl 1 rfl) ?_
  refine lv_iconst (v := nI 3) hx hb dL_act_40 (by decide) ?_
  refine lv_icmp_ne (tgt := 55) hx hb dL_act_41 (by decide) (fun _ => ?_) (fun h => absurd h (by decide))
  refine lv_iload_n hx hb dL_act_55 rfl (lv_at hl 1 rfl) ?_
  refine lv_iconst (v := nI 4) hx hb dL_act_56 (by decide) ?_
  refine lv_icmp_ne (tgt := 69) hx hb dL_act_57 (by decide) (fun _ => ?_) (fun h => absurd h (by decide))
  refine lv_iload_n hx hb dL_act_69 rfl (lv_at hl 1 rfl) ?_
  refine lv_iconst (v := nI 5) hx hb dL_act_70 (by decide) ?_
  refine lv_icmp_ne (tgt := 83) hx hb dL_act_71 (by decide) (fun _ => ?_) (fun h => absurd h (by decide))
  refine lv_iload_n hx hb dL_act_83 rfl (lv_at hl 1 rfl) ?_
  refine lv_bipush (v := nI 6) hx hb dL_act_84 (by decide) ?_
  refine lv_icmp_ne (tgt := 97) hx hb dL_act_86 (by decide) (fun h => absurd h (by decide)) (fun _ => ?_)
  refine lv_aload_n hx hb dL_act_89 rfl (lv_at hl 0 rfl) ?_
  refine lv_iload_n hx hb dL_act_90 rfl (lv_at hl 2 rfl) ?_
  refine xcw (vx_runV (As := [.int a9]) (rest := []) ⟨hx, hb, hml, hown, hts⟩ (c_X1_run l hst Ax x lv kp fL fK o ld b k FZ G hC a9 hld s.heap.size) (cwV 1 hts gL_act_X1_run rfl rfl rfl (by decide +kernel) ⟨(Nat.le_of_ble_eq_true rfl), (Nat.le_of_ble_eq_true rfl)⟩) ⟨XPx_blind, va_recv hK hP (ci := 1) (q0 := 0) rfl rfl, XPx_pre hE hT ⟨rfl, hP, hD0⟩⟩ rfl rfl hl.1 rfl (lv_room (Nat.le_of_ble_eq_true rfl)) dL_act_91 ⟨Nat.le_of_ble_eq_true rfl, Nat.le_of_ble_eq_true rfl⟩) (va_S.rf (A := va_A (CW cT x lv kp fL fK o ld b k FZ) s.heap.size)) (fun q9 _ h => h) (fun q9 h => h) (fun E9 ce9 q9 H1 locs hp9 hz9 hk9 hS hc9 hv9 hcl9 => ?_) (fun r9 u t9 H1 locs ht9 hvm9 hw9 hB9 hzc hkc hS => ?_)
  · rcases hp9 with ⟨rfl, hp9⟩ | ⟨rfl, hp9⟩
    · refine vx_catch hown [⟨0, 116, 117, 41⟩] ⟨0, 116, 123, 43⟩ [⟨0, 116, 129, 45⟩] (by rw [htab]; rfl) (by intro z9 hz9; rw [List.mem_singleton.mp hz9]; exact Or.inr ⟨by decide, nIO, hts (.classLink RL 41 nIO) (by decide +kernel), hN.2.1⟩) (by decide) (by decide) (hts (.classLink RL 43 nIA) (by decide +kernel)) (va_Nw.use rfl (hT.2.1 nIA (by decide))) hc9 hv9 hcl9 ?_
      refine W.eq (g2 := F0 m 123 ls [.ref q9]) rfl ?_
      refine lv_astore (lv' := [(5, .ref q9), (0, .ref x), (1, .int (nI 6)), (2, .int a9), (3, .int b9), (4, .int c9)]) hx hb dL_act_123 hl (by decide) rfl (fun ls hl => ?_)
      refine lv_sipush (v := (-1162)) hx hb dL_act_125 (by decide) ?_
      refine vx_ret ?_
      refine xforget hk9 ?_
      refine W.widen (k := 8) (n := 40) (Nat.le_of_ble_eq_true rfl) (Nat.le_of_ble_eq_true rfl) ?_
      exact W.iret hx hb hr (fun t9 ht9 hW9 => ⟨_, rfl, rfl, by rw [ht9]; exact hz9, by rw [ht9]; exact hk9⟩) (fun _ h => nomatch h) dL_act_128
    · exact absurd hp9.1 h
  · exact (by obtain ⟨s, hs, e, -⟩ := hw9; exact absurd ⟨s, hs, e⟩ h)

set_option maxHeartbeats 4000000 in
set_option maxRecDepth 100000 in
theorem a_thin_A (l : Launch) (hst : l.stackTraces = false) {D : va_G} {cI cT cJ : ClassId} (Ax : Nat → Prop) (x lv kp : Nat) (fL fK : Nat → Option Nat) (o ld b k : Nat) (FZ : va_W) (G : Nat → Tv) (hC : CA cI FZ fL fK G) (a9 b9 c9 : Int32) (h : ¬ ∃ s, 1 ≤ s ∧ s ≤ 40 ∧ a9 = nI s) (hld : ld ≤ 40) (hold : o ≤ ld) : vx_Met l yL_act wsL_act (rmD 9 8 40) (XPl D cI cT cJ Ax [.ref x, .int (nI 7), .int a9, .int b9, .int c9] (fun H => va_P D vwCl (CW cT x lv kp fL fK o ld b k FZ) H ∧ va_D (fun _ => True) (CW cT x lv kp fL fK o ld b k FZ))) (XRi (fun r => r = (-1162))) (XXc (fun _ => False)) 8 40 (fun _ => False) := by
  refine vx_ofWH (cc := cL_act) (maxL := 6) (ret := (some .int)) (hh := [(0, 116, 117, 41), (0, 116, 123, 43), (0, 116, 129, 45)]) (by decide) rfl ?_
  intro p e s m args below meth c s₁ B hml hv
  obtain ⟨rfl, ⟨hP, hD0⟩, hE, hT, hN⟩ := hv
  have hx := B.exec
  have hb := B.bytes
  have hr := B.returns
  have hts := atoms_spec (ws := wsL_act) B.pre
  have hown : s.vm.findClass RL = some m.cls := findClass_of_methodNamed B.named
  have hlocks := B.notSynchronized
  have hl := lv_entry ([.ref x, .int (nI 7), .int a9, .int b9, .int c9]) (n := 6) (Nat.le_of_ble_eq_true rfl)
  rw [lg_entry_eq]
  generalize (lg_sl ([.ref x, .int (nI 7), .int a9, .int b9, .int c9]) ++ List.replicate (6 - (lg_sl ([.ref x, .int (nI 7), .int a9, .int b9, .int c9])).length) Slot.unset).toArray = ls at hl ⊢
  have hl : lv_has ls 6 [(0, .ref x), (1, .int (nI 7)), (2, .int a9), (3, .int b9), (4, .int c9)] := hl
  have htab := vx_table (x := yL_act) B (hts (.codeWith yL_act cL_act 6 (some .int) [(0, 116, 117, 41), (0, 116, 123, 43), (0, 116, 129, 45)]) List.mem_cons_self)
  have hK := hE.1
  refine lv_iload_n hx hb dL_act_0 rfl (lv_at hl 1 rfl) ?_
  refine lv_if_ne (tgt := 12) hx hb dL_act_1 (by decide) (fun _ => ?_) (fun h => absurd h (by decide))
  refine lv_iload_n hx hb dL_act_12 rfl (lv_at hl 1 rfl) ?_
  refine lv_iconst (v := nI 1) hx hb dL_act_13 (by decide) ?_
  refine lv_icmp_ne (tgt := 26) hx hb dL_act_14 (by decide) (fun _ => ?_) (fun h => absurd h (by decide))
  refine lv_iload_n hx hb dL_act_26 rfl (lv_at hl 1 rfl) ?_
  refine lv_iconst (v := nI 2) hx hb dL_act_27 (by decide) ?_
  refine lv_icmp_ne (tgt := 39) hx hb dL_act_28 (by decide) (fun _ => ?_) (fun h => absurd h (by decide))
  refine lv_iload_n hx hb dL_act_39 rfl (lv_at hl 1 rfl) ?_
  refine lv_iconst (v := nI 3) hx hb dL_act_40 (by decide) ?_
  refine lv_icmp_ne (tgt := 55) hx hb dL_act_41 (by decide) (fun _ => ?_) (fun h => absurd h (by decide))
  refine lv_iload_n hx hb dL_act_55 rfl (lv_at hl 1 rfl) ?_
  refine lv_iconst (v := nI 4) hx hb dL_act_56 (by decide) ?_
  refine lv_icmp_ne (tgt := 69) hx hb dL_act_57 (by decide) (fun _ => ?_) (fun h => absurd h (by decide))
  refine lv_iload_n hx hb dL_act_69 rfl (lv_at hl 1 rfl) ?_
  refine lv_iconst (v := nI 5) hx hb dL_act_70 (by decide) ?_
  refine lv_icmp_ne (tgt := 83) hx hb dL_act_71 (by decide) (fun _ => ?_) (fun h => absurd h (by decide))
  refine lv_iload_n hx hb dL_act_83 rfl (lv_at hl 1 rfl) ?_
  refine lv_bipush (v := nI 6) hx hb dL_act_84 (by decide) ?_
  refine lv_icmp_ne (tgt := 97) hx hb dL_act_86 (by decide) (fun _ => ?_) (fun h => absurd h (by decide))
  refine lv_iload_n hx hb dL_act_97 rfl (lv_at hl 1 rfl) ?_
  refine lv_bipush (v := nI 7) hx hb dL_act_98 (by decide) ?_
  refine lv_icmp_ne (tgt := 111) hx hb dL_act_100 (by decide) (fun h => absurd h (by decide)) (fun _ => ?_)
  refine lv_aload_n hx hb dL_act_103 rfl (lv_at hl 0 rfl) ?_
  refine lv_iload_n hx hb dL_act_104 rfl (lv_at hl 2 rfl) ?_
  refine xcw (vx_runV (As := [.int a9]) (rest := []) ⟨hx, hb, hml, hown, hts⟩ (c_X1_thin l hst Ax x lv kp fL fK o ld b k FZ G hC a9 hld hold s.heap.size) (cwV 1 hts gL_act_X1_thin rfl rfl rfl (by decide +kernel) ⟨(Nat.le_of_ble_eq_true rfl), (Nat.le_of_ble_eq_true rfl)⟩) ⟨XPx_blind, va_recv hK hP (ci := 1) (q0 := 0) rfl rfl, XPx_pre hE hT ⟨rfl, hP, hD0⟩⟩ rfl rfl hl.1 rfl (lv_room (Nat.le_of_ble_eq_true rfl)) dL_act_105 ⟨Nat.le_of_ble_eq_true rfl, Nat.le_of_ble_eq_true rfl⟩) (va_S.rf (A := va_A (CW cT x lv kp fL fK o ld b k FZ) s.heap.size)) (fun q9 _ h => h) (fun q9 h => h) (fun E9 ce9 q9 H1 locs hp9 hz9 hk9 hS hc9 hv9 hcl9 => ?_) (fun r9 u t9 H1 locs ht9 hvm9 hw9 hB9 hzc hkc hS => ?_)
  · rcases hp9 with ⟨rfl, hp9⟩ | ⟨rfl, hp9⟩
    · refine vx_catch hown [⟨0, 116, 117, 41⟩] ⟨0, 116, 123, 43⟩ [⟨0, 116, 129, 45⟩] (by rw [htab]; rfl) (by intro z9 hz9; rw [List.mem_singleton.mp hz9]; exact Or.inr ⟨by decide, nIO, hts (.classLink RL 41 nIO) (by decide +kernel), hN.2.1⟩) (by decide) (by decide) (hts (.classLink RL 43 nIA) (by decide +kernel)) (va_Nw.use rfl (hT.2.1 nIA (by decide))) hc9 hv9 hcl9 ?_
      refine W.eq (g2 := F0 m 123 ls [.ref q9]) rfl ?_
      refine lv_astore (lv' := [(5, .ref q9), (0, .ref x), (1, .int (nI 7)), (2, .int a9), (3, .int b9), (4, .int c9)]) hx hb dL_act_123 hl (by decide) rfl (fun ls hl => ?_)
      refine lv_sipush (v := (-1162)) hx hb dL_act_125 (by decide) ?_
      refine vx_ret ?_
      refine xforget hk9 ?_
      refine W.widen (k := 8) (n := 40) (Nat.le_of_ble_eq_true rfl) (Nat.le_of_ble_eq_true rfl) ?_
      exact W.iret hx hb hr (fun t9 ht9 hW9 => ⟨_, rfl, rfl, by rw [ht9]; exact hz9, by rw [ht9]; exact hk9⟩) (fun _ h => nomatch h) dL_act_128
    · exact (by obtain ⟨s, hs, hs2, e, -⟩ := hp9; exact absurd ⟨s, hs, hs2, e⟩ h)
  · exact (by obtain ⟨s, hs, hs2, e, -⟩ := hw9; exact absurd ⟨s, hs, hs2, e⟩ h)

set_option maxHeartbeats 4000000 in
set_option maxRecDepth 100000 in
theorem a_thin_S (l : Launch) (hst : l.stackTraces = false) {D : va_G} {cI cT cJ : ClassId} (Ax : Nat → Prop) (x lv kp : Nat) (fL fK : Nat → Option Nat) (o ld b k : Nat) (FZ : va_W) (G : Nat → Tv) (hC : CA cI FZ fL fK G) (s9 : Nat) (b9 c9 : Int32) (h1 : 1 ≤ s9) (h2 : s9 ≤ 40) (h : ¬ o + s9 ≤ ld) (hld : ld ≤ 40) (hold : o ≤ ld) : vx_Met l yL_act wsL_act (rmD 9 8 40) (XPl D cI cT cJ Ax [.ref x, .int (nI 7), .int (nI s9), .int b9, .int c9] (fun H => va_P D vwCl (CW cT x lv kp fL fK o ld b k FZ) H ∧ va_D (fun _ => True) (CW cT x lv kp fL fK o ld b k FZ))) (XRi (fun r => r = (-1163))) (XXc (fun _ => False)) 8 40 (fun _ => False) := by
  refine vx_ofWH (cc := cL_act) (maxL := 6) (ret := (some .int)) (hh := [(0, 116, 117, 41), (0, 116, 123, 43), (0, 116, 129, 45)]) (by decide) rfl ?_
  intro p e s m args below meth c s₁ B hml hv
  obtain ⟨rfl, ⟨hP, hD0⟩, hE, hT, hN⟩ := hv
  have hx := B.exec
  have hb := B.bytes
  have hr := B.returns
  have hts := atoms_spec (ws := wsL_act) B.pre
  have hown : s.vm.findClass RL = some m.cls := findClass_of_methodNamed B.named
  have hlocks := B.notSynchronized
  have hl := lv_entry ([.ref x, .int (nI 7), .int (nI s9), .int b9, .int c9]) (n := 6) (Nat.le_of_ble_eq_true rfl)
  rw [lg_entry_eq]
  generalize (lg_sl ([.ref x, .int (nI 7), .int (nI s9), .int b9, .int c9]) ++ List.replicate (6 - (lg_sl ([.ref x, .int (nI 7), .int (nI s9), .int b9, .int c9])).length) Slot.unset).toArray = ls at hl ⊢
  have hl : lv_has ls 6 [(0, .ref x), (1, .int (nI 7)), (2, .int (nI s9)), (3, .int b9), (4, .int c9)] := hl
  have htab := vx_table (x := yL_act) B (hts (.codeWith yL_act cL_act 6 (some .int) [(0, 116, 117, 41), (0, 116, 123, 43), (0, 116, 129, 45)]) List.mem_cons_self)
  have hK := hE.1
  refine lv_iload_n hx hb dL_act_0 rfl (lv_at hl 1 rfl) ?_
  refine lv_if_ne (tgt := 12) hx hb dL_act_1 (by decide) (fun _ => ?_) (fun h => absurd h (by decide))
  refine lv_iload_n hx hb dL_act_12 rfl (lv_at hl 1 rfl) ?_
  refine lv_iconst (v := nI 1) hx hb dL_act_13 (by decide) ?_
  refine lv_icmp_ne (tgt := 26) hx hb dL_act_14 (by decide) (fun _ => ?_) (fun h => absurd h (by decide))
  refine lv_iload_n hx hb dL_act_26 rfl (lv_at hl 1 rfl) ?_
  refine lv_iconst (v := nI 2) hx hb dL_act_27 (by decide) ?_
  refine lv_icmp_ne (tgt := 39) hx hb dL_act_28 (by decide) (fun _ => ?_) (fun h => absurd h (by decide))
  refine lv_iload_n hx hb dL_act_39 rfl (lv_at hl 1 rfl) ?_
  refine lv_iconst (v := nI 3) hx hb dL_act_40 (by decide) ?_
  refine lv_icmp_ne (tgt := 55) hx hb dL_act_41 (by decide) (fun _ => ?_) (fun h => absurd h (by decide))
  refine lv_iload_n hx hb dL_act_55 rfl (lv_at hl 1 rfl) ?_
  refine lv_iconst (v := nI 4) hx hb dL_act_56 (by decide) ?_
  refine lv_icmp_ne (tgt := 69) hx hb dL_act_57 (by decide) (fun _ => ?_) (fun h => absurd h (by decide))
  refine lv_iload_n hx hb dL_act_69 rfl (lv_at hl 1 rfl) ?_
  refine lv_iconst (v := nI 5) hx hb dL_act_70 (by decide) ?_
  refine lv_icmp_ne (tgt := 83) hx hb dL_act_71 (by decide) (fun _ => ?_) (fun h => absurd h (by decide))
  refine lv_iload_n hx hb dL_act_83 rfl (lv_at hl 1 rfl) ?_
  refine lv_bipush (v := nI 6) hx hb dL_act_84 (by decide) ?_
  refine lv_icmp_ne (tgt := 97) hx hb dL_act_86 (by decide) (fun _ => ?_) (fun h => absurd h (by decide))
  refine lv_iload_n hx hb dL_act_97 rfl (lv_at hl 1 rfl) ?_
  refine lv_bipush (v := nI 7) hx hb dL_act_98 (by decide) ?_
  refine lv_icmp_ne (tgt := 111) hx hb dL_act_100 (by decide) (fun h => absurd h (by decide)) (fun _ => ?_)
  refine lv_aload_n hx hb dL_act_103 rfl (lv_at hl 0 rfl) ?_
  refine lv_iload_n hx hb dL_act_104 rfl (lv_at hl 2 rfl) ?_
  refine xcw (vx_runV (As := [.int (nI s9)]) (rest := []) ⟨hx, hb, hml, hown, hts⟩ (c_X1_thin l hst Ax x lv kp fL fK o ld b k FZ G hC (nI s9) hld hold s.heap.size) (cwV 1 hts gL_act_X1_thin rfl rfl rfl (by decide +kernel) ⟨(Nat.le_of_ble_eq_true rfl), (Nat.le_of_ble_eq_true rfl)⟩) ⟨XPx_blind, va_recv hK hP (ci := 1) (q0 := 0) rfl rfl, XPx_pre hE hT ⟨rfl, hP, hD0⟩⟩ rfl rfl hl.1 rfl (lv_room (Nat.le_of_ble_eq_true rfl)) dL_act_105 ⟨Nat.le_of_ble_eq_true rfl, Nat.le_of_ble_eq_true rfl⟩) (va_S.rf (A := va_A (CW cT x lv kp fL fK o ld b k FZ) s.heap.size)) (fun q9 _ h => h) (fun q9 h => h) (fun E9 ce9 q9 H1 locs hp9 hz9 hk9 hS hc9 hv9 hcl9 => ?_) (fun r9 u t9 H1 locs ht9 hvm9 hw9 hB9 hzc hkc hS => ?_)
  · rcases hp9 with ⟨rfl, hp9⟩ | ⟨rfl, hp9⟩
    · exact absurd ⟨s9, h1, h2, rfl⟩ hp9
    · refine vx_catch hown [⟨0, 116, 117, 41⟩, ⟨0, 116, 123, 43⟩] ⟨0, 116, 129, 45⟩ [] (by rw [htab]; rfl) (by intro z9 hz9; rcases List.mem_cons.mp hz9 with rfl | hz9; exact Or.inr ⟨by decide, nIO, hts (.classLink RL 41 nIO) (by decide +kernel), hN.1⟩; rw [List.mem_singleton.mp hz9]; exact Or.inr ⟨by decide, nIA, hts (.classLink RL 43 nIA) (by decide +kernel), hN.2.2.2⟩) (by decide) (by decide) (hts (.classLink RL 45 nIS) (by decide +kernel)) (va_Nw.use rfl (hT.2.1 nIS (by decide))) hc9 hv9 hcl9 ?_
      refine W.eq (g2 := F0 m 129 ls [.ref q9]) rfl ?_
      refine lv_astore (lv' := [(5, .ref q9), (0, .ref x), (1, .int (nI 7)), (2, .int (nI s9)), (3, .int b9), (4, .int c9)]) hx hb dL_act_129 hl (by decide) rfl (fun ls hl => ?_)
      refine lv_sipush (v := (-1163)) hx hb dL_act_131 (by decide) ?_
      refine vx_ret ?_
      refine xforget hk9 ?_
      refine W.widen (k := 8) (n := 40) (Nat.le_of_ble_eq_true rfl) (Nat.le_of_ble_eq_true rfl) ?_
      exact W.iret hx hb hr (fun t9 ht9 hW9 => ⟨_, rfl, rfl, by rw [ht9]; exact hz9, by rw [ht9]; exact hk9⟩) (fun _ h => nomatch h) dL_act_134
  · exact (by obtain ⟨z, hs, hs2, e, hw9, -⟩ := hw9; rw [← (xeq (by omega) (by omega)).mp e] at hw9; exact absurd hw9 h)

set_option maxHeartbeats 4000000 in
set_option maxRecDepth 100000 in
theorem a_restore_O (l : Launch) (hst : l.stackTraces = false) {D : va_G} {cI cT cJ : ClassId} (Ax : Nat → Prop) (x lv kp : Nat) (fL fK : Nat → Option Nat) (o ld b k : Nat) (FZ : va_W) (G : Nat → Tv) (hC : CA cI FZ fL fK G) (a9 b9 c9 : Int32) (h : ¬ Kp o ld a9) (hld : ld ≤ 40) (hold : o ≤ ld) : vx_Met l yL_act wsL_act (rmD 9 8 40) (XPl D cI cT cJ Ax [.ref x, .int (nI 8), .int a9, .int b9, .int c9] (fun H => va_P D vwCl (CW cT x lv kp fL fK o ld b k FZ) H ∧ va_D (fun _ => True) (CW cT x lv kp fL fK o ld b k FZ))) (XRi (fun r => r = (-1161))) (XXc (fun _ => False)) 8 40 (fun _ => False) := by
  refine vx_ofWH (cc := cL_act) (maxL := 6) (ret := (some .int)) (hh := [(0, 116, 117, 41), (0, 116, 123, 43), (0, 116, 129, 45)]) (by decide) rfl ?_
  intro p e s m args below meth c s₁ B hml hv
  obtain ⟨rfl, ⟨hP, hD0⟩, hE, hT, hN⟩ := hv
  have hx := B.exec
  have hb := B.bytes
  have hr := B.returns
  have hts := atoms_spec (ws := wsL_act) B.pre
  have hown : s.vm.findClass RL = some m.cls := findClass_of_methodNamed B.named
  have hlocks := B.notSynchronized
  have hl := lv_entry ([.ref x, .int (nI 8), .int a9, .int b9, .int c9]) (n := 6) (Nat.le_of_ble_eq_true rfl)
  rw [lg_entry_eq]
  generalize (lg_sl ([.ref x, .int (nI 8), .int a9, .int b9, .int c9]) ++ List.replicate (6 - (lg_sl ([.ref x, .int (nI 8), .int a9, .int b9, .int c9])).length) Slot.unset).toArray = ls at hl ⊢
  have hl : lv_has ls 6 [(0, .ref x), (1, .int (nI 8)), (2, .int a9), (3, .int b9), (4, .int c9)] := hl
  have htab := vx_table (x := yL_act) B (hts (.codeWith yL_act cL_act 6 (some .int) [(0, 116, 117, 41), (0, 116, 123, 43), (0, 116, 129, 45)]) List.mem_cons_self)
  have hK := hE.1
  refine lv_iload_n hx hb dL_act_0 rfl (lv_at hl 1 rfl) ?_
  refine lv_if_ne (tgt := 12) hx hb dL_act_1 (by decide) (fun _ => ?_) (fun h => absurd h (by decide))
  refine lv_iload_n hx hb dL_act_12 rfl (lv_at hl 1 rfl) ?_
  refine lv_iconst (v := nI 1) hx hb dL_act_13 (by decide) ?_
  refine lv_icmp_ne (tgt := 26) hx hb dL_act_14 (by decide) (fun _ => ?_) (fun h => absurd h (by decide))
  refine lv_iload_n hx hb dL_act_26 rfl (lv_at hl 1 rfl) ?_
  refine lv_iconst (v := nI 2) hx hb dL_act_27 (by decide) ?_
  refine lv_icmp_ne (tgt := 39) hx hb dL_act_28 (by decide) (fun _ => ?_) (fun h => absurd h (by decide))
  refine lv_iload_n hx hb dL_act_39 rfl (lv_at hl 1 rfl) ?_
  refine lv_iconst (v := nI 3) hx hb dL_act_40 (by decide) ?_
  refine lv_icmp_ne (tgt := 55) hx hb dL_act_41 (by decide) (fun _ => ?_) (fun h => absurd h (by decide))
  refine lv_iload_n hx hb dL_act_55 rfl (lv_at hl 1 rfl) ?_
  refine lv_iconst (v := nI 4) hx hb dL_act_56 (by decide) ?_
  refine lv_icmp_ne (tgt := 69) hx hb dL_act_57 (by decide) (fun _ => ?_) (fun h => absurd h (by decide))
  refine lv_iload_n hx hb dL_act_69 rfl (lv_at hl 1 rfl) ?_
  refine lv_iconst (v := nI 5) hx hb dL_act_70 (by decide) ?_
  refine lv_icmp_ne (tgt := 83) hx hb dL_act_71 (by decide) (fun _ => ?_) (fun h => absurd h (by decide))
  refine lv_iload_n hx hb dL_act_83 rfl (lv_at hl 1 rfl) ?_
  refine lv_bipush (v := nI 6) hx hb dL_act_84 (by decide) ?_
  refine lv_icmp_ne (tgt := 97) hx hb dL_act_86 (by decide) (fun _ => ?_) (fun h => absurd h (by decide))
  refine lv_iload_n hx hb dL_act_97 rfl (lv_at hl 1 rfl) ?_
  refine lv_bipush (v := nI 7) hx hb dL_act_98 (by decide) ?_
  refine lv_icmp_ne (tgt := 111) hx hb dL_act_100 (by decide) (fun _ => ?_) (fun h => absurd h (by decide))
  refine lv_aload_n hx hb dL_act_111 rfl (lv_at hl 0 rfl) ?_
  refine lv_iload_n hx hb dL_act_112 rfl (lv_at hl 2 rfl) ?_
  refine xcw (vx_runV (As := [.int a9]) (rest := []) ⟨hx, hb, hml, hown, hts⟩ (c_X1_restore l hst Ax x lv kp fL fK o ld b k FZ G hC a9 hld hold s.heap.size) (cwV 1 hts gL_act_X1_restore rfl rfl rfl (by decide +kernel) ⟨(Nat.le_of_ble_eq_true rfl), (Nat.le_of_ble_eq_true rfl)⟩) ⟨XPx_blind, va_recv hK hP (ci := 1) (q0 := 0) rfl rfl, XPx_pre hE hT ⟨rfl, hP, hD0⟩⟩ rfl rfl hl.1 rfl (lv_room (Nat.le_of_ble_eq_true rfl)) dL_act_113 ⟨Nat.le_of_ble_eq_true rfl, Nat.le_of_ble_eq_true rfl⟩) (va_S.rf (A := va_A (CW cT x lv kp fL fK o ld b k FZ) s.heap.size)) (fun q9 _ h => h) (fun q9 h => h) (fun E9 ce9 q9 H1 locs hp9 hz9 hk9 hS hc9 hv9 hcl9 => ?_) (fun r9 u t9 H1 locs ht9 hvm9 hw9 hB9 hzc hkc hS => ?_)
  · obtain ⟨rfl, hp9⟩ := hp9
    refine vx_catch hown [] ⟨0, 116, 117, 41⟩ [⟨0, 116, 123, 43⟩, ⟨0, 116, 129, 45⟩] (by rw [htab]; rfl) (fun _ h => nomatch h) (by decide) (by decide) (hts (.classLink RL 41 nIO) (by decide +kernel)) (va_Nw.use rfl (hT.2.1 nIO (by decide))) hc9 hv9 hcl9 ?_
    refine W.eq (g2 := F0 m 117 ls [.ref q9]) rfl ?_
    refine lv_astore (lv' := [(5, .ref q9), (0, .ref x), (1, .int (nI 8)), (2, .int a9), (3, .int b9), (4, .int c9)]) hx hb dL_act_117 hl (by decide) rfl (fun ls hl => ?_)
    refine lv_sipush (v := (-1161)) hx hb dL_act_119 (by decide) ?_
    refine vx_ret ?_
    refine xforget hk9 ?_
    refine W.widen (k := 8) (n := 40) (Nat.le_of_ble_eq_true rfl) (Nat.le_of_ble_eq_true rfl) ?_
    exact W.iret hx hb hr (fun t9 ht9 hW9 => ⟨_, rfl, rfl, by rw [ht9]; exact hz9, by rw [ht9]; exact hk9⟩) (fun _ h => nomatch h) dL_act_122
  · exact (by obtain ⟨d, h1, h2, e, -⟩ := hw9; exact absurd ⟨d, h1, h2, e⟩ h)

set_option maxHeartbeats 4000000 in
set_option maxRecDepth 100000 in
theorem o_kindAt (l : Launch) (hst : l.stackTraces = false) {D : va_G} {cI cT cJ : ClassId} (Ax : Nat → Prop) (x lv kp : Nat) (fL fK : Nat → Option Nat) (o ld b k : Nat) (FZ : va_W) (G : Nat → Tv) (hC : CA cI FZ fL fK G) (a9 b9 c9 : Int32) (h : ¬ ∃ i, AT o ld a9 b9 i) (hld : ld ≤ 40) (hold : o ≤ ld) : vx_Met l yL_of wsL_of (rmD 9 8 40) (XPl D cI cT cJ Ax [.ref x, .int (nI 0), .int a9, .int b9, .int c9] (fun H => va_P D vwCl (CW cT x lv kp fL fK o ld b k FZ) H)) (XRi (fun r => r = (-1161))) (XXc (fun _ => False)) 8 40 (fun _ => False) := by
  refine vx_ofWH (cc := cL_of) (maxL := 6) (ret := (some .int)) (hh := [(0, 49, 50, 41)]) (by decide) rfl ?_
  intro p e s m args below meth c s₁ B hml hv
  obtain ⟨rfl, hP, hE, hT, hN⟩ := hv
  have hx := B.exec
  have hb := B.bytes
  have hr := B.returns
  have hts := atoms_spec (ws := wsL_of) B.pre
  have hown : s.vm.findClass RL = some m.cls := findClass_of_methodNamed B.named
  have hlocks := B.notSynchronized
  have hl := lv_entry ([.ref x, .int (nI 0), .int a9, .int b9, .int c9]) (n := 6) (Nat.le_of_ble_eq_true rfl)
  rw [lg_entry_eq]
  generalize (lg_sl ([.ref x, .int (nI 0), .int a9, .int b9, .int c9]) ++ List.replicate (6 - (lg_sl ([.ref x, .int (nI 0), .int a9, .int b9, .int c9])).length) Slot.unset).toArray = ls at hl ⊢
  have hl : lv_has ls 6 [(0, .ref x), (1, .int (nI 0)), (2, .int a9), (3, .int b9), (4, .int c9)] := hl
  have htab := vx_table (x := yL_of) B (hts (.codeWith yL_of cL_of 6 (some .int) [(0, 49, 50, 41)]) List.mem_cons_self)
  have hK := hE.1
  refine lv_iload_n hx hb dL_of_0 rfl (lv_at hl 1 rfl) ?_
  refine lv_if_ne (tgt := 13) hx hb dL_of_1 (by decide) (fun h => absurd h (by decide)) (fun _ => ?_)
  refine lv_aload_n hx hb dL_of_4 rfl (lv_at hl 0 rfl) ?_
  refine lv_iload_n hx hb dL_of_5 rfl (lv_at hl 2 rfl) ?_
  refine lv_iload_n hx hb dL_of_6 rfl (lv_at hl 3 rfl) ?_
  refine xcx (vx_runV (As := [.int a9, .int b9]) (rest := []) ⟨hx, hb, hml, hown, hts⟩ (c_X1_kindAt l hst Ax x lv kp fL fK o ld b k FZ G hC a9 b9 hld hold) (cwV 2 hts gL_of_X1_kindAt rfl rfl rfl (by decide +kernel) ⟨(Nat.le_of_ble_eq_true rfl), (Nat.le_of_ble_eq_true rfl)⟩) ⟨XPx_blind, va_recv hK hP (ci := 1) (q0 := 0) rfl rfl, XPx_pre hE hT hP⟩ rfl rfl hl.1 rfl (lv_room (Nat.le_of_ble_eq_true rfl)) dL_of_7 ⟨Nat.le_of_ble_eq_true rfl, Nat.le_of_ble_eq_true rfl⟩) (fun E9 ce9 q9 H1 hp9 hz9 hk9 hc9 hv9 hcl9 => ?_) (fun v9 hw9 => (by obtain ⟨i, -, h2⟩ := hw9; exact absurd ⟨i, h2⟩ h))
  obtain ⟨rfl, hp9⟩ := hp9
  refine vx_catch hown [] ⟨0, 49, 50, 41⟩ [] (by rw [htab]; rfl) (fun _ h => nomatch h) (by decide) (by decide) (hts (.classLink RL 41 nIO) (by decide +kernel)) (va_Nw.use rfl (hT.2.1 nIO (by decide))) hc9 hv9 hcl9 ?_
  refine W.eq (g2 := F0 m 50 ls [.ref q9]) rfl ?_
  refine lv_astore (lv' := [(5, .ref q9), (0, .ref x), (1, .int (nI 0)), (2, .int a9), (3, .int b9), (4, .int c9)]) hx hb dL_of_50 hl (by decide) rfl (fun ls hl => ?_)
  refine lv_sipush (v := (-1161)) hx hb dL_of_52 (by decide) ?_
  refine vx_ret ?_
  refine W.widen (k := 8) (n := 40) (Nat.le_of_ble_eq_true rfl) (Nat.le_of_ble_eq_true rfl) ?_
  exact W.iret hx hb hr (fun t9 ht9 hW9 => ⟨_, rfl, rfl, by rw [ht9]; exact hz9, by rw [ht9]; exact hk9⟩) (fun _ h => nomatch h) dL_of_55

set_option maxHeartbeats 4000000 in
set_option maxRecDepth 100000 in
theorem o_numberAt (l : Launch) (hst : l.stackTraces = false) {D : va_G} {cI cT cJ : ClassId} (Ax : Nat → Prop) (x lv kp : Nat) (fL fK : Nat → Option Nat) (o ld b k : Nat) (FZ : va_W) (G : Nat → Tv) (hC : CA cI FZ fL fK G) (a9 b9 c9 : Int32) (h : ¬ ∃ i sp : Nat, AT o ld a9 b9 i ∧ sp < 12 ∧ c9 = nI sp) (hld : ld ≤ 40) (hold : o ≤ ld) : vx_Met l yL_of wsL_of (rmD 9 8 40) (XPl D cI cT cJ Ax [.ref x, .int (nI 1), .int a9, .int b9, .int c9] (fun H => va_P D vwCl (CW cT x lv kp fL fK o ld b k FZ) H)) (XRi (fun r => r = (-1161))) (XXc (fun _ => False)) 8 40 (fun _ => False) := by
  refine vx_ofWH (cc := cL_of) (maxL := 6) (ret := (some .int)) (hh := [(0, 49, 50, 41)]) (by decide) rfl ?_
  intro p e s m args below meth c s₁ B hml hv
  obtain ⟨rfl, hP, hE, hT, hN⟩ := hv
  have hx := B.exec
  have hb := B.bytes
  have hr := B.returns
  have hts := atoms_spec (ws := wsL_of) B.pre
  have hown : s.vm.findClass RL = some m.cls := findClass_of_methodNamed B.named
  have hlocks := B.notSynchronized
  have hl := lv_entry ([.ref x, .int (nI 1), .int a9, .int b9, .int c9]) (n := 6) (Nat.le_of_ble_eq_true rfl)
  rw [lg_entry_eq]
  generalize (lg_sl ([.ref x, .int (nI 1), .int a9, .int b9, .int c9]) ++ List.replicate (6 - (lg_sl ([.ref x, .int (nI 1), .int a9, .int b9, .int c9])).length) Slot.unset).toArray = ls at hl ⊢
  have hl : lv_has ls 6 [(0, .ref x), (1, .int (nI 1)), (2, .int a9), (3, .int b9), (4, .int c9)] := hl
  have htab := vx_table (x := yL_of) B (hts (.codeWith yL_of cL_of 6 (some .int) [(0, 49, 50, 41)]) List.mem_cons_self)
  have hK := hE.1
  refine lv_iload_n hx hb dL_of_0 rfl (lv_at hl 1 rfl) ?_
  refine lv_if_ne (tgt := 13) hx hb dL_of_1 (by decide) (fun _ => ?_) (fun h => absurd h (by decide))
  refine lv_iload_n hx hb dL_of_13 rfl (lv_at hl 1 rfl) ?_
  refine lv_iconst (v := nI 1) hx hb dL_of_14 (by decide) ?_
  refine lv_icmp_ne (tgt := 29) hx hb dL_of_15 (by decide) (fun h => absurd h (by decide)) (fun _ => ?_)
  refine lv_aload_n hx hb dL_of_18 rfl (lv_at hl 0 rfl) ?_
  refine lv_iload_n hx hb dL_of_19 rfl (lv_at hl 2 rfl) ?_
  refine lv_iload_n hx hb dL_of_20 rfl (lv_at hl 3 rfl) ?_
  refine lv_iload hx hb dL_of_21 (lv_at hl 4 rfl) ?_
  refine xcx (vx_runV (As := [.int a9, .int b9, .int c9]) (rest := []) ⟨hx, hb, hml, hown, hts⟩ (c_X1_numberAt l hst Ax x lv kp fL fK o ld b k FZ G hC a9 b9 c9 hld hold) (cwV 3 hts gL_of_X1_numberAt rfl rfl rfl (by decide +kernel) ⟨(Nat.le_of_ble_eq_true rfl), (Nat.le_of_ble_eq_true rfl)⟩) ⟨XPx_blind, va_recv hK hP (ci := 1) (q0 := 0) rfl rfl, XPx_pre hE hT hP⟩ rfl rfl hl.1 rfl (lv_room (Nat.le_of_ble_eq_true rfl)) dL_of_23 ⟨Nat.le_of_ble_eq_true rfl, Nat.le_of_ble_eq_true rfl⟩) (fun E9 ce9 q9 H1 hp9 hz9 hk9 hc9 hv9 hcl9 => ?_) (fun v9 hw9 => (by obtain ⟨i, sp, h1, h2, h3, -⟩ := hw9; exact absurd ⟨i, sp, h1, h2, h3⟩ h))
  obtain ⟨rfl, hp9⟩ := hp9
  refine vx_catch hown [] ⟨0, 49, 50, 41⟩ [] (by rw [htab]; rfl) (fun _ h => nomatch h) (by decide) (by decide) (hts (.classLink RL 41 nIO) (by decide +kernel)) (va_Nw.use rfl (hT.2.1 nIO (by decide))) hc9 hv9 hcl9 ?_
  refine W.eq (g2 := F0 m 50 ls [.ref q9]) rfl ?_
  refine lv_astore (lv' := [(5, .ref q9), (0, .ref x), (1, .int (nI 1)), (2, .int a9), (3, .int b9), (4, .int c9)]) hx hb dL_of_50 hl (by decide) rfl (fun ls hl => ?_)
  refine lv_sipush (v := (-1161)) hx hb dL_of_52 (by decide) ?_
  refine vx_ret ?_
  refine W.widen (k := 8) (n := 40) (Nat.le_of_ble_eq_true rfl) (Nat.le_of_ble_eq_true rfl) ?_
  exact W.iret hx hb hr (fun t9 ht9 hW9 => ⟨_, rfl, rfl, by rw [ht9]; exact hz9, by rw [ht9]; exact hk9⟩) (fun _ h => nomatch h) dL_of_55

set_option maxHeartbeats 4000000 in
set_option maxRecDepth 100000 in
theorem o_rightsAt (l : Launch) (hst : l.stackTraces = false) {D : va_G} {cI cT cJ : ClassId} (Ax : Nat → Prop) (x lv kp : Nat) (fL fK : Nat → Option Nat) (o ld b k : Nat) (FZ : va_W) (G : Nat → Tv) (hC : CA cI FZ fL fK G) (a9 b9 c9 : Int32) (h : ¬ ∃ i, AT o ld a9 b9 i) (hld : ld ≤ 40) (hold : o ≤ ld) : vx_Met l yL_of wsL_of (rmD 9 8 40) (XPl D cI cT cJ Ax [.ref x, .int (nI 2), .int a9, .int b9, .int c9] (fun H => va_P D vwCl (CW cT x lv kp fL fK o ld b k FZ) H)) (XRi (fun r => r = (-1161))) (XXc (fun _ => False)) 8 40 (fun _ => False) := by
  refine vx_ofWH (cc := cL_of) (maxL := 6) (ret := (some .int)) (hh := [(0, 49, 50, 41)]) (by decide) rfl ?_
  intro p e s m args below meth c s₁ B hml hv
  obtain ⟨rfl, hP, hE, hT, hN⟩ := hv
  have hx := B.exec
  have hb := B.bytes
  have hr := B.returns
  have hts := atoms_spec (ws := wsL_of) B.pre
  have hown : s.vm.findClass RL = some m.cls := findClass_of_methodNamed B.named
  have hlocks := B.notSynchronized
  have hl := lv_entry ([.ref x, .int (nI 2), .int a9, .int b9, .int c9]) (n := 6) (Nat.le_of_ble_eq_true rfl)
  rw [lg_entry_eq]
  generalize (lg_sl ([.ref x, .int (nI 2), .int a9, .int b9, .int c9]) ++ List.replicate (6 - (lg_sl ([.ref x, .int (nI 2), .int a9, .int b9, .int c9])).length) Slot.unset).toArray = ls at hl ⊢
  have hl : lv_has ls 6 [(0, .ref x), (1, .int (nI 2)), (2, .int a9), (3, .int b9), (4, .int c9)] := hl
  have htab := vx_table (x := yL_of) B (hts (.codeWith yL_of cL_of 6 (some .int) [(0, 49, 50, 41)]) List.mem_cons_self)
  have hK := hE.1
  refine lv_iload_n hx hb dL_of_0 rfl (lv_at hl 1 rfl) ?_
  refine lv_if_ne (tgt := 13) hx hb dL_of_1 (by decide) (fun _ => ?_) (fun h => absurd h (by decide))
  refine lv_iload_n hx hb dL_of_13 rfl (lv_at hl 1 rfl) ?_
  refine lv_iconst (v := nI 1) hx hb dL_of_14 (by decide) ?_
  refine lv_icmp_ne (tgt := 29) hx hb dL_of_15 (by decide) (fun _ => ?_) (fun h => absurd h (by decide))
  refine lv_iload_n hx hb dL_of_29 rfl (lv_at hl 1 rfl) ?_
  refine lv_iconst (v := nI 2) hx hb dL_of_30 (by decide) ?_
  refine lv_icmp_ne (tgt := 43) hx hb dL_of_31 (by decide) (fun h => absurd h (by decide)) (fun _ => ?_)
  refine lv_aload_n hx hb dL_of_34 rfl (lv_at hl 0 rfl) ?_
  refine lv_iload_n hx hb dL_of_35 rfl (lv_at hl 2 rfl) ?_
  refine lv_iload_n hx hb dL_of_36 rfl (lv_at hl 3 rfl) ?_
  refine xcx (vx_runV (As := [.int a9, .int b9]) (rest := []) ⟨hx, hb, hml, hown, hts⟩ (c_X1_rightsAt l hst Ax x lv kp fL fK o ld b k FZ G hC a9 b9 hld hold) (cwV 2 hts gL_of_X1_rightsAt rfl rfl rfl (by decide +kernel) ⟨(Nat.le_of_ble_eq_true rfl), (Nat.le_of_ble_eq_true rfl)⟩) ⟨XPx_blind, va_recv hK hP (ci := 1) (q0 := 0) rfl rfl, XPx_pre hE hT hP⟩ rfl rfl hl.1 rfl (lv_room (Nat.le_of_ble_eq_true rfl)) dL_of_37 ⟨Nat.le_of_ble_eq_true rfl, Nat.le_of_ble_eq_true rfl⟩) (fun E9 ce9 q9 H1 hp9 hz9 hk9 hc9 hv9 hcl9 => ?_) (fun v9 hw9 => (by obtain ⟨i, -, h2⟩ := hw9; exact absurd ⟨i, h2⟩ h))
  obtain ⟨rfl, hp9⟩ := hp9
  refine vx_catch hown [] ⟨0, 49, 50, 41⟩ [] (by rw [htab]; rfl) (fun _ h => nomatch h) (by decide) (by decide) (hts (.classLink RL 41 nIO) (by decide +kernel)) (va_Nw.use rfl (hT.2.1 nIO (by decide))) hc9 hv9 hcl9 ?_
  refine W.eq (g2 := F0 m 50 ls [.ref q9]) rfl ?_
  refine lv_astore (lv' := [(5, .ref q9), (0, .ref x), (1, .int (nI 2)), (2, .int a9), (3, .int b9), (4, .int c9)]) hx hb dL_of_50 hl (by decide) rfl (fun ls hl => ?_)
  refine lv_sipush (v := (-1161)) hx hb dL_of_52 (by decide) ?_
  refine vx_ret ?_
  refine W.widen (k := 8) (n := 40) (Nat.le_of_ble_eq_true rfl) (Nat.le_of_ble_eq_true rfl) ?_
  exact W.iret hx hb hr (fun t9 ht9 hW9 => ⟨_, rfl, rfl, by rw [ht9]; exact hz9, by rw [ht9]; exact hk9⟩) (fun _ h => nomatch h) dL_of_55

set_option maxHeartbeats 4000000 in
set_option maxRecDepth 100000 in
theorem o_sizeAt (l : Launch) (hst : l.stackTraces = false) {D : va_G} {cI cT cJ : ClassId} (Ax : Nat → Prop) (x lv kp : Nat) (fL fK : Nat → Option Nat) (o ld b k : Nat) (FZ : va_W) (G : Nat → Tv) (hC : CA cI FZ fL fK G) (a9 b9 c9 : Int32) (h : ¬ ∃ d j : Nat, o ≤ d ∧ d ≤ ld ∧ a9 = nI d ∧ j < 6 ∧ b9 = nI j) (hld : ld ≤ 40) (hold : o ≤ ld) : vx_Met l yL_of wsL_of (rmD 9 8 40) (XPl D cI cT cJ Ax [.ref x, .int (nI 3), .int a9, .int b9, .int c9] (fun H => va_P D vwCl (CW cT x lv kp fL fK o ld b k FZ) H)) (XRi (fun r => r = (-1161))) (XXc (fun _ => False)) 8 40 (fun _ => False) := by
  refine vx_ofWH (cc := cL_of) (maxL := 6) (ret := (some .int)) (hh := [(0, 49, 50, 41)]) (by decide) rfl ?_
  intro p e s m args below meth c s₁ B hml hv
  obtain ⟨rfl, hP, hE, hT, hN⟩ := hv
  have hx := B.exec
  have hb := B.bytes
  have hr := B.returns
  have hts := atoms_spec (ws := wsL_of) B.pre
  have hown : s.vm.findClass RL = some m.cls := findClass_of_methodNamed B.named
  have hlocks := B.notSynchronized
  have hl := lv_entry ([.ref x, .int (nI 3), .int a9, .int b9, .int c9]) (n := 6) (Nat.le_of_ble_eq_true rfl)
  rw [lg_entry_eq]
  generalize (lg_sl ([.ref x, .int (nI 3), .int a9, .int b9, .int c9]) ++ List.replicate (6 - (lg_sl ([.ref x, .int (nI 3), .int a9, .int b9, .int c9])).length) Slot.unset).toArray = ls at hl ⊢
  have hl : lv_has ls 6 [(0, .ref x), (1, .int (nI 3)), (2, .int a9), (3, .int b9), (4, .int c9)] := hl
  have htab := vx_table (x := yL_of) B (hts (.codeWith yL_of cL_of 6 (some .int) [(0, 49, 50, 41)]) List.mem_cons_self)
  have hK := hE.1
  refine lv_iload_n hx hb dL_of_0 rfl (lv_at hl 1 rfl) ?_
  refine lv_if_ne (tgt := 13) hx hb dL_of_1 (by decide) (fun _ => ?_) (fun h => absurd h (by decide))
  refine lv_iload_n hx hb dL_of_13 rfl (lv_at hl 1 rfl) ?_
  refine lv_iconst (v := nI 1) hx hb dL_of_14 (by decide) ?_
  refine lv_icmp_ne (tgt := 29) hx hb dL_of_15 (by decide) (fun _ => ?_) (fun h => absurd h (by decide))
  refine lv_iload_n hx hb dL_of_29 rfl (lv_at hl 1 rfl) ?_
  refine lv_iconst (v := nI 2) hx hb dL_of_30 (by decide) ?_
  refine lv_icmp_ne (tgt := 43) hx hb dL_of_31 (by decide) (fun _ => ?_) (fun h => absurd h (by decide))
  refine lv_aload_n hx hb dL_of_43 rfl (lv_at hl 0 rfl) ?_
  refine lv_iload_n hx hb dL_of_44 rfl (lv_at hl 2 rfl) ?_
  refine lv_iload_n hx hb dL_of_45 rfl (lv_at hl 3 rfl) ?_
  refine xcx (vx_runV (As := [.int a9, .int b9]) (rest := []) ⟨hx, hb, hml, hown, hts⟩ (c_X1_sizeAt l hst Ax x lv kp fL fK o ld b k FZ G hC a9 b9 hld hold) (cwV 2 hts gL_of_X1_sizeAt rfl rfl rfl (by decide +kernel) ⟨(Nat.le_of_ble_eq_true rfl), (Nat.le_of_ble_eq_true rfl)⟩) ⟨XPx_blind, va_recv hK hP (ci := 1) (q0 := 0) rfl rfl, XPx_pre hE hT hP⟩ rfl rfl hl.1 rfl (lv_room (Nat.le_of_ble_eq_true rfl)) dL_of_46 ⟨Nat.le_of_ble_eq_true rfl, Nat.le_of_ble_eq_true rfl⟩) (fun E9 ce9 q9 H1 hp9 hz9 hk9 hc9 hv9 hcl9 => ?_) (fun v9 hw9 => (by obtain ⟨d, j, h1, h2, h3, h4, h5, -⟩ := hw9; exact absurd ⟨d, j, h1, h2, h3, h4, h5⟩ h))
  obtain ⟨rfl, hp9⟩ := hp9
  refine vx_catch hown [] ⟨0, 49, 50, 41⟩ [] (by rw [htab]; rfl) (fun _ h => nomatch h) (by decide) (by decide) (hts (.classLink RL 41 nIO) (by decide +kernel)) (va_Nw.use rfl (hT.2.1 nIO (by decide))) hc9 hv9 hcl9 ?_
  refine W.eq (g2 := F0 m 50 ls [.ref q9]) rfl ?_
  refine lv_astore (lv' := [(5, .ref q9), (0, .ref x), (1, .int (nI 3)), (2, .int a9), (3, .int b9), (4, .int c9)]) hx hb dL_of_50 hl (by decide) rfl (fun ls hl => ?_)
  refine lv_sipush (v := (-1161)) hx hb dL_of_52 (by decide) ?_
  refine vx_ret ?_
  refine W.widen (k := 8) (n := 40) (Nat.le_of_ble_eq_true rfl) (Nat.le_of_ble_eq_true rfl) ?_
  exact W.iret hx hb hr (fun t9 ht9 hW9 => ⟨_, rfl, rfl, by rw [ht9]; exact hz9, by rw [ht9]; exact hk9⟩) (fun _ h => nomatch h) dL_of_55

set_option maxHeartbeats 4000000 in
set_option maxRecDepth 100000 in
theorem g_makeFile (l : Launch) (hst : l.stackTraces = false) {D : va_G} {cI cT cJ : ClassId} (Ax : Nat → Prop) (x lv kp : Nat) (fL fK : Nat → Option Nat) (o ld b k : Nat) (FZ : va_W) (G : Nat → Tv) (hC : CA cI FZ fL fK G) {j : Nat} (hj : j < 6)(b9 c9 : Int32) (sz : Nat) : vx_Met l yL_act wsL_act (rmD 9 8 40) (XPl D cI cT cJ Ax [.ref x, .int (nI 0), .int (nI j), .int b9, .int c9] (fun H => H.size = sz ∧ va_P D vwCl (CW cT x lv kp fL fK o ld b k FZ) H ∧ va_D (fun _ => True) (CW cT x lv kp fL fK o ld b k FZ))) (va_Qi (S := Sv) (fun r u => r = (G (246 + j)).1 ∧ u = (va_up G (246 + j) (nI 1, nI 0, 0, fun _ => 0), o, ld, b, k)) (fun u t => CB D cI cT x lv kp (va_A (CW cT x lv kp fL fK o ld b k FZ) sz) u t.heap) (va_A (CW cT x lv kp fL fK o ld b k FZ) sz)) (XXc (fun _ => False)) 8 40 (va_A (CW cT x lv kp fL fK o ld b k FZ) sz) := by
  refine vx_ofWH (cc := cL_act) (maxL := 6) (ret := (some .int)) (hh := [(0, 116, 117, 41), (0, 116, 123, 43), (0, 116, 129, 45)]) (by decide) rfl ?_
  intro p e s m args below meth c s₁ B hml hv
  obtain ⟨rfl, ⟨hsz, hP, hD0⟩, hE, hT, hN⟩ := hv
  have hx := B.exec
  have hb := B.bytes
  have hr := B.returns
  have hts := atoms_spec (ws := wsL_act) B.pre
  have hown : s.vm.findClass RL = some m.cls := findClass_of_methodNamed B.named
  have hlocks := B.notSynchronized
  have hl := lv_entry ([.ref x, .int (nI 0), .int (nI j), .int b9, .int c9]) (n := 6) (Nat.le_of_ble_eq_true rfl)
  rw [lg_entry_eq]
  generalize (lg_sl ([.ref x, .int (nI 0), .int (nI j), .int b9, .int c9]) ++ List.replicate (6 - (lg_sl ([.ref x, .int (nI 0), .int (nI j), .int b9, .int c9])).length) Slot.unset).toArray = ls at hl ⊢
  have hl : lv_has ls 6 [(0, .ref x), (1, .int (nI 0)), (2, .int (nI j)), (3, .int b9), (4, .int c9)] := hl
  have htab := vx_table (x := yL_act) B (hts (.codeWith yL_act cL_act 6 (some .int) [(0, 116, 117, 41), (0, 116, 123, 43), (0, 116, 129, 45)]) List.mem_cons_self)
  have hK := hE.1
  subst hsz
  refine lv_iload_n hx hb dL_act_0 rfl (lv_at hl 1 rfl) ?_
  refine lv_if_ne (tgt := 12) hx hb dL_act_1 (by decide) (fun h => absurd h (by decide)) (fun _ => ?_)
  refine lv_aload_n hx hb dL_act_4 rfl (lv_at hl 0 rfl) ?_
  refine lv_iload_n hx hb dL_act_5 rfl (lv_at hl 2 rfl) ?_
  refine xcw (vx_runV (As := [.int (nI j)]) (rest := []) ⟨hx, hb, hml, hown, hts⟩ (c_X1_makeFile l hst Ax x lv kp fL fK o ld b k FZ G hC (nI j) s.heap.size) (cwV 1 hts gL_act_X1_makeFile rfl rfl rfl (by decide +kernel) ⟨(Nat.le_of_ble_eq_true rfl), (Nat.le_of_ble_eq_true rfl)⟩) ⟨XPx_blind, va_recv hK hP (ci := 1) (q0 := 0) rfl rfl, XPx_pre hE hT ⟨rfl, hP, hD0⟩⟩ rfl rfl hl.1 rfl (lv_room (Nat.le_of_ble_eq_true rfl)) dL_act_6 ⟨Nat.le_of_ble_eq_true rfl, Nat.le_of_ble_eq_true rfl⟩) (va_S.rf (A := va_A (CW cT x lv kp fL fK o ld b k FZ) s.heap.size)) (fun q9 _ h => h) (fun q9 h => h) (fun E9 ce9 q9 H1 locs hp9 hz9 hk9 hS hc9 hv9 hcl9 => ?_) (fun r9 u t9 H1 locs ht9 hvm9 hw9 hB9 hzc hkc hS => ?_)
  · exact absurd hp9 (by rintro ⟨-, h9⟩; exact h9 ⟨j, hj, rfl⟩)
  · obtain ⟨j2, hj2, e, h8, h9⟩ := hw9; rw [← (xeq (by omega) (by omega)).mp e] at h8 h9
    have hB8 : CB D cI cT x lv kp (va_A (CW cT x lv kp fL fK o ld b k FZ) s.heap.size) u H1 := by rw [← ht9]; exact hB9
    refine lv_goto (tgt := 116) hx hb dL_act_9 (by decide) ?_
    refine vx_ret ?_
    refine W.widen (k := 8) (n := 40) (Nat.le_of_ble_eq_true rfl) (Nat.le_of_ble_eq_true rfl) ?_
    exact W.iret hx hb hr (fun t8 ht8 hW8 => ⟨⟨_, u, rfl, ⟨h8, h9⟩, by show CB D cI cT x lv kp (va_A (CW cT x lv kp fL fK o ld b k FZ) s.heap.size) u t8.heap; rw [ht8]; exact hB8⟩, hS.F ht8⟩) hS.2.2 dL_act_116

set_option maxHeartbeats 4000000 in
set_option maxRecDepth 100000 in
theorem g_makeLink (l : Launch) (hst : l.stackTraces = false) {D : va_G} {cI cT cJ : ClassId} (Ax : Nat → Prop) (x lv kp : Nat) (fL fK : Nat → Option Nat) (o ld b k : Nat) (FZ : va_W) (G : Nat → Tv) (hC : CA cI FZ fL fK G) {j t : Nat} (hj : j < 6) (ht : t < 6) (c9 : Int32) (sz : Nat) : vx_Met l yL_act wsL_act (rmD 9 8 40) (XPl D cI cT cJ Ax [.ref x, .int (nI 1), .int (nI j), .int (nI t), .int c9] (fun H => H.size = sz ∧ va_P D vwCl (CW cT x lv kp fL fK o ld b k FZ) H ∧ va_D (fun _ => True) (CW cT x lv kp fL fK o ld b k FZ))) (va_Qi (S := Sv) (fun r u => r = (G (246 + j)).1 ∧ u = (va_up G (246 + j) (nI 2, nI 0, 1, fun _ => nI t), o, ld, b, k)) (fun u t => CB D cI cT x lv kp (va_A (CW cT x lv kp fL fK o ld b k FZ) sz) u t.heap) (va_A (CW cT x lv kp fL fK o ld b k FZ) sz)) (XXc (fun _ => False)) 8 40 (va_A (CW cT x lv kp fL fK o ld b k FZ) sz) := by
  refine vx_ofWH (cc := cL_act) (maxL := 6) (ret := (some .int)) (hh := [(0, 116, 117, 41), (0, 116, 123, 43), (0, 116, 129, 45)]) (by decide) rfl ?_
  intro p e s m args below meth c s₁ B hml hv
  obtain ⟨rfl, ⟨hsz, hP, hD0⟩, hE, hT, hN⟩ := hv
  have hx := B.exec
  have hb := B.bytes
  have hr := B.returns
  have hts := atoms_spec (ws := wsL_act) B.pre
  have hown : s.vm.findClass RL = some m.cls := findClass_of_methodNamed B.named
  have hlocks := B.notSynchronized
  have hl := lv_entry ([.ref x, .int (nI 1), .int (nI j), .int (nI t), .int c9]) (n := 6) (Nat.le_of_ble_eq_true rfl)
  rw [lg_entry_eq]
  generalize (lg_sl ([.ref x, .int (nI 1), .int (nI j), .int (nI t), .int c9]) ++ List.replicate (6 - (lg_sl ([.ref x, .int (nI 1), .int (nI j), .int (nI t), .int c9])).length) Slot.unset).toArray = ls at hl ⊢
  have hl : lv_has ls 6 [(0, .ref x), (1, .int (nI 1)), (2, .int (nI j)), (3, .int (nI t)), (4, .int c9)] := hl
  have htab := vx_table (x := yL_act) B (hts (.codeWith yL_act cL_act 6 (some .int) [(0, 116, 117, 41), (0, 116, 123, 43), (0, 116, 129, 45)]) List.mem_cons_self)
  have hK := hE.1
  subst hsz
  refine lv_iload_n hx hb dL_act_0 rfl (lv_at hl 1 rfl) ?_
  refine lv_if_ne (tgt := 12) hx hb dL_act_1 (by decide) (fun _ => ?_) (fun h => absurd h (by decide))
  refine lv_iload_n hx hb dL_act_12 rfl (lv_at hl 1 rfl) ?_
  refine lv_iconst (v := nI 1) hx hb dL_act_13 (by decide) ?_
  refine lv_icmp_ne (tgt := 26) hx hb dL_act_14 (by decide) (fun h => absurd h (by decide)) (fun _ => ?_)
  refine lv_aload_n hx hb dL_act_17 rfl (lv_at hl 0 rfl) ?_
  refine lv_iload_n hx hb dL_act_18 rfl (lv_at hl 2 rfl) ?_
  refine lv_iload_n hx hb dL_act_19 rfl (lv_at hl 3 rfl) ?_
  refine xcw (vx_runV (As := [.int (nI j), .int (nI t)]) (rest := []) ⟨hx, hb, hml, hown, hts⟩ (c_X1_makeLink l hst Ax x lv kp fL fK o ld b k FZ G hC (nI j) (nI t) s.heap.size) (cwV 2 hts gL_act_X1_makeLink rfl rfl rfl (by decide +kernel) ⟨(Nat.le_of_ble_eq_true rfl), (Nat.le_of_ble_eq_true rfl)⟩) ⟨XPx_blind, va_recv hK hP (ci := 1) (q0 := 0) rfl rfl, XPx_pre hE hT ⟨rfl, hP, hD0⟩⟩ rfl rfl hl.1 rfl (lv_room (Nat.le_of_ble_eq_true rfl)) dL_act_20 ⟨Nat.le_of_ble_eq_true rfl, Nat.le_of_ble_eq_true rfl⟩) (va_S.rf (A := va_A (CW cT x lv kp fL fK o ld b k FZ) s.heap.size)) (fun q9 _ h => h) (fun q9 h => h) (fun E9 ce9 q9 H1 locs hp9 hz9 hk9 hS hc9 hv9 hcl9 => ?_) (fun r9 u t9 H1 locs ht9 hvm9 hw9 hB9 hzc hkc hS => ?_)
  · exact absurd hp9 (by rintro ⟨-, h9⟩; exact h9 ⟨⟨j, hj, rfl⟩, ⟨t, ht, rfl⟩⟩)
  · obtain ⟨j2, t2, hj2, ht2, e, e2, h8, h9⟩ := hw9; rw [← (xeq (by omega) (by omega)).mp e] at h8 h9; rw [← (xeq (by omega) (by omega)).mp e2] at h9
    have hB8 : CB D cI cT x lv kp (va_A (CW cT x lv kp fL fK o ld b k FZ) s.heap.size) u H1 := by rw [← ht9]; exact hB9
    refine lv_goto (tgt := 116) hx hb dL_act_23 (by decide) ?_
    refine vx_ret ?_
    refine W.widen (k := 8) (n := 40) (Nat.le_of_ble_eq_true rfl) (Nat.le_of_ble_eq_true rfl) ?_
    exact W.iret hx hb hr (fun t8 ht8 hW8 => ⟨⟨_, u, rfl, ⟨h8, h9⟩, by show CB D cI cT x lv kp (va_A (CW cT x lv kp fL fK o ld b k FZ) s.heap.size) u t8.heap; rw [ht8]; exact hB8⟩, hS.F ht8⟩) hS.2.2 dL_act_116

set_option maxHeartbeats 4000000 in
set_option maxRecDepth 100000 in
theorem g_remove (l : Launch) (hst : l.stackTraces = false) {D : va_G} {cI cT cJ : ClassId} (Ax : Nat → Prop) (x lv kp : Nat) (fL fK : Nat → Option Nat) (o ld b k : Nat) (FZ : va_W) (G : Nat → Tv) (hC : CA cI FZ fL fK G) {j : Nat} (hj : j < 6)(b9 c9 : Int32) (sz : Nat) : vx_Met l yL_act wsL_act (rmD 9 8 40) (XPl D cI cT cJ Ax [.ref x, .int (nI 2), .int (nI j), .int b9, .int c9] (fun H => H.size = sz ∧ va_P D vwCl (CW cT x lv kp fL fK o ld b k FZ) H ∧ va_D (fun _ => True) (CW cT x lv kp fL fK o ld b k FZ))) (va_Qi (S := Sv) (fun r u => r = (G (246 + j)).1 ∧ u = (va_up G (246 + j) (nI 0, nI 0, 0, fun _ => 0), o, ld, b, k)) (fun u t => CB D cI cT x lv kp (va_A (CW cT x lv kp fL fK o ld b k FZ) sz) u t.heap) (va_A (CW cT x lv kp fL fK o ld b k FZ) sz)) (XXc (fun _ => False)) 8 40 (va_A (CW cT x lv kp fL fK o ld b k FZ) sz) := by
  refine vx_ofWH (cc := cL_act) (maxL := 6) (ret := (some .int)) (hh := [(0, 116, 117, 41), (0, 116, 123, 43), (0, 116, 129, 45)]) (by decide) rfl ?_
  intro p e s m args below meth c s₁ B hml hv
  obtain ⟨rfl, ⟨hsz, hP, hD0⟩, hE, hT, hN⟩ := hv
  have hx := B.exec
  have hb := B.bytes
  have hr := B.returns
  have hts := atoms_spec (ws := wsL_act) B.pre
  have hown : s.vm.findClass RL = some m.cls := findClass_of_methodNamed B.named
  have hlocks := B.notSynchronized
  have hl := lv_entry ([.ref x, .int (nI 2), .int (nI j), .int b9, .int c9]) (n := 6) (Nat.le_of_ble_eq_true rfl)
  rw [lg_entry_eq]
  generalize (lg_sl ([.ref x, .int (nI 2), .int (nI j), .int b9, .int c9]) ++ List.replicate (6 - (lg_sl ([.ref x, .int (nI 2), .int (nI j), .int b9, .int c9])).length) Slot.unset).toArray = ls at hl ⊢
  have hl : lv_has ls 6 [(0, .ref x), (1, .int (nI 2)), (2, .int (nI j)), (3, .int b9), (4, .int c9)] := hl
  have htab := vx_table (x := yL_act) B (hts (.codeWith yL_act cL_act 6 (some .int) [(0, 116, 117, 41), (0, 116, 123, 43), (0, 116, 129, 45)]) List.mem_cons_self)
  have hK := hE.1
  subst hsz
  refine lv_iload_n hx hb dL_act_0 rfl (lv_at hl 1 rfl) ?_
  refine lv_if_ne (tgt := 12) hx hb dL_act_1 (by decide) (fun _ => ?_) (fun h => absurd h (by decide))
  refine lv_iload_n hx hb dL_act_12 rfl (lv_at hl 1 rfl) ?_
  refine lv_iconst (v := nI 1) hx hb dL_act_13 (by decide) ?_
  refine lv_icmp_ne (tgt := 26) hx hb dL_act_14 (by decide) (fun _ => ?_) (fun h => absurd h (by decide))
  refine lv_iload_n hx hb dL_act_26 rfl (lv_at hl 1 rfl) ?_
  refine lv_iconst (v := nI 2) hx hb dL_act_27 (by decide) ?_
  refine lv_icmp_ne (tgt := 39) hx hb dL_act_28 (by decide) (fun h => absurd h (by decide)) (fun _ => ?_)
  refine lv_aload_n hx hb dL_act_31 rfl (lv_at hl 0 rfl) ?_
  refine lv_iload_n hx hb dL_act_32 rfl (lv_at hl 2 rfl) ?_
  refine xcw (vx_runV (As := [.int (nI j)]) (rest := []) ⟨hx, hb, hml, hown, hts⟩ (c_X1_remove l hst Ax x lv kp fL fK o ld b k FZ G hC (nI j) s.heap.size) (cwV 1 hts gL_act_X1_remove rfl rfl rfl (by decide +kernel) ⟨(Nat.le_of_ble_eq_true rfl), (Nat.le_of_ble_eq_true rfl)⟩) ⟨XPx_blind, va_recv hK hP (ci := 1) (q0 := 0) rfl rfl, XPx_pre hE hT ⟨rfl, hP, hD0⟩⟩ rfl rfl hl.1 rfl (lv_room (Nat.le_of_ble_eq_true rfl)) dL_act_33 ⟨Nat.le_of_ble_eq_true rfl, Nat.le_of_ble_eq_true rfl⟩) (va_S.rf (A := va_A (CW cT x lv kp fL fK o ld b k FZ) s.heap.size)) (fun q9 _ h => h) (fun q9 h => h) (fun E9 ce9 q9 H1 locs hp9 hz9 hk9 hS hc9 hv9 hcl9 => ?_) (fun r9 u t9 H1 locs ht9 hvm9 hw9 hB9 hzc hkc hS => ?_)
  · exact absurd hp9 (by rintro ⟨-, h9⟩; exact h9 ⟨j, hj, rfl⟩)
  · obtain ⟨j2, hj2, e, h8, h9⟩ := hw9; rw [← (xeq (by omega) (by omega)).mp e] at h8 h9
    have hB8 : CB D cI cT x lv kp (va_A (CW cT x lv kp fL fK o ld b k FZ) s.heap.size) u H1 := by rw [← ht9]; exact hB9
    refine lv_goto (tgt := 116) hx hb dL_act_36 (by decide) ?_
    refine vx_ret ?_
    refine W.widen (k := 8) (n := 40) (Nat.le_of_ble_eq_true rfl) (Nat.le_of_ble_eq_true rfl) ?_
    exact W.iret hx hb hr (fun t8 ht8 hW8 => ⟨⟨_, u, rfl, ⟨h8, h9⟩, by show CB D cI cT x lv kp (va_A (CW cT x lv kp fL fK o ld b k FZ) s.heap.size) u t8.heap; rw [ht8]; exact hB8⟩, hS.F ht8⟩) hS.2.2 dL_act_116

set_option maxHeartbeats 4000000 in
set_option maxRecDepth 100000 in
theorem g_put (l : Launch) (hst : l.stackTraces = false) {D : va_G} {cI cT cJ : ClassId} (Ax : Nat → Prop) (x lv kp : Nat) (fL fK : Nat → Option Nat) (o ld b k : Nat) (FZ : va_W) (G : Nat → Tv) (hC : CA cI FZ fL fK G) {j sp y : Nat} (hj : j < 6) (h : PutK (G (246 + j))) (hs : sp ≤ (G (246 + j)).2.2.1) (hy : y ≤ 9) (sz : Nat) : vx_Met l yL_act wsL_act (rmD 9 8 40) (XPl D cI cT cJ Ax [.ref x, .int (nI 3), .int (nI j), .int (nI sp), .int (nI y)] (fun H => H.size = sz ∧ va_P D vwCl (CW cT x lv kp fL fK o ld b k FZ) H ∧ va_D (fun _ => True) (CW cT x lv kp fL fK o ld b k FZ))) (va_Qi (S := Sv) (fun r u => r = nI ((G (246 + j)).2.2.1 + 1) ∧ u = (va_up G (246 + j) (nI 1, (G (246 + j)).2.1, (G (246 + j)).2.2.1 + 1, insR (G (246 + j)).2.2.2 sp (nI y)), o, ld, b, k)) (fun u t => CB D cI cT x lv kp (va_A (CW cT x lv kp fL fK o ld b k FZ) sz) u t.heap) (va_A (CW cT x lv kp fL fK o ld b k FZ) sz)) (XXc (fun _ => False)) 8 40 (va_A (CW cT x lv kp fL fK o ld b k FZ) sz) := by
  refine vx_ofWH (cc := cL_act) (maxL := 6) (ret := (some .int)) (hh := [(0, 116, 117, 41), (0, 116, 123, 43), (0, 116, 129, 45)]) (by decide) rfl ?_
  intro p e s m args below meth c s₁ B hml hv
  obtain ⟨rfl, ⟨hsz, hP, hD0⟩, hE, hT, hN⟩ := hv
  have hx := B.exec
  have hb := B.bytes
  have hr := B.returns
  have hts := atoms_spec (ws := wsL_act) B.pre
  have hown : s.vm.findClass RL = some m.cls := findClass_of_methodNamed B.named
  have hlocks := B.notSynchronized
  have hl := lv_entry ([.ref x, .int (nI 3), .int (nI j), .int (nI sp), .int (nI y)]) (n := 6) (Nat.le_of_ble_eq_true rfl)
  rw [lg_entry_eq]
  generalize (lg_sl ([.ref x, .int (nI 3), .int (nI j), .int (nI sp), .int (nI y)]) ++ List.replicate (6 - (lg_sl ([.ref x, .int (nI 3), .int (nI j), .int (nI sp), .int (nI y)])).length) Slot.unset).toArray = ls at hl ⊢
  have hl : lv_has ls 6 [(0, .ref x), (1, .int (nI 3)), (2, .int (nI j)), (3, .int (nI sp)), (4, .int (nI y))] := hl
  have htab := vx_table (x := yL_act) B (hts (.codeWith yL_act cL_act 6 (some .int) [(0, 116, 117, 41), (0, 116, 123, 43), (0, 116, 129, 45)]) List.mem_cons_self)
  have hK := hE.1
  subst hsz
  refine lv_iload_n hx hb dL_act_0 rfl (lv_at hl 1 rfl) ?_
  refine lv_if_ne (tgt := 12) hx hb dL_act_1 (by decide) (fun _ => ?_) (fun h => absurd h (by decide))
  refine lv_iload_n hx hb dL_act_12 rfl (lv_at hl 1 rfl) ?_
  refine lv_iconst (v := nI 1) hx hb dL_act_13 (by decide) ?_
  refine lv_icmp_ne (tgt := 26) hx hb dL_act_14 (by decide) (fun _ => ?_) (fun h => absurd h (by decide))
  refine lv_iload_n hx hb dL_act_26 rfl (lv_at hl 1 rfl) ?_
  refine lv_iconst (v := nI 2) hx hb dL_act_27 (by decide) ?_
  refine lv_icmp_ne (tgt := 39) hx hb dL_act_28 (by decide) (fun _ => ?_) (fun h => absurd h (by decide))
  refine lv_iload_n hx hb dL_act_39 rfl (lv_at hl 1 rfl) ?_
  refine lv_iconst (v := nI 3) hx hb dL_act_40 (by decide) ?_
  refine lv_icmp_ne (tgt := 55) hx hb dL_act_41 (by decide) (fun h => absurd h (by decide)) (fun _ => ?_)
  refine lv_aload_n hx hb dL_act_44 rfl (lv_at hl 0 rfl) ?_
  refine lv_iload_n hx hb dL_act_45 rfl (lv_at hl 2 rfl) ?_
  refine lv_iload_n hx hb dL_act_46 rfl (lv_at hl 3 rfl) ?_
  refine lv_iload hx hb dL_act_47 (lv_at hl 4 rfl) ?_
  refine xcw (vx_runV (As := [.int (nI j), .int (nI sp), .int (nI y)]) (rest := []) ⟨hx, hb, hml, hown, hts⟩ (c_X1_put l hst Ax x lv kp fL fK o ld b k FZ G hC (nI j) (nI sp) (nI y) s.heap.size) (cwV 3 hts gL_act_X1_put rfl rfl rfl (by decide +kernel) ⟨(Nat.le_of_ble_eq_true rfl), (Nat.le_of_ble_eq_true rfl)⟩) ⟨XPx_blind, va_recv hK hP (ci := 1) (q0 := 0) rfl rfl, XPx_pre hE hT ⟨rfl, hP, hD0⟩⟩ rfl rfl hl.1 rfl (lv_room (Nat.le_of_ble_eq_true rfl)) dL_act_49 ⟨Nat.le_of_ble_eq_true rfl, Nat.le_of_ble_eq_true rfl⟩) (va_S.rf (A := va_A (CW cT x lv kp fL fK o ld b k FZ) s.heap.size)) (fun q9 _ h => h) (fun q9 h => h) (fun E9 ce9 q9 H1 locs hp9 hz9 hk9 hS hc9 hv9 hcl9 => ?_) (fun r9 u t9 H1 locs ht9 hvm9 hw9 hB9 hzc hkc hS => ?_)
  · exact absurd hp9 (by rintro (⟨-, h9⟩ | ⟨-, j2, hj2, e, h9⟩ | ⟨-, j2, hj2, e, h8, h9⟩); exact h9 ⟨j, hj, rfl⟩; rw [← (xeq (by omega) (by omega)).mp e] at h9; exact h9 h; rw [← (xeq (by omega) (by omega)).mp e] at h9; exact h9 ⟨sp, y, hs, rfl, hy, rfl⟩)
  · obtain ⟨j2, sp2, y2, hj2, e, h5, hs2, e2, hy2, e3, h8, h9⟩ := hw9; rw [← (xeq (by omega) (by omega)).mp e] at h5 hs2 h8 h9; have hlen := CA.len hC (i := 246 + j) (by omega); rw [← (xeq (by omega) (by omega)).mp e2, ← (xeq (by omega) (by omega)).mp e3] at h9
    have hB8 : CB D cI cT x lv kp (va_A (CW cT x lv kp fL fK o ld b k FZ) s.heap.size) u H1 := by rw [← ht9]; exact hB9
    refine lv_goto (tgt := 116) hx hb dL_act_52 (by decide) ?_
    refine vx_ret ?_
    refine W.widen (k := 8) (n := 40) (Nat.le_of_ble_eq_true rfl) (Nat.le_of_ble_eq_true rfl) ?_
    exact W.iret hx hb hr (fun t8 ht8 hW8 => ⟨⟨_, u, rfl, ⟨h8, h9⟩, by show CB D cI cT x lv kp (va_A (CW cT x lv kp fL fK o ld b k FZ) s.heap.size) u t8.heap; rw [ht8]; exact hB8⟩, hS.F ht8⟩) hS.2.2 dL_act_116

set_option maxHeartbeats 4000000 in
set_option maxRecDepth 100000 in
theorem g_take (l : Launch) (hst : l.stackTraces = false) {D : va_G} {cI cT cJ : ClassId} (Ax : Nat → Prop) (x lv kp : Nat) (fL fK : Nat → Option Nat) (o ld b k : Nat) (FZ : va_W) (G : Nat → Tv) (hC : CA cI FZ fL fK G) {j sp : Nat} (hj : j < 6) (h : (G (246 + j)).1 = nI 1) (hs : sp < (G (246 + j)).2.2.1) (c9 : Int32) (sz : Nat) : vx_Met l yL_act wsL_act (rmD 9 8 40) (XPl D cI cT cJ Ax [.ref x, .int (nI 4), .int (nI j), .int (nI sp), .int c9] (fun H => H.size = sz ∧ va_P D vwCl (CW cT x lv kp fL fK o ld b k FZ) H ∧ va_D (fun _ => True) (CW cT x lv kp fL fK o ld b k FZ))) (va_Qi (S := Sv) (fun r u => r = (G (246 + j)).2.2.2 sp ∧ u = (va_up G (246 + j) (nI 1, (G (246 + j)).2.1, (G (246 + j)).2.2.1 - 1, delR (G (246 + j)).2.2.2 sp), o, ld, b, k)) (fun u t => CB D cI cT x lv kp (va_A (CW cT x lv kp fL fK o ld b k FZ) sz) u t.heap) (va_A (CW cT x lv kp fL fK o ld b k FZ) sz)) (XXc (fun _ => False)) 8 40 (va_A (CW cT x lv kp fL fK o ld b k FZ) sz) := by
  refine vx_ofWH (cc := cL_act) (maxL := 6) (ret := (some .int)) (hh := [(0, 116, 117, 41), (0, 116, 123, 43), (0, 116, 129, 45)]) (by decide) rfl ?_
  intro p e s m args below meth c s₁ B hml hv
  obtain ⟨rfl, ⟨hsz, hP, hD0⟩, hE, hT, hN⟩ := hv
  have hx := B.exec
  have hb := B.bytes
  have hr := B.returns
  have hts := atoms_spec (ws := wsL_act) B.pre
  have hown : s.vm.findClass RL = some m.cls := findClass_of_methodNamed B.named
  have hlocks := B.notSynchronized
  have hl := lv_entry ([.ref x, .int (nI 4), .int (nI j), .int (nI sp), .int c9]) (n := 6) (Nat.le_of_ble_eq_true rfl)
  rw [lg_entry_eq]
  generalize (lg_sl ([.ref x, .int (nI 4), .int (nI j), .int (nI sp), .int c9]) ++ List.replicate (6 - (lg_sl ([.ref x, .int (nI 4), .int (nI j), .int (nI sp), .int c9])).length) Slot.unset).toArray = ls at hl ⊢
  have hl : lv_has ls 6 [(0, .ref x), (1, .int (nI 4)), (2, .int (nI j)), (3, .int (nI sp)), (4, .int c9)] := hl
  have htab := vx_table (x := yL_act) B (hts (.codeWith yL_act cL_act 6 (some .int) [(0, 116, 117, 41), (0, 116, 123, 43), (0, 116, 129, 45)]) List.mem_cons_self)
  have hK := hE.1
  subst hsz
  refine lv_iload_n hx hb dL_act_0 rfl (lv_at hl 1 rfl) ?_
  refine lv_if_ne (tgt := 12) hx hb dL_act_1 (by decide) (fun _ => ?_) (fun h => absurd h (by decide))
  refine lv_iload_n hx hb dL_act_12 rfl (lv_at hl 1 rfl) ?_
  refine lv_iconst (v := nI 1) hx hb dL_act_13 (by decide) ?_
  refine lv_icmp_ne (tgt := 26) hx hb dL_act_14 (by decide) (fun _ => ?_) (fun h => absurd h (by decide))
  refine lv_iload_n hx hb dL_act_26 rfl (lv_at hl 1 rfl) ?_
  refine lv_iconst (v := nI 2) hx hb dL_act_27 (by decide) ?_
  refine lv_icmp_ne (tgt := 39) hx hb dL_act_28 (by decide) (fun _ => ?_) (fun h => absurd h (by decide))
  refine lv_iload_n hx hb dL_act_39 rfl (lv_at hl 1 rfl) ?_
  refine lv_iconst (v := nI 3) hx hb dL_act_40 (by decide) ?_
  refine lv_icmp_ne (tgt := 55) hx hb dL_act_41 (by decide) (fun _ => ?_) (fun h => absurd h (by decide))
  refine lv_iload_n hx hb dL_act_55 rfl (lv_at hl 1 rfl) ?_
  refine lv_iconst (v := nI 4) hx hb dL_act_56 (by decide) ?_
  refine lv_icmp_ne (tgt := 69) hx hb dL_act_57 (by decide) (fun h => absurd h (by decide)) (fun _ => ?_)
  refine lv_aload_n hx hb dL_act_60 rfl (lv_at hl 0 rfl) ?_
  refine lv_iload_n hx hb dL_act_61 rfl (lv_at hl 2 rfl) ?_
  refine lv_iload_n hx hb dL_act_62 rfl (lv_at hl 3 rfl) ?_
  refine xcw (vx_runV (As := [.int (nI j), .int (nI sp)]) (rest := []) ⟨hx, hb, hml, hown, hts⟩ (c_X1_take l hst Ax x lv kp fL fK o ld b k FZ G hC (nI j) (nI sp) s.heap.size) (cwV 2 hts gL_act_X1_take rfl rfl rfl (by decide +kernel) ⟨(Nat.le_of_ble_eq_true rfl), (Nat.le_of_ble_eq_true rfl)⟩) ⟨XPx_blind, va_recv hK hP (ci := 1) (q0 := 0) rfl rfl, XPx_pre hE hT ⟨rfl, hP, hD0⟩⟩ rfl rfl hl.1 rfl (lv_room (Nat.le_of_ble_eq_true rfl)) dL_act_63 ⟨Nat.le_of_ble_eq_true rfl, Nat.le_of_ble_eq_true rfl⟩) (va_S.rf (A := va_A (CW cT x lv kp fL fK o ld b k FZ) s.heap.size)) (fun q9 _ h => h) (fun q9 h => h) (fun E9 ce9 q9 H1 locs hp9 hz9 hk9 hS hc9 hv9 hcl9 => ?_) (fun r9 u t9 H1 locs ht9 hvm9 hw9 hB9 hzc hkc hS => ?_)
  · exact absurd hp9 (by rintro (⟨-, h9⟩ | ⟨-, j2, hj2, e, h9⟩ | ⟨-, j2, hj2, e, h8, h9⟩); exact h9 ⟨j, hj, rfl⟩; rw [← (xeq (by omega) (by omega)).mp e] at h9; exact h9 h; rw [← (xeq (by omega) (by omega)).mp e] at h9; exact h9 ⟨sp, hs, rfl⟩)
  · obtain ⟨j2, sp2, hj2, e, h5, hs2, e2, h8, h9⟩ := hw9; rw [← (xeq (by omega) (by omega)).mp e] at h5 hs2 h8 h9; have hlen := CA.len hC (i := 246 + j) (by omega); rw [← (xeq (by omega) (by omega)).mp e2] at h8 h9
    have hB8 : CB D cI cT x lv kp (va_A (CW cT x lv kp fL fK o ld b k FZ) s.heap.size) u H1 := by rw [← ht9]; exact hB9
    refine lv_goto (tgt := 116) hx hb dL_act_66 (by decide) ?_
    refine vx_ret ?_
    refine W.widen (k := 8) (n := 40) (Nat.le_of_ble_eq_true rfl) (Nat.le_of_ble_eq_true rfl) ?_
    exact W.iret hx hb hr (fun t8 ht8 hW8 => ⟨⟨_, u, rfl, ⟨h8, h9⟩, by show CB D cI cT x lv kp (va_A (CW cT x lv kp fL fK o ld b k FZ) s.heap.size) u t8.heap; rw [ht8]; exact hB8⟩, hS.F ht8⟩) hS.2.2 dL_act_116

set_option maxHeartbeats 4000000 in
set_option maxRecDepth 100000 in
theorem g_setRights (l : Launch) (hst : l.stackTraces = false) {D : va_G} {cI cT cJ : ClassId} (Ax : Nat → Prop) (x lv kp : Nat) (fL fK : Nat → Option Nat) (o ld b k : Nat) (FZ : va_W) (G : Nat → Tv) (hC : CA cI FZ fL fK G) {j y : Nat} (hj : j < 6) (h : ¬ (G (246 + j)).1 = nI 0) (hy : y ≤ 7) (c9 : Int32) (sz : Nat) : vx_Met l yL_act wsL_act (rmD 9 8 40) (XPl D cI cT cJ Ax [.ref x, .int (nI 5), .int (nI j), .int (nI y), .int c9] (fun H => H.size = sz ∧ va_P D vwCl (CW cT x lv kp fL fK o ld b k FZ) H ∧ va_D (fun _ => True) (CW cT x lv kp fL fK o ld b k FZ))) (va_Qi (S := Sv) (fun r u => r = (G (246 + j)).2.1 ∧ u = (va_up G (246 + j) ((G (246 + j)).1, nI y, (G (246 + j)).2.2.1, (G (246 + j)).2.2.2), o, ld, b, k)) (fun u t => CB D cI cT x lv kp (va_A (CW cT x lv kp fL fK o ld b k FZ) sz) u t.heap) (va_A (CW cT x lv kp fL fK o ld b k FZ) sz)) (XXc (fun _ => False)) 8 40 (va_A (CW cT x lv kp fL fK o ld b k FZ) sz) := by
  refine vx_ofWH (cc := cL_act) (maxL := 6) (ret := (some .int)) (hh := [(0, 116, 117, 41), (0, 116, 123, 43), (0, 116, 129, 45)]) (by decide) rfl ?_
  intro p e s m args below meth c s₁ B hml hv
  obtain ⟨rfl, ⟨hsz, hP, hD0⟩, hE, hT, hN⟩ := hv
  have hx := B.exec
  have hb := B.bytes
  have hr := B.returns
  have hts := atoms_spec (ws := wsL_act) B.pre
  have hown : s.vm.findClass RL = some m.cls := findClass_of_methodNamed B.named
  have hlocks := B.notSynchronized
  have hl := lv_entry ([.ref x, .int (nI 5), .int (nI j), .int (nI y), .int c9]) (n := 6) (Nat.le_of_ble_eq_true rfl)
  rw [lg_entry_eq]
  generalize (lg_sl ([.ref x, .int (nI 5), .int (nI j), .int (nI y), .int c9]) ++ List.replicate (6 - (lg_sl ([.ref x, .int (nI 5), .int (nI j), .int (nI y), .int c9])).length) Slot.unset).toArray = ls at hl ⊢
  have hl : lv_has ls 6 [(0, .ref x), (1, .int (nI 5)), (2, .int (nI j)), (3, .int (nI y)), (4, .int c9)] := hl
  have htab := vx_table (x := yL_act) B (hts (.codeWith yL_act cL_act 6 (some .int) [(0, 116, 117, 41), (0, 116, 123, 43), (0, 116, 129, 45)]) List.mem_cons_self)
  have hK := hE.1
  subst hsz
  refine lv_iload_n hx hb dL_act_0 rfl (lv_at hl 1 rfl) ?_
  refine lv_if_ne (tgt := 12) hx hb dL_act_1 (by decide) (fun _ => ?_) (fun h => absurd h (by decide))
  refine lv_iload_n hx hb dL_act_12 rfl (lv_at hl 1 rfl) ?_
  refine lv_iconst (v := nI 1) hx hb dL_act_13 (by decide) ?_
  refine lv_icmp_ne (tgt := 26) hx hb dL_act_14 (by decide) (fun _ => ?_) (fun h => absurd h (by decide))
  refine lv_iload_n hx hb dL_act_26 rfl (lv_at hl 1 rfl) ?_
  refine lv_iconst (v := nI 2) hx hb dL_act_27 (by decide) ?_
  refine lv_icmp_ne (tgt := 39) hx hb dL_act_28 (by decide) (fun _ => ?_) (fun h => absurd h (by decide))
  refine lv_iload_n hx hb dL_act_39 rfl (lv_at hl 1 rfl) ?_
  refine lv_iconst (v := nI 3) hx hb dL_act_40 (by decide) ?_
  refine lv_icmp_ne (tgt := 55) hx hb dL_act_41 (by decide) (fun _ => ?_) (fun h => absurd h (by decide))
  refine lv_iload_n hx hb dL_act_55 rfl (lv_at hl 1 rfl) ?_
  refine lv_iconst (v := nI 4) hx hb dL_act_56 (by decide) ?_
  refine lv_icmp_ne (tgt := 69) hx hb dL_act_57 (by decide) (fun _ => ?_) (fun h => absurd h (by decide))
  refine lv_iload_n hx hb dL_act_69 rfl (lv_at hl 1 rfl) ?_
  refine lv_iconst (v := nI 5) hx hb dL_act_70 (by decide) ?_
  refine lv_icmp_ne (tgt := 83) hx hb dL_act_71 (by decide) (fun h => absurd h (by decide)) (fun _ => ?_)
  refine lv_aload_n hx hb dL_act_74 rfl (lv_at hl 0 rfl) ?_
  refine lv_iload_n hx hb dL_act_75 rfl (lv_at hl 2 rfl) ?_
  refine lv_iload_n hx hb dL_act_76 rfl (lv_at hl 3 rfl) ?_
  refine xcw (vx_runV (As := [.int (nI j), .int (nI y)]) (rest := []) ⟨hx, hb, hml, hown, hts⟩ (c_X1_setRights l hst Ax x lv kp fL fK o ld b k FZ G hC (nI j) (nI y) s.heap.size) (cwV 2 hts gL_act_X1_setRights rfl rfl rfl (by decide +kernel) ⟨(Nat.le_of_ble_eq_true rfl), (Nat.le_of_ble_eq_true rfl)⟩) ⟨XPx_blind, va_recv hK hP (ci := 1) (q0 := 0) rfl rfl, XPx_pre hE hT ⟨rfl, hP, hD0⟩⟩ rfl rfl hl.1 rfl (lv_room (Nat.le_of_ble_eq_true rfl)) dL_act_77 ⟨Nat.le_of_ble_eq_true rfl, Nat.le_of_ble_eq_true rfl⟩) (va_S.rf (A := va_A (CW cT x lv kp fL fK o ld b k FZ) s.heap.size)) (fun q9 _ h => h) (fun q9 h => h) (fun E9 ce9 q9 H1 locs hp9 hz9 hk9 hS hc9 hv9 hcl9 => ?_) (fun r9 u t9 H1 locs ht9 hvm9 hw9 hB9 hzc hkc hS => ?_)
  · exact absurd hp9 (by rintro (⟨-, h9⟩ | ⟨-, j2, hj2, e, h9⟩ | ⟨-, j2, hj2, e, h8, h9⟩); exact h9 ⟨j, hj, rfl⟩; rw [← (xeq (by omega) (by omega)).mp e] at h9; exact h h9; exact h9 ⟨y, hy, rfl⟩)
  · obtain ⟨j2, y2, hj2, e, h5, hy2, e2, h8, h9⟩ := hw9; rw [← (xeq (by omega) (by omega)).mp e] at h5 h8 h9; rw [← (xeq (by omega) (by omega)).mp e2] at h9
    have hB8 : CB D cI cT x lv kp (va_A (CW cT x lv kp fL fK o ld b k FZ) s.heap.size) u H1 := by rw [← ht9]; exact hB9
    refine lv_goto (tgt := 116) hx hb dL_act_80 (by decide) ?_
    refine vx_ret ?_
    refine W.widen (k := 8) (n := 40) (Nat.le_of_ble_eq_true rfl) (Nat.le_of_ble_eq_true rfl) ?_
    exact W.iret hx hb hr (fun t8 ht8 hW8 => ⟨⟨_, u, rfl, ⟨h8, h9⟩, by show CB D cI cT x lv kp (va_A (CW cT x lv kp fL fK o ld b k FZ) s.heap.size) u t8.heap; rw [ht8]; exact hB8⟩, hS.F ht8⟩) hS.2.2 dL_act_116

set_option maxHeartbeats 4000000 in
set_option maxRecDepth 100000 in
theorem g_run_w (l : Launch) (hst : l.stackTraces = false) {D : va_G} {cI cT cJ : ClassId} (Ax : Nat → Prop) (x lv kp : Nat) (fL fK : Nat → Option Nat) (o ld b k : Nat) (FZ : va_W) (G : Nat → Tv) (hC : CA cI FZ fL fK G) {s9 : Nat} (hs : s9 ≤ 6) (h : ld < 40) (hn : dfN G ld 6 ≤ s9) (b9 c9 : Int32) (sz : Nat) : vx_Met l yL_act wsL_act (rmD 9 8 40) (XPl D cI cT cJ Ax [.ref x, .int (nI 6), .int (nI s9), .int b9, .int c9] (fun H => H.size = sz ∧ va_P D vwCl (CW cT x lv kp fL fK o ld b k FZ) H ∧ va_D (fun _ => True) (CW cT x lv kp fL fK o ld b k FZ))) (va_Qi (S := Sv) (fun r u => r = nI (ld + 1) ∧ u = (cpD G (ld + 1) 6, o, ld + 1, 0, 0)) (fun u t => CB D cI cT x lv kp (va_A (CW cT x lv kp fL fK o ld b k FZ) sz) u t.heap) (va_A (CW cT x lv kp fL fK o ld b k FZ) sz)) (XXc (fun _ => False)) 8 40 (va_A (CW cT x lv kp fL fK o ld b k FZ) sz) := by
  refine vx_ofWH (cc := cL_act) (maxL := 6) (ret := (some .int)) (hh := [(0, 116, 117, 41), (0, 116, 123, 43), (0, 116, 129, 45)]) (by decide) rfl ?_
  intro p e s m args below meth c s₁ B hml hv
  obtain ⟨rfl, ⟨hsz, hP, hD0⟩, hE, hT, hN⟩ := hv
  have hx := B.exec
  have hb := B.bytes
  have hr := B.returns
  have hts := atoms_spec (ws := wsL_act) B.pre
  have hown : s.vm.findClass RL = some m.cls := findClass_of_methodNamed B.named
  have hlocks := B.notSynchronized
  have hl := lv_entry ([.ref x, .int (nI 6), .int (nI s9), .int b9, .int c9]) (n := 6) (Nat.le_of_ble_eq_true rfl)
  rw [lg_entry_eq]
  generalize (lg_sl ([.ref x, .int (nI 6), .int (nI s9), .int b9, .int c9]) ++ List.replicate (6 - (lg_sl ([.ref x, .int (nI 6), .int (nI s9), .int b9, .int c9])).length) Slot.unset).toArray = ls at hl ⊢
  have hl : lv_has ls 6 [(0, .ref x), (1, .int (nI 6)), (2, .int (nI s9)), (3, .int b9), (4, .int c9)] := hl
  have htab := vx_table (x := yL_act) B (hts (.codeWith yL_act cL_act 6 (some .int) [(0, 116, 117, 41), (0, 116, 123, 43), (0, 116, 129, 45)]) List.mem_cons_self)
  have hK := hE.1
  subst hsz
  refine lv_iload_n hx hb dL_act_0 rfl (lv_at hl 1 rfl) ?_
  refine lv_if_ne (tgt := 12) hx hb dL_act_1 (by decide) (fun _ => ?_) (fun h => absurd h (by decide))
  refine lv_iload_n hx hb dL_act_12 rfl (lv_at hl 1 rfl) ?_
  refine lv_iconst (v := nI 1) hx hb dL_act_13 (by decide) ?_
  refine lv_icmp_ne (tgt := 26) hx hb dL_act_14 (by decide) (fun _ => ?_) (fun h => absurd h (by decide))
  refine lv_iload_n hx hb dL_act_26 rfl (lv_at hl 1 rfl) ?_
  refine lv_iconst (v := nI 2) hx hb dL_act_27 (by decide) ?_
  refine lv_icmp_ne (tgt := 39) hx hb dL_act_28 (by decide) (fun _ => ?_) (fun h => absurd h (by decide))
  refine lv_iload_n hx hb dL_act_39 rfl (lv_at hl 1 rfl) ?_
  refine lv_iconst (v := nI 3) hx hb dL_act_40 (by decide) ?_
  refine lv_icmp_ne (tgt := 55) hx hb dL_act_41 (by decide) (fun _ => ?_) (fun h => absurd h (by decide))
  refine lv_iload_n hx hb dL_act_55 rfl (lv_at hl 1 rfl) ?_
  refine lv_iconst (v := nI 4) hx hb dL_act_56 (by decide) ?_
  refine lv_icmp_ne (tgt := 69) hx hb dL_act_57 (by decide) (fun _ => ?_) (fun h => absurd h (by decide))
  refine lv_iload_n hx hb dL_act_69 rfl (lv_at hl 1 rfl) ?_
  refine lv_iconst (v := nI 5) hx hb dL_act_70 (by decide) ?_
  refine lv_icmp_ne (tgt := 83) hx hb dL_act_71 (by decide) (fun _ => ?_) (fun h => absurd h (by decide))
  refine lv_iload_n hx hb dL_act_83 rfl (lv_at hl 1 rfl) ?_
  refine lv_bipush (v := nI 6) hx hb dL_act_84 (by decide) ?_
  refine lv_icmp_ne (tgt := 97) hx hb dL_act_86 (by decide) (fun h => absurd h (by decide)) (fun _ => ?_)
  refine lv_aload_n hx hb dL_act_89 rfl (lv_at hl 0 rfl) ?_
  refine lv_iload_n hx hb dL_act_90 rfl (lv_at hl 2 rfl) ?_
  refine xcw (vx_runV (As := [.int (nI s9)]) (rest := []) ⟨hx, hb, hml, hown, hts⟩ (c_X1_run l hst Ax x lv kp fL fK o ld b k FZ G hC (nI s9) (by omega) s.heap.size) (cwV 1 hts gL_act_X1_run rfl rfl rfl (by decide +kernel) ⟨(Nat.le_of_ble_eq_true rfl), (Nat.le_of_ble_eq_true rfl)⟩) ⟨XPx_blind, va_recv hK hP (ci := 1) (q0 := 0) rfl rfl, XPx_pre hE hT ⟨rfl, hP, hD0⟩⟩ rfl rfl hl.1 rfl (lv_room (Nat.le_of_ble_eq_true rfl)) dL_act_91 ⟨Nat.le_of_ble_eq_true rfl, Nat.le_of_ble_eq_true rfl⟩) (va_S.rf (A := va_A (CW cT x lv kp fL fK o ld b k FZ) s.heap.size)) (fun q9 _ h => h) (fun q9 h => h) (fun E9 ce9 q9 H1 locs hp9 hz9 hk9 hS hc9 hv9 hcl9 => ?_) (fun r9 u t9 H1 locs ht9 hvm9 hw9 hB9 hzc hkc hS => ?_)
  · exact absurd hp9 (by rintro (⟨-, h9⟩ | ⟨-, -, h9⟩); exact h9 ⟨s9, hs, rfl⟩; exact h9 h)
  · obtain ⟨z, hz, e, -, h9⟩ := hw9; rw [← (xeq (by omega) (by omega)).mp e] at h9; replace h9 := h9.resolve_left (fun q => by omega)
    have hB8 : CB D cI cT x lv kp (va_A (CW cT x lv kp fL fK o ld b k FZ) s.heap.size) u H1 := by rw [← ht9]; exact hB9
    refine lv_goto (tgt := 116) hx hb dL_act_94 (by decide) ?_
    refine vx_ret ?_
    refine W.widen (k := 8) (n := 40) (Nat.le_of_ble_eq_true rfl) (Nat.le_of_ble_eq_true rfl) ?_
    exact W.iret hx hb hr (fun t8 ht8 hW8 => ⟨⟨_, u, rfl, ⟨h9.2.1, h9.2.2⟩, by show CB D cI cT x lv kp (va_A (CW cT x lv kp fL fK o ld b k FZ) s.heap.size) u t8.heap; rw [ht8]; exact hB8⟩, hS.F ht8⟩) hS.2.2 dL_act_116

set_option maxHeartbeats 4000000 in
set_option maxRecDepth 100000 in
theorem g_run_b (l : Launch) (hst : l.stackTraces = false) {D : va_G} {cI cT cJ : ClassId} (Ax : Nat → Prop) (x lv kp : Nat) (fL fK : Nat → Option Nat) (o ld b k : Nat) (FZ : va_W) (G : Nat → Tv) (hC : CA cI FZ fL fK G) {s9 : Nat} (hs : s9 ≤ 6) (h : ld < 40) (hn : s9 < dfN G ld 6) (b9 c9 : Int32) (sz : Nat) : vx_Met l yL_act wsL_act (rmD 9 8 40) (XPl D cI cT cJ Ax [.ref x, .int (nI 6), .int (nI s9), .int b9, .int c9] (fun H => H.size = sz ∧ va_P D vwCl (CW cT x lv kp fL fK o ld b k FZ) H ∧ va_D (fun _ => True) (CW cT x lv kp fL fK o ld b k FZ))) (va_Qi (S := Sv) (fun r u => r = -1 ∧ u = (G, o, ld, 1, s9)) (fun u t => CB D cI cT x lv kp (va_A (CW cT x lv kp fL fK o ld b k FZ) sz) u t.heap) (va_A (CW cT x lv kp fL fK o ld b k FZ) sz)) (XXc (fun _ => False)) 8 40 (va_A (CW cT x lv kp fL fK o ld b k FZ) sz) := by
  refine vx_ofWH (cc := cL_act) (maxL := 6) (ret := (some .int)) (hh := [(0, 116, 117, 41), (0, 116, 123, 43), (0, 116, 129, 45)]) (by decide) rfl ?_
  intro p e s m args below meth c s₁ B hml hv
  obtain ⟨rfl, ⟨hsz, hP, hD0⟩, hE, hT, hN⟩ := hv
  have hx := B.exec
  have hb := B.bytes
  have hr := B.returns
  have hts := atoms_spec (ws := wsL_act) B.pre
  have hown : s.vm.findClass RL = some m.cls := findClass_of_methodNamed B.named
  have hlocks := B.notSynchronized
  have hl := lv_entry ([.ref x, .int (nI 6), .int (nI s9), .int b9, .int c9]) (n := 6) (Nat.le_of_ble_eq_true rfl)
  rw [lg_entry_eq]
  generalize (lg_sl ([.ref x, .int (nI 6), .int (nI s9), .int b9, .int c9]) ++ List.replicate (6 - (lg_sl ([.ref x, .int (nI 6), .int (nI s9), .int b9, .int c9])).length) Slot.unset).toArray = ls at hl ⊢
  have hl : lv_has ls 6 [(0, .ref x), (1, .int (nI 6)), (2, .int (nI s9)), (3, .int b9), (4, .int c9)] := hl
  have htab := vx_table (x := yL_act) B (hts (.codeWith yL_act cL_act 6 (some .int) [(0, 116, 117, 41), (0, 116, 123, 43), (0, 116, 129, 45)]) List.mem_cons_self)
  have hK := hE.1
  subst hsz
  refine lv_iload_n hx hb dL_act_0 rfl (lv_at hl 1 rfl) ?_
  refine lv_if_ne (tgt := 12) hx hb dL_act_1 (by decide) (fun _ => ?_) (fun h => absurd h (by decide))
  refine lv_iload_n hx hb dL_act_12 rfl (lv_at hl 1 rfl) ?_
  refine lv_iconst (v := nI 1) hx hb dL_act_13 (by decide) ?_
  refine lv_icmp_ne (tgt := 26) hx hb dL_act_14 (by decide) (fun _ => ?_) (fun h => absurd h (by decide))
  refine lv_iload_n hx hb dL_act_26 rfl (lv_at hl 1 rfl) ?_
  refine lv_iconst (v := nI 2) hx hb dL_act_27 (by decide) ?_
  refine lv_icmp_ne (tgt := 39) hx hb dL_act_28 (by decide) (fun _ => ?_) (fun h => absurd h (by decide))
  refine lv_iload_n hx hb dL_act_39 rfl (lv_at hl 1 rfl) ?_
  refine lv_iconst (v := nI 3) hx hb dL_act_40 (by decide) ?_
  refine lv_icmp_ne (tgt := 55) hx hb dL_act_41 (by decide) (fun _ => ?_) (fun h => absurd h (by decide))
  refine lv_iload_n hx hb dL_act_55 rfl (lv_at hl 1 rfl) ?_
  refine lv_iconst (v := nI 4) hx hb dL_act_56 (by decide) ?_
  refine lv_icmp_ne (tgt := 69) hx hb dL_act_57 (by decide) (fun _ => ?_) (fun h => absurd h (by decide))
  refine lv_iload_n hx hb dL_act_69 rfl (lv_at hl 1 rfl) ?_
  refine lv_iconst (v := nI 5) hx hb dL_act_70 (by decide) ?_
  refine lv_icmp_ne (tgt := 83) hx hb dL_act_71 (by decide) (fun _ => ?_) (fun h => absurd h (by decide))
  refine lv_iload_n hx hb dL_act_83 rfl (lv_at hl 1 rfl) ?_
  refine lv_bipush (v := nI 6) hx hb dL_act_84 (by decide) ?_
  refine lv_icmp_ne (tgt := 97) hx hb dL_act_86 (by decide) (fun h => absurd h (by decide)) (fun _ => ?_)
  refine lv_aload_n hx hb dL_act_89 rfl (lv_at hl 0 rfl) ?_
  refine lv_iload_n hx hb dL_act_90 rfl (lv_at hl 2 rfl) ?_
  refine xcw (vx_runV (As := [.int (nI s9)]) (rest := []) ⟨hx, hb, hml, hown, hts⟩ (c_X1_run l hst Ax x lv kp fL fK o ld b k FZ G hC (nI s9) (by omega) s.heap.size) (cwV 1 hts gL_act_X1_run rfl rfl rfl (by decide +kernel) ⟨(Nat.le_of_ble_eq_true rfl), (Nat.le_of_ble_eq_true rfl)⟩) ⟨XPx_blind, va_recv hK hP (ci := 1) (q0 := 0) rfl rfl, XPx_pre hE hT ⟨rfl, hP, hD0⟩⟩ rfl rfl hl.1 rfl (lv_room (Nat.le_of_ble_eq_true rfl)) dL_act_91 ⟨Nat.le_of_ble_eq_true rfl, Nat.le_of_ble_eq_true rfl⟩) (va_S.rf (A := va_A (CW cT x lv kp fL fK o ld b k FZ) s.heap.size)) (fun q9 _ h => h) (fun q9 h => h) (fun E9 ce9 q9 H1 locs hp9 hz9 hk9 hS hc9 hv9 hcl9 => ?_) (fun r9 u t9 H1 locs ht9 hvm9 hw9 hB9 hzc hkc hS => ?_)
  · exact absurd hp9 (by rintro (⟨-, h9⟩ | ⟨-, -, h9⟩); exact h9 ⟨s9, hs, rfl⟩; exact h9 h)
  · obtain ⟨z, hz, e, -, h9⟩ := hw9; rw [← (xeq (by omega) (by omega)).mp e] at h9; replace h9 := h9.resolve_right (fun q => by omega)
    have hB8 : CB D cI cT x lv kp (va_A (CW cT x lv kp fL fK o ld b k FZ) s.heap.size) u H1 := by rw [← ht9]; exact hB9
    refine lv_goto (tgt := 116) hx hb dL_act_94 (by decide) ?_
    refine vx_ret ?_
    refine W.widen (k := 8) (n := 40) (Nat.le_of_ble_eq_true rfl) (Nat.le_of_ble_eq_true rfl) ?_
    exact W.iret hx hb hr (fun t8 ht8 hW8 => ⟨⟨_, u, rfl, ⟨h9.2.1, h9.2.2⟩, by show CB D cI cT x lv kp (va_A (CW cT x lv kp fL fK o ld b k FZ) s.heap.size) u t8.heap; rw [ht8]; exact hB8⟩, hS.F ht8⟩) hS.2.2 dL_act_116

set_option maxHeartbeats 4000000 in
set_option maxRecDepth 100000 in
theorem g_thin (l : Launch) (hst : l.stackTraces = false) {D : va_G} {cI cT cJ : ClassId} (Ax : Nat → Prop) (x lv kp : Nat) (fL fK : Nat → Option Nat) (o ld b k : Nat) (FZ : va_W) (G : Nat → Tv) (hC : CA cI FZ fL fK G) {s9 : Nat} (h1 : 1 ≤ s9) (h2 : s9 ≤ 40) (h : o + s9 ≤ ld) (b9 c9 : Int32) (hld : ld ≤ 40) (hold : o ≤ ld) (sz : Nat) : vx_Met l yL_act wsL_act (rmD 9 8 40) (XPl D cI cT cJ Ax [.ref x, .int (nI 7), .int (nI s9), .int b9, .int c9] (fun H => H.size = sz ∧ va_P D vwCl (CW cT x lv kp fL fK o ld b k FZ) H ∧ va_D (fun _ => True) (CW cT x lv kp fL fK o ld b k FZ))) (va_Qi (S := Sv) (fun r u => r = nI (o + s9) ∧ u = (G, o + s9, ld, 0, 0)) (fun u t => CB D cI cT x lv kp (va_A (CW cT x lv kp fL fK o ld b k FZ) sz) u t.heap) (va_A (CW cT x lv kp fL fK o ld b k FZ) sz)) (XXc (fun _ => False)) 8 40 (va_A (CW cT x lv kp fL fK o ld b k FZ) sz) := by
  refine vx_ofWH (cc := cL_act) (maxL := 6) (ret := (some .int)) (hh := [(0, 116, 117, 41), (0, 116, 123, 43), (0, 116, 129, 45)]) (by decide) rfl ?_
  intro p e s m args below meth c s₁ B hml hv
  obtain ⟨rfl, ⟨hsz, hP, hD0⟩, hE, hT, hN⟩ := hv
  have hx := B.exec
  have hb := B.bytes
  have hr := B.returns
  have hts := atoms_spec (ws := wsL_act) B.pre
  have hown : s.vm.findClass RL = some m.cls := findClass_of_methodNamed B.named
  have hlocks := B.notSynchronized
  have hl := lv_entry ([.ref x, .int (nI 7), .int (nI s9), .int b9, .int c9]) (n := 6) (Nat.le_of_ble_eq_true rfl)
  rw [lg_entry_eq]
  generalize (lg_sl ([.ref x, .int (nI 7), .int (nI s9), .int b9, .int c9]) ++ List.replicate (6 - (lg_sl ([.ref x, .int (nI 7), .int (nI s9), .int b9, .int c9])).length) Slot.unset).toArray = ls at hl ⊢
  have hl : lv_has ls 6 [(0, .ref x), (1, .int (nI 7)), (2, .int (nI s9)), (3, .int b9), (4, .int c9)] := hl
  have htab := vx_table (x := yL_act) B (hts (.codeWith yL_act cL_act 6 (some .int) [(0, 116, 117, 41), (0, 116, 123, 43), (0, 116, 129, 45)]) List.mem_cons_self)
  have hK := hE.1
  subst hsz
  refine lv_iload_n hx hb dL_act_0 rfl (lv_at hl 1 rfl) ?_
  refine lv_if_ne (tgt := 12) hx hb dL_act_1 (by decide) (fun _ => ?_) (fun h => absurd h (by decide))
  refine lv_iload_n hx hb dL_act_12 rfl (lv_at hl 1 rfl) ?_
  refine lv_iconst (v := nI 1) hx hb dL_act_13 (by decide) ?_
  refine lv_icmp_ne (tgt := 26) hx hb dL_act_14 (by decide) (fun _ => ?_) (fun h => absurd h (by decide))
  refine lv_iload_n hx hb dL_act_26 rfl (lv_at hl 1 rfl) ?_
  refine lv_iconst (v := nI 2) hx hb dL_act_27 (by decide) ?_
  refine lv_icmp_ne (tgt := 39) hx hb dL_act_28 (by decide) (fun _ => ?_) (fun h => absurd h (by decide))
  refine lv_iload_n hx hb dL_act_39 rfl (lv_at hl 1 rfl) ?_
  refine lv_iconst (v := nI 3) hx hb dL_act_40 (by decide) ?_
  refine lv_icmp_ne (tgt := 55) hx hb dL_act_41 (by decide) (fun _ => ?_) (fun h => absurd h (by decide))
  refine lv_iload_n hx hb dL_act_55 rfl (lv_at hl 1 rfl) ?_
  refine lv_iconst (v := nI 4) hx hb dL_act_56 (by decide) ?_
  refine lv_icmp_ne (tgt := 69) hx hb dL_act_57 (by decide) (fun _ => ?_) (fun h => absurd h (by decide))
  refine lv_iload_n hx hb dL_act_69 rfl (lv_at hl 1 rfl) ?_
  refine lv_iconst (v := nI 5) hx hb dL_act_70 (by decide) ?_
  refine lv_icmp_ne (tgt := 83) hx hb dL_act_71 (by decide) (fun _ => ?_) (fun h => absurd h (by decide))
  refine lv_iload_n hx hb dL_act_83 rfl (lv_at hl 1 rfl) ?_
  refine lv_bipush (v := nI 6) hx hb dL_act_84 (by decide) ?_
  refine lv_icmp_ne (tgt := 97) hx hb dL_act_86 (by decide) (fun _ => ?_) (fun h => absurd h (by decide))
  refine lv_iload_n hx hb dL_act_97 rfl (lv_at hl 1 rfl) ?_
  refine lv_bipush (v := nI 7) hx hb dL_act_98 (by decide) ?_
  refine lv_icmp_ne (tgt := 111) hx hb dL_act_100 (by decide) (fun h => absurd h (by decide)) (fun _ => ?_)
  refine lv_aload_n hx hb dL_act_103 rfl (lv_at hl 0 rfl) ?_
  refine lv_iload_n hx hb dL_act_104 rfl (lv_at hl 2 rfl) ?_
  refine xcw (vx_runV (As := [.int (nI s9)]) (rest := []) ⟨hx, hb, hml, hown, hts⟩ (c_X1_thin l hst Ax x lv kp fL fK o ld b k FZ G hC (nI s9) hld hold s.heap.size) (cwV 1 hts gL_act_X1_thin rfl rfl rfl (by decide +kernel) ⟨(Nat.le_of_ble_eq_true rfl), (Nat.le_of_ble_eq_true rfl)⟩) ⟨XPx_blind, va_recv hK hP (ci := 1) (q0 := 0) rfl rfl, XPx_pre hE hT ⟨rfl, hP, hD0⟩⟩ rfl rfl hl.1 rfl (lv_room (Nat.le_of_ble_eq_true rfl)) dL_act_105 ⟨Nat.le_of_ble_eq_true rfl, Nat.le_of_ble_eq_true rfl⟩) (va_S.rf (A := va_A (CW cT x lv kp fL fK o ld b k FZ) s.heap.size)) (fun q9 _ h => h) (fun q9 h => h) (fun E9 ce9 q9 H1 locs hp9 hz9 hk9 hS hc9 hv9 hcl9 => ?_) (fun r9 u t9 H1 locs ht9 hvm9 hw9 hB9 hzc hkc hS => ?_)
  · exact absurd hp9 (by rintro (⟨-, h9⟩ | ⟨-, z, hz, hz2, e, h9⟩); exact h9 ⟨s9, h1, h2, rfl⟩; rw [← (xeq (by omega) (by omega)).mp e] at h9; exact h9 h)
  · obtain ⟨z, hz, hz2, e, h7, h8, h9⟩ := hw9; rw [← (xeq (by omega) (by omega)).mp e] at h8 h9
    have hB8 : CB D cI cT x lv kp (va_A (CW cT x lv kp fL fK o ld b k FZ) s.heap.size) u H1 := by rw [← ht9]; exact hB9
    refine lv_goto (tgt := 116) hx hb dL_act_108 (by decide) ?_
    refine vx_ret ?_
    refine W.widen (k := 8) (n := 40) (Nat.le_of_ble_eq_true rfl) (Nat.le_of_ble_eq_true rfl) ?_
    exact W.iret hx hb hr (fun t8 ht8 hW8 => ⟨⟨_, u, rfl, ⟨h8, h9⟩, by show CB D cI cT x lv kp (va_A (CW cT x lv kp fL fK o ld b k FZ) s.heap.size) u t8.heap; rw [ht8]; exact hB8⟩, hS.F ht8⟩) hS.2.2 dL_act_116

set_option maxHeartbeats 4000000 in
set_option maxRecDepth 100000 in
theorem g_restore (l : Launch) (hst : l.stackTraces = false) {D : va_G} {cI cT cJ : ClassId} (Ax : Nat → Prop) (x lv kp : Nat) (fL fK : Nat → Option Nat) (o ld b k : Nat) (FZ : va_W) (G : Nat → Tv) (hC : CA cI FZ fL fK G) {d : Nat} (h1 : o ≤ d) (h2 : d ≤ ld) (b9 c9 : Int32) (hld : ld ≤ 40) (hold : o ≤ ld) (sz : Nat) : vx_Met l yL_act wsL_act (rmD 9 8 40) (XPl D cI cT cJ Ax [.ref x, .int (nI 8), .int (nI d), .int b9, .int c9] (fun H => H.size = sz ∧ va_P D vwCl (CW cT x lv kp fL fK o ld b k FZ) H ∧ va_D (fun _ => True) (CW cT x lv kp fL fK o ld b k FZ))) (va_Qi (S := Sv) (fun r u => r = nI (dfN G d 6) ∧ u = (cpL G d 6, o, ld, 0, 0)) (fun u t => CB D cI cT x lv kp (va_A (CW cT x lv kp fL fK o ld b k FZ) sz) u t.heap) (va_A (CW cT x lv kp fL fK o ld b k FZ) sz)) (XXc (fun _ => False)) 8 40 (va_A (CW cT x lv kp fL fK o ld b k FZ) sz) := by
  refine vx_ofWH (cc := cL_act) (maxL := 6) (ret := (some .int)) (hh := [(0, 116, 117, 41), (0, 116, 123, 43), (0, 116, 129, 45)]) (by decide) rfl ?_
  intro p e s m args below meth c s₁ B hml hv
  obtain ⟨rfl, ⟨hsz, hP, hD0⟩, hE, hT, hN⟩ := hv
  have hx := B.exec
  have hb := B.bytes
  have hr := B.returns
  have hts := atoms_spec (ws := wsL_act) B.pre
  have hown : s.vm.findClass RL = some m.cls := findClass_of_methodNamed B.named
  have hlocks := B.notSynchronized
  have hl := lv_entry ([.ref x, .int (nI 8), .int (nI d), .int b9, .int c9]) (n := 6) (Nat.le_of_ble_eq_true rfl)
  rw [lg_entry_eq]
  generalize (lg_sl ([.ref x, .int (nI 8), .int (nI d), .int b9, .int c9]) ++ List.replicate (6 - (lg_sl ([.ref x, .int (nI 8), .int (nI d), .int b9, .int c9])).length) Slot.unset).toArray = ls at hl ⊢
  have hl : lv_has ls 6 [(0, .ref x), (1, .int (nI 8)), (2, .int (nI d)), (3, .int b9), (4, .int c9)] := hl
  have htab := vx_table (x := yL_act) B (hts (.codeWith yL_act cL_act 6 (some .int) [(0, 116, 117, 41), (0, 116, 123, 43), (0, 116, 129, 45)]) List.mem_cons_self)
  have hK := hE.1
  subst hsz
  refine lv_iload_n hx hb dL_act_0 rfl (lv_at hl 1 rfl) ?_
  refine lv_if_ne (tgt := 12) hx hb dL_act_1 (by decide) (fun _ => ?_) (fun h => absurd h (by decide))
  refine lv_iload_n hx hb dL_act_12 rfl (lv_at hl 1 rfl) ?_
  refine lv_iconst (v := nI 1) hx hb dL_act_13 (by decide) ?_
  refine lv_icmp_ne (tgt := 26) hx hb dL_act_14 (by decide) (fun _ => ?_) (fun h => absurd h (by decide))
  refine lv_iload_n hx hb dL_act_26 rfl (lv_at hl 1 rfl) ?_
  refine lv_iconst (v := nI 2) hx hb dL_act_27 (by decide) ?_
  refine lv_icmp_ne (tgt := 39) hx hb dL_act_28 (by decide) (fun _ => ?_) (fun h => absurd h (by decide))
  refine lv_iload_n hx hb dL_act_39 rfl (lv_at hl 1 rfl) ?_
  refine lv_iconst (v := nI 3) hx hb dL_act_40 (by decide) ?_
  refine lv_icmp_ne (tgt := 55) hx hb dL_act_41 (by decide) (fun _ => ?_) (fun h => absurd h (by decide))
  refine lv_iload_n hx hb dL_act_55 rfl (lv_at hl 1 rfl) ?_
  refine lv_iconst (v := nI 4) hx hb dL_act_56 (by decide) ?_
  refine lv_icmp_ne (tgt := 69) hx hb dL_act_57 (by decide) (fun _ => ?_) (fun h => absurd h (by decide))
  refine lv_iload_n hx hb dL_act_69 rfl (lv_at hl 1 rfl) ?_
  refine lv_iconst (v := nI 5) hx hb dL_act_70 (by decide) ?_
  refine lv_icmp_ne (tgt := 83) hx hb dL_act_71 (by decide) (fun _ => ?_) (fun h => absurd h (by decide))
  refine lv_iload_n hx hb dL_act_83 rfl (lv_at hl 1 rfl) ?_
  refine lv_bipush (v := nI 6) hx hb dL_act_84 (by decide) ?_
  refine lv_icmp_ne (tgt := 97) hx hb dL_act_86 (by decide) (fun _ => ?_) (fun h => absurd h (by decide))
  refine lv_iload_n hx hb dL_act_97 rfl (lv_at hl 1 rfl) ?_
  refine lv_bipush (v := nI 7) hx hb dL_act_98 (by decide) ?_
  refine lv_icmp_ne (tgt := 111) hx hb dL_act_100 (by decide) (fun _ => ?_) (fun h => absurd h (by decide))
  refine lv_aload_n hx hb dL_act_111 rfl (lv_at hl 0 rfl) ?_
  refine lv_iload_n hx hb dL_act_112 rfl (lv_at hl 2 rfl) ?_
  refine xcw (vx_runV (As := [.int (nI d)]) (rest := []) ⟨hx, hb, hml, hown, hts⟩ (c_X1_restore l hst Ax x lv kp fL fK o ld b k FZ G hC (nI d) hld hold s.heap.size) (cwV 1 hts gL_act_X1_restore rfl rfl rfl (by decide +kernel) ⟨(Nat.le_of_ble_eq_true rfl), (Nat.le_of_ble_eq_true rfl)⟩) ⟨XPx_blind, va_recv hK hP (ci := 1) (q0 := 0) rfl rfl, XPx_pre hE hT ⟨rfl, hP, hD0⟩⟩ rfl rfl hl.1 rfl (lv_room (Nat.le_of_ble_eq_true rfl)) dL_act_113 ⟨Nat.le_of_ble_eq_true rfl, Nat.le_of_ble_eq_true rfl⟩) (va_S.rf (A := va_A (CW cT x lv kp fL fK o ld b k FZ) s.heap.size)) (fun q9 _ h => h) (fun q9 h => h) (fun E9 ce9 q9 H1 locs hp9 hz9 hk9 hS hc9 hv9 hcl9 => ?_) (fun r9 u t9 H1 locs ht9 hvm9 hw9 hB9 hzc hkc hS => ?_)
  · exact absurd hp9 (by rintro ⟨-, h9⟩; exact h9 ⟨d, h1, h2, rfl⟩)
  · obtain ⟨z, hz, hz2, e, h8, h9⟩ := hw9; rw [← (xeq (by omega) (by omega)).mp e] at h8 h9
    have hB8 : CB D cI cT x lv kp (va_A (CW cT x lv kp fL fK o ld b k FZ) s.heap.size) u H1 := by rw [← ht9]; exact hB9
    refine vx_ret ?_
    refine W.widen (k := 8) (n := 40) (Nat.le_of_ble_eq_true rfl) (Nat.le_of_ble_eq_true rfl) ?_
    exact W.iret hx hb hr (fun t8 ht8 hW8 => ⟨⟨_, u, rfl, ⟨h8, h9⟩, by show CB D cI cT x lv kp (va_A (CW cT x lv kp fL fK o ld b k FZ) s.heap.size) u t8.heap; rw [ht8]; exact hB8⟩, hS.F ht8⟩) hS.2.2 dL_act_116
