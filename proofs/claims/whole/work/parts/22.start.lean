/-! the law's loop, and its start -/
theorem xstep {i Ls : Nat} (hi : i ≤ 4096) (hL : Ls ≤ 4096) (h : ¬ nI Ls - nI 4 < nI i) : i + 4 ≤ Ls := by
  have h1 := Int32.not_lt.mp h
  rw [Int32.le_iff_toInt_le, pk_sub_toInt (by omega) (by omega), nI_toInt (by omega)] at h1
  omega
set_option maxHeartbeats 4000000 in
set_option maxRecDepth 100000 in
theorem law_loop {p : Program} {l : Launch} {e : Env} {s : State} {m : MethodId} {below : List Frame} {meth : Method} {c : Code} {D : va_G} {cI cT cJ : ClassId} {sb Ls : Nat} {xs : Nat → Int32} {m0 a1 a2 a3 a4 ou x lv kp : Nat} (hr : meth.sig.returnType = ret) (hlocks : meth.locks = false) (hX0 : LCX p l s m c D cI cT cJ (fun q : Nat => s.heap.size ≤ q) sb Ls xs) {H : Heap} {locs : List Loc} {ls : Array Slot} {u0 : Sv} (hW : WF u0) (hI : LI D cI cT cJ m0 a1 a2 a3 a4 ou x lv kp (fun q : Nat => s.heap.size ≤ q) s u0 H locs) (hl : lv_has ls 7 [(4, .int (nI 0)), (0, .ref sb), (1, .ref x), (2, .ref m0), (3, .ref ou)]) :
    W p l e room_1 s m #[Value.ref sb] below meth c H locs (19 + 8 * (513 - 513)) (4316 + 40 * (513 - 513)) (lw_Z below #[Value.ref sb] s) (F0 m 23 ls []) := by
  have hX1 := hX0
  obtain ⟨hx, hb, hml, hown, hts, hX, hbl, hL, hst, hE, hT0, hN, hA, hbA⟩ := hX1
  refine x_loopC (fun n => 19 + 8 * (513 - n)) (fun n => 4316 + 40 * (513 - n)) (fun n H locs ls => ∃ (i : Nat) (u : Sv), i ≤ Ls ∧ Ls + 4 ≤ i + 4 * n ∧ n ≤ 513 ∧ WF u ∧ LI D cI cT cJ m0 a1 a2 a3 a4 ou x lv kp (fun q : Nat => s.heap.size ≤ q) s u H locs ∧ lv_has ls 7 [(4, .int (nI i)), (0, .ref sb), (1, .ref x), (2, .ref m0), (3, .ref ou)]) 513 ⟨0, u0, Nat.zero_le _, by omega, Nat.le_refl _, hW, hI, hl⟩ (fun H locs ls h => by obtain ⟨i, u, h1, h2, -⟩ := h; omega) (fun n H locs ls h ih => ?_)
  obtain ⟨i, ⟨G, o, ld, b, k⟩, hi, hn, hn5, hW, hI, hl⟩ := h
  have hS : va_S (fun q : Nat => s.heap.size ≤ q) s.heap H locs := by
    obtain ⟨-, -, -, -, -, -, -, -, -, -, -, -, -, hS⟩ := hI
    exact hS
  refine lv_iload hx hb dL_law_23 (lv_at hl 0 rfl) ?_
  refine lv_aload_n hx hb dL_law_25 rfl (lv_at hl 1 rfl) ?_
  refine va_slen hx hb hX hbl hbA hS dL_law_26 ?_
  refine lv_iconst (v := nI 4) hx hb dL_law_27 (by decide) ?_
  refine lv_isub hx hb dL_law_28 ?_
  refine lv_icmp_gt (tgt := 1060) hx hb dL_law_29 (by decide) (fun c29 => ?_) (fun c29 => ?_)
  · refine lv_iconst (v := 1) hx hb dL_law_1060 (by decide) ?_
    refine va_forget (fun q hq => hS.2.2 q hq) ?_
    refine W.widen (k := 709371) (n := 6967992) (by show _ ≤ _; omega) (by show _ ≤ _; omega) ?_
    exact lw_ret hx hb hr hlocks dL_law_1061
  · have hi4 : i + 4 ≤ Ls := xstep (by omega) (by omega) c29
    have hk : ∀ (u : Sv) (H : Heap) (locs : List Loc) (ls : Array Slot), WF u → LI D cI cT cJ m0 a1 a2 a3 a4 ou x lv kp (fun q : Nat => s.heap.size ≤ q) s u H locs → lv_has ls 7 [(4, .int (nI i)), (0, .ref sb), (1, .ref x), (2, .ref m0), (3, .ref ou)] → W p l e room_1 s m #[Value.ref sb] below meth c H locs (19 + 8 * (513 - (n + 1)) + 8) (4316 + 40 * (513 - (n + 1)) + 40) (lw_Z below #[Value.ref sb] s) (F0 m 1054 ls []) := by
      intro u H locs ls hW hI hl
      refine lv_iinc (v := nI (i + 4)) (lv' := [(4, .int (nI (i + 4))), (0, .ref sb), (1, .ref x), (2, .ref m0), (3, .ref ou)]) hx hb dL_law_1054 hl (k := 0) rfl (xinc _ 4 _ (by decide)) (by decide) rfl (fun ls hl => ?_)
      refine lv_goto (tgt := 23) hx hb dL_law_1057 (by decide) ?_
      refine W.widen (k := 19 + 8 * (513 - n)) (n := 4316 + 40 * (513 - n)) (by omega) (by omega) ?_
      exact ih _ _ _ ⟨i + 4, u, hi4, by omega, by omega, hW, hI, hl⟩
    have hcl : 19 + 8 * (513 - (n + 1)) + 8 ≤ 709371 := by omega
    have hsl : 4316 + 40 * (513 - (n + 1)) + 40 ≤ 6967992 := by omega
    refine lv_aload_n hx hb dL_law_32 rfl (lv_at hl 1 rfl) ?_
    refine lv_iload hx hb dL_law_33 (lv_at hl 0 rfl) ?_
    refine va_sld hx hb hX hbl hbA hS (xin (by omega) (by omega)) dL_law_35 ?_
    refine lv_bipush (v := nI 31) hx hb dL_law_36 (by decide) ?_
    refine lv_iand hx hb dL_law_38 ?_
    obtain ⟨j, hj, ej⟩ := pk_andE (xs (nI i).toNatClampNeg) (m := nI 31) 5 (by decide)
    refine x_top (nI j) ej ?_
    obtain rfl | rfl | rfl | rfl | rfl | rfl | rfl | rfl | rfl | rfl | rfl | rfl | rfl | rfl | rfl | rfl | rfl | rfl | rfl | hge : j = 0 ∨ j = 1 ∨ j = 2 ∨ j = 3 ∨ j = 4 ∨ j = 5 ∨ j = 6 ∨ j = 7 ∨ j = 8 ∨ j = 9 ∨ j = 10 ∨ j = 11 ∨ j = 12 ∨ j = 13 ∨ j = 14 ∨ j = 15 ∨ j = 16 ∨ j = 17 ∨ j = 18 ∨ 19 ≤ j := by omega
    · refine lv_tableIn (off := 89) (tgt := 128) hx hb dL_law_39 (by decide) (by decide) (by rfl) (by decide) ?_
      exact lc_makeFile hX0 hi4 hW hI hl hcl hsl hk
    · refine lv_tableIn (off := 145) (tgt := 184) hx hb dL_law_39 (by decide) (by decide) (by rfl) (by decide) ?_
      exact lc_makeLink hX0 hi4 hW hI hl hcl hsl hk
    · refine lv_tableIn (off := 213) (tgt := 252) hx hb dL_law_39 (by decide) (by decide) (by rfl) (by decide) ?_
      exact lc_remove hX0 hi4 hW hI hl hcl hsl hk
    · refine lv_tableIn (off := 269) (tgt := 308) hx hb dL_law_39 (by decide) (by decide) (by rfl) (by decide) ?_
      exact lc_put hX0 hi4 hW hI hl hcl hsl hk
    · refine lv_tableIn (off := 349) (tgt := 388) hx hb dL_law_39 (by decide) (by decide) (by rfl) (by decide) ?_
      exact lc_take hX0 hi4 hW hI hl hcl hsl hk
    · refine lv_tableIn (off := 417) (tgt := 456) hx hb dL_law_39 (by decide) (by decide) (by rfl) (by decide) ?_
      exact lc_setRights hX0 hi4 hW hI hl hcl hsl hk
    · refine lv_tableIn (off := 485) (tgt := 524) hx hb dL_law_39 (by decide) (by decide) (by rfl) (by decide) ?_
      exact lc_run hX0 hi4 hW hI hl hcl hsl hk
    · refine lv_tableIn (off := 541) (tgt := 580) hx hb dL_law_39 (by decide) (by decide) (by rfl) (by decide) ?_
      exact lc_mend hX0 hi4 hW hI hl hcl hsl hk
    · refine lv_tableIn (off := 554) (tgt := 593) hx hb dL_law_39 (by decide) (by decide) (by rfl) (by decide) ?_
      exact lc_thin hX0 hi4 hW hI hl hcl hsl hk
    · refine lv_tableIn (off := 610) (tgt := 649) hx hb dL_law_39 (by decide) (by decide) (by rfl) (by decide) ?_
      exact lc_restore hX0 hi4 hW hI hl hcl hsl hk
    · refine lv_tableIn (off := 666) (tgt := 705) hx hb dL_law_39 (by decide) (by decide) (by rfl) (by decide) ?_
      exact lc_last hX0 hi4 hW hI hl hcl hsl hk
    · refine lv_tableIn (off := 679) (tgt := 718) hx hb dL_law_39 (by decide) (by decide) (by rfl) (by decide) ?_
      exact lc_oldest hX0 hi4 hW hI hl hcl hsl hk
    · refine lv_tableIn (off := 692) (tgt := 731) hx hb dL_law_39 (by decide) (by decide) (by rfl) (by decide) ?_
      exact lc_isBroken hX0 hi4 hW hI hl hcl hsl hk
    · refine lv_tableIn (off := 705) (tgt := 744) hx hb dL_law_39 (by decide) (by decide) (by rfl) (by decide) ?_
      exact lc_needs hX0 hi4 hW hI hl hcl hsl hk
    · refine lv_tableIn (off := 718) (tgt := 757) hx hb dL_law_39 (by decide) (by decide) (by rfl) (by decide) ?_
      exact lc_kindAt hX0 hi4 hW hI hl hcl hsl hk
    · refine lv_tableIn (off := 786) (tgt := 825) hx hb dL_law_39 (by decide) (by decide) (by rfl) (by decide) ?_
      exact lc_numberAt hX0 hi4 hW hI hl hcl hsl hk
    · refine lv_tableIn (off := 866) (tgt := 905) hx hb dL_law_39 (by decide) (by decide) (by rfl) (by decide) ?_
      exact lc_rightsAt hX0 hi4 hW hI hl hcl hsl hk
    · refine lv_tableIn (off := 934) (tgt := 973) hx hb dL_law_39 (by decide) (by decide) (by rfl) (by decide) ?_
      exact lc_sizeAt hX0 hi4 hW hI hl hcl hsl hk
    · refine lv_tableIn (off := 1002) (tgt := 1041) hx hb dL_law_39 (by decide) (by decide) (by rfl) (by decide) ?_
      exact lc_size hX0 hi4 hW hI hl hcl hsl hk
    · refine lv_tableOut (tgt := 1054) hx hb dL_law_39 (Or.inr (by rw [nI_toInt (by omega)]; omega)) (by decide) ?_
      exact W.widen (by omega) (by omega) (hk _ H locs ls hW hI hl)
