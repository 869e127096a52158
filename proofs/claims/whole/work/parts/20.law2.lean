/-! the law, call by call: runs, thinning, restoring, what there is -/

set_option maxHeartbeats 4000000 in
set_option maxRecDepth 100000 in
theorem lc_run {p : Program} {l : Launch} {e : Env} {s : State} {m : MethodId} {below : List Frame} {meth : Method} {c : Code} {D : va_G} {cI cT cJ : ClassId} {A : Nat → Prop} {sb Ls : Nat} {xs : Nat → Int32} {m0 a1 a2 a3 a4 ou x lv kp : Nat} {cells slots : Nat} {Q : State → Prop} (hX0 : LCX p l s m c D cI cT cJ A sb Ls xs) {H : Heap} {locs : List Loc} {ls : Array Slot} {i : Nat} {G : Nat → Tv} {o ld b k : Nat} (hi : i + 4 ≤ Ls) (hW : WF (G, o, ld, b, k)) (hI : LI D cI cT cJ m0 a1 a2 a3 a4 ou x lv kp A s (G, o, ld, b, k) H locs) (hl : lv_has ls 7 [(4, .int (nI i)), (0, .ref sb), (1, .ref x), (2, .ref m0), (3, .ref ou)]) (hcl : cells + 8 ≤ 709371) (hsl : slots + 40 ≤ 6967992)
    (kk : ∀ (u : Sv) (H : Heap) (locs : List Loc) (ls : Array Slot), WF u → LI D cI cT cJ m0 a1 a2 a3 a4 ou x lv kp A s u H locs → lv_has ls 7 [(4, .int (nI i)), (0, .ref sb), (1, .ref x), (2, .ref m0), (3, .ref ou)] → W p l e room_1 s m #[Value.ref sb] below meth c H locs (cells + 8) (slots + 40) Q (F0 m 1054 ls [])) : W p l e room_1 s m #[Value.ref sb] below meth c H locs cells slots Q (F0 m 524 ls []) := by
  obtain ⟨hx, hb, hml, hown, hts, hX, hbl, hL, hst, hE, hT0, hN, hA, hbA⟩ := hX0
  obtain ⟨t, fo, fL, fK, FZ, K, R, L, N, hP, hD, hC, hM, hS⟩ := hI
  obtain ⟨hold, hld, hbb, hbk⟩ := hW
  dsimp only at hP hD hC hM hold hld hbb hbk
  have hK := hE.1
  refine lv_aload_n hx hb dL_law_524 rfl (lv_at hl 2 rfl) ?_
  refine lv_aload_n hx hb dL_law_525 rfl (lv_at hl 1 rfl) ?_
  refine lv_iload hx hb dL_law_526 (lv_at hl 0 rfl) ?_
  refine lv_iconst (v := nI 1) hx hb dL_law_528 (by decide) ?_
  refine lv_iadd hx hb dL_law_529 ?_
  refine x_top (nI (i + 1)) (xadd (by omega)) ?_
  refine va_sld hx hb hX hbl hbA hS (xin (by omega) (by omega)) dL_law_530 ?_
  refine x_top (xs (i + 1)) (by rw [nI_clamp (by omega)]) ?_
  refine lv_aload_n hx hb dL_law_531 rfl (lv_at hl 4 rfl) ?_
  have hP : va_P D vwCl ((MWs cI m0 a1 a2 a3 a4 K R L N ld o b k t) ++ (LWs cT cJ ou x lv kp fo fL fK o ld b k FZ)) H := hP
  have hD : va_D A ((MWs cI m0 a1 a2 a3 a4 K R L N ld o b k t) ++ (LWs cT cJ ou x lv kp fo fL fK o ld b k FZ)) := hD
  have hPc : va_P D vwCl (LWs cT cJ ou x lv kp fo fL fK o ld b k FZ) H := xP_sub (fun _ h => List.mem_append_right _ h) hP
  have hDc : va_D (fun _ => True) (LWs cT cJ ou x lv kp fo fL fK o ld b k FZ) := (xD_sub (List.sublist_append_right _ _) hD).weaken (fun _ _ _ _ => trivial)
  have hFc := xfree (wc := (LWs cT cJ ou x lv kp fo fL fK o ld b k FZ)) hD hS hA (fun _ h => List.mem_append_right _ h)
  have hT : XT A s H := hT0.kept hS.2.1
  refine xcw (vx_runSX (As := [.ref x, .int (xs (i + 1)), .ref ou]) (rest := []) ⟨hx, hb, hml, hown, hts⟩ (c_L_run l hst A ou x lv kp fo fL fK o ld b k FZ G hC (xs (i + 1)) hld H.size) (vx_cwSW 3 hts gL_law_L_run rfl rfl rfl (by decide +kernel) ⟨(Nat.le_of_ble_eq_true rfl), (Nat.le_of_ble_eq_true rfl)⟩) ⟨XPl_blind, XPl_pre hE hT hN ⟨rfl, hPc, hDc⟩⟩ rfl rfl hl.1 rfl (lv_room (Nat.le_of_ble_eq_true rfl)) dL_law_532 ⟨by show (_ : Nat) ≤ 709371; omega, by show (_ : Nat) ≤ 6967992; omega⟩) hS (fun q9 _ h => hFc q9 h) hFc (fun _ _ _ _ _ hp9 _ _ _ _ _ _ => False.elim hp9) (fun r9 u9 t9 H1 locs ht9 hvm9 hw9 hB9 hzc hkc hS => ?_)
  obtain ⟨u1, z9⟩ := u9
  dsimp only at hw9 hB9
  rcases hw9 with ⟨rfl, r0, rfl, sp, hsp, hv, hlt, ⟨hdf, rfl, rfl⟩ | ⟨hdf, rfl, rfl⟩⟩ | ⟨rfl, rfl, hv⟩ | ⟨rfl, rfl, ⟨sp, hsp, hv⟩, hlt⟩
  · obtain ⟨fo', fL', fK', FZ', hP1, hD1, hC', hfo⟩ := hB9
    dsimp only at hP1 hD1 hC'
    rw [ht9] at hP1
    obtain ⟨hP, hD⟩ := xjoin (wr := (MWs cI m0 a1 a2 a3 a4 K R L N ld o b k t)) (wc := (LWs cT cJ ou x lv kp fo fL fK o ld b k FZ)) (w1 := (LWs cT cJ ou x lv kp fo' fL' fK' o ld 1 sp FZ')) hP hD hkc hFc hP1 hD1
    generalize H1 = H at hP hS ⊢
    refine lv_istore (lv' := [(5, .int (nI 0)), (4, .int (nI i)), (0, .ref sb), (1, .ref x), (2, .ref m0), (3, .ref ou)]) hx hb dL_law_535 hl (by decide) rfl (fun ls hl => ?_)
    refine lv_aload_n hx hb dL_law_537 rfl (lv_at hl 4 rfl) ?_
    refine lv_aload_n hx hb dL_law_538 rfl (lv_at hl 2 rfl) ?_
    refine lv_iload hx hb dL_law_539 (lv_at hl 1 rfl) ?_
    refine lv_iconst (v := nI 1) hx hb dL_law_541 (by decide) ?_
    refine lv_iadd hx hb dL_law_542 ?_
    refine x_top (nI (i + 1)) (xadd (by omega)) ?_
    refine va_sld hx hb hX hbl hbA hS (xin (by omega) (by omega)) dL_law_543 ?_
    refine x_top (xs (i + 1)) (by rw [nI_clamp (by omega)]) ?_
    refine x_top (nI sp) (hv) ?_
    have hP : va_P D vwCl ((LWs cT cJ ou x lv kp fo' fL' fK' o ld 1 sp FZ') ++ (MWs cI m0 a1 a2 a3 a4 K R L N ld o b k t)) H := xP_perm List.perm_append_comm hP
    have hD : va_D A ((LWs cT cJ ou x lv kp fo' fL' fK' o ld 1 sp FZ') ++ (MWs cI m0 a1 a2 a3 a4 K R L N ld o b k t)) := xD_perm List.perm_append_comm hD
    have hPm : va_P D vwCl (MWs cI m0 a1 a2 a3 a4 K R L N ld o b k t) H := xP_sub (fun _ h => List.mem_append_right _ h) hP
    have hDm : va_D (fun _ => True) (MWs cI m0 a1 a2 a3 a4 K R L N ld o b k t) := (xD_sub (List.sublist_append_right _ _) hD).weaken (fun _ _ _ _ => trivial)
    have hFc := xfree (wc := (MWs cI m0 a1 a2 a3 a4 K R L N ld o b k t)) hD hS hA (fun _ h => List.mem_append_right _ h)
    refine va_calli (va_runV (As := [.int (nI sp)]) (rest := []) ⟨hx, hb, hml, hown, hts⟩ (c_X2_run_brk l m0 a1 a2 a3 a4 K R L N ld o b k t G hM sp hsp hlt hbb hbk hdf H.size) (cwV 1 hts gL_law_X2_run rfl rfl rfl (by decide +kernel) ⟨(Nat.le_of_ble_eq_true rfl), (Nat.le_of_ble_eq_true rfl)⟩) ⟨XP_blind, va_recv hK hPm (ci := 2) (q0 := 0) rfl rfl, XP_pre hE ⟨rfl, hPm, hDm⟩⟩ rfl rfl hl.1 rfl (lv_room (Nat.le_of_ble_eq_true rfl)) dL_law_544 ⟨by show (_ : Nat) ≤ 709371; omega, by show (_ : Nat) ≤ 6967992; omega⟩) hS (fun q9 _ h => hFc q9 h) hFc (fun r8 u8 t9 H1 locs ht9 hvm9 hw8 hB9 hzc hkc hS => ?_)
    obtain ⟨K', R', L', N', hP1, hD1, hM'⟩ := hB9
    rw [ht9] at hP1
    obtain ⟨hP, hD⟩ := xjoin (wr := (LWs cT cJ ou x lv kp fo' fL' fK' o ld 1 sp FZ')) (wc := (MWs cI m0 a1 a2 a3 a4 K R L N ld o b k t)) (w1 := (MWs cI m0 a1 a2 a3 a4 K' R' L' N' ld o 1 sp 0)) hP hD hkc hFc hP1 hD1
    generalize H1 = H at hP hS ⊢
    have hP : va_P D vwCl ((MWs cI m0 a1 a2 a3 a4 K' R' L' N' ld o 1 sp 0) ++ (LWs cT cJ ou x lv kp fo' fL' fK' o ld 1 sp FZ')) H := xP_perm List.perm_append_comm hP
    have hD : va_D A ((MWs cI m0 a1 a2 a3 a4 K' R' L' N' ld o 1 sp 0) ++ (LWs cT cJ ou x lv kp fo' fL' fK' o ld 1 sp FZ')) := xD_perm List.perm_append_comm hD
    subst hw8
    refine lv_istore (lv' := [(6, .int ((-1 : Int32))), (5, .int (nI 0)), (4, .int (nI i)), (0, .ref sb), (1, .ref x), (2, .ref m0), (3, .ref ou)]) hx hb dL_law_547 hl (by decide) rfl (fun ls hl => ?_)
    refine lv_aload_n hx hb dL_law_549 rfl (lv_at hl 5 rfl) ?_
    have hPm : va_P D vwCl (MWs cI m0 a1 a2 a3 a4 K' R' L' N' ld o 1 sp 0) H := xP_sub (ws := (MWs cI m0 a1 a2 a3 a4 K' R' L' N' ld o 1 sp 0) ++ (LWs cT cJ ou x lv kp fo' fL' fK' o ld 1 sp FZ')) (fun _ h => List.mem_append_left _ h) hP
    refine xc_sie (va_runV (As := []) (rest := []) ⟨hx, hb, hml, hown, hts⟩ (c_X2_thrown l m0 a1 a2 a3 a4 K' R' L' N' ld o 1 sp 0) (cwV 0 hts gL_law_X2_thrown rfl rfl rfl (by decide +kernel) ⟨(Nat.le_of_ble_eq_true rfl), (Nat.le_of_ble_eq_true rfl)⟩) ⟨XP_blind, va_recv hK hPm (ci := 2) (q0 := 0) rfl rfl, XP_pre hE hPm⟩ rfl rfl hl.1 rfl (lv_room (Nat.le_of_ble_eq_true rfl)) dL_law_550 ⟨by show (_ : Nat) ≤ 709371; omega, by show (_ : Nat) ≤ 6967992; omega⟩) ?_
    refine lv_iload hx hb dL_law_553 (lv_at hl 1 rfl) ?_
    refine lv_icmp_eq (tgt := 560) hx hb dL_law_555 (by decide) (fun _ => ?_) (fun h => absurd h (by decide))
    refine lv_iload hx hb dL_law_560 (lv_at hl 1 rfl) ?_
    refine lv_if_ne (tgt := 577) hx hb dL_law_562 (by decide) (fun h => absurd h (by decide)) (fun _ => ?_)
    refine lv_aload_n hx hb dL_law_565 rfl (lv_at hl 6 rfl) ?_
    refine lv_iconst (v := nI 0) hx hb dL_law_566 (by decide) ?_
    refine va_lald hx hb hK hP 5 2 rfl rfl (xin (by omega) (by omega)) dL_law_567 ?_
    refine x_topl (((-1 : Int32)).toInt64) (by rw [nI_clamp (by omega)]; exact hfo) ?_
    refine lv_iload hx hb dL_law_568 (lv_at hl 0 rfl) ?_
    refine lv_i2l (v := ((-1 : Int32)).toInt64) hx hb dL_law_570 rfl ?_
    refine W.lcmp hx hb dL_law_571 ?_
    refine x_top (nI 0) (lg_self _) ?_
    refine lv_if_eq (tgt := 577) hx hb dL_law_572 (by decide) (fun _ => ?_) (fun h => absurd h (by decide))
    refine lv_goto (tgt := 1054) hx hb dL_law_577 (by decide) ?_
    refine W.widen (k := cells + 8) (n := slots + 40) (by show _ ≤ _; omega) (by show _ ≤ _; omega) ?_
    exact kk (G, o, ld, 1, sp) H locs ls (by refine ⟨?_, ?_, ?_, ?_⟩ <;> dsimp only <;> omega) ⟨0, fo', fL', fK', FZ', K', R', L', N', hP, hD, hC', hM', hS⟩ (lv_sub hl [2, 3, 4, 5, 6] rfl)
  · obtain ⟨fo', fL', fK', FZ', hP1, hD1, hC', hfo⟩ := hB9
    dsimp only at hP1 hD1 hC'
    rw [ht9] at hP1
    obtain ⟨hP, hD⟩ := xjoin (wr := (MWs cI m0 a1 a2 a3 a4 K R L N ld o b k t)) (wc := (LWs cT cJ ou x lv kp fo fL fK o ld b k FZ)) (w1 := (LWs cT cJ ou x lv kp fo' fL' fK' o (ld + 1) 0 0 FZ')) hP hD hkc hFc hP1 hD1
    generalize H1 = H at hP hS ⊢
    refine lv_istore (lv' := [(5, .int (nI 0)), (4, .int (nI i)), (0, .ref sb), (1, .ref x), (2, .ref m0), (3, .ref ou)]) hx hb dL_law_535 hl (by decide) rfl (fun ls hl => ?_)
    refine lv_aload_n hx hb dL_law_537 rfl (lv_at hl 4 rfl) ?_
    refine lv_aload_n hx hb dL_law_538 rfl (lv_at hl 2 rfl) ?_
    refine lv_iload hx hb dL_law_539 (lv_at hl 1 rfl) ?_
    refine lv_iconst (v := nI 1) hx hb dL_law_541 (by decide) ?_
    refine lv_iadd hx hb dL_law_542 ?_
    refine x_top (nI (i + 1)) (xadd (by omega)) ?_
    refine va_sld hx hb hX hbl hbA hS (xin (by omega) (by omega)) dL_law_543 ?_
    refine x_top (xs (i + 1)) (by rw [nI_clamp (by omega)]) ?_
    refine x_top (nI sp) (hv) ?_
    have hP : va_P D vwCl ((LWs cT cJ ou x lv kp fo' fL' fK' o (ld + 1) 0 0 FZ') ++ (MWs cI m0 a1 a2 a3 a4 K R L N ld o b k t)) H := xP_perm List.perm_append_comm hP
    have hD : va_D A ((LWs cT cJ ou x lv kp fo' fL' fK' o (ld + 1) 0 0 FZ') ++ (MWs cI m0 a1 a2 a3 a4 K R L N ld o b k t)) := xD_perm List.perm_append_comm hD
    have hPm : va_P D vwCl (MWs cI m0 a1 a2 a3 a4 K R L N ld o b k t) H := xP_sub (fun _ h => List.mem_append_right _ h) hP
    have hDm : va_D (fun _ => True) (MWs cI m0 a1 a2 a3 a4 K R L N ld o b k t) := (xD_sub (List.sublist_append_right _ _) hD).weaken (fun _ _ _ _ => trivial)
    have hFc := xfree (wc := (MWs cI m0 a1 a2 a3 a4 K R L N ld o b k t)) hD hS hA (fun _ h => List.mem_append_right _ h)
    refine va_calli (va_runV (As := [.int (nI sp)]) (rest := []) ⟨hx, hb, hml, hown, hts⟩ (c_X2_run_ok l m0 a1 a2 a3 a4 K R L N ld o b k t G hM sp hsp hlt hbb hbk hdf H.size) (cwV 1 hts gL_law_X2_run rfl rfl rfl (by decide +kernel) ⟨(Nat.le_of_ble_eq_true rfl), (Nat.le_of_ble_eq_true rfl)⟩) ⟨XP_blind, va_recv hK hPm (ci := 2) (q0 := 0) rfl rfl, XP_pre hE ⟨rfl, hPm, hDm⟩⟩ rfl rfl hl.1 rfl (lv_room (Nat.le_of_ble_eq_true rfl)) dL_law_544 ⟨by show (_ : Nat) ≤ 709371; omega, by show (_ : Nat) ≤ 6967992; omega⟩) hS (fun q9 _ h => hFc q9 h) hFc (fun r8 u8 t9 H1 locs ht9 hvm9 hw8 hB9 hzc hkc hS => ?_)
    obtain ⟨K', R', L', N', hP1, hD1, hM'⟩ := hB9
    rw [ht9] at hP1
    obtain ⟨hP, hD⟩ := xjoin (wr := (LWs cT cJ ou x lv kp fo' fL' fK' o (ld + 1) 0 0 FZ')) (wc := (MWs cI m0 a1 a2 a3 a4 K R L N ld o b k t)) (w1 := (MWs cI m0 a1 a2 a3 a4 K' R' L' N' (ld + 1) o 0 0 0)) hP hD hkc hFc hP1 hD1
    generalize H1 = H at hP hS ⊢
    have hP : va_P D vwCl ((MWs cI m0 a1 a2 a3 a4 K' R' L' N' (ld + 1) o 0 0 0) ++ (LWs cT cJ ou x lv kp fo' fL' fK' o (ld + 1) 0 0 FZ')) H := xP_perm List.perm_append_comm hP
    have hD : va_D A ((MWs cI m0 a1 a2 a3 a4 K' R' L' N' (ld + 1) o 0 0 0) ++ (LWs cT cJ ou x lv kp fo' fL' fK' o (ld + 1) 0 0 FZ')) := xD_perm List.perm_append_comm hD
    subst hw8
    refine lv_istore (lv' := [(6, .int (nI (ld + 1))), (5, .int (nI 0)), (4, .int (nI i)), (0, .ref sb), (1, .ref x), (2, .ref m0), (3, .ref ou)]) hx hb dL_law_547 hl (by decide) rfl (fun ls hl => ?_)
    refine lv_aload_n hx hb dL_law_549 rfl (lv_at hl 5 rfl) ?_
    have hPm : va_P D vwCl (MWs cI m0 a1 a2 a3 a4 K' R' L' N' (ld + 1) o 0 0 0) H := xP_sub (ws := (MWs cI m0 a1 a2 a3 a4 K' R' L' N' (ld + 1) o 0 0 0) ++ (LWs cT cJ ou x lv kp fo' fL' fK' o (ld + 1) 0 0 FZ')) (fun _ h => List.mem_append_left _ h) hP
    refine xc_sie (va_runV (As := []) (rest := []) ⟨hx, hb, hml, hown, hts⟩ (c_X2_thrown l m0 a1 a2 a3 a4 K' R' L' N' (ld + 1) o 0 0 0) (cwV 0 hts gL_law_X2_thrown rfl rfl rfl (by decide +kernel) ⟨(Nat.le_of_ble_eq_true rfl), (Nat.le_of_ble_eq_true rfl)⟩) ⟨XP_blind, va_recv hK hPm (ci := 2) (q0 := 0) rfl rfl, XP_pre hE hPm⟩ rfl rfl hl.1 rfl (lv_room (Nat.le_of_ble_eq_true rfl)) dL_law_550 ⟨by show (_ : Nat) ≤ 709371; omega, by show (_ : Nat) ≤ 6967992; omega⟩) ?_
    refine lv_iload hx hb dL_law_553 (lv_at hl 1 rfl) ?_
    refine lv_icmp_eq (tgt := 560) hx hb dL_law_555 (by decide) (fun _ => ?_) (fun h => absurd h (by decide))
    refine lv_iload hx hb dL_law_560 (lv_at hl 1 rfl) ?_
    refine lv_if_ne (tgt := 577) hx hb dL_law_562 (by decide) (fun h => absurd h (by decide)) (fun _ => ?_)
    refine lv_aload_n hx hb dL_law_565 rfl (lv_at hl 6 rfl) ?_
    refine lv_iconst (v := nI 0) hx hb dL_law_566 (by decide) ?_
    refine va_lald hx hb hK hP 5 2 rfl rfl (xin (by omega) (by omega)) dL_law_567 ?_
    refine x_topl ((nI (ld + 1)).toInt64) (by rw [nI_clamp (by omega)]; exact hfo) ?_
    refine lv_iload hx hb dL_law_568 (lv_at hl 0 rfl) ?_
    refine lv_i2l (v := (nI (ld + 1)).toInt64) hx hb dL_law_570 rfl ?_
    refine W.lcmp hx hb dL_law_571 ?_
    refine x_top (nI 0) (lg_self _) ?_
    refine lv_if_eq (tgt := 577) hx hb dL_law_572 (by decide) (fun _ => ?_) (fun h => absurd h (by decide))
    refine lv_goto (tgt := 1054) hx hb dL_law_577 (by decide) ?_
    refine W.widen (k := cells + 8) (n := slots + 40) (by show _ ≤ _; omega) (by show _ ≤ _; omega) ?_
    exact kk (cpD G (ld + 1) 6, o, ld + 1, 0, 0) H locs ls (by refine ⟨?_, ?_, ?_, ?_⟩ <;> dsimp only <;> omega) ⟨0, fo', fL', fK', FZ', K', R', L', N', hP, hD, hC', hM', hS⟩ (lv_sub hl [2, 3, 4, 5, 6] rfl)
  · obtain ⟨fo', fL', fK', FZ', hP1, hD1, hC', hfo⟩ := hB9
    dsimp only at hP1 hD1 hC'
    rw [ht9] at hP1
    obtain ⟨hP, hD⟩ := xjoin (wr := (MWs cI m0 a1 a2 a3 a4 K R L N ld o b k t)) (wc := (LWs cT cJ ou x lv kp fo fL fK o ld b k FZ)) (w1 := (LWs cT cJ ou x lv kp fo' fL' fK' o ld b k FZ')) hP hD hkc hFc hP1 hD1
    generalize H1 = H at hP hS ⊢
    refine lv_istore (lv' := [(5, .int (nI 1)), (4, .int (nI i)), (0, .ref sb), (1, .ref x), (2, .ref m0), (3, .ref ou)]) hx hb dL_law_535 hl (by decide) rfl (fun ls hl => ?_)
    refine lv_aload_n hx hb dL_law_537 rfl (lv_at hl 4 rfl) ?_
    refine lv_aload_n hx hb dL_law_538 rfl (lv_at hl 2 rfl) ?_
    refine lv_iload hx hb dL_law_539 (lv_at hl 1 rfl) ?_
    refine lv_iconst (v := nI 1) hx hb dL_law_541 (by decide) ?_
    refine lv_iadd hx hb dL_law_542 ?_
    refine x_top (nI (i + 1)) (xadd (by omega)) ?_
    refine va_sld hx hb hX hbl hbA hS (xin (by omega) (by omega)) dL_law_543 ?_
    refine x_top (xs (i + 1)) (by rw [nI_clamp (by omega)]) ?_
    have hP : va_P D vwCl ((LWs cT cJ ou x lv kp fo' fL' fK' o ld b k FZ') ++ (MWs cI m0 a1 a2 a3 a4 K R L N ld o b k t)) H := xP_perm List.perm_append_comm hP
    have hD : va_D A ((LWs cT cJ ou x lv kp fo' fL' fK' o ld b k FZ') ++ (MWs cI m0 a1 a2 a3 a4 K R L N ld o b k t)) := xD_perm List.perm_append_comm hD
    have hPm : va_P D vwCl (MWs cI m0 a1 a2 a3 a4 K R L N ld o b k t) H := xP_sub (fun _ h => List.mem_append_right _ h) hP
    have hDm : va_D (fun _ => True) (MWs cI m0 a1 a2 a3 a4 K R L N ld o b k t) := (xD_sub (List.sublist_append_right _ _) hD).weaken (fun _ _ _ _ => trivial)
    have hFc := xfree (wc := (MWs cI m0 a1 a2 a3 a4 K R L N ld o b k t)) hD hS hA (fun _ h => List.mem_append_right _ h)
    refine va_calli (va_runV (As := [.int (xs (i + 1))]) (rest := []) ⟨hx, hb, hml, hown, hts⟩ (c_X2_run_b l m0 a1 a2 a3 a4 K R L N ld o b k t G hM (xs (i + 1)) hv H.size) (cwV 1 hts gL_law_X2_run rfl rfl rfl (by decide +kernel) ⟨(Nat.le_of_ble_eq_true rfl), (Nat.le_of_ble_eq_true rfl)⟩) ⟨XP_blind, va_recv hK hPm (ci := 2) (q0 := 0) rfl rfl, XP_pre hE ⟨rfl, hPm, hDm⟩⟩ rfl rfl hl.1 rfl (lv_room (Nat.le_of_ble_eq_true rfl)) dL_law_544 ⟨by show (_ : Nat) ≤ 709371; omega, by show (_ : Nat) ≤ 6967992; omega⟩) hS (fun q9 _ h => hFc q9 h) hFc (fun r8 u8 t9 H1 locs ht9 hvm9 hw8 hB9 hzc hkc hS => ?_)
    obtain ⟨K', R', L', N', hP1, hD1, hM'⟩ := hB9
    rw [ht9] at hP1
    obtain ⟨hP, hD⟩ := xjoin (wr := (LWs cT cJ ou x lv kp fo' fL' fK' o ld b k FZ')) (wc := (MWs cI m0 a1 a2 a3 a4 K R L N ld o b k t)) (w1 := (MWs cI m0 a1 a2 a3 a4 K' R' L' N' ld o b k 1)) hP hD hkc hFc hP1 hD1
    generalize H1 = H at hP hS ⊢
    have hP : va_P D vwCl ((MWs cI m0 a1 a2 a3 a4 K' R' L' N' ld o b k 1) ++ (LWs cT cJ ou x lv kp fo' fL' fK' o ld b k FZ')) H := xP_perm List.perm_append_comm hP
    have hD : va_D A ((MWs cI m0 a1 a2 a3 a4 K' R' L' N' ld o b k 1) ++ (LWs cT cJ ou x lv kp fo' fL' fK' o ld b k FZ')) := xD_perm List.perm_append_comm hD
    refine lv_istore (lv' := [(6, .int r8), (5, .int (nI 1)), (4, .int (nI i)), (0, .ref sb), (1, .ref x), (2, .ref m0), (3, .ref ou)]) hx hb dL_law_547 hl (by decide) rfl (fun ls hl => ?_)
    refine lv_aload_n hx hb dL_law_549 rfl (lv_at hl 5 rfl) ?_
    have hPm : va_P D vwCl (MWs cI m0 a1 a2 a3 a4 K' R' L' N' ld o b k 1) H := xP_sub (ws := (MWs cI m0 a1 a2 a3 a4 K' R' L' N' ld o b k 1) ++ (LWs cT cJ ou x lv kp fo' fL' fK' o ld b k FZ')) (fun _ h => List.mem_append_left _ h) hP
    refine xc_sie (va_runV (As := []) (rest := []) ⟨hx, hb, hml, hown, hts⟩ (c_X2_thrown l m0 a1 a2 a3 a4 K' R' L' N' ld o b k 1) (cwV 0 hts gL_law_X2_thrown rfl rfl rfl (by decide +kernel) ⟨(Nat.le_of_ble_eq_true rfl), (Nat.le_of_ble_eq_true rfl)⟩) ⟨XP_blind, va_recv hK hPm (ci := 2) (q0 := 0) rfl rfl, XP_pre hE hPm⟩ rfl rfl hl.1 rfl (lv_room (Nat.le_of_ble_eq_true rfl)) dL_law_550 ⟨by show (_ : Nat) ≤ 709371; omega, by show (_ : Nat) ≤ 6967992; omega⟩) ?_
    refine lv_iload hx hb dL_law_553 (lv_at hl 1 rfl) ?_
    refine lv_icmp_eq (tgt := 560) hx hb dL_law_555 (by decide) (fun _ => ?_) (fun h => absurd h (by decide))
    refine lv_iload hx hb dL_law_560 (lv_at hl 1 rfl) ?_
    refine lv_if_ne (tgt := 577) hx hb dL_law_562 (by decide) (fun _ => ?_) (fun h => absurd h (by decide))
    refine lv_goto (tgt := 1054) hx hb dL_law_577 (by decide) ?_
    refine W.widen (k := cells + 8) (n := slots + 40) (by show _ ≤ _; omega) (by show _ ≤ _; omega) ?_
    exact kk (G, o, ld, b, k) H locs ls (by refine ⟨?_, ?_, ?_, ?_⟩ <;> dsimp only <;> omega) ⟨1, fo', fL', fK', FZ', K', R', L', N', hP, hD, hC', hM', hS⟩ (lv_sub hl [2, 3, 4, 5, 6] rfl)
  · obtain ⟨fo', fL', fK', FZ', hP1, hD1, hC', hfo⟩ := hB9
    dsimp only at hP1 hD1 hC'
    rw [ht9] at hP1
    obtain ⟨hP, hD⟩ := xjoin (wr := (MWs cI m0 a1 a2 a3 a4 K R L N ld o b k t)) (wc := (LWs cT cJ ou x lv kp fo fL fK o ld b k FZ)) (w1 := (LWs cT cJ ou x lv kp fo' fL' fK' o ld b k FZ')) hP hD hkc hFc hP1 hD1
    generalize H1 = H at hP hS ⊢
    refine lv_istore (lv' := [(5, .int (nI 2)), (4, .int (nI i)), (0, .ref sb), (1, .ref x), (2, .ref m0), (3, .ref ou)]) hx hb dL_law_535 hl (by decide) rfl (fun ls hl => ?_)
    refine lv_aload_n hx hb dL_law_537 rfl (lv_at hl 4 rfl) ?_
    refine lv_aload_n hx hb dL_law_538 rfl (lv_at hl 2 rfl) ?_
    refine lv_iload hx hb dL_law_539 (lv_at hl 1 rfl) ?_
    refine lv_iconst (v := nI 1) hx hb dL_law_541 (by decide) ?_
    refine lv_iadd hx hb dL_law_542 ?_
    refine x_top (nI (i + 1)) (xadd (by omega)) ?_
    refine va_sld hx hb hX hbl hbA hS (xin (by omega) (by omega)) dL_law_543 ?_
    refine x_top (xs (i + 1)) (by rw [nI_clamp (by omega)]) ?_
    refine x_top (nI sp) (hv) ?_
    have hP : va_P D vwCl ((LWs cT cJ ou x lv kp fo' fL' fK' o ld b k FZ') ++ (MWs cI m0 a1 a2 a3 a4 K R L N ld o b k t)) H := xP_perm List.perm_append_comm hP
    have hD : va_D A ((LWs cT cJ ou x lv kp fo' fL' fK' o ld b k FZ') ++ (MWs cI m0 a1 a2 a3 a4 K R L N ld o b k t)) := xD_perm List.perm_append_comm hD
    have hPm : va_P D vwCl (MWs cI m0 a1 a2 a3 a4 K R L N ld o b k t) H := xP_sub (fun _ h => List.mem_append_right _ h) hP
    have hDm : va_D (fun _ => True) (MWs cI m0 a1 a2 a3 a4 K R L N ld o b k t) := (xD_sub (List.sublist_append_right _ _) hD).weaken (fun _ _ _ _ => trivial)
    have hFc := xfree (wc := (MWs cI m0 a1 a2 a3 a4 K R L N ld o b k t)) hD hS hA (fun _ h => List.mem_append_right _ h)
    refine va_calli (va_runV (As := [.int (nI sp)]) (rest := []) ⟨hx, hb, hml, hown, hts⟩ (c_X2_run_c l m0 a1 a2 a3 a4 K R L N ld o b k t G hM sp hsp hld hlt H.size) (cwV 1 hts gL_law_X2_run rfl rfl rfl (by decide +kernel) ⟨(Nat.le_of_ble_eq_true rfl), (Nat.le_of_ble_eq_true rfl)⟩) ⟨XP_blind, va_recv hK hPm (ci := 2) (q0 := 0) rfl rfl, XP_pre hE ⟨rfl, hPm, hDm⟩⟩ rfl rfl hl.1 rfl (lv_room (Nat.le_of_ble_eq_true rfl)) dL_law_544 ⟨by show (_ : Nat) ≤ 709371; omega, by show (_ : Nat) ≤ 6967992; omega⟩) hS (fun q9 _ h => hFc q9 h) hFc (fun r8 u8 t9 H1 locs ht9 hvm9 hw8 hB9 hzc hkc hS => ?_)
    obtain ⟨K', R', L', N', hP1, hD1, hM'⟩ := hB9
    rw [ht9] at hP1
    obtain ⟨hP, hD⟩ := xjoin (wr := (LWs cT cJ ou x lv kp fo' fL' fK' o ld b k FZ')) (wc := (MWs cI m0 a1 a2 a3 a4 K R L N ld o b k t)) (w1 := (MWs cI m0 a1 a2 a3 a4 K' R' L' N' ld o b k 2)) hP hD hkc hFc hP1 hD1
    generalize H1 = H at hP hS ⊢
    have hP : va_P D vwCl ((MWs cI m0 a1 a2 a3 a4 K' R' L' N' ld o b k 2) ++ (LWs cT cJ ou x lv kp fo' fL' fK' o ld b k FZ')) H := xP_perm List.perm_append_comm hP
    have hD : va_D A ((MWs cI m0 a1 a2 a3 a4 K' R' L' N' ld o b k 2) ++ (LWs cT cJ ou x lv kp fo' fL' fK' o ld b k FZ')) := xD_perm List.perm_append_comm hD
    refine lv_istore (lv' := [(6, .int r8), (5, .int (nI 2)), (4, .int (nI i)), (0, .ref sb), (1, .ref x), (2, .ref m0), (3, .ref ou)]) hx hb dL_law_547 hl (by decide) rfl (fun ls hl => ?_)
    refine lv_aload_n hx hb dL_law_549 rfl (lv_at hl 5 rfl) ?_
    have hPm : va_P D vwCl (MWs cI m0 a1 a2 a3 a4 K' R' L' N' ld o b k 2) H := xP_sub (ws := (MWs cI m0 a1 a2 a3 a4 K' R' L' N' ld o b k 2) ++ (LWs cT cJ ou x lv kp fo' fL' fK' o ld b k FZ')) (fun _ h => List.mem_append_left _ h) hP
    refine xc_sie (va_runV (As := []) (rest := []) ⟨hx, hb, hml, hown, hts⟩ (c_X2_thrown l m0 a1 a2 a3 a4 K' R' L' N' ld o b k 2) (cwV 0 hts gL_law_X2_thrown rfl rfl rfl (by decide +kernel) ⟨(Nat.le_of_ble_eq_true rfl), (Nat.le_of_ble_eq_true rfl)⟩) ⟨XP_blind, va_recv hK hPm (ci := 2) (q0 := 0) rfl rfl, XP_pre hE hPm⟩ rfl rfl hl.1 rfl (lv_room (Nat.le_of_ble_eq_true rfl)) dL_law_550 ⟨by show (_ : Nat) ≤ 709371; omega, by show (_ : Nat) ≤ 6967992; omega⟩) ?_
    refine lv_iload hx hb dL_law_553 (lv_at hl 1 rfl) ?_
    refine lv_icmp_eq (tgt := 560) hx hb dL_law_555 (by decide) (fun _ => ?_) (fun h => absurd h (by decide))
    refine lv_iload hx hb dL_law_560 (lv_at hl 1 rfl) ?_
    refine lv_if_ne (tgt := 577) hx hb dL_law_562 (by decide) (fun _ => ?_) (fun h => absurd h (by decide))
    refine lv_goto (tgt := 1054) hx hb dL_law_577 (by decide) ?_
    refine W.widen (k := cells + 8) (n := slots + 40) (by show _ ≤ _; omega) (by show _ ≤ _; omega) ?_
    exact kk (G, o, ld, b, k) H locs ls (by refine ⟨?_, ?_, ?_, ?_⟩ <;> dsimp only <;> omega) ⟨2, fo', fL', fK', FZ', K', R', L', N', hP, hD, hC', hM', hS⟩ (lv_sub hl [2, 3, 4, 5, 6] rfl)

set_option maxHeartbeats 4000000 in
set_option maxRecDepth 100000 in
theorem lc_thin {p : Program} {l : Launch} {e : Env} {s : State} {m : MethodId} {below : List Frame} {meth : Method} {c : Code} {D : va_G} {cI cT cJ : ClassId} {A : Nat → Prop} {sb Ls : Nat} {xs : Nat → Int32} {m0 a1 a2 a3 a4 ou x lv kp : Nat} {cells slots : Nat} {Q : State → Prop} (hX0 : LCX p l s m c D cI cT cJ A sb Ls xs) {H : Heap} {locs : List Loc} {ls : Array Slot} {i : Nat} {G : Nat → Tv} {o ld b k : Nat} (hi : i + 4 ≤ Ls) (hW : WF (G, o, ld, b, k)) (hI : LI D cI cT cJ m0 a1 a2 a3 a4 ou x lv kp A s (G, o, ld, b, k) H locs) (hl : lv_has ls 7 [(4, .int (nI i)), (0, .ref sb), (1, .ref x), (2, .ref m0), (3, .ref ou)]) (hcl : cells + 8 ≤ 709371) (hsl : slots + 40 ≤ 6967992)
    (kk : ∀ (u : Sv) (H : Heap) (locs : List Loc) (ls : Array Slot), WF u → LI D cI cT cJ m0 a1 a2 a3 a4 ou x lv kp A s u H locs → lv_has ls 7 [(4, .int (nI i)), (0, .ref sb), (1, .ref x), (2, .ref m0), (3, .ref ou)] → W p l e room_1 s m #[Value.ref sb] below meth c H locs (cells + 8) (slots + 40) Q (F0 m 1054 ls [])) : W p l e room_1 s m #[Value.ref sb] below meth c H locs cells slots Q (F0 m 593 ls []) := by
  obtain ⟨hx, hb, hml, hown, hts, hX, hbl, hL, hst, hE, hT0, hN, hA, hbA⟩ := hX0
  obtain ⟨t, fo, fL, fK, FZ, K, R, L, N, hP, hD, hC, hM, hS⟩ := hI
  obtain ⟨hold, hld, hbb, hbk⟩ := hW
  dsimp only at hP hD hC hM hold hld hbb hbk
  have hK := hE.1
  refine lv_aload_n hx hb dL_law_593 rfl (lv_at hl 2 rfl) ?_
  refine lv_aload_n hx hb dL_law_594 rfl (lv_at hl 1 rfl) ?_
  refine lv_iload hx hb dL_law_595 (lv_at hl 0 rfl) ?_
  refine lv_iconst (v := nI 1) hx hb dL_law_597 (by decide) ?_
  refine lv_iadd hx hb dL_law_598 ?_
  refine x_top (nI (i + 1)) (xadd (by omega)) ?_
  refine va_sld hx hb hX hbl hbA hS (xin (by omega) (by omega)) dL_law_599 ?_
  refine x_top (xs (i + 1)) (by rw [nI_clamp (by omega)]) ?_
  refine lv_aload_n hx hb dL_law_600 rfl (lv_at hl 4 rfl) ?_
  have hP : va_P D vwCl ((MWs cI m0 a1 a2 a3 a4 K R L N ld o b k t) ++ (LWs cT cJ ou x lv kp fo fL fK o ld b k FZ)) H := hP
  have hD : va_D A ((MWs cI m0 a1 a2 a3 a4 K R L N ld o b k t) ++ (LWs cT cJ ou x lv kp fo fL fK o ld b k FZ)) := hD
  have hPc : va_P D vwCl (LWs cT cJ ou x lv kp fo fL fK o ld b k FZ) H := xP_sub (fun _ h => List.mem_append_right _ h) hP
  have hDc : va_D (fun _ => True) (LWs cT cJ ou x lv kp fo fL fK o ld b k FZ) := (xD_sub (List.sublist_append_right _ _) hD).weaken (fun _ _ _ _ => trivial)
  have hFc := xfree (wc := (LWs cT cJ ou x lv kp fo fL fK o ld b k FZ)) hD hS hA (fun _ h => List.mem_append_right _ h)
  have hT : XT A s H := hT0.kept hS.2.1
  refine xcw (vx_runSX (As := [.ref x, .int (xs (i + 1)), .ref ou]) (rest := []) ⟨hx, hb, hml, hown, hts⟩ (c_L_thin l hst A ou x lv kp fo fL fK o ld b k FZ G hC (xs (i + 1)) hld hold H.size) (vx_cwSW 3 hts gL_law_L_thin rfl rfl rfl (by decide +kernel) ⟨(Nat.le_of_ble_eq_true rfl), (Nat.le_of_ble_eq_true rfl)⟩) ⟨XPl_blind, XPl_pre hE hT hN ⟨rfl, hPc, hDc⟩⟩ rfl rfl hl.1 rfl (lv_room (Nat.le_of_ble_eq_true rfl)) dL_law_601 ⟨by show (_ : Nat) ≤ 709371; omega, by show (_ : Nat) ≤ 6967992; omega⟩) hS (fun q9 _ h => hFc q9 h) hFc (fun _ _ _ _ _ hp9 _ _ _ _ _ _ => False.elim hp9) (fun r9 u9 t9 H1 locs ht9 hvm9 hw9 hB9 hzc hkc hS => ?_)
  obtain ⟨u1, z9⟩ := u9
  dsimp only at hw9 hB9
  rcases hw9 with ⟨rfl, r0, rfl, sp, hsp1, hsp, hv, hos, rfl, rfl⟩ | ⟨rfl, rfl, hv⟩ | ⟨rfl, rfl, sp, hsp1, hsp, hv, hos⟩
  · obtain ⟨fo', fL', fK', FZ', hP1, hD1, hC', hfo⟩ := hB9
    dsimp only at hP1 hD1 hC'
    rw [ht9] at hP1
    obtain ⟨hP, hD⟩ := xjoin (wr := (MWs cI m0 a1 a2 a3 a4 K R L N ld o b k t)) (wc := (LWs cT cJ ou x lv kp fo fL fK o ld b k FZ)) (w1 := (LWs cT cJ ou x lv kp fo' fL' fK' (o + sp) ld 0 0 FZ')) hP hD hkc hFc hP1 hD1
    generalize H1 = H at hP hS ⊢
    refine lv_istore (lv' := [(5, .int (nI 0)), (4, .int (nI i)), (0, .ref sb), (1, .ref x), (2, .ref m0), (3, .ref ou)]) hx hb dL_law_604 hl (by decide) rfl (fun ls hl => ?_)
    refine lv_aload_n hx hb dL_law_606 rfl (lv_at hl 4 rfl) ?_
    refine lv_aload_n hx hb dL_law_607 rfl (lv_at hl 2 rfl) ?_
    refine lv_iload hx hb dL_law_608 (lv_at hl 1 rfl) ?_
    refine lv_iconst (v := nI 1) hx hb dL_law_610 (by decide) ?_
    refine lv_iadd hx hb dL_law_611 ?_
    refine x_top (nI (i + 1)) (xadd (by omega)) ?_
    refine va_sld hx hb hX hbl hbA hS (xin (by omega) (by omega)) dL_law_612 ?_
    refine x_top (xs (i + 1)) (by rw [nI_clamp (by omega)]) ?_
    refine x_top (nI sp) (hv) ?_
    have hP : va_P D vwCl ((LWs cT cJ ou x lv kp fo' fL' fK' (o + sp) ld 0 0 FZ') ++ (MWs cI m0 a1 a2 a3 a4 K R L N ld o b k t)) H := xP_perm List.perm_append_comm hP
    have hD : va_D A ((LWs cT cJ ou x lv kp fo' fL' fK' (o + sp) ld 0 0 FZ') ++ (MWs cI m0 a1 a2 a3 a4 K R L N ld o b k t)) := xD_perm List.perm_append_comm hD
    have hPm : va_P D vwCl (MWs cI m0 a1 a2 a3 a4 K R L N ld o b k t) H := xP_sub (fun _ h => List.mem_append_right _ h) hP
    have hDm : va_D (fun _ => True) (MWs cI m0 a1 a2 a3 a4 K R L N ld o b k t) := (xD_sub (List.sublist_append_right _ _) hD).weaken (fun _ _ _ _ => trivial)
    have hFc := xfree (wc := (MWs cI m0 a1 a2 a3 a4 K R L N ld o b k t)) hD hS hA (fun _ h => List.mem_append_right _ h)
    refine va_calli (va_runV (As := [.int (nI sp)]) (rest := []) ⟨hx, hb, hml, hown, hts⟩ (c_X2_thin_g l m0 a1 a2 a3 a4 K R L N ld o b k t G hM sp hsp1 hsp hld hos hbb hbk H.size) (cwV 1 hts gL_law_X2_thin rfl rfl rfl (by decide +kernel) ⟨(Nat.le_of_ble_eq_true rfl), (Nat.le_of_ble_eq_true rfl)⟩) ⟨XP_blind, va_recv hK hPm (ci := 2) (q0 := 0) rfl rfl, XP_pre hE ⟨rfl, hPm, hDm⟩⟩ rfl rfl hl.1 rfl (lv_room (Nat.le_of_ble_eq_true rfl)) dL_law_613 ⟨by show (_ : Nat) ≤ 709371; omega, by show (_ : Nat) ≤ 6967992; omega⟩) hS (fun q9 _ h => hFc q9 h) hFc (fun r8 u8 t9 H1 locs ht9 hvm9 hw8 hB9 hzc hkc hS => ?_)
    obtain ⟨K', R', L', N', hP1, hD1, hM'⟩ := hB9
    rw [ht9] at hP1
    obtain ⟨hP, hD⟩ := xjoin (wr := (LWs cT cJ ou x lv kp fo' fL' fK' (o + sp) ld 0 0 FZ')) (wc := (MWs cI m0 a1 a2 a3 a4 K R L N ld o b k t)) (w1 := (MWs cI m0 a1 a2 a3 a4 K' R' L' N' ld (o + sp) 0 0 0)) hP hD hkc hFc hP1 hD1
    generalize H1 = H at hP hS ⊢
    have hP : va_P D vwCl ((MWs cI m0 a1 a2 a3 a4 K' R' L' N' ld (o + sp) 0 0 0) ++ (LWs cT cJ ou x lv kp fo' fL' fK' (o + sp) ld 0 0 FZ')) H := xP_perm List.perm_append_comm hP
    have hD : va_D A ((MWs cI m0 a1 a2 a3 a4 K' R' L' N' ld (o + sp) 0 0 0) ++ (LWs cT cJ ou x lv kp fo' fL' fK' (o + sp) ld 0 0 FZ')) := xD_perm List.perm_append_comm hD
    subst hw8
    refine lv_istore (lv' := [(6, .int (nI (o + sp))), (5, .int (nI 0)), (4, .int (nI i)), (0, .ref sb), (1, .ref x), (2, .ref m0), (3, .ref ou)]) hx hb dL_law_616 hl (by decide) rfl (fun ls hl => ?_)
    refine lv_aload_n hx hb dL_law_618 rfl (lv_at hl 5 rfl) ?_
    have hPm : va_P D vwCl (MWs cI m0 a1 a2 a3 a4 K' R' L' N' ld (o + sp) 0 0 0) H := xP_sub (ws := (MWs cI m0 a1 a2 a3 a4 K' R' L' N' ld (o + sp) 0 0 0) ++ (LWs cT cJ ou x lv kp fo' fL' fK' (o + sp) ld 0 0 FZ')) (fun _ h => List.mem_append_left _ h) hP
    refine xc_sie (va_runV (As := []) (rest := []) ⟨hx, hb, hml, hown, hts⟩ (c_X2_thrown l m0 a1 a2 a3 a4 K' R' L' N' ld (o + sp) 0 0 0) (cwV 0 hts gL_law_X2_thrown rfl rfl rfl (by decide +kernel) ⟨(Nat.le_of_ble_eq_true rfl), (Nat.le_of_ble_eq_true rfl)⟩) ⟨XP_blind, va_recv hK hPm (ci := 2) (q0 := 0) rfl rfl, XP_pre hE hPm⟩ rfl rfl hl.1 rfl (lv_room (Nat.le_of_ble_eq_true rfl)) dL_law_619 ⟨by show (_ : Nat) ≤ 709371; omega, by show (_ : Nat) ≤ 6967992; omega⟩) ?_
    refine lv_iload hx hb dL_law_622 (lv_at hl 1 rfl) ?_
    refine lv_icmp_eq (tgt := 629) hx hb dL_law_624 (by decide) (fun _ => ?_) (fun h => absurd h (by decide))
    refine lv_iload hx hb dL_law_629 (lv_at hl 1 rfl) ?_
    refine lv_if_ne (tgt := 646) hx hb dL_law_631 (by decide) (fun h => absurd h (by decide)) (fun _ => ?_)
    refine lv_aload_n hx hb dL_law_634 rfl (lv_at hl 6 rfl) ?_
    refine lv_iconst (v := nI 0) hx hb dL_law_635 (by decide) ?_
    refine va_lald hx hb hK hP 5 2 rfl rfl (xin (by omega) (by omega)) dL_law_636 ?_
    refine x_topl ((nI (o + sp)).toInt64) (by rw [nI_clamp (by omega)]; exact hfo) ?_
    refine lv_iload hx hb dL_law_637 (lv_at hl 0 rfl) ?_
    refine lv_i2l (v := (nI (o + sp)).toInt64) hx hb dL_law_639 rfl ?_
    refine W.lcmp hx hb dL_law_640 ?_
    refine x_top (nI 0) (lg_self _) ?_
    refine lv_if_eq (tgt := 646) hx hb dL_law_641 (by decide) (fun _ => ?_) (fun h => absurd h (by decide))
    refine lv_goto (tgt := 1054) hx hb dL_law_646 (by decide) ?_
    refine W.widen (k := cells + 8) (n := slots + 40) (by show _ ≤ _; omega) (by show _ ≤ _; omega) ?_
    exact kk (G, o + sp, ld, 0, 0) H locs ls (by refine ⟨?_, ?_, ?_, ?_⟩ <;> dsimp only <;> omega) ⟨0, fo', fL', fK', FZ', K', R', L', N', hP, hD, hC', hM', hS⟩ (lv_sub hl [2, 3, 4, 5, 6] rfl)
  · obtain ⟨fo', fL', fK', FZ', hP1, hD1, hC', hfo⟩ := hB9
    dsimp only at hP1 hD1 hC'
    rw [ht9] at hP1
    obtain ⟨hP, hD⟩ := xjoin (wr := (MWs cI m0 a1 a2 a3 a4 K R L N ld o b k t)) (wc := (LWs cT cJ ou x lv kp fo fL fK o ld b k FZ)) (w1 := (LWs cT cJ ou x lv kp fo' fL' fK' o ld b k FZ')) hP hD hkc hFc hP1 hD1
    generalize H1 = H at hP hS ⊢
    refine lv_istore (lv' := [(5, .int (nI 1)), (4, .int (nI i)), (0, .ref sb), (1, .ref x), (2, .ref m0), (3, .ref ou)]) hx hb dL_law_604 hl (by decide) rfl (fun ls hl => ?_)
    refine lv_aload_n hx hb dL_law_606 rfl (lv_at hl 4 rfl) ?_
    refine lv_aload_n hx hb dL_law_607 rfl (lv_at hl 2 rfl) ?_
    refine lv_iload hx hb dL_law_608 (lv_at hl 1 rfl) ?_
    refine lv_iconst (v := nI 1) hx hb dL_law_610 (by decide) ?_
    refine lv_iadd hx hb dL_law_611 ?_
    refine x_top (nI (i + 1)) (xadd (by omega)) ?_
    refine va_sld hx hb hX hbl hbA hS (xin (by omega) (by omega)) dL_law_612 ?_
    refine x_top (xs (i + 1)) (by rw [nI_clamp (by omega)]) ?_
    have hP : va_P D vwCl ((LWs cT cJ ou x lv kp fo' fL' fK' o ld b k FZ') ++ (MWs cI m0 a1 a2 a3 a4 K R L N ld o b k t)) H := xP_perm List.perm_append_comm hP
    have hD : va_D A ((LWs cT cJ ou x lv kp fo' fL' fK' o ld b k FZ') ++ (MWs cI m0 a1 a2 a3 a4 K R L N ld o b k t)) := xD_perm List.perm_append_comm hD
    have hPm : va_P D vwCl (MWs cI m0 a1 a2 a3 a4 K R L N ld o b k t) H := xP_sub (fun _ h => List.mem_append_right _ h) hP
    have hDm : va_D (fun _ => True) (MWs cI m0 a1 a2 a3 a4 K R L N ld o b k t) := (xD_sub (List.sublist_append_right _ _) hD).weaken (fun _ _ _ _ => trivial)
    have hFc := xfree (wc := (MWs cI m0 a1 a2 a3 a4 K R L N ld o b k t)) hD hS hA (fun _ h => List.mem_append_right _ h)
    refine va_calli (va_runV (As := [.int (xs (i + 1))]) (rest := []) ⟨hx, hb, hml, hown, hts⟩ (c_X2_thin_b l m0 a1 a2 a3 a4 K R L N ld o b k t G hM (xs (i + 1)) hv H.size) (cwV 1 hts gL_law_X2_thin rfl rfl rfl (by decide +kernel) ⟨(Nat.le_of_ble_eq_true rfl), (Nat.le_of_ble_eq_true rfl)⟩) ⟨XP_blind, va_recv hK hPm (ci := 2) (q0 := 0) rfl rfl, XP_pre hE ⟨rfl, hPm, hDm⟩⟩ rfl rfl hl.1 rfl (lv_room (Nat.le_of_ble_eq_true rfl)) dL_law_613 ⟨by show (_ : Nat) ≤ 709371; omega, by show (_ : Nat) ≤ 6967992; omega⟩) hS (fun q9 _ h => hFc q9 h) hFc (fun r8 u8 t9 H1 locs ht9 hvm9 hw8 hB9 hzc hkc hS => ?_)
    obtain ⟨K', R', L', N', hP1, hD1, hM'⟩ := hB9
    rw [ht9] at hP1
    obtain ⟨hP, hD⟩ := xjoin (wr := (LWs cT cJ ou x lv kp fo' fL' fK' o ld b k FZ')) (wc := (MWs cI m0 a1 a2 a3 a4 K R L N ld o b k t)) (w1 := (MWs cI m0 a1 a2 a3 a4 K' R' L' N' ld o b k 1)) hP hD hkc hFc hP1 hD1
    generalize H1 = H at hP hS ⊢
    have hP : va_P D vwCl ((MWs cI m0 a1 a2 a3 a4 K' R' L' N' ld o b k 1) ++ (LWs cT cJ ou x lv kp fo' fL' fK' o ld b k FZ')) H := xP_perm List.perm_append_comm hP
    have hD : va_D A ((MWs cI m0 a1 a2 a3 a4 K' R' L' N' ld o b k 1) ++ (LWs cT cJ ou x lv kp fo' fL' fK' o ld b k FZ')) := xD_perm List.perm_append_comm hD
    refine lv_istore (lv' := [(6, .int r8), (5, .int (nI 1)), (4, .int (nI i)), (0, .ref sb), (1, .ref x), (2, .ref m0), (3, .ref ou)]) hx hb dL_law_616 hl (by decide) rfl (fun ls hl => ?_)
    refine lv_aload_n hx hb dL_law_618 rfl (lv_at hl 5 rfl) ?_
    have hPm : va_P D vwCl (MWs cI m0 a1 a2 a3 a4 K' R' L' N' ld o b k 1) H := xP_sub (ws := (MWs cI m0 a1 a2 a3 a4 K' R' L' N' ld o b k 1) ++ (LWs cT cJ ou x lv kp fo' fL' fK' o ld b k FZ')) (fun _ h => List.mem_append_left _ h) hP
    refine xc_sie (va_runV (As := []) (rest := []) ⟨hx, hb, hml, hown, hts⟩ (c_X2_thrown l m0 a1 a2 a3 a4 K' R' L' N' ld o b k 1) (cwV 0 hts gL_law_X2_thrown rfl rfl rfl (by decide +kernel) ⟨(Nat.le_of_ble_eq_true rfl), (Nat.le_of_ble_eq_true rfl)⟩) ⟨XP_blind, va_recv hK hPm (ci := 2) (q0 := 0) rfl rfl, XP_pre hE hPm⟩ rfl rfl hl.1 rfl (lv_room (Nat.le_of_ble_eq_true rfl)) dL_law_619 ⟨by show (_ : Nat) ≤ 709371; omega, by show (_ : Nat) ≤ 6967992; omega⟩) ?_
    refine lv_iload hx hb dL_law_622 (lv_at hl 1 rfl) ?_
    refine lv_icmp_eq (tgt := 629) hx hb dL_law_624 (by decide) (fun _ => ?_) (fun h => absurd h (by decide))
    refine lv_iload hx hb dL_law_629 (lv_at hl 1 rfl) ?_
    refine lv_if_ne (tgt := 646) hx hb dL_law_631 (by decide) (fun _ => ?_) (fun h => absurd h (by decide))
    refine lv_goto (tgt := 1054) hx hb dL_law_646 (by decide) ?_
    refine W.widen (k := cells + 8) (n := slots + 40) (by show _ ≤ _; omega) (by show _ ≤ _; omega) ?_
    exact kk (G, o, ld, b, k) H locs ls (by refine ⟨?_, ?_, ?_, ?_⟩ <;> dsimp only <;> omega) ⟨1, fo', fL', fK', FZ', K', R', L', N', hP, hD, hC', hM', hS⟩ (lv_sub hl [2, 3, 4, 5, 6] rfl)
  · obtain ⟨fo', fL', fK', FZ', hP1, hD1, hC', hfo⟩ := hB9
    dsimp only at hP1 hD1 hC'
    rw [ht9] at hP1
    obtain ⟨hP, hD⟩ := xjoin (wr := (MWs cI m0 a1 a2 a3 a4 K R L N ld o b k t)) (wc := (LWs cT cJ ou x lv kp fo fL fK o ld b k FZ)) (w1 := (LWs cT cJ ou x lv kp fo' fL' fK' o ld b k FZ')) hP hD hkc hFc hP1 hD1
    generalize H1 = H at hP hS ⊢
    refine lv_istore (lv' := [(5, .int (nI 2)), (4, .int (nI i)), (0, .ref sb), (1, .ref x), (2, .ref m0), (3, .ref ou)]) hx hb dL_law_604 hl (by decide) rfl (fun ls hl => ?_)
    refine lv_aload_n hx hb dL_law_606 rfl (lv_at hl 4 rfl) ?_
    refine lv_aload_n hx hb dL_law_607 rfl (lv_at hl 2 rfl) ?_
    refine lv_iload hx hb dL_law_608 (lv_at hl 1 rfl) ?_
    refine lv_iconst (v := nI 1) hx hb dL_law_610 (by decide) ?_
    refine lv_iadd hx hb dL_law_611 ?_
    refine x_top (nI (i + 1)) (xadd (by omega)) ?_
    refine va_sld hx hb hX hbl hbA hS (xin (by omega) (by omega)) dL_law_612 ?_
    refine x_top (xs (i + 1)) (by rw [nI_clamp (by omega)]) ?_
    refine x_top (nI sp) (hv) ?_
    have hP : va_P D vwCl ((LWs cT cJ ou x lv kp fo' fL' fK' o ld b k FZ') ++ (MWs cI m0 a1 a2 a3 a4 K R L N ld o b k t)) H := xP_perm List.perm_append_comm hP
    have hD : va_D A ((LWs cT cJ ou x lv kp fo' fL' fK' o ld b k FZ') ++ (MWs cI m0 a1 a2 a3 a4 K R L N ld o b k t)) := xD_perm List.perm_append_comm hD
    have hPm : va_P D vwCl (MWs cI m0 a1 a2 a3 a4 K R L N ld o b k t) H := xP_sub (fun _ h => List.mem_append_right _ h) hP
    have hDm : va_D (fun _ => True) (MWs cI m0 a1 a2 a3 a4 K R L N ld o b k t) := (xD_sub (List.sublist_append_right _ _) hD).weaken (fun _ _ _ _ => trivial)
    have hFc := xfree (wc := (MWs cI m0 a1 a2 a3 a4 K R L N ld o b k t)) hD hS hA (fun _ h => List.mem_append_right _ h)
    refine va_calli (va_runV (As := [.int (nI sp)]) (rest := []) ⟨hx, hb, hml, hown, hts⟩ (c_X2_thin_c l m0 a1 a2 a3 a4 K R L N ld o b k t G hM sp hsp1 hsp hld hold hos H.size) (cwV 1 hts gL_law_X2_thin rfl rfl rfl (by decide +kernel) ⟨(Nat.le_of_ble_eq_true rfl), (Nat.le_of_ble_eq_true rfl)⟩) ⟨XP_blind, va_recv hK hPm (ci := 2) (q0 := 0) rfl rfl, XP_pre hE ⟨rfl, hPm, hDm⟩⟩ rfl rfl hl.1 rfl (lv_room (Nat.le_of_ble_eq_true rfl)) dL_law_613 ⟨by show (_ : Nat) ≤ 709371; omega, by show (_ : Nat) ≤ 6967992; omega⟩) hS (fun q9 _ h => hFc q9 h) hFc (fun r8 u8 t9 H1 locs ht9 hvm9 hw8 hB9 hzc hkc hS => ?_)
    obtain ⟨K', R', L', N', hP1, hD1, hM'⟩ := hB9
    rw [ht9] at hP1
    obtain ⟨hP, hD⟩ := xjoin (wr := (LWs cT cJ ou x lv kp fo' fL' fK' o ld b k FZ')) (wc := (MWs cI m0 a1 a2 a3 a4 K R L N ld o b k t)) (w1 := (MWs cI m0 a1 a2 a3 a4 K' R' L' N' ld o b k 2)) hP hD hkc hFc hP1 hD1
    generalize H1 = H at hP hS ⊢
    have hP : va_P D vwCl ((MWs cI m0 a1 a2 a3 a4 K' R' L' N' ld o b k 2) ++ (LWs cT cJ ou x lv kp fo' fL' fK' o ld b k FZ')) H := xP_perm List.perm_append_comm hP
    have hD : va_D A ((MWs cI m0 a1 a2 a3 a4 K' R' L' N' ld o b k 2) ++ (LWs cT cJ ou x lv kp fo' fL' fK' o ld b k FZ')) := xD_perm List.perm_append_comm hD
    refine lv_istore (lv' := [(6, .int r8), (5, .int (nI 2)), (4, .int (nI i)), (0, .ref sb), (1, .ref x), (2, .ref m0), (3, .ref ou)]) hx hb dL_law_616 hl (by decide) rfl (fun ls hl => ?_)
    refine lv_aload_n hx hb dL_law_618 rfl (lv_at hl 5 rfl) ?_
    have hPm : va_P D vwCl (MWs cI m0 a1 a2 a3 a4 K' R' L' N' ld o b k 2) H := xP_sub (ws := (MWs cI m0 a1 a2 a3 a4 K' R' L' N' ld o b k 2) ++ (LWs cT cJ ou x lv kp fo' fL' fK' o ld b k FZ')) (fun _ h => List.mem_append_left _ h) hP
    refine xc_sie (va_runV (As := []) (rest := []) ⟨hx, hb, hml, hown, hts⟩ (c_X2_thrown l m0 a1 a2 a3 a4 K' R' L' N' ld o b k 2) (cwV 0 hts gL_law_X2_thrown rfl rfl rfl (by decide +kernel) ⟨(Nat.le_of_ble_eq_true rfl), (Nat.le_of_ble_eq_true rfl)⟩) ⟨XP_blind, va_recv hK hPm (ci := 2) (q0 := 0) rfl rfl, XP_pre hE hPm⟩ rfl rfl hl.1 rfl (lv_room (Nat.le_of_ble_eq_true rfl)) dL_law_619 ⟨by show (_ : Nat) ≤ 709371; omega, by show (_ : Nat) ≤ 6967992; omega⟩) ?_
    refine lv_iload hx hb dL_law_622 (lv_at hl 1 rfl) ?_
    refine lv_icmp_eq (tgt := 629) hx hb dL_law_624 (by decide) (fun _ => ?_) (fun h => absurd h (by decide))
    refine lv_iload hx hb dL_law_629 (lv_at hl 1 rfl) ?_
    refine lv_if_ne (tgt := 646) hx hb dL_law_631 (by decide) (fun _ => ?_) (fun h => absurd h (by decide))
    refine lv_goto (tgt := 1054) hx hb dL_law_646 (by decide) ?_
    refine W.widen (k := cells + 8) (n := slots + 40) (by show _ ≤ _; omega) (by show _ ≤ _; omega) ?_
    exact kk (G, o, ld, b, k) H locs ls (by refine ⟨?_, ?_, ?_, ?_⟩ <;> dsimp only <;> omega) ⟨2, fo', fL', fK', FZ', K', R', L', N', hP, hD, hC', hM', hS⟩ (lv_sub hl [2, 3, 4, 5, 6] rfl)

set_option maxHeartbeats 4000000 in
set_option maxRecDepth 100000 in
theorem lc_restore {p : Program} {l : Launch} {e : Env} {s : State} {m : MethodId} {below : List Frame} {meth : Method} {c : Code} {D : va_G} {cI cT cJ : ClassId} {A : Nat → Prop} {sb Ls : Nat} {xs : Nat → Int32} {m0 a1 a2 a3 a4 ou x lv kp : Nat} {cells slots : Nat} {Q : State → Prop} (hX0 : LCX p l s m c D cI cT cJ A sb Ls xs) {H : Heap} {locs : List Loc} {ls : Array Slot} {i : Nat} {G : Nat → Tv} {o ld b k : Nat} (hi : i + 4 ≤ Ls) (hW : WF (G, o, ld, b, k)) (hI : LI D cI cT cJ m0 a1 a2 a3 a4 ou x lv kp A s (G, o, ld, b, k) H locs) (hl : lv_has ls 7 [(4, .int (nI i)), (0, .ref sb), (1, .ref x), (2, .ref m0), (3, .ref ou)]) (hcl : cells + 8 ≤ 709371) (hsl : slots + 40 ≤ 6967992)
    (kk : ∀ (u : Sv) (H : Heap) (locs : List Loc) (ls : Array Slot), WF u → LI D cI cT cJ m0 a1 a2 a3 a4 ou x lv kp A s u H locs → lv_has ls 7 [(4, .int (nI i)), (0, .ref sb), (1, .ref x), (2, .ref m0), (3, .ref ou)] → W p l e room_1 s m #[Value.ref sb] below meth c H locs (cells + 8) (slots + 40) Q (F0 m 1054 ls [])) : W p l e room_1 s m #[Value.ref sb] below meth c H locs cells slots Q (F0 m 649 ls []) := by
  obtain ⟨hx, hb, hml, hown, hts, hX, hbl, hL, hst, hE, hT0, hN, hA, hbA⟩ := hX0
  obtain ⟨t, fo, fL, fK, FZ, K, R, L, N, hP, hD, hC, hM, hS⟩ := hI
  obtain ⟨hold, hld, hbb, hbk⟩ := hW
  dsimp only at hP hD hC hM hold hld hbb hbk
  have hK := hE.1
  refine lv_aload_n hx hb dL_law_649 rfl (lv_at hl 2 rfl) ?_
  refine lv_aload_n hx hb dL_law_650 rfl (lv_at hl 1 rfl) ?_
  refine lv_iload hx hb dL_law_651 (lv_at hl 0 rfl) ?_
  refine lv_iconst (v := nI 1) hx hb dL_law_653 (by decide) ?_
  refine lv_iadd hx hb dL_law_654 ?_
  refine x_top (nI (i + 1)) (xadd (by omega)) ?_
  refine va_sld hx hb hX hbl hbA hS (xin (by omega) (by omega)) dL_law_655 ?_
  refine x_top (xs (i + 1)) (by rw [nI_clamp (by omega)]) ?_
  refine lv_aload_n hx hb dL_law_656 rfl (lv_at hl 4 rfl) ?_
  have hP : va_P D vwCl ((MWs cI m0 a1 a2 a3 a4 K R L N ld o b k t) ++ (LWs cT cJ ou x lv kp fo fL fK o ld b k FZ)) H := hP
  have hD : va_D A ((MWs cI m0 a1 a2 a3 a4 K R L N ld o b k t) ++ (LWs cT cJ ou x lv kp fo fL fK o ld b k FZ)) := hD
  have hPc : va_P D vwCl (LWs cT cJ ou x lv kp fo fL fK o ld b k FZ) H := xP_sub (fun _ h => List.mem_append_right _ h) hP
  have hDc : va_D (fun _ => True) (LWs cT cJ ou x lv kp fo fL fK o ld b k FZ) := (xD_sub (List.sublist_append_right _ _) hD).weaken (fun _ _ _ _ => trivial)
  have hFc := xfree (wc := (LWs cT cJ ou x lv kp fo fL fK o ld b k FZ)) hD hS hA (fun _ h => List.mem_append_right _ h)
  have hT : XT A s H := hT0.kept hS.2.1
  refine xcw (vx_runSX (As := [.ref x, .int (xs (i + 1)), .ref ou]) (rest := []) ⟨hx, hb, hml, hown, hts⟩ (c_L_restore l hst A ou x lv kp fo fL fK o ld b k FZ G hC (xs (i + 1)) hld hold H.size) (vx_cwSW 3 hts gL_law_L_restore rfl rfl rfl (by decide +kernel) ⟨(Nat.le_of_ble_eq_true rfl), (Nat.le_of_ble_eq_true rfl)⟩) ⟨XPl_blind, XPl_pre hE hT hN ⟨rfl, hPc, hDc⟩⟩ rfl rfl hl.1 rfl (lv_room (Nat.le_of_ble_eq_true rfl)) dL_law_657 ⟨by show (_ : Nat) ≤ 709371; omega, by show (_ : Nat) ≤ 6967992; omega⟩) hS (fun q9 _ h => hFc q9 h) hFc (fun _ _ _ _ _ hp9 _ _ _ _ _ _ => False.elim hp9) (fun r9 u9 t9 H1 locs ht9 hvm9 hw9 hB9 hzc hkc hS => ?_)
  obtain ⟨u1, z9⟩ := u9
  dsimp only at hw9 hB9
  rcases hw9 with ⟨rfl, r0, rfl, d, hd1, hd2, hv, rfl, rfl⟩ | ⟨rfl, rfl, hv⟩
  · obtain ⟨fo', fL', fK', FZ', hP1, hD1, hC', hfo⟩ := hB9
    dsimp only at hP1 hD1 hC'
    rw [ht9] at hP1
    obtain ⟨hP, hD⟩ := xjoin (wr := (MWs cI m0 a1 a2 a3 a4 K R L N ld o b k t)) (wc := (LWs cT cJ ou x lv kp fo fL fK o ld b k FZ)) (w1 := (LWs cT cJ ou x lv kp fo' fL' fK' o ld 0 0 FZ')) hP hD hkc hFc hP1 hD1
    generalize H1 = H at hP hS ⊢
    refine lv_istore (lv' := [(5, .int (nI 0)), (4, .int (nI i)), (0, .ref sb), (1, .ref x), (2, .ref m0), (3, .ref ou)]) hx hb dL_law_660 hl (by decide) rfl (fun ls hl => ?_)
    refine lv_aload_n hx hb dL_law_662 rfl (lv_at hl 4 rfl) ?_
    refine lv_aload_n hx hb dL_law_663 rfl (lv_at hl 2 rfl) ?_
    refine lv_iload hx hb dL_law_664 (lv_at hl 1 rfl) ?_
    refine lv_iconst (v := nI 1) hx hb dL_law_666 (by decide) ?_
    refine lv_iadd hx hb dL_law_667 ?_
    refine x_top (nI (i + 1)) (xadd (by omega)) ?_
    refine va_sld hx hb hX hbl hbA hS (xin (by omega) (by omega)) dL_law_668 ?_
    refine x_top (xs (i + 1)) (by rw [nI_clamp (by omega)]) ?_
    refine x_top (nI d) (hv) ?_
    have hP : va_P D vwCl ((LWs cT cJ ou x lv kp fo' fL' fK' o ld 0 0 FZ') ++ (MWs cI m0 a1 a2 a3 a4 K R L N ld o b k t)) H := xP_perm List.perm_append_comm hP
    have hD : va_D A ((LWs cT cJ ou x lv kp fo' fL' fK' o ld 0 0 FZ') ++ (MWs cI m0 a1 a2 a3 a4 K R L N ld o b k t)) := xD_perm List.perm_append_comm hD
    have hPm : va_P D vwCl (MWs cI m0 a1 a2 a3 a4 K R L N ld o b k t) H := xP_sub (fun _ h => List.mem_append_right _ h) hP
    have hDm : va_D (fun _ => True) (MWs cI m0 a1 a2 a3 a4 K R L N ld o b k t) := (xD_sub (List.sublist_append_right _ _) hD).weaken (fun _ _ _ _ => trivial)
    have hFc := xfree (wc := (MWs cI m0 a1 a2 a3 a4 K R L N ld o b k t)) hD hS hA (fun _ h => List.mem_append_right _ h)
    refine va_calli (va_runV (As := [.int (nI d)]) (rest := []) ⟨hx, hb, hml, hown, hts⟩ (c_X2_restore_g l m0 a1 a2 a3 a4 K R L N ld o b k t G hM d hd1 hd2 hld hbb hbk H.size) (cwV 1 hts gL_law_X2_restore rfl rfl rfl (by decide +kernel) ⟨(Nat.le_of_ble_eq_true rfl), (Nat.le_of_ble_eq_true rfl)⟩) ⟨XP_blind, va_recv hK hPm (ci := 2) (q0 := 0) rfl rfl, XP_pre hE ⟨rfl, hPm, hDm⟩⟩ rfl rfl hl.1 rfl (lv_room (Nat.le_of_ble_eq_true rfl)) dL_law_669 ⟨by show (_ : Nat) ≤ 709371; omega, by show (_ : Nat) ≤ 6967992; omega⟩) hS (fun q9 _ h => hFc q9 h) hFc (fun r8 u8 t9 H1 locs ht9 hvm9 hw8 hB9 hzc hkc hS => ?_)
    obtain ⟨K', R', L', N', hP1, hD1, hM'⟩ := hB9
    rw [ht9] at hP1
    obtain ⟨hP, hD⟩ := xjoin (wr := (LWs cT cJ ou x lv kp fo' fL' fK' o ld 0 0 FZ')) (wc := (MWs cI m0 a1 a2 a3 a4 K R L N ld o b k t)) (w1 := (MWs cI m0 a1 a2 a3 a4 K' R' L' N' ld o 0 0 0)) hP hD hkc hFc hP1 hD1
    generalize H1 = H at hP hS ⊢
    have hP : va_P D vwCl ((MWs cI m0 a1 a2 a3 a4 K' R' L' N' ld o 0 0 0) ++ (LWs cT cJ ou x lv kp fo' fL' fK' o ld 0 0 FZ')) H := xP_perm List.perm_append_comm hP
    have hD : va_D A ((MWs cI m0 a1 a2 a3 a4 K' R' L' N' ld o 0 0 0) ++ (LWs cT cJ ou x lv kp fo' fL' fK' o ld 0 0 FZ')) := xD_perm List.perm_append_comm hD
    subst hw8
    refine lv_istore (lv' := [(6, .int (nI (dfN G d 6))), (5, .int (nI 0)), (4, .int (nI i)), (0, .ref sb), (1, .ref x), (2, .ref m0), (3, .ref ou)]) hx hb dL_law_672 hl (by decide) rfl (fun ls hl => ?_)
    refine lv_aload_n hx hb dL_law_674 rfl (lv_at hl 5 rfl) ?_
    have hPm : va_P D vwCl (MWs cI m0 a1 a2 a3 a4 K' R' L' N' ld o 0 0 0) H := xP_sub (ws := (MWs cI m0 a1 a2 a3 a4 K' R' L' N' ld o 0 0 0) ++ (LWs cT cJ ou x lv kp fo' fL' fK' o ld 0 0 FZ')) (fun _ h => List.mem_append_left _ h) hP
    refine xc_sie (va_runV (As := []) (rest := []) ⟨hx, hb, hml, hown, hts⟩ (c_X2_thrown l m0 a1 a2 a3 a4 K' R' L' N' ld o 0 0 0) (cwV 0 hts gL_law_X2_thrown rfl rfl rfl (by decide +kernel) ⟨(Nat.le_of_ble_eq_true rfl), (Nat.le_of_ble_eq_true rfl)⟩) ⟨XP_blind, va_recv hK hPm (ci := 2) (q0 := 0) rfl rfl, XP_pre hE hPm⟩ rfl rfl hl.1 rfl (lv_room (Nat.le_of_ble_eq_true rfl)) dL_law_675 ⟨by show (_ : Nat) ≤ 709371; omega, by show (_ : Nat) ≤ 6967992; omega⟩) ?_
    refine lv_iload hx hb dL_law_678 (lv_at hl 1 rfl) ?_
    refine lv_icmp_eq (tgt := 685) hx hb dL_law_680 (by decide) (fun _ => ?_) (fun h => absurd h (by decide))
    refine lv_iload hx hb dL_law_685 (lv_at hl 1 rfl) ?_
    refine lv_if_ne (tgt := 702) hx hb dL_law_687 (by decide) (fun h => absurd h (by decide)) (fun _ => ?_)
    refine lv_aload_n hx hb dL_law_690 rfl (lv_at hl 6 rfl) ?_
    refine lv_iconst (v := nI 0) hx hb dL_law_691 (by decide) ?_
    refine va_lald hx hb hK hP 5 2 rfl rfl (xin (by omega) (by omega)) dL_law_692 ?_
    refine x_topl ((nI (dfN G d 6)).toInt64) (by rw [nI_clamp (by omega)]; exact hfo) ?_
    refine lv_iload hx hb dL_law_693 (lv_at hl 0 rfl) ?_
    refine lv_i2l (v := (nI (dfN G d 6)).toInt64) hx hb dL_law_695 rfl ?_
    refine W.lcmp hx hb dL_law_696 ?_
    refine x_top (nI 0) (lg_self _) ?_
    refine lv_if_eq (tgt := 702) hx hb dL_law_697 (by decide) (fun _ => ?_) (fun h => absurd h (by decide))
    refine lv_goto (tgt := 1054) hx hb dL_law_702 (by decide) ?_
    refine W.widen (k := cells + 8) (n := slots + 40) (by show _ ≤ _; omega) (by show _ ≤ _; omega) ?_
    exact kk (cpL G d 6, o, ld, 0, 0) H locs ls (by refine ⟨?_, ?_, ?_, ?_⟩ <;> dsimp only <;> omega) ⟨0, fo', fL', fK', FZ', K', R', L', N', hP, hD, hC', hM', hS⟩ (lv_sub hl [2, 3, 4, 5, 6] rfl)
  · obtain ⟨fo', fL', fK', FZ', hP1, hD1, hC', hfo⟩ := hB9
    dsimp only at hP1 hD1 hC'
    rw [ht9] at hP1
    obtain ⟨hP, hD⟩ := xjoin (wr := (MWs cI m0 a1 a2 a3 a4 K R L N ld o b k t)) (wc := (LWs cT cJ ou x lv kp fo fL fK o ld b k FZ)) (w1 := (LWs cT cJ ou x lv kp fo' fL' fK' o ld b k FZ')) hP hD hkc hFc hP1 hD1
    generalize H1 = H at hP hS ⊢
    refine lv_istore (lv' := [(5, .int (nI 1)), (4, .int (nI i)), (0, .ref sb), (1, .ref x), (2, .ref m0), (3, .ref ou)]) hx hb dL_law_660 hl (by decide) rfl (fun ls hl => ?_)
    refine lv_aload_n hx hb dL_law_662 rfl (lv_at hl 4 rfl) ?_
    refine lv_aload_n hx hb dL_law_663 rfl (lv_at hl 2 rfl) ?_
    refine lv_iload hx hb dL_law_664 (lv_at hl 1 rfl) ?_
    refine lv_iconst (v := nI 1) hx hb dL_law_666 (by decide) ?_
    refine lv_iadd hx hb dL_law_667 ?_
    refine x_top (nI (i + 1)) (xadd (by omega)) ?_
    refine va_sld hx hb hX hbl hbA hS (xin (by omega) (by omega)) dL_law_668 ?_
    refine x_top (xs (i + 1)) (by rw [nI_clamp (by omega)]) ?_
    have hP : va_P D vwCl ((LWs cT cJ ou x lv kp fo' fL' fK' o ld b k FZ') ++ (MWs cI m0 a1 a2 a3 a4 K R L N ld o b k t)) H := xP_perm List.perm_append_comm hP
    have hD : va_D A ((LWs cT cJ ou x lv kp fo' fL' fK' o ld b k FZ') ++ (MWs cI m0 a1 a2 a3 a4 K R L N ld o b k t)) := xD_perm List.perm_append_comm hD
    have hPm : va_P D vwCl (MWs cI m0 a1 a2 a3 a4 K R L N ld o b k t) H := xP_sub (fun _ h => List.mem_append_right _ h) hP
    have hDm : va_D (fun _ => True) (MWs cI m0 a1 a2 a3 a4 K R L N ld o b k t) := (xD_sub (List.sublist_append_right _ _) hD).weaken (fun _ _ _ _ => trivial)
    have hFc := xfree (wc := (MWs cI m0 a1 a2 a3 a4 K R L N ld o b k t)) hD hS hA (fun _ h => List.mem_append_right _ h)
    refine va_calli (va_runV (As := [.int (xs (i + 1))]) (rest := []) ⟨hx, hb, hml, hown, hts⟩ (c_X2_restore_b l m0 a1 a2 a3 a4 K R L N ld o b k t G hM (xs (i + 1)) hld hold hv H.size) (cwV 1 hts gL_law_X2_restore rfl rfl rfl (by decide +kernel) ⟨(Nat.le_of_ble_eq_true rfl), (Nat.le_of_ble_eq_true rfl)⟩) ⟨XP_blind, va_recv hK hPm (ci := 2) (q0 := 0) rfl rfl, XP_pre hE ⟨rfl, hPm, hDm⟩⟩ rfl rfl hl.1 rfl (lv_room (Nat.le_of_ble_eq_true rfl)) dL_law_669 ⟨by show (_ : Nat) ≤ 709371; omega, by show (_ : Nat) ≤ 6967992; omega⟩) hS (fun q9 _ h => hFc q9 h) hFc (fun r8 u8 t9 H1 locs ht9 hvm9 hw8 hB9 hzc hkc hS => ?_)
    obtain ⟨K', R', L', N', hP1, hD1, hM'⟩ := hB9
    rw [ht9] at hP1
    obtain ⟨hP, hD⟩ := xjoin (wr := (LWs cT cJ ou x lv kp fo' fL' fK' o ld b k FZ')) (wc := (MWs cI m0 a1 a2 a3 a4 K R L N ld o b k t)) (w1 := (MWs cI m0 a1 a2 a3 a4 K' R' L' N' ld o b k 1)) hP hD hkc hFc hP1 hD1
    generalize H1 = H at hP hS ⊢
    have hP : va_P D vwCl ((MWs cI m0 a1 a2 a3 a4 K' R' L' N' ld o b k 1) ++ (LWs cT cJ ou x lv kp fo' fL' fK' o ld b k FZ')) H := xP_perm List.perm_append_comm hP
    have hD : va_D A ((MWs cI m0 a1 a2 a3 a4 K' R' L' N' ld o b k 1) ++ (LWs cT cJ ou x lv kp fo' fL' fK' o ld b k FZ')) := xD_perm List.perm_append_comm hD
    refine lv_istore (lv' := [(6, .int r8), (5, .int (nI 1)), (4, .int (nI i)), (0, .ref sb), (1, .ref x), (2, .ref m0), (3, .ref ou)]) hx hb dL_law_672 hl (by decide) rfl (fun ls hl => ?_)
    refine lv_aload_n hx hb dL_law_674 rfl (lv_at hl 5 rfl) ?_
    have hPm : va_P D vwCl (MWs cI m0 a1 a2 a3 a4 K' R' L' N' ld o b k 1) H := xP_sub (ws := (MWs cI m0 a1 a2 a3 a4 K' R' L' N' ld o b k 1) ++ (LWs cT cJ ou x lv kp fo' fL' fK' o ld b k FZ')) (fun _ h => List.mem_append_left _ h) hP
    refine xc_sie (va_runV (As := []) (rest := []) ⟨hx, hb, hml, hown, hts⟩ (c_X2_thrown l m0 a1 a2 a3 a4 K' R' L' N' ld o b k 1) (cwV 0 hts gL_law_X2_thrown rfl rfl rfl (by decide +kernel) ⟨(Nat.le_of_ble_eq_true rfl), (Nat.le_of_ble_eq_true rfl)⟩) ⟨XP_blind, va_recv hK hPm (ci := 2) (q0 := 0) rfl rfl, XP_pre hE hPm⟩ rfl rfl hl.1 rfl (lv_room (Nat.le_of_ble_eq_true rfl)) dL_law_675 ⟨by show (_ : Nat) ≤ 709371; omega, by show (_ : Nat) ≤ 6967992; omega⟩) ?_
    refine lv_iload hx hb dL_law_678 (lv_at hl 1 rfl) ?_
    refine lv_icmp_eq (tgt := 685) hx hb dL_law_680 (by decide) (fun _ => ?_) (fun h => absurd h (by decide))
    refine lv_iload hx hb dL_law_685 (lv_at hl 1 rfl) ?_
    refine lv_if_ne (tgt := 702) hx hb dL_law_687 (by decide) (fun _ => ?_) (fun h => absurd h (by decide))
    refine lv_goto (tgt := 1054) hx hb dL_law_702 (by decide) ?_
    refine W.widen (k := cells + 8) (n := slots + 40) (by show _ ≤ _; omega) (by show _ ≤ _; omega) ?_
    exact kk (G, o, ld, b, k) H locs ls (by refine ⟨?_, ?_, ?_, ?_⟩ <;> dsimp only <;> omega) ⟨1, fo', fL', fK', FZ', K', R', L', N', hP, hD, hC', hM', hS⟩ (lv_sub hl [2, 3, 4, 5, 6] rfl)

set_option maxHeartbeats 4000000 in
set_option maxRecDepth 100000 in
theorem lc_kindAt {p : Program} {l : Launch} {e : Env} {s : State} {m : MethodId} {below : List Frame} {meth : Method} {c : Code} {D : va_G} {cI cT cJ : ClassId} {A : Nat → Prop} {sb Ls : Nat} {xs : Nat → Int32} {m0 a1 a2 a3 a4 ou x lv kp : Nat} {cells slots : Nat} {Q : State → Prop} (hX0 : LCX p l s m c D cI cT cJ A sb Ls xs) {H : Heap} {locs : List Loc} {ls : Array Slot} {i : Nat} {G : Nat → Tv} {o ld b k : Nat} (hi : i + 4 ≤ Ls) (hW : WF (G, o, ld, b, k)) (hI : LI D cI cT cJ m0 a1 a2 a3 a4 ou x lv kp A s (G, o, ld, b, k) H locs) (hl : lv_has ls 7 [(4, .int (nI i)), (0, .ref sb), (1, .ref x), (2, .ref m0), (3, .ref ou)]) (hcl : cells + 8 ≤ 709371) (hsl : slots + 40 ≤ 6967992)
    (kk : ∀ (u : Sv) (H : Heap) (locs : List Loc) (ls : Array Slot), WF u → LI D cI cT cJ m0 a1 a2 a3 a4 ou x lv kp A s u H locs → lv_has ls 7 [(4, .int (nI i)), (0, .ref sb), (1, .ref x), (2, .ref m0), (3, .ref ou)] → W p l e room_1 s m #[Value.ref sb] below meth c H locs (cells + 8) (slots + 40) Q (F0 m 1054 ls [])) : W p l e room_1 s m #[Value.ref sb] below meth c H locs cells slots Q (F0 m 757 ls []) := by
  obtain ⟨hx, hb, hml, hown, hts, hX, hbl, hL, hst, hE, hT0, hN, hA, hbA⟩ := hX0
  obtain ⟨t, fo, fL, fK, FZ, K, R, L, N, hP, hD, hC, hM, hS⟩ := hI
  obtain ⟨hold, hld, hbb, hbk⟩ := hW
  dsimp only at hP hD hC hM hold hld hbb hbk
  have hK := hE.1
  refine lv_aload_n hx hb dL_law_757 rfl (lv_at hl 2 rfl) ?_
  refine lv_aload_n hx hb dL_law_758 rfl (lv_at hl 1 rfl) ?_
  refine lv_iload hx hb dL_law_759 (lv_at hl 0 rfl) ?_
  refine lv_iconst (v := nI 1) hx hb dL_law_761 (by decide) ?_
  refine lv_iadd hx hb dL_law_762 ?_
  refine x_top (nI (i + 1)) (xadd (by omega)) ?_
  refine va_sld hx hb hX hbl hbA hS (xin (by omega) (by omega)) dL_law_763 ?_
  refine x_top (xs (i + 1)) (by rw [nI_clamp (by omega)]) ?_
  refine lv_aload_n hx hb dL_law_764 rfl (lv_at hl 1 rfl) ?_
  refine lv_iload hx hb dL_law_765 (lv_at hl 0 rfl) ?_
  refine lv_iconst (v := nI 2) hx hb dL_law_767 (by decide) ?_
  refine lv_iadd hx hb dL_law_768 ?_
  refine x_top (nI (i + 2)) (xadd (by omega)) ?_
  refine va_sld hx hb hX hbl hbA hS (xin (by omega) (by omega)) dL_law_769 ?_
  refine x_top (xs (i + 2)) (by rw [nI_clamp (by omega)]) ?_
  refine lv_aload_n hx hb dL_law_770 rfl (lv_at hl 4 rfl) ?_
  have hP : va_P D vwCl ((MWs cI m0 a1 a2 a3 a4 K R L N ld o b k t) ++ (LWs cT cJ ou x lv kp fo fL fK o ld b k FZ)) H := hP
  have hD : va_D A ((MWs cI m0 a1 a2 a3 a4 K R L N ld o b k t) ++ (LWs cT cJ ou x lv kp fo fL fK o ld b k FZ)) := hD
  have hPc : va_P D vwCl (LWs cT cJ ou x lv kp fo fL fK o ld b k FZ) H := xP_sub (fun _ h => List.mem_append_right _ h) hP
  have hDc : va_D (fun _ => True) (LWs cT cJ ou x lv kp fo fL fK o ld b k FZ) := (xD_sub (List.sublist_append_right _ _) hD).weaken (fun _ _ _ _ => trivial)
  have hFc := xfree (wc := (LWs cT cJ ou x lv kp fo fL fK o ld b k FZ)) hD hS hA (fun _ h => List.mem_append_right _ h)
  have hT : XT A s H := hT0.kept hS.2.1
  refine xcw (vx_runSX (As := [.ref x, .int (xs (i + 1)), .int (xs (i + 2)), .ref ou]) (rest := []) ⟨hx, hb, hml, hown, hts⟩ (c_L_kindAt l hst A ou x lv kp fo fL fK o ld b k FZ G hC (xs (i + 1)) (xs (i + 2)) hld hold H.size) (vx_cwSW 4 hts gL_law_L_kindAt rfl rfl rfl (by decide +kernel) ⟨(Nat.le_of_ble_eq_true rfl), (Nat.le_of_ble_eq_true rfl)⟩) ⟨XPl_blind, XPl_pre hE hT hN ⟨rfl, hPc, hDc⟩⟩ rfl rfl hl.1 rfl (lv_room (Nat.le_of_ble_eq_true rfl)) dL_law_771 ⟨by show (_ : Nat) ≤ 709371; omega, by show (_ : Nat) ≤ 6967992; omega⟩) hS (fun q9 _ h => hFc q9 h) hFc (fun _ _ _ _ _ hp9 _ _ _ _ _ _ => False.elim hp9) (fun r9 u9 t9 H1 locs ht9 hvm9 hw9 hB9 hzc hkc hS => ?_)
  obtain ⟨u1, z9⟩ := u9
  dsimp only at hw9 hB9
  rcases hw9 with ⟨rfl, rfl, ix, hat, rfl⟩ | ⟨rfl, rfl, hv⟩
  · obtain ⟨fo', fL', fK', FZ', hP1, hD1, hC', hfo⟩ := hB9
    dsimp only at hP1 hD1 hC'
    rw [ht9] at hP1
    obtain ⟨hP, hD⟩ := xjoin (wr := (MWs cI m0 a1 a2 a3 a4 K R L N ld o b k t)) (wc := (LWs cT cJ ou x lv kp fo fL fK o ld b k FZ)) (w1 := (LWs cT cJ ou x lv kp fo' fL' fK' o ld b k FZ')) hP hD hkc hFc hP1 hD1
    generalize H1 = H at hP hS ⊢
    refine lv_istore (lv' := [(5, .int (nI 0)), (4, .int (nI i)), (0, .ref sb), (1, .ref x), (2, .ref m0), (3, .ref ou)]) hx hb dL_law_774 hl (by decide) rfl (fun ls hl => ?_)
    refine lv_aload_n hx hb dL_law_776 rfl (lv_at hl 4 rfl) ?_
    refine lv_aload_n hx hb dL_law_777 rfl (lv_at hl 2 rfl) ?_
    refine lv_iload hx hb dL_law_778 (lv_at hl 1 rfl) ?_
    refine lv_iconst (v := nI 1) hx hb dL_law_780 (by decide) ?_
    refine lv_iadd hx hb dL_law_781 ?_
    refine x_top (nI (i + 1)) (xadd (by omega)) ?_
    refine va_sld hx hb hX hbl hbA hS (xin (by omega) (by omega)) dL_law_782 ?_
    refine x_top (xs (i + 1)) (by rw [nI_clamp (by omega)]) ?_
    refine lv_aload_n hx hb dL_law_783 rfl (lv_at hl 2 rfl) ?_
    refine lv_iload hx hb dL_law_784 (lv_at hl 1 rfl) ?_
    refine lv_iconst (v := nI 2) hx hb dL_law_786 (by decide) ?_
    refine lv_iadd hx hb dL_law_787 ?_
    refine x_top (nI (i + 2)) (xadd (by omega)) ?_
    refine va_sld hx hb hX hbl hbA hS (xin (by omega) (by omega)) dL_law_788 ?_
    refine x_top (xs (i + 2)) (by rw [nI_clamp (by omega)]) ?_
    have hP : va_P D vwCl ((LWs cT cJ ou x lv kp fo' fL' fK' o ld b k FZ') ++ (MWs cI m0 a1 a2 a3 a4 K R L N ld o b k t)) H := xP_perm List.perm_append_comm hP
    have hD : va_D A ((LWs cT cJ ou x lv kp fo' fL' fK' o ld b k FZ') ++ (MWs cI m0 a1 a2 a3 a4 K R L N ld o b k t)) := xD_perm List.perm_append_comm hD
    have hPm : va_P D vwCl (MWs cI m0 a1 a2 a3 a4 K R L N ld o b k t) H := xP_sub (fun _ h => List.mem_append_right _ h) hP
    have hDm : va_D (fun _ => True) (MWs cI m0 a1 a2 a3 a4 K R L N ld o b k t) := (xD_sub (List.sublist_append_right _ _) hD).weaken (fun _ _ _ _ => trivial)
    have hFc := xfree (wc := (MWs cI m0 a1 a2 a3 a4 K R L N ld o b k t)) hD hS hA (fun _ h => List.mem_append_right _ h)
    refine va_calli (va_runV (As := [.int (xs (i + 1)), .int (xs (i + 2))]) (rest := []) ⟨hx, hb, hml, hown, hts⟩ (c_X2_kindAt_g l m0 a1 a2 a3 a4 K R L N ld o b k t G hM (xs (i + 1)) (xs (i + 2)) ix hld hold hat H.size) (cwV 2 hts gL_law_X2_kindAt rfl rfl rfl (by decide +kernel) ⟨(Nat.le_of_ble_eq_true rfl), (Nat.le_of_ble_eq_true rfl)⟩) ⟨XP_blind, va_recv hK hPm (ci := 2) (q0 := 0) rfl rfl, XP_pre hE ⟨rfl, hPm, hDm⟩⟩ rfl rfl hl.1 rfl (lv_room (Nat.le_of_ble_eq_true rfl)) dL_law_789 ⟨by show (_ : Nat) ≤ 709371; omega, by show (_ : Nat) ≤ 6967992; omega⟩) hS (fun q9 _ h => hFc q9 h) hFc (fun r8 u8 t9 H1 locs ht9 hvm9 hw8 hB9 hzc hkc hS => ?_)
    obtain ⟨K', R', L', N', hP1, hD1, hM'⟩ := hB9
    rw [ht9] at hP1
    obtain ⟨hP, hD⟩ := xjoin (wr := (LWs cT cJ ou x lv kp fo' fL' fK' o ld b k FZ')) (wc := (MWs cI m0 a1 a2 a3 a4 K R L N ld o b k t)) (w1 := (MWs cI m0 a1 a2 a3 a4 K' R' L' N' ld o b k 0)) hP hD hkc hFc hP1 hD1
    generalize H1 = H at hP hS ⊢
    have hP : va_P D vwCl ((MWs cI m0 a1 a2 a3 a4 K' R' L' N' ld o b k 0) ++ (LWs cT cJ ou x lv kp fo' fL' fK' o ld b k FZ')) H := xP_perm List.perm_append_comm hP
    have hD : va_D A ((MWs cI m0 a1 a2 a3 a4 K' R' L' N' ld o b k 0) ++ (LWs cT cJ ou x lv kp fo' fL' fK' o ld b k FZ')) := xD_perm List.perm_append_comm hD
    subst hw8
    refine lv_istore (lv' := [(6, .int ((G ix).1)), (5, .int (nI 0)), (4, .int (nI i)), (0, .ref sb), (1, .ref x), (2, .ref m0), (3, .ref ou)]) hx hb dL_law_792 hl (by decide) rfl (fun ls hl => ?_)
    refine lv_aload_n hx hb dL_law_794 rfl (lv_at hl 5 rfl) ?_
    have hPm : va_P D vwCl (MWs cI m0 a1 a2 a3 a4 K' R' L' N' ld o b k 0) H := xP_sub (ws := (MWs cI m0 a1 a2 a3 a4 K' R' L' N' ld o b k 0) ++ (LWs cT cJ ou x lv kp fo' fL' fK' o ld b k FZ')) (fun _ h => List.mem_append_left _ h) hP
    refine xc_sie (va_runV (As := []) (rest := []) ⟨hx, hb, hml, hown, hts⟩ (c_X2_thrown l m0 a1 a2 a3 a4 K' R' L' N' ld o b k 0) (cwV 0 hts gL_law_X2_thrown rfl rfl rfl (by decide +kernel) ⟨(Nat.le_of_ble_eq_true rfl), (Nat.le_of_ble_eq_true rfl)⟩) ⟨XP_blind, va_recv hK hPm (ci := 2) (q0 := 0) rfl rfl, XP_pre hE hPm⟩ rfl rfl hl.1 rfl (lv_room (Nat.le_of_ble_eq_true rfl)) dL_law_795 ⟨by show (_ : Nat) ≤ 709371; omega, by show (_ : Nat) ≤ 6967992; omega⟩) ?_
    refine lv_iload hx hb dL_law_798 (lv_at hl 1 rfl) ?_
    refine lv_icmp_eq (tgt := 805) hx hb dL_law_800 (by decide) (fun _ => ?_) (fun h => absurd h (by decide))
    refine lv_iload hx hb dL_law_805 (lv_at hl 1 rfl) ?_
    refine lv_if_ne (tgt := 822) hx hb dL_law_807 (by decide) (fun h => absurd h (by decide)) (fun _ => ?_)
    refine lv_aload_n hx hb dL_law_810 rfl (lv_at hl 6 rfl) ?_
    refine lv_iconst (v := nI 0) hx hb dL_law_811 (by decide) ?_
    refine va_lald hx hb hK hP 5 2 rfl rfl (xin (by omega) (by omega)) dL_law_812 ?_
    refine x_topl (((G ix).1).toInt64) (by rw [nI_clamp (by omega)]; exact hfo) ?_
    refine lv_iload hx hb dL_law_813 (lv_at hl 0 rfl) ?_
    refine lv_i2l (v := ((G ix).1).toInt64) hx hb dL_law_815 rfl ?_
    refine W.lcmp hx hb dL_law_816 ?_
    refine x_top (nI 0) (lg_self _) ?_
    refine lv_if_eq (tgt := 822) hx hb dL_law_817 (by decide) (fun _ => ?_) (fun h => absurd h (by decide))
    refine lv_goto (tgt := 1054) hx hb dL_law_822 (by decide) ?_
    refine W.widen (k := cells + 8) (n := slots + 40) (by show _ ≤ _; omega) (by show _ ≤ _; omega) ?_
    exact kk (G, o, ld, b, k) H locs ls (by refine ⟨?_, ?_, ?_, ?_⟩ <;> dsimp only <;> omega) ⟨0, fo', fL', fK', FZ', K', R', L', N', hP, hD, hC', hM', hS⟩ (lv_sub hl [2, 3, 4, 5, 6] rfl)
  · obtain ⟨fo', fL', fK', FZ', hP1, hD1, hC', hfo⟩ := hB9
    dsimp only at hP1 hD1 hC'
    rw [ht9] at hP1
    obtain ⟨hP, hD⟩ := xjoin (wr := (MWs cI m0 a1 a2 a3 a4 K R L N ld o b k t)) (wc := (LWs cT cJ ou x lv kp fo fL fK o ld b k FZ)) (w1 := (LWs cT cJ ou x lv kp fo' fL' fK' o ld b k FZ')) hP hD hkc hFc hP1 hD1
    generalize H1 = H at hP hS ⊢
    refine lv_istore (lv' := [(5, .int (nI 1)), (4, .int (nI i)), (0, .ref sb), (1, .ref x), (2, .ref m0), (3, .ref ou)]) hx hb dL_law_774 hl (by decide) rfl (fun ls hl => ?_)
    refine lv_aload_n hx hb dL_law_776 rfl (lv_at hl 4 rfl) ?_
    refine lv_aload_n hx hb dL_law_777 rfl (lv_at hl 2 rfl) ?_
    refine lv_iload hx hb dL_law_778 (lv_at hl 1 rfl) ?_
    refine lv_iconst (v := nI 1) hx hb dL_law_780 (by decide) ?_
    refine lv_iadd hx hb dL_law_781 ?_
    refine x_top (nI (i + 1)) (xadd (by omega)) ?_
    refine va_sld hx hb hX hbl hbA hS (xin (by omega) (by omega)) dL_law_782 ?_
    refine x_top (xs (i + 1)) (by rw [nI_clamp (by omega)]) ?_
    refine lv_aload_n hx hb dL_law_783 rfl (lv_at hl 2 rfl) ?_
    refine lv_iload hx hb dL_law_784 (lv_at hl 1 rfl) ?_
    refine lv_iconst (v := nI 2) hx hb dL_law_786 (by decide) ?_
    refine lv_iadd hx hb dL_law_787 ?_
    refine x_top (nI (i + 2)) (xadd (by omega)) ?_
    refine va_sld hx hb hX hbl hbA hS (xin (by omega) (by omega)) dL_law_788 ?_
    refine x_top (xs (i + 2)) (by rw [nI_clamp (by omega)]) ?_
    have hP : va_P D vwCl ((LWs cT cJ ou x lv kp fo' fL' fK' o ld b k FZ') ++ (MWs cI m0 a1 a2 a3 a4 K R L N ld o b k t)) H := xP_perm List.perm_append_comm hP
    have hD : va_D A ((LWs cT cJ ou x lv kp fo' fL' fK' o ld b k FZ') ++ (MWs cI m0 a1 a2 a3 a4 K R L N ld o b k t)) := xD_perm List.perm_append_comm hD
    have hPm : va_P D vwCl (MWs cI m0 a1 a2 a3 a4 K R L N ld o b k t) H := xP_sub (fun _ h => List.mem_append_right _ h) hP
    have hDm : va_D (fun _ => True) (MWs cI m0 a1 a2 a3 a4 K R L N ld o b k t) := (xD_sub (List.sublist_append_right _ _) hD).weaken (fun _ _ _ _ => trivial)
    have hFc := xfree (wc := (MWs cI m0 a1 a2 a3 a4 K R L N ld o b k t)) hD hS hA (fun _ h => List.mem_append_right _ h)
    refine va_calli (va_runV (As := [.int (xs (i + 1)), .int (xs (i + 2))]) (rest := []) ⟨hx, hb, hml, hown, hts⟩ (c_X2_kindAt_b l m0 a1 a2 a3 a4 K R L N ld o b k t G hM (xs (i + 1)) (xs (i + 2)) hld hold hv H.size) (cwV 2 hts gL_law_X2_kindAt rfl rfl rfl (by decide +kernel) ⟨(Nat.le_of_ble_eq_true rfl), (Nat.le_of_ble_eq_true rfl)⟩) ⟨XP_blind, va_recv hK hPm (ci := 2) (q0 := 0) rfl rfl, XP_pre hE ⟨rfl, hPm, hDm⟩⟩ rfl rfl hl.1 rfl (lv_room (Nat.le_of_ble_eq_true rfl)) dL_law_789 ⟨by show (_ : Nat) ≤ 709371; omega, by show (_ : Nat) ≤ 6967992; omega⟩) hS (fun q9 _ h => hFc q9 h) hFc (fun r8 u8 t9 H1 locs ht9 hvm9 hw8 hB9 hzc hkc hS => ?_)
    obtain ⟨K', R', L', N', hP1, hD1, hM'⟩ := hB9
    rw [ht9] at hP1
    obtain ⟨hP, hD⟩ := xjoin (wr := (LWs cT cJ ou x lv kp fo' fL' fK' o ld b k FZ')) (wc := (MWs cI m0 a1 a2 a3 a4 K R L N ld o b k t)) (w1 := (MWs cI m0 a1 a2 a3 a4 K' R' L' N' ld o b k 1)) hP hD hkc hFc hP1 hD1
    generalize H1 = H at hP hS ⊢
    have hP : va_P D vwCl ((MWs cI m0 a1 a2 a3 a4 K' R' L' N' ld o b k 1) ++ (LWs cT cJ ou x lv kp fo' fL' fK' o ld b k FZ')) H := xP_perm List.perm_append_comm hP
    have hD : va_D A ((MWs cI m0 a1 a2 a3 a4 K' R' L' N' ld o b k 1) ++ (LWs cT cJ ou x lv kp fo' fL' fK' o ld b k FZ')) := xD_perm List.perm_append_comm hD
    refine lv_istore (lv' := [(6, .int r8), (5, .int (nI 1)), (4, .int (nI i)), (0, .ref sb), (1, .ref x), (2, .ref m0), (3, .ref ou)]) hx hb dL_law_792 hl (by decide) rfl (fun ls hl => ?_)
    refine lv_aload_n hx hb dL_law_794 rfl (lv_at hl 5 rfl) ?_
    have hPm : va_P D vwCl (MWs cI m0 a1 a2 a3 a4 K' R' L' N' ld o b k 1) H := xP_sub (ws := (MWs cI m0 a1 a2 a3 a4 K' R' L' N' ld o b k 1) ++ (LWs cT cJ ou x lv kp fo' fL' fK' o ld b k FZ')) (fun _ h => List.mem_append_left _ h) hP
    refine xc_sie (va_runV (As := []) (rest := []) ⟨hx, hb, hml, hown, hts⟩ (c_X2_thrown l m0 a1 a2 a3 a4 K' R' L' N' ld o b k 1) (cwV 0 hts gL_law_X2_thrown rfl rfl rfl (by decide +kernel) ⟨(Nat.le_of_ble_eq_true rfl), (Nat.le_of_ble_eq_true rfl)⟩) ⟨XP_blind, va_recv hK hPm (ci := 2) (q0 := 0) rfl rfl, XP_pre hE hPm⟩ rfl rfl hl.1 rfl (lv_room (Nat.le_of_ble_eq_true rfl)) dL_law_795 ⟨by show (_ : Nat) ≤ 709371; omega, by show (_ : Nat) ≤ 6967992; omega⟩) ?_
    refine lv_iload hx hb dL_law_798 (lv_at hl 1 rfl) ?_
    refine lv_icmp_eq (tgt := 805) hx hb dL_law_800 (by decide) (fun _ => ?_) (fun h => absurd h (by decide))
    refine lv_iload hx hb dL_law_805 (lv_at hl 1 rfl) ?_
    refine lv_if_ne (tgt := 822) hx hb dL_law_807 (by decide) (fun _ => ?_) (fun h => absurd h (by decide))
    refine lv_goto (tgt := 1054) hx hb dL_law_822 (by decide) ?_
    refine W.widen (k := cells + 8) (n := slots + 40) (by show _ ≤ _; omega) (by show _ ≤ _; omega) ?_
    exact kk (G, o, ld, b, k) H locs ls (by refine ⟨?_, ?_, ?_, ?_⟩ <;> dsimp only <;> omega) ⟨1, fo', fL', fK', FZ', K', R', L', N', hP, hD, hC', hM', hS⟩ (lv_sub hl [2, 3, 4, 5, 6] rfl)

set_option maxHeartbeats 4000000 in
set_option maxRecDepth 100000 in
theorem lc_rightsAt {p : Program} {l : Launch} {e : Env} {s : State} {m : MethodId} {below : List Frame} {meth : Method} {c : Code} {D : va_G} {cI cT cJ : ClassId} {A : Nat → Prop} {sb Ls : Nat} {xs : Nat → Int32} {m0 a1 a2 a3 a4 ou x lv kp : Nat} {cells slots : Nat} {Q : State → Prop} (hX0 : LCX p l s m c D cI cT cJ A sb Ls xs) {H : Heap} {locs : List Loc} {ls : Array Slot} {i : Nat} {G : Nat → Tv} {o ld b k : Nat} (hi : i + 4 ≤ Ls) (hW : WF (G, o, ld, b, k)) (hI : LI D cI cT cJ m0 a1 a2 a3 a4 ou x lv kp A s (G, o, ld, b, k) H locs) (hl : lv_has ls 7 [(4, .int (nI i)), (0, .ref sb), (1, .ref x), (2, .ref m0), (3, .ref ou)]) (hcl : cells + 8 ≤ 709371) (hsl : slots + 40 ≤ 6967992)
    (kk : ∀ (u : Sv) (H : Heap) (locs : List Loc) (ls : Array Slot), WF u → LI D cI cT cJ m0 a1 a2 a3 a4 ou x lv kp A s u H locs → lv_has ls 7 [(4, .int (nI i)), (0, .ref sb), (1, .ref x), (2, .ref m0), (3, .ref ou)] → W p l e room_1 s m #[Value.ref sb] below meth c H locs (cells + 8) (slots + 40) Q (F0 m 1054 ls [])) : W p l e room_1 s m #[Value.ref sb] below meth c H locs cells slots Q (F0 m 905 ls []) := by
  obtain ⟨hx, hb, hml, hown, hts, hX, hbl, hL, hst, hE, hT0, hN, hA, hbA⟩ := hX0
  obtain ⟨t, fo, fL, fK, FZ, K, R, L, N, hP, hD, hC, hM, hS⟩ := hI
  obtain ⟨hold, hld, hbb, hbk⟩ := hW
  dsimp only at hP hD hC hM hold hld hbb hbk
  have hK := hE.1
  refine lv_aload_n hx hb dL_law_905 rfl (lv_at hl 2 rfl) ?_
  refine lv_aload_n hx hb dL_law_906 rfl (lv_at hl 1 rfl) ?_
  refine lv_iload hx hb dL_law_907 (lv_at hl 0 rfl) ?_
  refine lv_iconst (v := nI 1) hx hb dL_law_909 (by decide) ?_
  refine lv_iadd hx hb dL_law_910 ?_
  refine x_top (nI (i + 1)) (xadd (by omega)) ?_
  refine va_sld hx hb hX hbl hbA hS (xin (by omega) (by omega)) dL_law_911 ?_
  refine x_top (xs (i + 1)) (by rw [nI_clamp (by omega)]) ?_
  refine lv_aload_n hx hb dL_law_912 rfl (lv_at hl 1 rfl) ?_
  refine lv_iload hx hb dL_law_913 (lv_at hl 0 rfl) ?_
  refine lv_iconst (v := nI 2) hx hb dL_law_915 (by decide) ?_
  refine lv_iadd hx hb dL_law_916 ?_
  refine x_top (nI (i + 2)) (xadd (by omega)) ?_
  refine va_sld hx hb hX hbl hbA hS (xin (by omega) (by omega)) dL_law_917 ?_
  refine x_top (xs (i + 2)) (by rw [nI_clamp (by omega)]) ?_
  refine lv_aload_n hx hb dL_law_918 rfl (lv_at hl 4 rfl) ?_
  have hP : va_P D vwCl ((MWs cI m0 a1 a2 a3 a4 K R L N ld o b k t) ++ (LWs cT cJ ou x lv kp fo fL fK o ld b k FZ)) H := hP
  have hD : va_D A ((MWs cI m0 a1 a2 a3 a4 K R L N ld o b k t) ++ (LWs cT cJ ou x lv kp fo fL fK o ld b k FZ)) := hD
  have hPc : va_P D vwCl (LWs cT cJ ou x lv kp fo fL fK o ld b k FZ) H := xP_sub (fun _ h => List.mem_append_right _ h) hP
  have hDc : va_D (fun _ => True) (LWs cT cJ ou x lv kp fo fL fK o ld b k FZ) := (xD_sub (List.sublist_append_right _ _) hD).weaken (fun _ _ _ _ => trivial)
  have hFc := xfree (wc := (LWs cT cJ ou x lv kp fo fL fK o ld b k FZ)) hD hS hA (fun _ h => List.mem_append_right _ h)
  have hT : XT A s H := hT0.kept hS.2.1
  refine xcw (vx_runSX (As := [.ref x, .int (xs (i + 1)), .int (xs (i + 2)), .ref ou]) (rest := []) ⟨hx, hb, hml, hown, hts⟩ (c_L_rightsAt l hst A ou x lv kp fo fL fK o ld b k FZ G hC (xs (i + 1)) (xs (i + 2)) hld hold H.size) (vx_cwSW 4 hts gL_law_L_rightsAt rfl rfl rfl (by decide +kernel) ⟨(Nat.le_of_ble_eq_true rfl), (Nat.le_of_ble_eq_true rfl)⟩) ⟨XPl_blind, XPl_pre hE hT hN ⟨rfl, hPc, hDc⟩⟩ rfl rfl hl.1 rfl (lv_room (Nat.le_of_ble_eq_true rfl)) dL_law_919 ⟨by show (_ : Nat) ≤ 709371; omega, by show (_ : Nat) ≤ 6967992; omega⟩) hS (fun q9 _ h => hFc q9 h) hFc (fun _ _ _ _ _ hp9 _ _ _ _ _ _ => False.elim hp9) (fun r9 u9 t9 H1 locs ht9 hvm9 hw9 hB9 hzc hkc hS => ?_)
  obtain ⟨u1, z9⟩ := u9
  dsimp only at hw9 hB9
  rcases hw9 with ⟨rfl, rfl, ix, hat, rfl⟩ | ⟨rfl, rfl, hv⟩
  · obtain ⟨fo', fL', fK', FZ', hP1, hD1, hC', hfo⟩ := hB9
    dsimp only at hP1 hD1 hC'
    rw [ht9] at hP1
    obtain ⟨hP, hD⟩ := xjoin (wr := (MWs cI m0 a1 a2 a3 a4 K R L N ld o b k t)) (wc := (LWs cT cJ ou x lv kp fo fL fK o ld b k FZ)) (w1 := (LWs cT cJ ou x lv kp fo' fL' fK' o ld b k FZ')) hP hD hkc hFc hP1 hD1
    generalize H1 = H at hP hS ⊢
    refine lv_istore (lv' := [(5, .int (nI 0)), (4, .int (nI i)), (0, .ref sb), (1, .ref x), (2, .ref m0), (3, .ref ou)]) hx hb dL_law_922 hl (by decide) rfl (fun ls hl => ?_)
    refine lv_aload_n hx hb dL_law_924 rfl (lv_at hl 4 rfl) ?_
    refine lv_aload_n hx hb dL_law_925 rfl (lv_at hl 2 rfl) ?_
    refine lv_iload hx hb dL_law_926 (lv_at hl 1 rfl) ?_
    refine lv_iconst (v := nI 1) hx hb dL_law_928 (by decide) ?_
    refine lv_iadd hx hb dL_law_929 ?_
    refine x_top (nI (i + 1)) (xadd (by omega)) ?_
    refine va_sld hx hb hX hbl hbA hS (xin (by omega) (by omega)) dL_law_930 ?_
    refine x_top (xs (i + 1)) (by rw [nI_clamp (by omega)]) ?_
    refine lv_aload_n hx hb dL_law_931 rfl (lv_at hl 2 rfl) ?_
    refine lv_iload hx hb dL_law_932 (lv_at hl 1 rfl) ?_
    refine lv_iconst (v := nI 2) hx hb dL_law_934 (by decide) ?_
    refine lv_iadd hx hb dL_law_935 ?_
    refine x_top (nI (i + 2)) (xadd (by omega)) ?_
    refine va_sld hx hb hX hbl hbA hS (xin (by omega) (by omega)) dL_law_936 ?_
    refine x_top (xs (i + 2)) (by rw [nI_clamp (by omega)]) ?_
    have hP : va_P D vwCl ((LWs cT cJ ou x lv kp fo' fL' fK' o ld b k FZ') ++ (MWs cI m0 a1 a2 a3 a4 K R L N ld o b k t)) H := xP_perm List.perm_append_comm hP
    have hD : va_D A ((LWs cT cJ ou x lv kp fo' fL' fK' o ld b k FZ') ++ (MWs cI m0 a1 a2 a3 a4 K R L N ld o b k t)) := xD_perm List.perm_append_comm hD
    have hPm : va_P D vwCl (MWs cI m0 a1 a2 a3 a4 K R L N ld o b k t) H := xP_sub (fun _ h => List.mem_append_right _ h) hP
    have hDm : va_D (fun _ => True) (MWs cI m0 a1 a2 a3 a4 K R L N ld o b k t) := (xD_sub (List.sublist_append_right _ _) hD).weaken (fun _ _ _ _ => trivial)
    have hFc := xfree (wc := (MWs cI m0 a1 a2 a3 a4 K R L N ld o b k t)) hD hS hA (fun _ h => List.mem_append_right _ h)
    refine va_calli (va_runV (As := [.int (xs (i + 1)), .int (xs (i + 2))]) (rest := []) ⟨hx, hb, hml, hown, hts⟩ (c_X2_rightsAt_g l m0 a1 a2 a3 a4 K R L N ld o b k t G hM (xs (i + 1)) (xs (i + 2)) ix hld hold hat H.size) (cwV 2 hts gL_law_X2_rightsAt rfl rfl rfl (by decide +kernel) ⟨(Nat.le_of_ble_eq_true rfl), (Nat.le_of_ble_eq_true rfl)⟩) ⟨XP_blind, va_recv hK hPm (ci := 2) (q0 := 0) rfl rfl, XP_pre hE ⟨rfl, hPm, hDm⟩⟩ rfl rfl hl.1 rfl (lv_room (Nat.le_of_ble_eq_true rfl)) dL_law_937 ⟨by show (_ : Nat) ≤ 709371; omega, by show (_ : Nat) ≤ 6967992; omega⟩) hS (fun q9 _ h => hFc q9 h) hFc (fun r8 u8 t9 H1 locs ht9 hvm9 hw8 hB9 hzc hkc hS => ?_)
    obtain ⟨K', R', L', N', hP1, hD1, hM'⟩ := hB9
    rw [ht9] at hP1
    obtain ⟨hP, hD⟩ := xjoin (wr := (LWs cT cJ ou x lv kp fo' fL' fK' o ld b k FZ')) (wc := (MWs cI m0 a1 a2 a3 a4 K R L N ld o b k t)) (w1 := (MWs cI m0 a1 a2 a3 a4 K' R' L' N' ld o b k 0)) hP hD hkc hFc hP1 hD1
    generalize H1 = H at hP hS ⊢
    have hP : va_P D vwCl ((MWs cI m0 a1 a2 a3 a4 K' R' L' N' ld o b k 0) ++ (LWs cT cJ ou x lv kp fo' fL' fK' o ld b k FZ')) H := xP_perm List.perm_append_comm hP
    have hD : va_D A ((MWs cI m0 a1 a2 a3 a4 K' R' L' N' ld o b k 0) ++ (LWs cT cJ ou x lv kp fo' fL' fK' o ld b k FZ')) := xD_perm List.perm_append_comm hD
    subst hw8
    refine lv_istore (lv' := [(6, .int ((G ix).2.1)), (5, .int (nI 0)), (4, .int (nI i)), (0, .ref sb), (1, .ref x), (2, .ref m0), (3, .ref ou)]) hx hb dL_law_940 hl (by decide) rfl (fun ls hl => ?_)
    refine lv_aload_n hx hb dL_law_942 rfl (lv_at hl 5 rfl) ?_
    have hPm : va_P D vwCl (MWs cI m0 a1 a2 a3 a4 K' R' L' N' ld o b k 0) H := xP_sub (ws := (MWs cI m0 a1 a2 a3 a4 K' R' L' N' ld o b k 0) ++ (LWs cT cJ ou x lv kp fo' fL' fK' o ld b k FZ')) (fun _ h => List.mem_append_left _ h) hP
    refine xc_sie (va_runV (As := []) (rest := []) ⟨hx, hb, hml, hown, hts⟩ (c_X2_thrown l m0 a1 a2 a3 a4 K' R' L' N' ld o b k 0) (cwV 0 hts gL_law_X2_thrown rfl rfl rfl (by decide +kernel) ⟨(Nat.le_of_ble_eq_true rfl), (Nat.le_of_ble_eq_true rfl)⟩) ⟨XP_blind, va_recv hK hPm (ci := 2) (q0 := 0) rfl rfl, XP_pre hE hPm⟩ rfl rfl hl.1 rfl (lv_room (Nat.le_of_ble_eq_true rfl)) dL_law_943 ⟨by show (_ : Nat) ≤ 709371; omega, by show (_ : Nat) ≤ 6967992; omega⟩) ?_
    refine lv_iload hx hb dL_law_946 (lv_at hl 1 rfl) ?_
    refine lv_icmp_eq (tgt := 953) hx hb dL_law_948 (by decide) (fun _ => ?_) (fun h => absurd h (by decide))
    refine lv_iload hx hb dL_law_953 (lv_at hl 1 rfl) ?_
    refine lv_if_ne (tgt := 970) hx hb dL_law_955 (by decide) (fun h => absurd h (by decide)) (fun _ => ?_)
    refine lv_aload_n hx hb dL_law_958 rfl (lv_at hl 6 rfl) ?_
    refine lv_iconst (v := nI 0) hx hb dL_law_959 (by decide) ?_
    refine va_lald hx hb hK hP 5 2 rfl rfl (xin (by omega) (by omega)) dL_law_960 ?_
    refine x_topl (((G ix).2.1).toInt64) (by rw [nI_clamp (by omega)]; exact hfo) ?_
    refine lv_iload hx hb dL_law_961 (lv_at hl 0 rfl) ?_
    refine lv_i2l (v := ((G ix).2.1).toInt64) hx hb dL_law_963 rfl ?_
    refine W.lcmp hx hb dL_law_964 ?_
    refine x_top (nI 0) (lg_self _) ?_
    refine lv_if_eq (tgt := 970) hx hb dL_law_965 (by decide) (fun _ => ?_) (fun h => absurd h (by decide))
    refine lv_goto (tgt := 1054) hx hb dL_law_970 (by decide) ?_
    refine W.widen (k := cells + 8) (n := slots + 40) (by show _ ≤ _; omega) (by show _ ≤ _; omega) ?_
    exact kk (G, o, ld, b, k) H locs ls (by refine ⟨?_, ?_, ?_, ?_⟩ <;> dsimp only <;> omega) ⟨0, fo', fL', fK', FZ', K', R', L', N', hP, hD, hC', hM', hS⟩ (lv_sub hl [2, 3, 4, 5, 6] rfl)
  · obtain ⟨fo', fL', fK', FZ', hP1, hD1, hC', hfo⟩ := hB9
    dsimp only at hP1 hD1 hC'
    rw [ht9] at hP1
    obtain ⟨hP, hD⟩ := xjoin (wr := (MWs cI m0 a1 a2 a3 a4 K R L N ld o b k t)) (wc := (LWs cT cJ ou x lv kp fo fL fK o ld b k FZ)) (w1 := (LWs cT cJ ou x lv kp fo' fL' fK' o ld b k FZ')) hP hD hkc hFc hP1 hD1
    generalize H1 = H at hP hS ⊢
    refine lv_istore (lv' := [(5, .int (nI 1)), (4, .int (nI i)), (0, .ref sb), (1, .ref x), (2, .ref m0), (3, .ref ou)]) hx hb dL_law_922 hl (by decide) rfl (fun ls hl => ?_)
    refine lv_aload_n hx hb dL_law_924 rfl (lv_at hl 4 rfl) ?_
    refine lv_aload_n hx hb dL_law_925 rfl (lv_at hl 2 rfl) ?_
    refine lv_iload hx hb dL_law_926 (lv_at hl 1 rfl) ?_
    refine lv_iconst (v := nI 1) hx hb dL_law_928 (by decide) ?_
    refine lv_iadd hx hb dL_law_929 ?_
    refine x_top (nI (i + 1)) (xadd (by omega)) ?_
    refine va_sld hx hb hX hbl hbA hS (xin (by omega) (by omega)) dL_law_930 ?_
    refine x_top (xs (i + 1)) (by rw [nI_clamp (by omega)]) ?_
    refine lv_aload_n hx hb dL_law_931 rfl (lv_at hl 2 rfl) ?_
    refine lv_iload hx hb dL_law_932 (lv_at hl 1 rfl) ?_
    refine lv_iconst (v := nI 2) hx hb dL_law_934 (by decide) ?_
    refine lv_iadd hx hb dL_law_935 ?_
    refine x_top (nI (i + 2)) (xadd (by omega)) ?_
    refine va_sld hx hb hX hbl hbA hS (xin (by omega) (by omega)) dL_law_936 ?_
    refine x_top (xs (i + 2)) (by rw [nI_clamp (by omega)]) ?_
    have hP : va_P D vwCl ((LWs cT cJ ou x lv kp fo' fL' fK' o ld b k FZ') ++ (MWs cI m0 a1 a2 a3 a4 K R L N ld o b k t)) H := xP_perm List.perm_append_comm hP
    have hD : va_D A ((LWs cT cJ ou x lv kp fo' fL' fK' o ld b k FZ') ++ (MWs cI m0 a1 a2 a3 a4 K R L N ld o b k t)) := xD_perm List.perm_append_comm hD
    have hPm : va_P D vwCl (MWs cI m0 a1 a2 a3 a4 K R L N ld o b k t) H := xP_sub (fun _ h => List.mem_append_right _ h) hP
    have hDm : va_D (fun _ => True) (MWs cI m0 a1 a2 a3 a4 K R L N ld o b k t) := (xD_sub (List.sublist_append_right _ _) hD).weaken (fun _ _ _ _ => trivial)
    have hFc := xfree (wc := (MWs cI m0 a1 a2 a3 a4 K R L N ld o b k t)) hD hS hA (fun _ h => List.mem_append_right _ h)
    refine va_calli (va_runV (As := [.int (xs (i + 1)), .int (xs (i + 2))]) (rest := []) ⟨hx, hb, hml, hown, hts⟩ (c_X2_rightsAt_b l m0 a1 a2 a3 a4 K R L N ld o b k t G hM (xs (i + 1)) (xs (i + 2)) hld hold hv H.size) (cwV 2 hts gL_law_X2_rightsAt rfl rfl rfl (by decide +kernel) ⟨(Nat.le_of_ble_eq_true rfl), (Nat.le_of_ble_eq_true rfl)⟩) ⟨XP_blind, va_recv hK hPm (ci := 2) (q0 := 0) rfl rfl, XP_pre hE ⟨rfl, hPm, hDm⟩⟩ rfl rfl hl.1 rfl (lv_room (Nat.le_of_ble_eq_true rfl)) dL_law_937 ⟨by show (_ : Nat) ≤ 709371; omega, by show (_ : Nat) ≤ 6967992; omega⟩) hS (fun q9 _ h => hFc q9 h) hFc (fun r8 u8 t9 H1 locs ht9 hvm9 hw8 hB9 hzc hkc hS => ?_)
    obtain ⟨K', R', L', N', hP1, hD1, hM'⟩ := hB9
    rw [ht9] at hP1
    obtain ⟨hP, hD⟩ := xjoin (wr := (LWs cT cJ ou x lv kp fo' fL' fK' o ld b k FZ')) (wc := (MWs cI m0 a1 a2 a3 a4 K R L N ld o b k t)) (w1 := (MWs cI m0 a1 a2 a3 a4 K' R' L' N' ld o b k 1)) hP hD hkc hFc hP1 hD1
    generalize H1 = H at hP hS ⊢
    have hP : va_P D vwCl ((MWs cI m0 a1 a2 a3 a4 K' R' L' N' ld o b k 1) ++ (LWs cT cJ ou x lv kp fo' fL' fK' o ld b k FZ')) H := xP_perm List.perm_append_comm hP
    have hD : va_D A ((MWs cI m0 a1 a2 a3 a4 K' R' L' N' ld o b k 1) ++ (LWs cT cJ ou x lv kp fo' fL' fK' o ld b k FZ')) := xD_perm List.perm_append_comm hD
    refine lv_istore (lv' := [(6, .int r8), (5, .int (nI 1)), (4, .int (nI i)), (0, .ref sb), (1, .ref x), (2, .ref m0), (3, .ref ou)]) hx hb dL_law_940 hl (by decide) rfl (fun ls hl => ?_)
    refine lv_aload_n hx hb dL_law_942 rfl (lv_at hl 5 rfl) ?_
    have hPm : va_P D vwCl (MWs cI m0 a1 a2 a3 a4 K' R' L' N' ld o b k 1) H := xP_sub (ws := (MWs cI m0 a1 a2 a3 a4 K' R' L' N' ld o b k 1) ++ (LWs cT cJ ou x lv kp fo' fL' fK' o ld b k FZ')) (fun _ h => List.mem_append_left _ h) hP
    refine xc_sie (va_runV (As := []) (rest := []) ⟨hx, hb, hml, hown, hts⟩ (c_X2_thrown l m0 a1 a2 a3 a4 K' R' L' N' ld o b k 1) (cwV 0 hts gL_law_X2_thrown rfl rfl rfl (by decide +kernel) ⟨(Nat.le_of_ble_eq_true rfl), (Nat.le_of_ble_eq_true rfl)⟩) ⟨XP_blind, va_recv hK hPm (ci := 2) (q0 := 0) rfl rfl, XP_pre hE hPm⟩ rfl rfl hl.1 rfl (lv_room (Nat.le_of_ble_eq_true rfl)) dL_law_943 ⟨by show (_ : Nat) ≤ 709371; omega, by show (_ : Nat) ≤ 6967992; omega⟩) ?_
    refine lv_iload hx hb dL_law_946 (lv_at hl 1 rfl) ?_
    refine lv_icmp_eq (tgt := 953) hx hb dL_law_948 (by decide) (fun _ => ?_) (fun h => absurd h (by decide))
    refine lv_iload hx hb dL_law_953 (lv_at hl 1 rfl) ?_
    refine lv_if_ne (tgt := 970) hx hb dL_law_955 (by decide) (fun _ => ?_) (fun h => absurd h (by decide))
    refine lv_goto (tgt := 1054) hx hb dL_law_970 (by decide) ?_
    refine W.widen (k := cells + 8) (n := slots + 40) (by show _ ≤ _; omega) (by show _ ≤ _; omega) ?_
    exact kk (G, o, ld, b, k) H locs ls (by refine ⟨?_, ?_, ?_, ?_⟩ <;> dsimp only <;> omega) ⟨1, fo', fL', fK', FZ', K', R', L', N', hP, hD, hC', hM', hS⟩ (lv_sub hl [2, 3, 4, 5, 6] rfl)

set_option maxHeartbeats 4000000 in
set_option maxRecDepth 100000 in
theorem lc_numberAt {p : Program} {l : Launch} {e : Env} {s : State} {m : MethodId} {below : List Frame} {meth : Method} {c : Code} {D : va_G} {cI cT cJ : ClassId} {A : Nat → Prop} {sb Ls : Nat} {xs : Nat → Int32} {m0 a1 a2 a3 a4 ou x lv kp : Nat} {cells slots : Nat} {Q : State → Prop} (hX0 : LCX p l s m c D cI cT cJ A sb Ls xs) {H : Heap} {locs : List Loc} {ls : Array Slot} {i : Nat} {G : Nat → Tv} {o ld b k : Nat} (hi : i + 4 ≤ Ls) (hW : WF (G, o, ld, b, k)) (hI : LI D cI cT cJ m0 a1 a2 a3 a4 ou x lv kp A s (G, o, ld, b, k) H locs) (hl : lv_has ls 7 [(4, .int (nI i)), (0, .ref sb), (1, .ref x), (2, .ref m0), (3, .ref ou)]) (hcl : cells + 8 ≤ 709371) (hsl : slots + 40 ≤ 6967992)
    (kk : ∀ (u : Sv) (H : Heap) (locs : List Loc) (ls : Array Slot), WF u → LI D cI cT cJ m0 a1 a2 a3 a4 ou x lv kp A s u H locs → lv_has ls 7 [(4, .int (nI i)), (0, .ref sb), (1, .ref x), (2, .ref m0), (3, .ref ou)] → W p l e room_1 s m #[Value.ref sb] below meth c H locs (cells + 8) (slots + 40) Q (F0 m 1054 ls [])) : W p l e room_1 s m #[Value.ref sb] below meth c H locs cells slots Q (F0 m 825 ls []) := by
  obtain ⟨hx, hb, hml, hown, hts, hX, hbl, hL, hst, hE, hT0, hN, hA, hbA⟩ := hX0
  obtain ⟨t, fo, fL, fK, FZ, K, R, L, N, hP, hD, hC, hM, hS⟩ := hI
  obtain ⟨hold, hld, hbb, hbk⟩ := hW
  dsimp only at hP hD hC hM hold hld hbb hbk
  have hK := hE.1
  refine lv_aload_n hx hb dL_law_825 rfl (lv_at hl 2 rfl) ?_
  refine lv_aload_n hx hb dL_law_826 rfl (lv_at hl 1 rfl) ?_
  refine lv_iload hx hb dL_law_827 (lv_at hl 0 rfl) ?_
  refine lv_iconst (v := nI 1) hx hb dL_law_829 (by decide) ?_
  refine lv_iadd hx hb dL_law_830 ?_
  refine x_top (nI (i + 1)) (xadd (by omega)) ?_
  refine va_sld hx hb hX hbl hbA hS (xin (by omega) (by omega)) dL_law_831 ?_
  refine x_top (xs (i + 1)) (by rw [nI_clamp (by omega)]) ?_
  refine lv_aload_n hx hb dL_law_832 rfl (lv_at hl 1 rfl) ?_
  refine lv_iload hx hb dL_law_833 (lv_at hl 0 rfl) ?_
  refine lv_iconst (v := nI 2) hx hb dL_law_835 (by decide) ?_
  refine lv_iadd hx hb dL_law_836 ?_
  refine x_top (nI (i + 2)) (xadd (by omega)) ?_
  refine va_sld hx hb hX hbl hbA hS (xin (by omega) (by omega)) dL_law_837 ?_
  refine x_top (xs (i + 2)) (by rw [nI_clamp (by omega)]) ?_
  refine lv_aload_n hx hb dL_law_838 rfl (lv_at hl 1 rfl) ?_
  refine lv_iload hx hb dL_law_839 (lv_at hl 0 rfl) ?_
  refine lv_iconst (v := nI 3) hx hb dL_law_841 (by decide) ?_
  refine lv_iadd hx hb dL_law_842 ?_
  refine x_top (nI (i + 3)) (xadd (by omega)) ?_
  refine va_sld hx hb hX hbl hbA hS (xin (by omega) (by omega)) dL_law_843 ?_
  refine x_top (xs (i + 3)) (by rw [nI_clamp (by omega)]) ?_
  refine lv_aload_n hx hb dL_law_844 rfl (lv_at hl 4 rfl) ?_
  have hP : va_P D vwCl ((MWs cI m0 a1 a2 a3 a4 K R L N ld o b k t) ++ (LWs cT cJ ou x lv kp fo fL fK o ld b k FZ)) H := hP
  have hD : va_D A ((MWs cI m0 a1 a2 a3 a4 K R L N ld o b k t) ++ (LWs cT cJ ou x lv kp fo fL fK o ld b k FZ)) := hD
  have hPc : va_P D vwCl (LWs cT cJ ou x lv kp fo fL fK o ld b k FZ) H := xP_sub (fun _ h => List.mem_append_right _ h) hP
  have hDc : va_D (fun _ => True) (LWs cT cJ ou x lv kp fo fL fK o ld b k FZ) := (xD_sub (List.sublist_append_right _ _) hD).weaken (fun _ _ _ _ => trivial)
  have hFc := xfree (wc := (LWs cT cJ ou x lv kp fo fL fK o ld b k FZ)) hD hS hA (fun _ h => List.mem_append_right _ h)
  have hT : XT A s H := hT0.kept hS.2.1
  refine xcw (vx_runSX (As := [.ref x, .int (xs (i + 1)), .int (xs (i + 2)), .int (xs (i + 3)), .ref ou]) (rest := []) ⟨hx, hb, hml, hown, hts⟩ (c_L_numberAt l hst A ou x lv kp fo fL fK o ld b k FZ G hC (xs (i + 1)) (xs (i + 2)) (xs (i + 3)) hld hold H.size) (vx_cwSW 5 hts gL_law_L_numberAt rfl rfl rfl (by decide +kernel) ⟨(Nat.le_of_ble_eq_true rfl), (Nat.le_of_ble_eq_true rfl)⟩) ⟨XPl_blind, XPl_pre hE hT hN ⟨rfl, hPc, hDc⟩⟩ rfl rfl hl.1 rfl (lv_room (Nat.le_of_ble_eq_true rfl)) dL_law_845 ⟨by show (_ : Nat) ≤ 709371; omega, by show (_ : Nat) ≤ 6967992; omega⟩) hS (fun q9 _ h => hFc q9 h) hFc (fun _ _ _ _ _ hp9 _ _ _ _ _ _ => False.elim hp9) (fun r9 u9 t9 H1 locs ht9 hvm9 hw9 hB9 hzc hkc hS => ?_)
  obtain ⟨u1, z9⟩ := u9
  dsimp only at hw9 hB9
  rcases hw9 with ⟨rfl, rfl, ix, sp, hat, hsp, hv3, rfl⟩ | ⟨rfl, rfl, hv⟩
  · obtain ⟨fo', fL', fK', FZ', hP1, hD1, hC', hfo⟩ := hB9
    dsimp only at hP1 hD1 hC'
    rw [ht9] at hP1
    obtain ⟨hP, hD⟩ := xjoin (wr := (MWs cI m0 a1 a2 a3 a4 K R L N ld o b k t)) (wc := (LWs cT cJ ou x lv kp fo fL fK o ld b k FZ)) (w1 := (LWs cT cJ ou x lv kp fo' fL' fK' o ld b k FZ')) hP hD hkc hFc hP1 hD1
    generalize H1 = H at hP hS ⊢
    refine lv_istore (lv' := [(5, .int (nI 0)), (4, .int (nI i)), (0, .ref sb), (1, .ref x), (2, .ref m0), (3, .ref ou)]) hx hb dL_law_848 hl (by decide) rfl (fun ls hl => ?_)
    refine lv_aload_n hx hb dL_law_850 rfl (lv_at hl 4 rfl) ?_
    refine lv_aload_n hx hb dL_law_851 rfl (lv_at hl 2 rfl) ?_
    refine lv_iload hx hb dL_law_852 (lv_at hl 1 rfl) ?_
    refine lv_iconst (v := nI 1) hx hb dL_law_854 (by decide) ?_
    refine lv_iadd hx hb dL_law_855 ?_
    refine x_top (nI (i + 1)) (xadd (by omega)) ?_
    refine va_sld hx hb hX hbl hbA hS (xin (by omega) (by omega)) dL_law_856 ?_
    refine x_top (xs (i + 1)) (by rw [nI_clamp (by omega)]) ?_
    refine lv_aload_n hx hb dL_law_857 rfl (lv_at hl 2 rfl) ?_
    refine lv_iload hx hb dL_law_858 (lv_at hl 1 rfl) ?_
    refine lv_iconst (v := nI 2) hx hb dL_law_860 (by decide) ?_
    refine lv_iadd hx hb dL_law_861 ?_
    refine x_top (nI (i + 2)) (xadd (by omega)) ?_
    refine va_sld hx hb hX hbl hbA hS (xin (by omega) (by omega)) dL_law_862 ?_
    refine x_top (xs (i + 2)) (by rw [nI_clamp (by omega)]) ?_
    refine lv_aload_n hx hb dL_law_863 rfl (lv_at hl 2 rfl) ?_
    refine lv_iload hx hb dL_law_864 (lv_at hl 1 rfl) ?_
    refine lv_iconst (v := nI 3) hx hb dL_law_866 (by decide) ?_
    refine lv_iadd hx hb dL_law_867 ?_
    refine x_top (nI (i + 3)) (xadd (by omega)) ?_
    refine va_sld hx hb hX hbl hbA hS (xin (by omega) (by omega)) dL_law_868 ?_
    refine x_top (xs (i + 3)) (by rw [nI_clamp (by omega)]) ?_
    refine x_top (nI sp) (hv3) ?_
    have hP : va_P D vwCl ((LWs cT cJ ou x lv kp fo' fL' fK' o ld b k FZ') ++ (MWs cI m0 a1 a2 a3 a4 K R L N ld o b k t)) H := xP_perm List.perm_append_comm hP
    have hD : va_D A ((LWs cT cJ ou x lv kp fo' fL' fK' o ld b k FZ') ++ (MWs cI m0 a1 a2 a3 a4 K R L N ld o b k t)) := xD_perm List.perm_append_comm hD
    have hPm : va_P D vwCl (MWs cI m0 a1 a2 a3 a4 K R L N ld o b k t) H := xP_sub (fun _ h => List.mem_append_right _ h) hP
    have hDm : va_D (fun _ => True) (MWs cI m0 a1 a2 a3 a4 K R L N ld o b k t) := (xD_sub (List.sublist_append_right _ _) hD).weaken (fun _ _ _ _ => trivial)
    have hFc := xfree (wc := (MWs cI m0 a1 a2 a3 a4 K R L N ld o b k t)) hD hS hA (fun _ h => List.mem_append_right _ h)
    refine va_calli (va_runV (As := [.int (xs (i + 1)), .int (xs (i + 2)), .int (nI sp)]) (rest := []) ⟨hx, hb, hml, hown, hts⟩ (c_X2_numberAt_g l m0 a1 a2 a3 a4 K R L N ld o b k t G hM (xs (i + 1)) (xs (i + 2)) ix sp hld hold hat hsp H.size) (cwV 3 hts gL_law_X2_numberAt rfl rfl rfl (by decide +kernel) ⟨(Nat.le_of_ble_eq_true rfl), (Nat.le_of_ble_eq_true rfl)⟩) ⟨XP_blind, va_recv hK hPm (ci := 2) (q0 := 0) rfl rfl, XP_pre hE ⟨rfl, hPm, hDm⟩⟩ rfl rfl hl.1 rfl (lv_room (Nat.le_of_ble_eq_true rfl)) dL_law_869 ⟨by show (_ : Nat) ≤ 709371; omega, by show (_ : Nat) ≤ 6967992; omega⟩) hS (fun q9 _ h => hFc q9 h) hFc (fun r8 u8 t9 H1 locs ht9 hvm9 hw8 hB9 hzc hkc hS => ?_)
    obtain ⟨K', R', L', N', hP1, hD1, hM'⟩ := hB9
    rw [ht9] at hP1
    obtain ⟨hP, hD⟩ := xjoin (wr := (LWs cT cJ ou x lv kp fo' fL' fK' o ld b k FZ')) (wc := (MWs cI m0 a1 a2 a3 a4 K R L N ld o b k t)) (w1 := (MWs cI m0 a1 a2 a3 a4 K' R' L' N' ld o b k 0)) hP hD hkc hFc hP1 hD1
    generalize H1 = H at hP hS ⊢
    have hP : va_P D vwCl ((MWs cI m0 a1 a2 a3 a4 K' R' L' N' ld o b k 0) ++ (LWs cT cJ ou x lv kp fo' fL' fK' o ld b k FZ')) H := xP_perm List.perm_append_comm hP
    have hD : va_D A ((MWs cI m0 a1 a2 a3 a4 K' R' L' N' ld o b k 0) ++ (LWs cT cJ ou x lv kp fo' fL' fK' o ld b k FZ')) := xD_perm List.perm_append_comm hD
    subst hw8
    refine lv_istore (lv' := [(6, .int (if sp < (G ix).2.2.1 then (G ix).2.2.2 sp else -1)), (5, .int (nI 0)), (4, .int (nI i)), (0, .ref sb), (1, .ref x), (2, .ref m0), (3, .ref ou)]) hx hb dL_law_872 hl (by decide) rfl (fun ls hl => ?_)
    refine lv_aload_n hx hb dL_law_874 rfl (lv_at hl 5 rfl) ?_
    have hPm : va_P D vwCl (MWs cI m0 a1 a2 a3 a4 K' R' L' N' ld o b k 0) H := xP_sub (ws := (MWs cI m0 a1 a2 a3 a4 K' R' L' N' ld o b k 0) ++ (LWs cT cJ ou x lv kp fo' fL' fK' o ld b k FZ')) (fun _ h => List.mem_append_left _ h) hP
    refine xc_sie (va_runV (As := []) (rest := []) ⟨hx, hb, hml, hown, hts⟩ (c_X2_thrown l m0 a1 a2 a3 a4 K' R' L' N' ld o b k 0) (cwV 0 hts gL_law_X2_thrown rfl rfl rfl (by decide +kernel) ⟨(Nat.le_of_ble_eq_true rfl), (Nat.le_of_ble_eq_true rfl)⟩) ⟨XP_blind, va_recv hK hPm (ci := 2) (q0 := 0) rfl rfl, XP_pre hE hPm⟩ rfl rfl hl.1 rfl (lv_room (Nat.le_of_ble_eq_true rfl)) dL_law_875 ⟨by show (_ : Nat) ≤ 709371; omega, by show (_ : Nat) ≤ 6967992; omega⟩) ?_
    refine lv_iload hx hb dL_law_878 (lv_at hl 1 rfl) ?_
    refine lv_icmp_eq (tgt := 885) hx hb dL_law_880 (by decide) (fun _ => ?_) (fun h => absurd h (by decide))
    refine lv_iload hx hb dL_law_885 (lv_at hl 1 rfl) ?_
    refine lv_if_ne (tgt := 902) hx hb dL_law_887 (by decide) (fun h => absurd h (by decide)) (fun _ => ?_)
    refine lv_aload_n hx hb dL_law_890 rfl (lv_at hl 6 rfl) ?_
    refine lv_iconst (v := nI 0) hx hb dL_law_891 (by decide) ?_
    refine va_lald hx hb hK hP 5 2 rfl rfl (xin (by omega) (by omega)) dL_law_892 ?_
    refine x_topl ((if sp < (G ix).2.2.1 then (G ix).2.2.2 sp else -1).toInt64) (by rw [nI_clamp (by omega)]; exact hfo) ?_
    refine lv_iload hx hb dL_law_893 (lv_at hl 0 rfl) ?_
    refine lv_i2l (v := (if sp < (G ix).2.2.1 then (G ix).2.2.2 sp else -1).toInt64) hx hb dL_law_895 rfl ?_
    refine W.lcmp hx hb dL_law_896 ?_
    refine x_top (nI 0) (lg_self _) ?_
    refine lv_if_eq (tgt := 902) hx hb dL_law_897 (by decide) (fun _ => ?_) (fun h => absurd h (by decide))
    refine lv_goto (tgt := 1054) hx hb dL_law_902 (by decide) ?_
    refine W.widen (k := cells + 8) (n := slots + 40) (by show _ ≤ _; omega) (by show _ ≤ _; omega) ?_
    exact kk (G, o, ld, b, k) H locs ls (by refine ⟨?_, ?_, ?_, ?_⟩ <;> dsimp only <;> omega) ⟨0, fo', fL', fK', FZ', K', R', L', N', hP, hD, hC', hM', hS⟩ (lv_sub hl [2, 3, 4, 5, 6] rfl)
  · obtain ⟨fo', fL', fK', FZ', hP1, hD1, hC', hfo⟩ := hB9
    dsimp only at hP1 hD1 hC'
    rw [ht9] at hP1
    obtain ⟨hP, hD⟩ := xjoin (wr := (MWs cI m0 a1 a2 a3 a4 K R L N ld o b k t)) (wc := (LWs cT cJ ou x lv kp fo fL fK o ld b k FZ)) (w1 := (LWs cT cJ ou x lv kp fo' fL' fK' o ld b k FZ')) hP hD hkc hFc hP1 hD1
    generalize H1 = H at hP hS ⊢
    by_cases hat : ∃ ix, AT o ld (xs (i + 1)) (xs (i + 2)) ix
    · obtain ⟨ix, hat⟩ := hat
      refine lv_istore (lv' := [(5, .int (nI 1)), (4, .int (nI i)), (0, .ref sb), (1, .ref x), (2, .ref m0), (3, .ref ou)]) hx hb dL_law_848 hl (by decide) rfl (fun ls hl => ?_)
      refine lv_aload_n hx hb dL_law_850 rfl (lv_at hl 4 rfl) ?_
      refine lv_aload_n hx hb dL_law_851 rfl (lv_at hl 2 rfl) ?_
      refine lv_iload hx hb dL_law_852 (lv_at hl 1 rfl) ?_
      refine lv_iconst (v := nI 1) hx hb dL_law_854 (by decide) ?_
      refine lv_iadd hx hb dL_law_855 ?_
      refine x_top (nI (i + 1)) (xadd (by omega)) ?_
      refine va_sld hx hb hX hbl hbA hS (xin (by omega) (by omega)) dL_law_856 ?_
      refine x_top (xs (i + 1)) (by rw [nI_clamp (by omega)]) ?_
      refine lv_aload_n hx hb dL_law_857 rfl (lv_at hl 2 rfl) ?_
      refine lv_iload hx hb dL_law_858 (lv_at hl 1 rfl) ?_
      refine lv_iconst (v := nI 2) hx hb dL_law_860 (by decide) ?_
      refine lv_iadd hx hb dL_law_861 ?_
      refine x_top (nI (i + 2)) (xadd (by omega)) ?_
      refine va_sld hx hb hX hbl hbA hS (xin (by omega) (by omega)) dL_law_862 ?_
      refine x_top (xs (i + 2)) (by rw [nI_clamp (by omega)]) ?_
      refine lv_aload_n hx hb dL_law_863 rfl (lv_at hl 2 rfl) ?_
      refine lv_iload hx hb dL_law_864 (lv_at hl 1 rfl) ?_
      refine lv_iconst (v := nI 3) hx hb dL_law_866 (by decide) ?_
      refine lv_iadd hx hb dL_law_867 ?_
      refine x_top (nI (i + 3)) (xadd (by omega)) ?_
      refine va_sld hx hb hX hbl hbA hS (xin (by omega) (by omega)) dL_law_868 ?_
      refine x_top (xs (i + 3)) (by rw [nI_clamp (by omega)]) ?_
      have hP : va_P D vwCl ((LWs cT cJ ou x lv kp fo' fL' fK' o ld b k FZ') ++ (MWs cI m0 a1 a2 a3 a4 K R L N ld o b k t)) H := xP_perm List.perm_append_comm hP
      have hD : va_D A ((LWs cT cJ ou x lv kp fo' fL' fK' o ld b k FZ') ++ (MWs cI m0 a1 a2 a3 a4 K R L N ld o b k t)) := xD_perm List.perm_append_comm hD
      have hPm : va_P D vwCl (MWs cI m0 a1 a2 a3 a4 K R L N ld o b k t) H := xP_sub (fun _ h => List.mem_append_right _ h) hP
      have hDm : va_D (fun _ => True) (MWs cI m0 a1 a2 a3 a4 K R L N ld o b k t) := (xD_sub (List.sublist_append_right _ _) hD).weaken (fun _ _ _ _ => trivial)
      have hFc := xfree (wc := (MWs cI m0 a1 a2 a3 a4 K R L N ld o b k t)) hD hS hA (fun _ h => List.mem_append_right _ h)
      refine va_calli (va_runV (As := [.int (xs (i + 1)), .int (xs (i + 2)), .int (xs (i + 3))]) (rest := []) ⟨hx, hb, hml, hown, hts⟩ (c_X2_numberAt_c l m0 a1 a2 a3 a4 K R L N ld o b k t G hM (xs (i + 1)) (xs (i + 2)) (xs (i + 3)) ix hld hold hat (fun ⟨sp, h1, h2⟩ => hv ⟨ix, sp, hat, h1, h2⟩) H.size) (cwV 3 hts gL_law_X2_numberAt rfl rfl rfl (by decide +kernel) ⟨(Nat.le_of_ble_eq_true rfl), (Nat.le_of_ble_eq_true rfl)⟩) ⟨XP_blind, va_recv hK hPm (ci := 2) (q0 := 0) rfl rfl, XP_pre hE ⟨rfl, hPm, hDm⟩⟩ rfl rfl hl.1 rfl (lv_room (Nat.le_of_ble_eq_true rfl)) dL_law_869 ⟨by show (_ : Nat) ≤ 709371; omega, by show (_ : Nat) ≤ 6967992; omega⟩) hS (fun q9 _ h => hFc q9 h) hFc (fun r8 u8 t9 H1 locs ht9 hvm9 hw8 hB9 hzc hkc hS => ?_)
      obtain ⟨K', R', L', N', hP1, hD1, hM'⟩ := hB9
      rw [ht9] at hP1
      obtain ⟨hP, hD⟩ := xjoin (wr := (LWs cT cJ ou x lv kp fo' fL' fK' o ld b k FZ')) (wc := (MWs cI m0 a1 a2 a3 a4 K R L N ld o b k t)) (w1 := (MWs cI m0 a1 a2 a3 a4 K' R' L' N' ld o b k 1)) hP hD hkc hFc hP1 hD1
      generalize H1 = H at hP hS ⊢
      have hP : va_P D vwCl ((MWs cI m0 a1 a2 a3 a4 K' R' L' N' ld o b k 1) ++ (LWs cT cJ ou x lv kp fo' fL' fK' o ld b k FZ')) H := xP_perm List.perm_append_comm hP
      have hD : va_D A ((MWs cI m0 a1 a2 a3 a4 K' R' L' N' ld o b k 1) ++ (LWs cT cJ ou x lv kp fo' fL' fK' o ld b k FZ')) := xD_perm List.perm_append_comm hD
      refine lv_istore (lv' := [(6, .int r8), (5, .int (nI 1)), (4, .int (nI i)), (0, .ref sb), (1, .ref x), (2, .ref m0), (3, .ref ou)]) hx hb dL_law_872 hl (by decide) rfl (fun ls hl => ?_)
      refine lv_aload_n hx hb dL_law_874 rfl (lv_at hl 5 rfl) ?_
      have hPm : va_P D vwCl (MWs cI m0 a1 a2 a3 a4 K' R' L' N' ld o b k 1) H := xP_sub (ws := (MWs cI m0 a1 a2 a3 a4 K' R' L' N' ld o b k 1) ++ (LWs cT cJ ou x lv kp fo' fL' fK' o ld b k FZ')) (fun _ h => List.mem_append_left _ h) hP
      refine xc_sie (va_runV (As := []) (rest := []) ⟨hx, hb, hml, hown, hts⟩ (c_X2_thrown l m0 a1 a2 a3 a4 K' R' L' N' ld o b k 1) (cwV 0 hts gL_law_X2_thrown rfl rfl rfl (by decide +kernel) ⟨(Nat.le_of_ble_eq_true rfl), (Nat.le_of_ble_eq_true rfl)⟩) ⟨XP_blind, va_recv hK hPm (ci := 2) (q0 := 0) rfl rfl, XP_pre hE hPm⟩ rfl rfl hl.1 rfl (lv_room (Nat.le_of_ble_eq_true rfl)) dL_law_875 ⟨by show (_ : Nat) ≤ 709371; omega, by show (_ : Nat) ≤ 6967992; omega⟩) ?_
      refine lv_iload hx hb dL_law_878 (lv_at hl 1 rfl) ?_
      refine lv_icmp_eq (tgt := 885) hx hb dL_law_880 (by decide) (fun _ => ?_) (fun h => absurd h (by decide))
      refine lv_iload hx hb dL_law_885 (lv_at hl 1 rfl) ?_
      refine lv_if_ne (tgt := 902) hx hb dL_law_887 (by decide) (fun _ => ?_) (fun h => absurd h (by decide))
      refine lv_goto (tgt := 1054) hx hb dL_law_902 (by decide) ?_
      refine W.widen (k := cells + 8) (n := slots + 40) (by show _ ≤ _; omega) (by show _ ≤ _; omega) ?_
      exact kk (G, o, ld, b, k) H locs ls (by refine ⟨?_, ?_, ?_, ?_⟩ <;> dsimp only <;> omega) ⟨1, fo', fL', fK', FZ', K', R', L', N', hP, hD, hC', hM', hS⟩ (lv_sub hl [2, 3, 4, 5, 6] rfl)
    · refine lv_istore (lv' := [(5, .int (nI 1)), (4, .int (nI i)), (0, .ref sb), (1, .ref x), (2, .ref m0), (3, .ref ou)]) hx hb dL_law_848 hl (by decide) rfl (fun ls hl => ?_)
      refine lv_aload_n hx hb dL_law_850 rfl (lv_at hl 4 rfl) ?_
      refine lv_aload_n hx hb dL_law_851 rfl (lv_at hl 2 rfl) ?_
      refine lv_iload hx hb dL_law_852 (lv_at hl 1 rfl) ?_
      refine lv_iconst (v := nI 1) hx hb dL_law_854 (by decide) ?_
      refine lv_iadd hx hb dL_law_855 ?_
      refine x_top (nI (i + 1)) (xadd (by omega)) ?_
      refine va_sld hx hb hX hbl hbA hS (xin (by omega) (by omega)) dL_law_856 ?_
      refine x_top (xs (i + 1)) (by rw [nI_clamp (by omega)]) ?_
      refine lv_aload_n hx hb dL_law_857 rfl (lv_at hl 2 rfl) ?_
      refine lv_iload hx hb dL_law_858 (lv_at hl 1 rfl) ?_
      refine lv_iconst (v := nI 2) hx hb dL_law_860 (by decide) ?_
      refine lv_iadd hx hb dL_law_861 ?_
      refine x_top (nI (i + 2)) (xadd (by omega)) ?_
      refine va_sld hx hb hX hbl hbA hS (xin (by omega) (by omega)) dL_law_862 ?_
      refine x_top (xs (i + 2)) (by rw [nI_clamp (by omega)]) ?_
      refine lv_aload_n hx hb dL_law_863 rfl (lv_at hl 2 rfl) ?_
      refine lv_iload hx hb dL_law_864 (lv_at hl 1 rfl) ?_
      refine lv_iconst (v := nI 3) hx hb dL_law_866 (by decide) ?_
      refine lv_iadd hx hb dL_law_867 ?_
      refine x_top (nI (i + 3)) (xadd (by omega)) ?_
      refine va_sld hx hb hX hbl hbA hS (xin (by omega) (by omega)) dL_law_868 ?_
      refine x_top (xs (i + 3)) (by rw [nI_clamp (by omega)]) ?_
      have hP : va_P D vwCl ((LWs cT cJ ou x lv kp fo' fL' fK' o ld b k FZ') ++ (MWs cI m0 a1 a2 a3 a4 K R L N ld o b k t)) H := xP_perm List.perm_append_comm hP
      have hD : va_D A ((LWs cT cJ ou x lv kp fo' fL' fK' o ld b k FZ') ++ (MWs cI m0 a1 a2 a3 a4 K R L N ld o b k t)) := xD_perm List.perm_append_comm hD
      have hPm : va_P D vwCl (MWs cI m0 a1 a2 a3 a4 K R L N ld o b k t) H := xP_sub (fun _ h => List.mem_append_right _ h) hP
      have hDm : va_D (fun _ => True) (MWs cI m0 a1 a2 a3 a4 K R L N ld o b k t) := (xD_sub (List.sublist_append_right _ _) hD).weaken (fun _ _ _ _ => trivial)
      have hFc := xfree (wc := (MWs cI m0 a1 a2 a3 a4 K R L N ld o b k t)) hD hS hA (fun _ h => List.mem_append_right _ h)
      refine va_calli (va_runV (As := [.int (xs (i + 1)), .int (xs (i + 2)), .int (xs (i + 3))]) (rest := []) ⟨hx, hb, hml, hown, hts⟩ (c_X2_numberAt_b l m0 a1 a2 a3 a4 K R L N ld o b k t G hM (xs (i + 1)) (xs (i + 2)) (xs (i + 3)) hld hold hat H.size) (cwV 3 hts gL_law_X2_numberAt rfl rfl rfl (by decide +kernel) ⟨(Nat.le_of_ble_eq_true rfl), (Nat.le_of_ble_eq_true rfl)⟩) ⟨XP_blind, va_recv hK hPm (ci := 2) (q0 := 0) rfl rfl, XP_pre hE ⟨rfl, hPm, hDm⟩⟩ rfl rfl hl.1 rfl (lv_room (Nat.le_of_ble_eq_true rfl)) dL_law_869 ⟨by show (_ : Nat) ≤ 709371; omega, by show (_ : Nat) ≤ 6967992; omega⟩) hS (fun q9 _ h => hFc q9 h) hFc (fun r8 u8 t9 H1 locs ht9 hvm9 hw8 hB9 hzc hkc hS => ?_)
      obtain ⟨K', R', L', N', hP1, hD1, hM'⟩ := hB9
      rw [ht9] at hP1
      obtain ⟨hP, hD⟩ := xjoin (wr := (LWs cT cJ ou x lv kp fo' fL' fK' o ld b k FZ')) (wc := (MWs cI m0 a1 a2 a3 a4 K R L N ld o b k t)) (w1 := (MWs cI m0 a1 a2 a3 a4 K' R' L' N' ld o b k 1)) hP hD hkc hFc hP1 hD1
      generalize H1 = H at hP hS ⊢
      have hP : va_P D vwCl ((MWs cI m0 a1 a2 a3 a4 K' R' L' N' ld o b k 1) ++ (LWs cT cJ ou x lv kp fo' fL' fK' o ld b k FZ')) H := xP_perm List.perm_append_comm hP
      have hD : va_D A ((MWs cI m0 a1 a2 a3 a4 K' R' L' N' ld o b k 1) ++ (LWs cT cJ ou x lv kp fo' fL' fK' o ld b k FZ')) := xD_perm List.perm_append_comm hD
      refine lv_istore (lv' := [(6, .int r8), (5, .int (nI 1)), (4, .int (nI i)), (0, .ref sb), (1, .ref x), (2, .ref m0), (3, .ref ou)]) hx hb dL_law_872 hl (by decide) rfl (fun ls hl => ?_)
      refine lv_aload_n hx hb dL_law_874 rfl (lv_at hl 5 rfl) ?_
      have hPm : va_P D vwCl (MWs cI m0 a1 a2 a3 a4 K' R' L' N' ld o b k 1) H := xP_sub (ws := (MWs cI m0 a1 a2 a3 a4 K' R' L' N' ld o b k 1) ++ (LWs cT cJ ou x lv kp fo' fL' fK' o ld b k FZ')) (fun _ h => List.mem_append_left _ h) hP
      refine xc_sie (va_runV (As := []) (rest := []) ⟨hx, hb, hml, hown, hts⟩ (c_X2_thrown l m0 a1 a2 a3 a4 K' R' L' N' ld o b k 1) (cwV 0 hts gL_law_X2_thrown rfl rfl rfl (by decide +kernel) ⟨(Nat.le_of_ble_eq_true rfl), (Nat.le_of_ble_eq_true rfl)⟩) ⟨XP_blind, va_recv hK hPm (ci := 2) (q0 := 0) rfl rfl, XP_pre hE hPm⟩ rfl rfl hl.1 rfl (lv_room (Nat.le_of_ble_eq_true rfl)) dL_law_875 ⟨by show (_ : Nat) ≤ 709371; omega, by show (_ : Nat) ≤ 6967992; omega⟩) ?_
      refine lv_iload hx hb dL_law_878 (lv_at hl 1 rfl) ?_
      refine lv_icmp_eq (tgt := 885) hx hb dL_law_880 (by decide) (fun _ => ?_) (fun h => absurd h (by decide))
      refine lv_iload hx hb dL_law_885 (lv_at hl 1 rfl) ?_
      refine lv_if_ne (tgt := 902) hx hb dL_law_887 (by decide) (fun _ => ?_) (fun h => absurd h (by decide))
      refine lv_goto (tgt := 1054) hx hb dL_law_902 (by decide) ?_
      refine W.widen (k := cells + 8) (n := slots + 40) (by show _ ≤ _; omega) (by show _ ≤ _; omega) ?_
      exact kk (G, o, ld, b, k) H locs ls (by refine ⟨?_, ?_, ?_, ?_⟩ <;> dsimp only <;> omega) ⟨1, fo', fL', fK', FZ', K', R', L', N', hP, hD, hC', hM', hS⟩ (lv_sub hl [2, 3, 4, 5, 6] rfl)

set_option maxHeartbeats 4000000 in
set_option maxRecDepth 100000 in
theorem lc_sizeAt {p : Program} {l : Launch} {e : Env} {s : State} {m : MethodId} {below : List Frame} {meth : Method} {c : Code} {D : va_G} {cI cT cJ : ClassId} {A : Nat → Prop} {sb Ls : Nat} {xs : Nat → Int32} {m0 a1 a2 a3 a4 ou x lv kp : Nat} {cells slots : Nat} {Q : State → Prop} (hX0 : LCX p l s m c D cI cT cJ A sb Ls xs) {H : Heap} {locs : List Loc} {ls : Array Slot} {i : Nat} {G : Nat → Tv} {o ld b k : Nat} (hi : i + 4 ≤ Ls) (hW : WF (G, o, ld, b, k)) (hI : LI D cI cT cJ m0 a1 a2 a3 a4 ou x lv kp A s (G, o, ld, b, k) H locs) (hl : lv_has ls 7 [(4, .int (nI i)), (0, .ref sb), (1, .ref x), (2, .ref m0), (3, .ref ou)]) (hcl : cells + 8 ≤ 709371) (hsl : slots + 40 ≤ 6967992)
    (kk : ∀ (u : Sv) (H : Heap) (locs : List Loc) (ls : Array Slot), WF u → LI D cI cT cJ m0 a1 a2 a3 a4 ou x lv kp A s u H locs → lv_has ls 7 [(4, .int (nI i)), (0, .ref sb), (1, .ref x), (2, .ref m0), (3, .ref ou)] → W p l e room_1 s m #[Value.ref sb] below meth c H locs (cells + 8) (slots + 40) Q (F0 m 1054 ls [])) : W p l e room_1 s m #[Value.ref sb] below meth c H locs cells slots Q (F0 m 973 ls []) := by
  obtain ⟨hx, hb, hml, hown, hts, hX, hbl, hL, hst, hE, hT0, hN, hA, hbA⟩ := hX0
  obtain ⟨t, fo, fL, fK, FZ, K, R, L, N, hP, hD, hC, hM, hS⟩ := hI
  obtain ⟨hold, hld, hbb, hbk⟩ := hW
  dsimp only at hP hD hC hM hold hld hbb hbk
  have hK := hE.1
  refine lv_aload_n hx hb dL_law_973 rfl (lv_at hl 2 rfl) ?_
  refine lv_aload_n hx hb dL_law_974 rfl (lv_at hl 1 rfl) ?_
  refine lv_iload hx hb dL_law_975 (lv_at hl 0 rfl) ?_
  refine lv_iconst (v := nI 1) hx hb dL_law_977 (by decide) ?_
  refine lv_iadd hx hb dL_law_978 ?_
  refine x_top (nI (i + 1)) (xadd (by omega)) ?_
  refine va_sld hx hb hX hbl hbA hS (xin (by omega) (by omega)) dL_law_979 ?_
  refine x_top (xs (i + 1)) (by rw [nI_clamp (by omega)]) ?_
  refine lv_aload_n hx hb dL_law_980 rfl (lv_at hl 1 rfl) ?_
  refine lv_iload hx hb dL_law_981 (lv_at hl 0 rfl) ?_
  refine lv_iconst (v := nI 2) hx hb dL_law_983 (by decide) ?_
  refine lv_iadd hx hb dL_law_984 ?_
  refine x_top (nI (i + 2)) (xadd (by omega)) ?_
  refine va_sld hx hb hX hbl hbA hS (xin (by omega) (by omega)) dL_law_985 ?_
  refine x_top (xs (i + 2)) (by rw [nI_clamp (by omega)]) ?_
  refine lv_aload_n hx hb dL_law_986 rfl (lv_at hl 4 rfl) ?_
  have hP : va_P D vwCl ((MWs cI m0 a1 a2 a3 a4 K R L N ld o b k t) ++ (LWs cT cJ ou x lv kp fo fL fK o ld b k FZ)) H := hP
  have hD : va_D A ((MWs cI m0 a1 a2 a3 a4 K R L N ld o b k t) ++ (LWs cT cJ ou x lv kp fo fL fK o ld b k FZ)) := hD
  have hPc : va_P D vwCl (LWs cT cJ ou x lv kp fo fL fK o ld b k FZ) H := xP_sub (fun _ h => List.mem_append_right _ h) hP
  have hDc : va_D (fun _ => True) (LWs cT cJ ou x lv kp fo fL fK o ld b k FZ) := (xD_sub (List.sublist_append_right _ _) hD).weaken (fun _ _ _ _ => trivial)
  have hFc := xfree (wc := (LWs cT cJ ou x lv kp fo fL fK o ld b k FZ)) hD hS hA (fun _ h => List.mem_append_right _ h)
  have hT : XT A s H := hT0.kept hS.2.1
  refine xcw (vx_runSX (As := [.ref x, .int (xs (i + 1)), .int (xs (i + 2)), .ref ou]) (rest := []) ⟨hx, hb, hml, hown, hts⟩ (c_L_sizeAt l hst A ou x lv kp fo fL fK o ld b k FZ G hC (xs (i + 1)) (xs (i + 2)) hld hold H.size) (vx_cwSW 4 hts gL_law_L_sizeAt rfl rfl rfl (by decide +kernel) ⟨(Nat.le_of_ble_eq_true rfl), (Nat.le_of_ble_eq_true rfl)⟩) ⟨XPl_blind, XPl_pre hE hT hN ⟨rfl, hPc, hDc⟩⟩ rfl rfl hl.1 rfl (lv_room (Nat.le_of_ble_eq_true rfl)) dL_law_987 ⟨by show (_ : Nat) ≤ 709371; omega, by show (_ : Nat) ≤ 6967992; omega⟩) hS (fun q9 _ h => hFc q9 h) hFc (fun _ _ _ _ _ hp9 _ _ _ _ _ _ => False.elim hp9) (fun r9 u9 t9 H1 locs ht9 hvm9 hw9 hB9 hzc hkc hS => ?_)
  obtain ⟨u1, z9⟩ := u9
  dsimp only at hw9 hB9
  rcases hw9 with ⟨rfl, rfl, d, j, hd1, hd2, hv, hj, hv2, rfl⟩ | ⟨rfl, rfl, hv⟩
  · obtain ⟨fo', fL', fK', FZ', hP1, hD1, hC', hfo⟩ := hB9
    dsimp only at hP1 hD1 hC'
    rw [ht9] at hP1
    obtain ⟨hP, hD⟩ := xjoin (wr := (MWs cI m0 a1 a2 a3 a4 K R L N ld o b k t)) (wc := (LWs cT cJ ou x lv kp fo fL fK o ld b k FZ)) (w1 := (LWs cT cJ ou x lv kp fo' fL' fK' o ld b k FZ')) hP hD hkc hFc hP1 hD1
    generalize H1 = H at hP hS ⊢
    refine lv_istore (lv' := [(5, .int (nI 0)), (4, .int (nI i)), (0, .ref sb), (1, .ref x), (2, .ref m0), (3, .ref ou)]) hx hb dL_law_990 hl (by decide) rfl (fun ls hl => ?_)
    refine lv_aload_n hx hb dL_law_992 rfl (lv_at hl 4 rfl) ?_
    refine lv_aload_n hx hb dL_law_993 rfl (lv_at hl 2 rfl) ?_
    refine lv_iload hx hb dL_law_994 (lv_at hl 1 rfl) ?_
    refine lv_iconst (v := nI 1) hx hb dL_law_996 (by decide) ?_
    refine lv_iadd hx hb dL_law_997 ?_
    refine x_top (nI (i + 1)) (xadd (by omega)) ?_
    refine va_sld hx hb hX hbl hbA hS (xin (by omega) (by omega)) dL_law_998 ?_
    refine x_top (xs (i + 1)) (by rw [nI_clamp (by omega)]) ?_
    refine x_top (nI d) (hv) ?_
    refine lv_aload_n hx hb dL_law_999 rfl (lv_at hl 2 rfl) ?_
    refine lv_iload hx hb dL_law_1000 (lv_at hl 1 rfl) ?_
    refine lv_iconst (v := nI 2) hx hb dL_law_1002 (by decide) ?_
    refine lv_iadd hx hb dL_law_1003 ?_
    refine x_top (nI (i + 2)) (xadd (by omega)) ?_
    refine va_sld hx hb hX hbl hbA hS (xin (by omega) (by omega)) dL_law_1004 ?_
    refine x_top (xs (i + 2)) (by rw [nI_clamp (by omega)]) ?_
    refine x_top (nI j) (hv2) ?_
    have hP : va_P D vwCl ((LWs cT cJ ou x lv kp fo' fL' fK' o ld b k FZ') ++ (MWs cI m0 a1 a2 a3 a4 K R L N ld o b k t)) H := xP_perm List.perm_append_comm hP
    have hD : va_D A ((LWs cT cJ ou x lv kp fo' fL' fK' o ld b k FZ') ++ (MWs cI m0 a1 a2 a3 a4 K R L N ld o b k t)) := xD_perm List.perm_append_comm hD
    have hPm : va_P D vwCl (MWs cI m0 a1 a2 a3 a4 K R L N ld o b k t) H := xP_sub (fun _ h => List.mem_append_right _ h) hP
    have hDm : va_D (fun _ => True) (MWs cI m0 a1 a2 a3 a4 K R L N ld o b k t) := (xD_sub (List.sublist_append_right _ _) hD).weaken (fun _ _ _ _ => trivial)
    have hFc := xfree (wc := (MWs cI m0 a1 a2 a3 a4 K R L N ld o b k t)) hD hS hA (fun _ h => List.mem_append_right _ h)
    refine va_calli (va_runV (As := [.int (nI d), .int (nI j)]) (rest := []) ⟨hx, hb, hml, hown, hts⟩ (c_X2_sizeAt_g l m0 a1 a2 a3 a4 K R L N ld o b k t G hM d j hd1 hd2 hld hj H.size) (cwV 2 hts gL_law_X2_sizeAt rfl rfl rfl (by decide +kernel) ⟨(Nat.le_of_ble_eq_true rfl), (Nat.le_of_ble_eq_true rfl)⟩) ⟨XP_blind, va_recv hK hPm (ci := 2) (q0 := 0) rfl rfl, XP_pre hE ⟨rfl, hPm, hDm⟩⟩ rfl rfl hl.1 rfl (lv_room (Nat.le_of_ble_eq_true rfl)) dL_law_1005 ⟨by show (_ : Nat) ≤ 709371; omega, by show (_ : Nat) ≤ 6967992; omega⟩) hS (fun q9 _ h => hFc q9 h) hFc (fun r8 u8 t9 H1 locs ht9 hvm9 hw8 hB9 hzc hkc hS => ?_)
    obtain ⟨K', R', L', N', hP1, hD1, hM'⟩ := hB9
    rw [ht9] at hP1
    obtain ⟨hP, hD⟩ := xjoin (wr := (LWs cT cJ ou x lv kp fo' fL' fK' o ld b k FZ')) (wc := (MWs cI m0 a1 a2 a3 a4 K R L N ld o b k t)) (w1 := (MWs cI m0 a1 a2 a3 a4 K' R' L' N' ld o b k 0)) hP hD hkc hFc hP1 hD1
    generalize H1 = H at hP hS ⊢
    have hP : va_P D vwCl ((MWs cI m0 a1 a2 a3 a4 K' R' L' N' ld o b k 0) ++ (LWs cT cJ ou x lv kp fo' fL' fK' o ld b k FZ')) H := xP_perm List.perm_append_comm hP
    have hD : va_D A ((MWs cI m0 a1 a2 a3 a4 K' R' L' N' ld o b k 0) ++ (LWs cT cJ ou x lv kp fo' fL' fK' o ld b k FZ')) := xD_perm List.perm_append_comm hD
    subst hw8
    refine lv_istore (lv' := [(6, .int (nI (difW G ld d j))), (5, .int (nI 0)), (4, .int (nI i)), (0, .ref sb), (1, .ref x), (2, .ref m0), (3, .ref ou)]) hx hb dL_law_1008 hl (by decide) rfl (fun ls hl => ?_)
    refine lv_aload_n hx hb dL_law_1010 rfl (lv_at hl 5 rfl) ?_
    have hPm : va_P D vwCl (MWs cI m0 a1 a2 a3 a4 K' R' L' N' ld o b k 0) H := xP_sub (ws := (MWs cI m0 a1 a2 a3 a4 K' R' L' N' ld o b k 0) ++ (LWs cT cJ ou x lv kp fo' fL' fK' o ld b k FZ')) (fun _ h => List.mem_append_left _ h) hP
    refine xc_sie (va_runV (As := []) (rest := []) ⟨hx, hb, hml, hown, hts⟩ (c_X2_thrown l m0 a1 a2 a3 a4 K' R' L' N' ld o b k 0) (cwV 0 hts gL_law_X2_thrown rfl rfl rfl (by decide +kernel) ⟨(Nat.le_of_ble_eq_true rfl), (Nat.le_of_ble_eq_true rfl)⟩) ⟨XP_blind, va_recv hK hPm (ci := 2) (q0 := 0) rfl rfl, XP_pre hE hPm⟩ rfl rfl hl.1 rfl (lv_room (Nat.le_of_ble_eq_true rfl)) dL_law_1011 ⟨by show (_ : Nat) ≤ 709371; omega, by show (_ : Nat) ≤ 6967992; omega⟩) ?_
    refine lv_iload hx hb dL_law_1014 (lv_at hl 1 rfl) ?_
    refine lv_icmp_eq (tgt := 1021) hx hb dL_law_1016 (by decide) (fun _ => ?_) (fun h => absurd h (by decide))
    refine lv_iload hx hb dL_law_1021 (lv_at hl 1 rfl) ?_
    refine lv_if_ne (tgt := 1038) hx hb dL_law_1023 (by decide) (fun h => absurd h (by decide)) (fun _ => ?_)
    refine lv_aload_n hx hb dL_law_1026 rfl (lv_at hl 6 rfl) ?_
    refine lv_iconst (v := nI 0) hx hb dL_law_1027 (by decide) ?_
    refine va_lald hx hb hK hP 5 2 rfl rfl (xin (by omega) (by omega)) dL_law_1028 ?_
    refine x_topl ((nI (difW G ld d j)).toInt64) (by rw [nI_clamp (by omega)]; exact hfo) ?_
    refine lv_iload hx hb dL_law_1029 (lv_at hl 0 rfl) ?_
    refine lv_i2l (v := (nI (difW G ld d j)).toInt64) hx hb dL_law_1031 rfl ?_
    refine W.lcmp hx hb dL_law_1032 ?_
    refine x_top (nI 0) (lg_self _) ?_
    refine lv_if_eq (tgt := 1038) hx hb dL_law_1033 (by decide) (fun _ => ?_) (fun h => absurd h (by decide))
    refine lv_goto (tgt := 1054) hx hb dL_law_1038 (by decide) ?_
    refine W.widen (k := cells + 8) (n := slots + 40) (by show _ ≤ _; omega) (by show _ ≤ _; omega) ?_
    exact kk (G, o, ld, b, k) H locs ls (by refine ⟨?_, ?_, ?_, ?_⟩ <;> dsimp only <;> omega) ⟨0, fo', fL', fK', FZ', K', R', L', N', hP, hD, hC', hM', hS⟩ (lv_sub hl [2, 3, 4, 5, 6] rfl)
  · obtain ⟨fo', fL', fK', FZ', hP1, hD1, hC', hfo⟩ := hB9
    dsimp only at hP1 hD1 hC'
    rw [ht9] at hP1
    obtain ⟨hP, hD⟩ := xjoin (wr := (MWs cI m0 a1 a2 a3 a4 K R L N ld o b k t)) (wc := (LWs cT cJ ou x lv kp fo fL fK o ld b k FZ)) (w1 := (LWs cT cJ ou x lv kp fo' fL' fK' o ld b k FZ')) hP hD hkc hFc hP1 hD1
    generalize H1 = H at hP hS ⊢
    refine lv_istore (lv' := [(5, .int (nI 1)), (4, .int (nI i)), (0, .ref sb), (1, .ref x), (2, .ref m0), (3, .ref ou)]) hx hb dL_law_990 hl (by decide) rfl (fun ls hl => ?_)
    refine lv_aload_n hx hb dL_law_992 rfl (lv_at hl 4 rfl) ?_
    refine lv_aload_n hx hb dL_law_993 rfl (lv_at hl 2 rfl) ?_
    refine lv_iload hx hb dL_law_994 (lv_at hl 1 rfl) ?_
    refine lv_iconst (v := nI 1) hx hb dL_law_996 (by decide) ?_
    refine lv_iadd hx hb dL_law_997 ?_
    refine x_top (nI (i + 1)) (xadd (by omega)) ?_
    refine va_sld hx hb hX hbl hbA hS (xin (by omega) (by omega)) dL_law_998 ?_
    refine x_top (xs (i + 1)) (by rw [nI_clamp (by omega)]) ?_
    refine lv_aload_n hx hb dL_law_999 rfl (lv_at hl 2 rfl) ?_
    refine lv_iload hx hb dL_law_1000 (lv_at hl 1 rfl) ?_
    refine lv_iconst (v := nI 2) hx hb dL_law_1002 (by decide) ?_
    refine lv_iadd hx hb dL_law_1003 ?_
    refine x_top (nI (i + 2)) (xadd (by omega)) ?_
    refine va_sld hx hb hX hbl hbA hS (xin (by omega) (by omega)) dL_law_1004 ?_
    refine x_top (xs (i + 2)) (by rw [nI_clamp (by omega)]) ?_
    have hP : va_P D vwCl ((LWs cT cJ ou x lv kp fo' fL' fK' o ld b k FZ') ++ (MWs cI m0 a1 a2 a3 a4 K R L N ld o b k t)) H := xP_perm List.perm_append_comm hP
    have hD : va_D A ((LWs cT cJ ou x lv kp fo' fL' fK' o ld b k FZ') ++ (MWs cI m0 a1 a2 a3 a4 K R L N ld o b k t)) := xD_perm List.perm_append_comm hD
    have hPm : va_P D vwCl (MWs cI m0 a1 a2 a3 a4 K R L N ld o b k t) H := xP_sub (fun _ h => List.mem_append_right _ h) hP
    have hDm : va_D (fun _ => True) (MWs cI m0 a1 a2 a3 a4 K R L N ld o b k t) := (xD_sub (List.sublist_append_right _ _) hD).weaken (fun _ _ _ _ => trivial)
    have hFc := xfree (wc := (MWs cI m0 a1 a2 a3 a4 K R L N ld o b k t)) hD hS hA (fun _ h => List.mem_append_right _ h)
    refine va_calli (va_runV (As := [.int (xs (i + 1)), .int (xs (i + 2))]) (rest := []) ⟨hx, hb, hml, hown, hts⟩ (c_X2_sizeAt_b l m0 a1 a2 a3 a4 K R L N ld o b k t G hM (xs (i + 1)) (xs (i + 2)) hld hold hv H.size) (cwV 2 hts gL_law_X2_sizeAt rfl rfl rfl (by decide +kernel) ⟨(Nat.le_of_ble_eq_true rfl), (Nat.le_of_ble_eq_true rfl)⟩) ⟨XP_blind, va_recv hK hPm (ci := 2) (q0 := 0) rfl rfl, XP_pre hE ⟨rfl, hPm, hDm⟩⟩ rfl rfl hl.1 rfl (lv_room (Nat.le_of_ble_eq_true rfl)) dL_law_1005 ⟨by show (_ : Nat) ≤ 709371; omega, by show (_ : Nat) ≤ 6967992; omega⟩) hS (fun q9 _ h => hFc q9 h) hFc (fun r8 u8 t9 H1 locs ht9 hvm9 hw8 hB9 hzc hkc hS => ?_)
    obtain ⟨K', R', L', N', hP1, hD1, hM'⟩ := hB9
    rw [ht9] at hP1
    obtain ⟨hP, hD⟩ := xjoin (wr := (LWs cT cJ ou x lv kp fo' fL' fK' o ld b k FZ')) (wc := (MWs cI m0 a1 a2 a3 a4 K R L N ld o b k t)) (w1 := (MWs cI m0 a1 a2 a3 a4 K' R' L' N' ld o b k 1)) hP hD hkc hFc hP1 hD1
    generalize H1 = H at hP hS ⊢
    have hP : va_P D vwCl ((MWs cI m0 a1 a2 a3 a4 K' R' L' N' ld o b k 1) ++ (LWs cT cJ ou x lv kp fo' fL' fK' o ld b k FZ')) H := xP_perm List.perm_append_comm hP
    have hD : va_D A ((MWs cI m0 a1 a2 a3 a4 K' R' L' N' ld o b k 1) ++ (LWs cT cJ ou x lv kp fo' fL' fK' o ld b k FZ')) := xD_perm List.perm_append_comm hD
    refine lv_istore (lv' := [(6, .int r8), (5, .int (nI 1)), (4, .int (nI i)), (0, .ref sb), (1, .ref x), (2, .ref m0), (3, .ref ou)]) hx hb dL_law_1008 hl (by decide) rfl (fun ls hl => ?_)
    refine lv_aload_n hx hb dL_law_1010 rfl (lv_at hl 5 rfl) ?_
    have hPm : va_P D vwCl (MWs cI m0 a1 a2 a3 a4 K' R' L' N' ld o b k 1) H := xP_sub (ws := (MWs cI m0 a1 a2 a3 a4 K' R' L' N' ld o b k 1) ++ (LWs cT cJ ou x lv kp fo' fL' fK' o ld b k FZ')) (fun _ h => List.mem_append_left _ h) hP
    refine xc_sie (va_runV (As := []) (rest := []) ⟨hx, hb, hml, hown, hts⟩ (c_X2_thrown l m0 a1 a2 a3 a4 K' R' L' N' ld o b k 1) (cwV 0 hts gL_law_X2_thrown rfl rfl rfl (by decide +kernel) ⟨(Nat.le_of_ble_eq_true rfl), (Nat.le_of_ble_eq_true rfl)⟩) ⟨XP_blind, va_recv hK hPm (ci := 2) (q0 := 0) rfl rfl, XP_pre hE hPm⟩ rfl rfl hl.1 rfl (lv_room (Nat.le_of_ble_eq_true rfl)) dL_law_1011 ⟨by show (_ : Nat) ≤ 709371; omega, by show (_ : Nat) ≤ 6967992; omega⟩) ?_
    refine lv_iload hx hb dL_law_1014 (lv_at hl 1 rfl) ?_
    refine lv_icmp_eq (tgt := 1021) hx hb dL_law_1016 (by decide) (fun _ => ?_) (fun h => absurd h (by decide))
    refine lv_iload hx hb dL_law_1021 (lv_at hl 1 rfl) ?_
    refine lv_if_ne (tgt := 1038) hx hb dL_law_1023 (by decide) (fun _ => ?_) (fun h => absurd h (by decide))
    refine lv_goto (tgt := 1054) hx hb dL_law_1038 (by decide) ?_
    refine W.widen (k := cells + 8) (n := slots + 40) (by show _ ≤ _; omega) (by show _ ≤ _; omega) ?_
    exact kk (G, o, ld, b, k) H locs ls (by refine ⟨?_, ?_, ?_, ?_⟩ <;> dsimp only <;> omega) ⟨1, fo', fL', fK', FZ', K', R', L', N', hP, hD, hC', hM', hS⟩ (lv_sub hl [2, 3, 4, 5, 6] rfl)

set_option maxHeartbeats 4000000 in
set_option maxRecDepth 100000 in
theorem lc_mend {p : Program} {l : Launch} {e : Env} {s : State} {m : MethodId} {below : List Frame} {meth : Method} {c : Code} {D : va_G} {cI cT cJ : ClassId} {A : Nat → Prop} {sb Ls : Nat} {xs : Nat → Int32} {m0 a1 a2 a3 a4 ou x lv kp : Nat} {cells slots : Nat} {Q : State → Prop} (hX0 : LCX p l s m c D cI cT cJ A sb Ls xs) {H : Heap} {locs : List Loc} {ls : Array Slot} {i : Nat} {G : Nat → Tv} {o ld b k : Nat} (hi : i + 4 ≤ Ls) (hW : WF (G, o, ld, b, k)) (hI : LI D cI cT cJ m0 a1 a2 a3 a4 ou x lv kp A s (G, o, ld, b, k) H locs) (hl : lv_has ls 7 [(4, .int (nI i)), (0, .ref sb), (1, .ref x), (2, .ref m0), (3, .ref ou)]) (hcl : cells + 8 ≤ 709371) (hsl : slots + 40 ≤ 6967992)
    (kk : ∀ (u : Sv) (H : Heap) (locs : List Loc) (ls : Array Slot), WF u → LI D cI cT cJ m0 a1 a2 a3 a4 ou x lv kp A s u H locs → lv_has ls 7 [(4, .int (nI i)), (0, .ref sb), (1, .ref x), (2, .ref m0), (3, .ref ou)] → W p l e room_1 s m #[Value.ref sb] below meth c H locs (cells + 8) (slots + 40) Q (F0 m 1054 ls [])) : W p l e room_1 s m #[Value.ref sb] below meth c H locs cells slots Q (F0 m 580 ls []) := by
  obtain ⟨hx, hb, hml, hown, hts, hX, hbl, hL, hst, hE, hT0, hN, hA, hbA⟩ := hX0
  obtain ⟨t, fo, fL, fK, FZ, K, R, L, N, hP, hD, hC, hM, hS⟩ := hI
  obtain ⟨hold, hld, hbb, hbk⟩ := hW
  dsimp only at hP hD hC hM hold hld hbb hbk
  have hK := hE.1
  refine lv_aload_n hx hb dL_law_580 rfl (lv_at hl 2 rfl) ?_
  have hP : va_P D vwCl (((MWs cI m0 a1 a2 a3 a4 K R L N ld o b k t) ++ [(ou, .inl (cJ, 1, .inr (.inl fo)))]) ++ (CW cT x lv kp fL fK o ld b k FZ)) H := hP
  have hD : va_D A (((MWs cI m0 a1 a2 a3 a4 K R L N ld o b k t) ++ [(ou, .inl (cJ, 1, .inr (.inl fo)))]) ++ (CW cT x lv kp fL fK o ld b k FZ)) := hD
  have hPc : va_P D vwCl (CW cT x lv kp fL fK o ld b k FZ) H := xP_sub (fun _ h => List.mem_append_right _ h) hP
  have hDc : va_D (fun _ => True) (CW cT x lv kp fL fK o ld b k FZ) := (xD_sub (List.sublist_append_right _ _) hD).weaken (fun _ _ _ _ => trivial)
  have hFc := xfree (wc := (CW cT x lv kp fL fK o ld b k FZ)) hD hS hA (fun _ h => List.mem_append_right _ h)
  refine va_calli (va_runV (As := []) (rest := []) ⟨hx, hb, hml, hown, hts⟩ (c_X1_mend l x lv kp fL fK o ld b k FZ H.size) (cwV 0 hts gL_law_X1_mend rfl rfl rfl (by decide +kernel) ⟨(Nat.le_of_ble_eq_true rfl), (Nat.le_of_ble_eq_true rfl)⟩) ⟨XP_blind, va_recv hK hPc (ci := 1) (q0 := 0) rfl rfl, XP_pre hE ⟨rfl, hPc, hDc⟩⟩ rfl rfl hl.1 rfl (lv_room (Nat.le_of_ble_eq_true rfl)) dL_law_581 ⟨by show (_ : Nat) ≤ 709371; omega, by show (_ : Nat) ≤ 6967992; omega⟩) hS (fun q9 _ h => hFc q9 h) hFc (fun r9 u9 t9 H1 locs ht9 hvm9 hw9 hB9 hzc hkc hS => ?_)
  obtain ⟨hP1, hD1⟩ := hB9
  rw [ht9] at hP1
  subst hw9
  obtain ⟨hP, hD⟩ := xjoin (wr := ((MWs cI m0 a1 a2 a3 a4 K R L N ld o b k t) ++ [(ou, .inl (cJ, 1, .inr (.inl fo)))])) (wc := (CW cT x lv kp fL fK o ld b k FZ)) (w1 := (CW cT x lv kp fL fK o ld 0 0 FZ)) hP hD hkc hFc hP1 hD1
  generalize H1 = H at hP hS ⊢
  refine lv_aload_n hx hb dL_law_584 rfl (lv_at hl 3 rfl) ?_
  have hP : va_P D vwCl ((LWs cT cJ ou x lv kp fo fL fK o ld 0 0 FZ) ++ (MWs cI m0 a1 a2 a3 a4 K R L N ld o b k t)) H := xP_perm List.perm_append_comm hP
  have hD : va_D A ((LWs cT cJ ou x lv kp fo fL fK o ld 0 0 FZ) ++ (MWs cI m0 a1 a2 a3 a4 K R L N ld o b k t)) := xD_perm List.perm_append_comm hD
  have hPm : va_P D vwCl (MWs cI m0 a1 a2 a3 a4 K R L N ld o b k t) H := xP_sub (fun _ h => List.mem_append_right _ h) hP
  have hDm : va_D (fun _ => True) (MWs cI m0 a1 a2 a3 a4 K R L N ld o b k t) := (xD_sub (List.sublist_append_right _ _) hD).weaken (fun _ _ _ _ => trivial)
  have hFc := xfree (wc := (MWs cI m0 a1 a2 a3 a4 K R L N ld o b k t)) hD hS hA (fun _ h => List.mem_append_right _ h)
  refine va_calli (va_runV (As := []) (rest := [.int (nI k)]) ⟨hx, hb, hml, hown, hts⟩ (c_X2_mend l m0 a1 a2 a3 a4 K R L N ld o b k t G hM hbb hbk H.size) (cwV 0 hts gL_law_X2_mend rfl rfl rfl (by decide +kernel) ⟨(Nat.le_of_ble_eq_true rfl), (Nat.le_of_ble_eq_true rfl)⟩) ⟨XP_blind, va_recv hK hPm (ci := 2) (q0 := 0) rfl rfl, XP_pre hE ⟨rfl, hPm, hDm⟩⟩ rfl rfl hl.1 rfl (lv_room (Nat.le_of_ble_eq_true rfl)) dL_law_585 ⟨by show (_ : Nat) ≤ 709371; omega, by show (_ : Nat) ≤ 6967992; omega⟩) hS (fun q9 _ h => hFc q9 h) hFc (fun r8 u8 t9 H1 locs ht9 hvm9 hw8 hB9 hzc hkc hS => ?_)
  obtain ⟨K', R', L', N', hP1, hD1, hM'⟩ := hB9
  rw [ht9] at hP1
  obtain ⟨hP, hD⟩ := xjoin (wr := (LWs cT cJ ou x lv kp fo fL fK o ld 0 0 FZ)) (wc := (MWs cI m0 a1 a2 a3 a4 K R L N ld o b k t)) (w1 := (MWs cI m0 a1 a2 a3 a4 K' R' L' N' ld o 0 0 0)) hP hD hkc hFc hP1 hD1
  generalize H1 = H at hP hS ⊢
  have hP : va_P D vwCl ((MWs cI m0 a1 a2 a3 a4 K' R' L' N' ld o 0 0 0) ++ (LWs cT cJ ou x lv kp fo fL fK o ld 0 0 FZ)) H := xP_perm List.perm_append_comm hP
  have hD : va_D A ((MWs cI m0 a1 a2 a3 a4 K' R' L' N' ld o 0 0 0) ++ (LWs cT cJ ou x lv kp fo fL fK o ld 0 0 FZ)) := xD_perm List.perm_append_comm hD
  subst hw8
  refine lv_icmp_eq (tgt := 1054) hx hb dL_law_588 (by decide) (fun _ => ?_) (fun h => absurd rfl h)
  refine W.widen (k := cells + 8) (n := slots + 40) (by show _ ≤ _; omega) (by show _ ≤ _; omega) ?_
  exact kk (G, o, ld, 0, 0) H locs ls (by refine ⟨?_, ?_, ?_, ?_⟩ <;> dsimp only <;> omega) ⟨0, fo, fL, fK, FZ, K', R', L', N', hP, hD, hC, hM', hS⟩ (lv_sub hl [0, 1, 2, 3, 4] rfl)

set_option maxHeartbeats 4000000 in
set_option maxRecDepth 100000 in
theorem lc_last {p : Program} {l : Launch} {e : Env} {s : State} {m : MethodId} {below : List Frame} {meth : Method} {c : Code} {D : va_G} {cI cT cJ : ClassId} {A : Nat → Prop} {sb Ls : Nat} {xs : Nat → Int32} {m0 a1 a2 a3 a4 ou x lv kp : Nat} {cells slots : Nat} {Q : State → Prop} (hX0 : LCX p l s m c D cI cT cJ A sb Ls xs) {H : Heap} {locs : List Loc} {ls : Array Slot} {i : Nat} {G : Nat → Tv} {o ld b k : Nat} (hi : i + 4 ≤ Ls) (hW : WF (G, o, ld, b, k)) (hI : LI D cI cT cJ m0 a1 a2 a3 a4 ou x lv kp A s (G, o, ld, b, k) H locs) (hl : lv_has ls 7 [(4, .int (nI i)), (0, .ref sb), (1, .ref x), (2, .ref m0), (3, .ref ou)]) (hcl : cells + 8 ≤ 709371) (hsl : slots + 40 ≤ 6967992)
    (kk : ∀ (u : Sv) (H : Heap) (locs : List Loc) (ls : Array Slot), WF u → LI D cI cT cJ m0 a1 a2 a3 a4 ou x lv kp A s u H locs → lv_has ls 7 [(4, .int (nI i)), (0, .ref sb), (1, .ref x), (2, .ref m0), (3, .ref ou)] → W p l e room_1 s m #[Value.ref sb] below meth c H locs (cells + 8) (slots + 40) Q (F0 m 1054 ls [])) : W p l e room_1 s m #[Value.ref sb] below meth c H locs cells slots Q (F0 m 705 ls []) := by
  obtain ⟨hx, hb, hml, hown, hts, hX, hbl, hL, hst, hE, hT0, hN, hA, hbA⟩ := hX0
  obtain ⟨t, fo, fL, fK, FZ, K, R, L, N, hP, hD, hC, hM, hS⟩ := hI
  obtain ⟨hold, hld, hbb, hbk⟩ := hW
  dsimp only at hP hD hC hM hold hld hbb hbk
  have hK := hE.1
  refine lv_aload_n hx hb dL_law_705 rfl (lv_at hl 2 rfl) ?_
  have hP : va_P D vwCl (((MWs cI m0 a1 a2 a3 a4 K R L N ld o b k t) ++ [(ou, .inl (cJ, 1, .inr (.inl fo)))]) ++ (CW cT x lv kp fL fK o ld b k FZ)) H := hP
  have hD : va_D A (((MWs cI m0 a1 a2 a3 a4 K R L N ld o b k t) ++ [(ou, .inl (cJ, 1, .inr (.inl fo)))]) ++ (CW cT x lv kp fL fK o ld b k FZ)) := hD
  have hPc : va_P D vwCl (CW cT x lv kp fL fK o ld b k FZ) H := xP_sub (fun _ h => List.mem_append_right _ h) hP
  refine xc_sie (va_runV (As := []) (rest := []) ⟨hx, hb, hml, hown, hts⟩ (c_X1_last l x lv kp fL fK o ld b k FZ) (cwV 0 hts gL_law_X1_last rfl rfl rfl (by decide +kernel) ⟨(Nat.le_of_ble_eq_true rfl), (Nat.le_of_ble_eq_true rfl)⟩) ⟨XP_blind, va_recv hK hPc (ci := 1) (q0 := 0) rfl rfl, XP_pre hE hPc⟩ rfl rfl hl.1 rfl (lv_room (Nat.le_of_ble_eq_true rfl)) dL_law_706 ⟨by show (_ : Nat) ≤ 709371; omega, by show (_ : Nat) ≤ 6967992; omega⟩) ?_
  refine lv_aload_n hx hb dL_law_709 rfl (lv_at hl 3 rfl) ?_
  have hP : va_P D vwCl ((LWs cT cJ ou x lv kp fo fL fK o ld b k FZ) ++ (MWs cI m0 a1 a2 a3 a4 K R L N ld o b k t)) H := xP_perm List.perm_append_comm hP
  have hD : va_D A ((LWs cT cJ ou x lv kp fo fL fK o ld b k FZ) ++ (MWs cI m0 a1 a2 a3 a4 K R L N ld o b k t)) := xD_perm List.perm_append_comm hD
  have hPm : va_P D vwCl (MWs cI m0 a1 a2 a3 a4 K R L N ld o b k t) H := xP_sub (fun _ h => List.mem_append_right _ h) hP
  have hDm : va_D (fun _ => True) (MWs cI m0 a1 a2 a3 a4 K R L N ld o b k t) := (xD_sub (List.sublist_append_right _ _) hD).weaken (fun _ _ _ _ => trivial)
  have hFc := xfree (wc := (MWs cI m0 a1 a2 a3 a4 K R L N ld o b k t)) hD hS hA (fun _ h => List.mem_append_right _ h)
  refine va_calli (va_runV (As := []) (rest := [.int (nI ld)]) ⟨hx, hb, hml, hown, hts⟩ (c_X2_last l m0 a1 a2 a3 a4 K R L N ld o b k t G hM H.size) (cwV 0 hts gL_law_X2_last rfl rfl rfl (by decide +kernel) ⟨(Nat.le_of_ble_eq_true rfl), (Nat.le_of_ble_eq_true rfl)⟩) ⟨XP_blind, va_recv hK hPm (ci := 2) (q0 := 0) rfl rfl, XP_pre hE ⟨rfl, hPm, hDm⟩⟩ rfl rfl hl.1 rfl (lv_room (Nat.le_of_ble_eq_true rfl)) dL_law_710 ⟨by show (_ : Nat) ≤ 709371; omega, by show (_ : Nat) ≤ 6967992; omega⟩) hS (fun q9 _ h => hFc q9 h) hFc (fun r8 u8 t9 H1 locs ht9 hvm9 hw8 hB9 hzc hkc hS => ?_)
  obtain ⟨K', R', L', N', hP1, hD1, hM'⟩ := hB9
  rw [ht9] at hP1
  obtain ⟨hP, hD⟩ := xjoin (wr := (LWs cT cJ ou x lv kp fo fL fK o ld b k FZ)) (wc := (MWs cI m0 a1 a2 a3 a4 K R L N ld o b k t)) (w1 := (MWs cI m0 a1 a2 a3 a4 K' R' L' N' ld o b k 0)) hP hD hkc hFc hP1 hD1
  generalize H1 = H at hP hS ⊢
  have hP : va_P D vwCl ((MWs cI m0 a1 a2 a3 a4 K' R' L' N' ld o b k 0) ++ (LWs cT cJ ou x lv kp fo fL fK o ld b k FZ)) H := xP_perm List.perm_append_comm hP
  have hD : va_D A ((MWs cI m0 a1 a2 a3 a4 K' R' L' N' ld o b k 0) ++ (LWs cT cJ ou x lv kp fo fL fK o ld b k FZ)) := xD_perm List.perm_append_comm hD
  subst hw8
  refine lv_icmp_eq (tgt := 1054) hx hb dL_law_713 (by decide) (fun _ => ?_) (fun h => absurd rfl h)
  refine W.widen (k := cells + 8) (n := slots + 40) (by show _ ≤ _; omega) (by show _ ≤ _; omega) ?_
  exact kk (G, o, ld, b, k) H locs ls (by refine ⟨?_, ?_, ?_, ?_⟩ <;> dsimp only <;> omega) ⟨0, fo, fL, fK, FZ, K', R', L', N', hP, hD, hC, hM', hS⟩ (lv_sub hl [0, 1, 2, 3, 4] rfl)

set_option maxHeartbeats 4000000 in
set_option maxRecDepth 100000 in
theorem lc_oldest {p : Program} {l : Launch} {e : Env} {s : State} {m : MethodId} {below : List Frame} {meth : Method} {c : Code} {D : va_G} {cI cT cJ : ClassId} {A : Nat → Prop} {sb Ls : Nat} {xs : Nat → Int32} {m0 a1 a2 a3 a4 ou x lv kp : Nat} {cells slots : Nat} {Q : State → Prop} (hX0 : LCX p l s m c D cI cT cJ A sb Ls xs) {H : Heap} {locs : List Loc} {ls : Array Slot} {i : Nat} {G : Nat → Tv} {o ld b k : Nat} (hi : i + 4 ≤ Ls) (hW : WF (G, o, ld, b, k)) (hI : LI D cI cT cJ m0 a1 a2 a3 a4 ou x lv kp A s (G, o, ld, b, k) H locs) (hl : lv_has ls 7 [(4, .int (nI i)), (0, .ref sb), (1, .ref x), (2, .ref m0), (3, .ref ou)]) (hcl : cells + 8 ≤ 709371) (hsl : slots + 40 ≤ 6967992)
    (kk : ∀ (u : Sv) (H : Heap) (locs : List Loc) (ls : Array Slot), WF u → LI D cI cT cJ m0 a1 a2 a3 a4 ou x lv kp A s u H locs → lv_has ls 7 [(4, .int (nI i)), (0, .ref sb), (1, .ref x), (2, .ref m0), (3, .ref ou)] → W p l e room_1 s m #[Value.ref sb] below meth c H locs (cells + 8) (slots + 40) Q (F0 m 1054 ls [])) : W p l e room_1 s m #[Value.ref sb] below meth c H locs cells slots Q (F0 m 718 ls []) := by
  obtain ⟨hx, hb, hml, hown, hts, hX, hbl, hL, hst, hE, hT0, hN, hA, hbA⟩ := hX0
  obtain ⟨t, fo, fL, fK, FZ, K, R, L, N, hP, hD, hC, hM, hS⟩ := hI
  obtain ⟨hold, hld, hbb, hbk⟩ := hW
  dsimp only at hP hD hC hM hold hld hbb hbk
  have hK := hE.1
  refine lv_aload_n hx hb dL_law_718 rfl (lv_at hl 2 rfl) ?_
  have hP : va_P D vwCl (((MWs cI m0 a1 a2 a3 a4 K R L N ld o b k t) ++ [(ou, .inl (cJ, 1, .inr (.inl fo)))]) ++ (CW cT x lv kp fL fK o ld b k FZ)) H := hP
  have hD : va_D A (((MWs cI m0 a1 a2 a3 a4 K R L N ld o b k t) ++ [(ou, .inl (cJ, 1, .inr (.inl fo)))]) ++ (CW cT x lv kp fL fK o ld b k FZ)) := hD
  have hPc : va_P D vwCl (CW cT x lv kp fL fK o ld b k FZ) H := xP_sub (fun _ h => List.mem_append_right _ h) hP
  refine xc_sie (va_runV (As := []) (rest := []) ⟨hx, hb, hml, hown, hts⟩ (c_X1_oldest l x lv kp fL fK o ld b k FZ) (cwV 0 hts gL_law_X1_oldest rfl rfl rfl (by decide +kernel) ⟨(Nat.le_of_ble_eq_true rfl), (Nat.le_of_ble_eq_true rfl)⟩) ⟨XP_blind, va_recv hK hPc (ci := 1) (q0 := 0) rfl rfl, XP_pre hE hPc⟩ rfl rfl hl.1 rfl (lv_room (Nat.le_of_ble_eq_true rfl)) dL_law_719 ⟨by show (_ : Nat) ≤ 709371; omega, by show (_ : Nat) ≤ 6967992; omega⟩) ?_
  refine lv_aload_n hx hb dL_law_722 rfl (lv_at hl 3 rfl) ?_
  have hP : va_P D vwCl ((LWs cT cJ ou x lv kp fo fL fK o ld b k FZ) ++ (MWs cI m0 a1 a2 a3 a4 K R L N ld o b k t)) H := xP_perm List.perm_append_comm hP
  have hD : va_D A ((LWs cT cJ ou x lv kp fo fL fK o ld b k FZ) ++ (MWs cI m0 a1 a2 a3 a4 K R L N ld o b k t)) := xD_perm List.perm_append_comm hD
  have hPm : va_P D vwCl (MWs cI m0 a1 a2 a3 a4 K R L N ld o b k t) H := xP_sub (fun _ h => List.mem_append_right _ h) hP
  have hDm : va_D (fun _ => True) (MWs cI m0 a1 a2 a3 a4 K R L N ld o b k t) := (xD_sub (List.sublist_append_right _ _) hD).weaken (fun _ _ _ _ => trivial)
  have hFc := xfree (wc := (MWs cI m0 a1 a2 a3 a4 K R L N ld o b k t)) hD hS hA (fun _ h => List.mem_append_right _ h)
  refine va_calli (va_runV (As := []) (rest := [.int (nI o)]) ⟨hx, hb, hml, hown, hts⟩ (c_X2_oldest l m0 a1 a2 a3 a4 K R L N ld o b k t G hM H.size) (cwV 0 hts gL_law_X2_oldest rfl rfl rfl (by decide +kernel) ⟨(Nat.le_of_ble_eq_true rfl), (Nat.le_of_ble_eq_true rfl)⟩) ⟨XP_blind, va_recv hK hPm (ci := 2) (q0 := 0) rfl rfl, XP_pre hE ⟨rfl, hPm, hDm⟩⟩ rfl rfl hl.1 rfl (lv_room (Nat.le_of_ble_eq_true rfl)) dL_law_723 ⟨by show (_ : Nat) ≤ 709371; omega, by show (_ : Nat) ≤ 6967992; omega⟩) hS (fun q9 _ h => hFc q9 h) hFc (fun r8 u8 t9 H1 locs ht9 hvm9 hw8 hB9 hzc hkc hS => ?_)
  obtain ⟨K', R', L', N', hP1, hD1, hM'⟩ := hB9
  rw [ht9] at hP1
  obtain ⟨hP, hD⟩ := xjoin (wr := (LWs cT cJ ou x lv kp fo fL fK o ld b k FZ)) (wc := (MWs cI m0 a1 a2 a3 a4 K R L N ld o b k t)) (w1 := (MWs cI m0 a1 a2 a3 a4 K' R' L' N' ld o b k 0)) hP hD hkc hFc hP1 hD1
  generalize H1 = H at hP hS ⊢
  have hP : va_P D vwCl ((MWs cI m0 a1 a2 a3 a4 K' R' L' N' ld o b k 0) ++ (LWs cT cJ ou x lv kp fo fL fK o ld b k FZ)) H := xP_perm List.perm_append_comm hP
  have hD : va_D A ((MWs cI m0 a1 a2 a3 a4 K' R' L' N' ld o b k 0) ++ (LWs cT cJ ou x lv kp fo fL fK o ld b k FZ)) := xD_perm List.perm_append_comm hD
  subst hw8
  refine lv_icmp_eq (tgt := 1054) hx hb dL_law_726 (by decide) (fun _ => ?_) (fun h => absurd rfl h)
  refine W.widen (k := cells + 8) (n := slots + 40) (by show _ ≤ _; omega) (by show _ ≤ _; omega) ?_
  exact kk (G, o, ld, b, k) H locs ls (by refine ⟨?_, ?_, ?_, ?_⟩ <;> dsimp only <;> omega) ⟨0, fo, fL, fK, FZ, K', R', L', N', hP, hD, hC, hM', hS⟩ (lv_sub hl [0, 1, 2, 3, 4] rfl)

set_option maxHeartbeats 4000000 in
set_option maxRecDepth 100000 in
theorem lc_isBroken {p : Program} {l : Launch} {e : Env} {s : State} {m : MethodId} {below : List Frame} {meth : Method} {c : Code} {D : va_G} {cI cT cJ : ClassId} {A : Nat → Prop} {sb Ls : Nat} {xs : Nat → Int32} {m0 a1 a2 a3 a4 ou x lv kp : Nat} {cells slots : Nat} {Q : State → Prop} (hX0 : LCX p l s m c D cI cT cJ A sb Ls xs) {H : Heap} {locs : List Loc} {ls : Array Slot} {i : Nat} {G : Nat → Tv} {o ld b k : Nat} (hi : i + 4 ≤ Ls) (hW : WF (G, o, ld, b, k)) (hI : LI D cI cT cJ m0 a1 a2 a3 a4 ou x lv kp A s (G, o, ld, b, k) H locs) (hl : lv_has ls 7 [(4, .int (nI i)), (0, .ref sb), (1, .ref x), (2, .ref m0), (3, .ref ou)]) (hcl : cells + 8 ≤ 709371) (hsl : slots + 40 ≤ 6967992)
    (kk : ∀ (u : Sv) (H : Heap) (locs : List Loc) (ls : Array Slot), WF u → LI D cI cT cJ m0 a1 a2 a3 a4 ou x lv kp A s u H locs → lv_has ls 7 [(4, .int (nI i)), (0, .ref sb), (1, .ref x), (2, .ref m0), (3, .ref ou)] → W p l e room_1 s m #[Value.ref sb] below meth c H locs (cells + 8) (slots + 40) Q (F0 m 1054 ls [])) : W p l e room_1 s m #[Value.ref sb] below meth c H locs cells slots Q (F0 m 731 ls []) := by
  obtain ⟨hx, hb, hml, hown, hts, hX, hbl, hL, hst, hE, hT0, hN, hA, hbA⟩ := hX0
  obtain ⟨t, fo, fL, fK, FZ, K, R, L, N, hP, hD, hC, hM, hS⟩ := hI
  obtain ⟨hold, hld, hbb, hbk⟩ := hW
  dsimp only at hP hD hC hM hold hld hbb hbk
  have hK := hE.1
  refine lv_aload_n hx hb dL_law_731 rfl (lv_at hl 2 rfl) ?_
  have hP : va_P D vwCl (((MWs cI m0 a1 a2 a3 a4 K R L N ld o b k t) ++ [(ou, .inl (cJ, 1, .inr (.inl fo)))]) ++ (CW cT x lv kp fL fK o ld b k FZ)) H := hP
  have hD : va_D A (((MWs cI m0 a1 a2 a3 a4 K R L N ld o b k t) ++ [(ou, .inl (cJ, 1, .inr (.inl fo)))]) ++ (CW cT x lv kp fL fK o ld b k FZ)) := hD
  have hPc : va_P D vwCl (CW cT x lv kp fL fK o ld b k FZ) H := xP_sub (fun _ h => List.mem_append_right _ h) hP
  refine xc_sie (va_runV (As := []) (rest := []) ⟨hx, hb, hml, hown, hts⟩ (c_X1_isBroken l x lv kp fL fK o ld b k FZ hbb) (cwV 0 hts gL_law_X1_isBroken rfl rfl rfl (by decide +kernel) ⟨(Nat.le_of_ble_eq_true rfl), (Nat.le_of_ble_eq_true rfl)⟩) ⟨XP_blind, va_recv hK hPc (ci := 1) (q0 := 0) rfl rfl, XP_pre hE hPc⟩ rfl rfl hl.1 rfl (lv_room (Nat.le_of_ble_eq_true rfl)) dL_law_732 ⟨by show (_ : Nat) ≤ 709371; omega, by show (_ : Nat) ≤ 6967992; omega⟩) ?_
  refine lv_aload_n hx hb dL_law_735 rfl (lv_at hl 3 rfl) ?_
  have hP : va_P D vwCl ((LWs cT cJ ou x lv kp fo fL fK o ld b k FZ) ++ (MWs cI m0 a1 a2 a3 a4 K R L N ld o b k t)) H := xP_perm List.perm_append_comm hP
  have hD : va_D A ((LWs cT cJ ou x lv kp fo fL fK o ld b k FZ) ++ (MWs cI m0 a1 a2 a3 a4 K R L N ld o b k t)) := xD_perm List.perm_append_comm hD
  have hPm : va_P D vwCl (MWs cI m0 a1 a2 a3 a4 K R L N ld o b k t) H := xP_sub (fun _ h => List.mem_append_right _ h) hP
  have hDm : va_D (fun _ => True) (MWs cI m0 a1 a2 a3 a4 K R L N ld o b k t) := (xD_sub (List.sublist_append_right _ _) hD).weaken (fun _ _ _ _ => trivial)
  have hFc := xfree (wc := (MWs cI m0 a1 a2 a3 a4 K R L N ld o b k t)) hD hS hA (fun _ h => List.mem_append_right _ h)
  refine va_calli (va_runV (As := []) (rest := [.int (nI b)]) ⟨hx, hb, hml, hown, hts⟩ (c_X2_isBroken l m0 a1 a2 a3 a4 K R L N ld o b k t G hM hbb H.size) (cwV 0 hts gL_law_X2_isBroken rfl rfl rfl (by decide +kernel) ⟨(Nat.le_of_ble_eq_true rfl), (Nat.le_of_ble_eq_true rfl)⟩) ⟨XP_blind, va_recv hK hPm (ci := 2) (q0 := 0) rfl rfl, XP_pre hE ⟨rfl, hPm, hDm⟩⟩ rfl rfl hl.1 rfl (lv_room (Nat.le_of_ble_eq_true rfl)) dL_law_736 ⟨by show (_ : Nat) ≤ 709371; omega, by show (_ : Nat) ≤ 6967992; omega⟩) hS (fun q9 _ h => hFc q9 h) hFc (fun r8 u8 t9 H1 locs ht9 hvm9 hw8 hB9 hzc hkc hS => ?_)
  obtain ⟨K', R', L', N', hP1, hD1, hM'⟩ := hB9
  rw [ht9] at hP1
  obtain ⟨hP, hD⟩ := xjoin (wr := (LWs cT cJ ou x lv kp fo fL fK o ld b k FZ)) (wc := (MWs cI m0 a1 a2 a3 a4 K R L N ld o b k t)) (w1 := (MWs cI m0 a1 a2 a3 a4 K' R' L' N' ld o b k 0)) hP hD hkc hFc hP1 hD1
  generalize H1 = H at hP hS ⊢
  have hP : va_P D vwCl ((MWs cI m0 a1 a2 a3 a4 K' R' L' N' ld o b k 0) ++ (LWs cT cJ ou x lv kp fo fL fK o ld b k FZ)) H := xP_perm List.perm_append_comm hP
  have hD : va_D A ((MWs cI m0 a1 a2 a3 a4 K' R' L' N' ld o b k 0) ++ (LWs cT cJ ou x lv kp fo fL fK o ld b k FZ)) := xD_perm List.perm_append_comm hD
  subst hw8
  refine lv_icmp_eq (tgt := 1054) hx hb dL_law_739 (by decide) (fun _ => ?_) (fun h => absurd rfl h)
  refine W.widen (k := cells + 8) (n := slots + 40) (by show _ ≤ _; omega) (by show _ ≤ _; omega) ?_
  exact kk (G, o, ld, b, k) H locs ls (by refine ⟨?_, ?_, ?_, ?_⟩ <;> dsimp only <;> omega) ⟨0, fo, fL, fK, FZ, K', R', L', N', hP, hD, hC, hM', hS⟩ (lv_sub hl [0, 1, 2, 3, 4] rfl)

set_option maxHeartbeats 4000000 in
set_option maxRecDepth 100000 in
theorem lc_needs {p : Program} {l : Launch} {e : Env} {s : State} {m : MethodId} {below : List Frame} {meth : Method} {c : Code} {D : va_G} {cI cT cJ : ClassId} {A : Nat → Prop} {sb Ls : Nat} {xs : Nat → Int32} {m0 a1 a2 a3 a4 ou x lv kp : Nat} {cells slots : Nat} {Q : State → Prop} (hX0 : LCX p l s m c D cI cT cJ A sb Ls xs) {H : Heap} {locs : List Loc} {ls : Array Slot} {i : Nat} {G : Nat → Tv} {o ld b k : Nat} (hi : i + 4 ≤ Ls) (hW : WF (G, o, ld, b, k)) (hI : LI D cI cT cJ m0 a1 a2 a3 a4 ou x lv kp A s (G, o, ld, b, k) H locs) (hl : lv_has ls 7 [(4, .int (nI i)), (0, .ref sb), (1, .ref x), (2, .ref m0), (3, .ref ou)]) (hcl : cells + 8 ≤ 709371) (hsl : slots + 40 ≤ 6967992)
    (kk : ∀ (u : Sv) (H : Heap) (locs : List Loc) (ls : Array Slot), WF u → LI D cI cT cJ m0 a1 a2 a3 a4 ou x lv kp A s u H locs → lv_has ls 7 [(4, .int (nI i)), (0, .ref sb), (1, .ref x), (2, .ref m0), (3, .ref ou)] → W p l e room_1 s m #[Value.ref sb] below meth c H locs (cells + 8) (slots + 40) Q (F0 m 1054 ls [])) : W p l e room_1 s m #[Value.ref sb] below meth c H locs cells slots Q (F0 m 744 ls []) := by
  obtain ⟨hx, hb, hml, hown, hts, hX, hbl, hL, hst, hE, hT0, hN, hA, hbA⟩ := hX0
  obtain ⟨t, fo, fL, fK, FZ, K, R, L, N, hP, hD, hC, hM, hS⟩ := hI
  obtain ⟨hold, hld, hbb, hbk⟩ := hW
  dsimp only at hP hD hC hM hold hld hbb hbk
  have hK := hE.1
  refine lv_aload_n hx hb dL_law_744 rfl (lv_at hl 2 rfl) ?_
  have hP : va_P D vwCl (((MWs cI m0 a1 a2 a3 a4 K R L N ld o b k t) ++ [(ou, .inl (cJ, 1, .inr (.inl fo)))]) ++ (CW cT x lv kp fL fK o ld b k FZ)) H := hP
  have hD : va_D A (((MWs cI m0 a1 a2 a3 a4 K R L N ld o b k t) ++ [(ou, .inl (cJ, 1, .inr (.inl fo)))]) ++ (CW cT x lv kp fL fK o ld b k FZ)) := hD
  have hPc : va_P D vwCl (CW cT x lv kp fL fK o ld b k FZ) H := xP_sub (fun _ h => List.mem_append_right _ h) hP
  refine xc_sie (va_runV (As := []) (rest := []) ⟨hx, hb, hml, hown, hts⟩ (c_X1_needs l x lv kp fL fK o ld b k FZ G hC hld) (cwV 0 hts gL_law_X1_needs rfl rfl rfl (by decide +kernel) ⟨(Nat.le_of_ble_eq_true rfl), (Nat.le_of_ble_eq_true rfl)⟩) ⟨XP_blind, va_recv hK hPc (ci := 1) (q0 := 0) rfl rfl, XP_pre hE hPc⟩ rfl rfl hl.1 rfl (lv_room (Nat.le_of_ble_eq_true rfl)) dL_law_745 ⟨by show (_ : Nat) ≤ 709371; omega, by show (_ : Nat) ≤ 6967992; omega⟩) ?_
  refine lv_aload_n hx hb dL_law_748 rfl (lv_at hl 3 rfl) ?_
  have hP : va_P D vwCl ((LWs cT cJ ou x lv kp fo fL fK o ld b k FZ) ++ (MWs cI m0 a1 a2 a3 a4 K R L N ld o b k t)) H := xP_perm List.perm_append_comm hP
  have hD : va_D A ((LWs cT cJ ou x lv kp fo fL fK o ld b k FZ) ++ (MWs cI m0 a1 a2 a3 a4 K R L N ld o b k t)) := xD_perm List.perm_append_comm hD
  have hPm : va_P D vwCl (MWs cI m0 a1 a2 a3 a4 K R L N ld o b k t) H := xP_sub (fun _ h => List.mem_append_right _ h) hP
  have hDm : va_D (fun _ => True) (MWs cI m0 a1 a2 a3 a4 K R L N ld o b k t) := (xD_sub (List.sublist_append_right _ _) hD).weaken (fun _ _ _ _ => trivial)
  have hFc := xfree (wc := (MWs cI m0 a1 a2 a3 a4 K R L N ld o b k t)) hD hS hA (fun _ h => List.mem_append_right _ h)
  refine va_calli (va_runV (As := []) (rest := [.int (nI (dfN G ld 6))]) ⟨hx, hb, hml, hown, hts⟩ (c_X2_needs l m0 a1 a2 a3 a4 K R L N ld o b k t G hM hld H.size) (cwV 0 hts gL_law_X2_needs rfl rfl rfl (by decide +kernel) ⟨(Nat.le_of_ble_eq_true rfl), (Nat.le_of_ble_eq_true rfl)⟩) ⟨XP_blind, va_recv hK hPm (ci := 2) (q0 := 0) rfl rfl, XP_pre hE ⟨rfl, hPm, hDm⟩⟩ rfl rfl hl.1 rfl (lv_room (Nat.le_of_ble_eq_true rfl)) dL_law_749 ⟨by show (_ : Nat) ≤ 709371; omega, by show (_ : Nat) ≤ 6967992; omega⟩) hS (fun q9 _ h => hFc q9 h) hFc (fun r8 u8 t9 H1 locs ht9 hvm9 hw8 hB9 hzc hkc hS => ?_)
  obtain ⟨K', R', L', N', hP1, hD1, hM'⟩ := hB9
  rw [ht9] at hP1
  obtain ⟨hP, hD⟩ := xjoin (wr := (LWs cT cJ ou x lv kp fo fL fK o ld b k FZ)) (wc := (MWs cI m0 a1 a2 a3 a4 K R L N ld o b k t)) (w1 := (MWs cI m0 a1 a2 a3 a4 K' R' L' N' ld o b k 0)) hP hD hkc hFc hP1 hD1
  generalize H1 = H at hP hS ⊢
  have hP : va_P D vwCl ((MWs cI m0 a1 a2 a3 a4 K' R' L' N' ld o b k 0) ++ (LWs cT cJ ou x lv kp fo fL fK o ld b k FZ)) H := xP_perm List.perm_append_comm hP
  have hD : va_D A ((MWs cI m0 a1 a2 a3 a4 K' R' L' N' ld o b k 0) ++ (LWs cT cJ ou x lv kp fo fL fK o ld b k FZ)) := xD_perm List.perm_append_comm hD
  subst hw8
  refine lv_icmp_eq (tgt := 1054) hx hb dL_law_752 (by decide) (fun _ => ?_) (fun h => absurd rfl h)
  refine W.widen (k := cells + 8) (n := slots + 40) (by show _ ≤ _; omega) (by show _ ≤ _; omega) ?_
  exact kk (G, o, ld, b, k) H locs ls (by refine ⟨?_, ?_, ?_, ?_⟩ <;> dsimp only <;> omega) ⟨0, fo, fL, fK, FZ, K', R', L', N', hP, hD, hC, hM', hS⟩ (lv_sub hl [0, 1, 2, 3, 4] rfl)

set_option maxHeartbeats 4000000 in
set_option maxRecDepth 100000 in
theorem lc_size {p : Program} {l : Launch} {e : Env} {s : State} {m : MethodId} {below : List Frame} {meth : Method} {c : Code} {D : va_G} {cI cT cJ : ClassId} {A : Nat → Prop} {sb Ls : Nat} {xs : Nat → Int32} {m0 a1 a2 a3 a4 ou x lv kp : Nat} {cells slots : Nat} {Q : State → Prop} (hX0 : LCX p l s m c D cI cT cJ A sb Ls xs) {H : Heap} {locs : List Loc} {ls : Array Slot} {i : Nat} {G : Nat → Tv} {o ld b k : Nat} (hi : i + 4 ≤ Ls) (hW : WF (G, o, ld, b, k)) (hI : LI D cI cT cJ m0 a1 a2 a3 a4 ou x lv kp A s (G, o, ld, b, k) H locs) (hl : lv_has ls 7 [(4, .int (nI i)), (0, .ref sb), (1, .ref x), (2, .ref m0), (3, .ref ou)]) (hcl : cells + 8 ≤ 709371) (hsl : slots + 40 ≤ 6967992)
    (kk : ∀ (u : Sv) (H : Heap) (locs : List Loc) (ls : Array Slot), WF u → LI D cI cT cJ m0 a1 a2 a3 a4 ou x lv kp A s u H locs → lv_has ls 7 [(4, .int (nI i)), (0, .ref sb), (1, .ref x), (2, .ref m0), (3, .ref ou)] → W p l e room_1 s m #[Value.ref sb] below meth c H locs (cells + 8) (slots + 40) Q (F0 m 1054 ls [])) : W p l e room_1 s m #[Value.ref sb] below meth c H locs cells slots Q (F0 m 1041 ls []) := by
  obtain ⟨hx, hb, hml, hown, hts, hX, hbl, hL, hst, hE, hT0, hN, hA, hbA⟩ := hX0
  obtain ⟨t, fo, fL, fK, FZ, K, R, L, N, hP, hD, hC, hM, hS⟩ := hI
  obtain ⟨hold, hld, hbb, hbk⟩ := hW
  dsimp only at hP hD hC hM hold hld hbb hbk
  have hK := hE.1
  refine lv_aload_n hx hb dL_law_1041 rfl (lv_at hl 2 rfl) ?_
  have hP : va_P D vwCl (((MWs cI m0 a1 a2 a3 a4 K R L N ld o b k t) ++ [(ou, .inl (cJ, 1, .inr (.inl fo)))]) ++ (CW cT x lv kp fL fK o ld b k FZ)) H := hP
  have hD : va_D A (((MWs cI m0 a1 a2 a3 a4 K R L N ld o b k t) ++ [(ou, .inl (cJ, 1, .inr (.inl fo)))]) ++ (CW cT x lv kp fL fK o ld b k FZ)) := hD
  have hPc : va_P D vwCl (CW cT x lv kp fL fK o ld b k FZ) H := xP_sub (fun _ h => List.mem_append_right _ h) hP
  refine xc_sie (va_runV (As := []) (rest := []) ⟨hx, hb, hml, hown, hts⟩ (c_X1_size l x lv kp fL fK o ld b k FZ G hC hld hold) (cwV 0 hts gL_law_X1_size rfl rfl rfl (by decide +kernel) ⟨(Nat.le_of_ble_eq_true rfl), (Nat.le_of_ble_eq_true rfl)⟩) ⟨XP_blind, va_recv hK hPc (ci := 1) (q0 := 0) rfl rfl, XP_pre hE hPc⟩ rfl rfl hl.1 rfl (lv_room (Nat.le_of_ble_eq_true rfl)) dL_law_1042 ⟨by show (_ : Nat) ≤ 709371; omega, by show (_ : Nat) ≤ 6967992; omega⟩) ?_
  refine lv_aload_n hx hb dL_law_1045 rfl (lv_at hl 3 rfl) ?_
  have hP : va_P D vwCl ((LWs cT cJ ou x lv kp fo fL fK o ld b k FZ) ++ (MWs cI m0 a1 a2 a3 a4 K R L N ld o b k t)) H := xP_perm List.perm_append_comm hP
  have hD : va_D A ((LWs cT cJ ou x lv kp fo fL fK o ld b k FZ) ++ (MWs cI m0 a1 a2 a3 a4 K R L N ld o b k t)) := xD_perm List.perm_append_comm hD
  have hPm : va_P D vwCl (MWs cI m0 a1 a2 a3 a4 K R L N ld o b k t) H := xP_sub (fun _ h => List.mem_append_right _ h) hP
  have hDm : va_D (fun _ => True) (MWs cI m0 a1 a2 a3 a4 K R L N ld o b k t) := (xD_sub (List.sublist_append_right _ _) hD).weaken (fun _ _ _ _ => trivial)
  have hFc := xfree (wc := (MWs cI m0 a1 a2 a3 a4 K R L N ld o b k t)) hD hS hA (fun _ h => List.mem_append_right _ h)
  refine va_calli (va_runV (As := []) (rest := [.int (nI (szN G (6 * o) (6 * (ld - o))))]) ⟨hx, hb, hml, hown, hts⟩ (c_X2_size l m0 a1 a2 a3 a4 K R L N ld o b k t G hM hld hold H.size) (cwV 0 hts gL_law_X2_size rfl rfl rfl (by decide +kernel) ⟨(Nat.le_of_ble_eq_true rfl), (Nat.le_of_ble_eq_true rfl)⟩) ⟨XP_blind, va_recv hK hPm (ci := 2) (q0 := 0) rfl rfl, XP_pre hE ⟨rfl, hPm, hDm⟩⟩ rfl rfl hl.1 rfl (lv_room (Nat.le_of_ble_eq_true rfl)) dL_law_1046 ⟨by show (_ : Nat) ≤ 709371; omega, by show (_ : Nat) ≤ 6967992; omega⟩) hS (fun q9 _ h => hFc q9 h) hFc (fun r8 u8 t9 H1 locs ht9 hvm9 hw8 hB9 hzc hkc hS => ?_)
  obtain ⟨K', R', L', N', hP1, hD1, hM'⟩ := hB9
  rw [ht9] at hP1
  obtain ⟨hP, hD⟩ := xjoin (wr := (LWs cT cJ ou x lv kp fo fL fK o ld b k FZ)) (wc := (MWs cI m0 a1 a2 a3 a4 K R L N ld o b k t)) (w1 := (MWs cI m0 a1 a2 a3 a4 K' R' L' N' ld o b k 0)) hP hD hkc hFc hP1 hD1
  generalize H1 = H at hP hS ⊢
  have hP : va_P D vwCl ((MWs cI m0 a1 a2 a3 a4 K' R' L' N' ld o b k 0) ++ (LWs cT cJ ou x lv kp fo fL fK o ld b k FZ)) H := xP_perm List.perm_append_comm hP
  have hD : va_D A ((MWs cI m0 a1 a2 a3 a4 K' R' L' N' ld o b k 0) ++ (LWs cT cJ ou x lv kp fo fL fK o ld b k FZ)) := xD_perm List.perm_append_comm hD
  subst hw8
  refine lv_icmp_eq (tgt := 1054) hx hb dL_law_1049 (by decide) (fun _ => ?_) (fun h => absurd rfl h)
  refine W.widen (k := cells + 8) (n := slots + 40) (by show _ ≤ _; omega) (by show _ ≤ _; omega) ?_
  exact kk (G, o, ld, b, k) H locs ls (by refine ⟨?_, ?_, ?_, ?_⟩ <;> dsimp only <;> omega) ⟨0, fo, fL, fK, FZ, K', R', L', N', hP, hD, hC, hM', hS⟩ (lv_sub hl [0, 1, 2, 3, 4] rfl)
