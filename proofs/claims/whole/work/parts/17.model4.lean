/-! the reference: runs, thinning, restoring, what there is, its constructor -/

theorem iw_X2isKept_X2 : ∀ w ∈ u_ws RX2 TX2 9, w ∈ wsX2_isKept := by decide +kernel
set_option maxHeartbeats 4000000 in
set_option maxRecDepth 100000 in
theorem c_X2_isKept (l : Launch) {D : va_G} {cI cT cJ : ClassId} (m0 a1 a2 a3 a4 : Nat) (K R L N : Nat → Int32) (ld o b k t : Nat) (v : Int32) : Met l yX2_isKept wsX2_isKept (rmD 2 0 0) (XP D cI cT cJ [.ref m0, .int v] (fun H => va_P D vwCl (MWs cI m0 a1 a2 a3 a4 K R L N ld o b k t) H)) (XSi (fun r => r = nI (bN (decide (nI o ≤ v ∧ v ≤ nI ld))))) 0 0 (fun _ => False) := by
  refine Met.ofW (cc := cX2_isKept) (maxL := 2) (ret := (some .boolean)) (by decide) rfl ?_
  intro p e s m args below meth c s₁ B hml hv
  obtain ⟨rfl, hP, hE⟩ := hv
  have hx := B.exec
  have hb := B.bytes
  have hr := B.returns
  have hts := atoms_spec (ws := wsX2_isKept) B.pre
  have hown : s.vm.findClass RX2 = some m.cls := findClass_of_methodNamed B.named
  have hlocks := B.notSynchronized
  have hl := lv_entry ([.ref m0, .int v]) (n := 2) (Nat.le_of_ble_eq_true rfl)
  rw [lg_entry_eq]
  generalize (lg_sl ([.ref m0, .int v]) ++ List.replicate (2 - (lg_sl ([.ref m0, .int v])).length) Slot.unset).toArray = ls at hl ⊢
  have hl : lv_has ls 2 [(0, .ref m0), (1, .int v)] := hl
  have hK := hE.1
  refine lv_iload_n hx hb dX2_isKept_0 rfl (lv_at hl 1 rfl) ?_
  refine lv_aload_n hx hb dX2_isKept_1 rfl (lv_at hl 0 rfl) ?_
  refine va_get (ci := 2) (v := .int (nI o)) (C := RX2) (T := TX2) (N := 9) hx hb hts iw_X2isKept_X2 hown hK hP 0 rfl rfl 5 (by decide) (hts (.fieldLink RX2 76 "BackMirrorModel" "oldest" "I") (by decide +kernel)) (fun _ h9 => h9) rfl dX2_isKept_2 ?_
  refine lv_aload_n hx hb dX2_isKept_5 rfl (lv_at hl 0 rfl) ?_
  refine va_get (ci := 2) (v := .int (nI ld)) (C := RX2) (T := TX2) (N := 9) hx hb hts iw_X2isKept_X2 hown hK hP 0 rfl rfl 4 (by decide) (hts (.fieldLink RX2 62 "BackMirrorModel" "last" "I") (by decide +kernel)) (fun _ h9 => h9) rfl dX2_isKept_6 ?_
  refine xc_sie (va_runS (As := [.int v, .int (nI o), .int (nI ld)]) (rest := []) ⟨hx, hb, hml, hown, hts⟩ (c_X2_isIn l v (nI o) (nI ld)) (va_cwS 3 hts gX2_isKept_X2_isIn rfl rfl rfl (by decide +kernel) ⟨(Nat.le_of_ble_eq_true rfl), (Nat.le_of_ble_eq_true rfl)⟩) ⟨XP_blind, XP_pre hE trivial⟩ rfl rfl hl.1 rfl (lv_room (Nat.le_of_ble_eq_true rfl)) dX2_isKept_9 ⟨Nat.le_of_ble_eq_true rfl, Nat.le_of_ble_eq_true rfl⟩) ?_
  exact W.zret hx hb hr (xnb _ (bN_le _)) (fun t9 ht9 hW9 => ⟨_, rfl, rfl, ht9⟩) (fun _ h => nomatch h) dX2_isKept_12

theorem iw_X2run_X2 : ∀ w ∈ u_ws RX2 TX2 9, w ∈ wsX2_run := by decide +kernel
set_option maxHeartbeats 4000000 in
set_option maxRecDepth 100000 in
theorem c_X2_run_brk (l : Launch) {D : va_G} {cI cT cJ : ClassId} (m0 a1 a2 a3 a4 : Nat) (K R L N : Nat → Int32) (ld o b k t : Nat) (G : Nat → Tv) (hM : MA G K R L N) (sp : Nat) (hsp : sp ≤ 6) (hld : ld < 40) (hbb : b ≤ 1) (hbk : b = 0 → k = 0) (hdf : sp < dfN G ld 6) (sz : Nat) : Met l yX2_run wsX2_run (rmD 5 0 0) (XP D cI cT cJ [.ref m0, .int (nI sp)] (fun H => H.size = sz ∧ va_P D vwCl (MWs cI m0 a1 a2 a3 a4 K R L N ld o b k t) H ∧ va_D (fun _ => True) (MWs cI m0 a1 a2 a3 a4 K R L N ld o b k t))) (va_Qi (S := Unit) (fun r _ => r = -1) (fun _ t9 => MB D cI m0 a1 a2 a3 a4 (va_A (MWs cI m0 a1 a2 a3 a4 K R L N ld o b k t) sz) (G, o, ld, 1, sp) 0 t9.heap) (va_A (MWs cI m0 a1 a2 a3 a4 K R L N ld o b k t) sz)) 0 0 (va_A (MWs cI m0 a1 a2 a3 a4 K R L N ld o b k t) sz) := by
  refine Met.ofW (cc := cX2_run) (maxL := 2) (ret := (some .int)) (by decide) rfl ?_
  intro p e s m args below meth c s₁ B hml hv
  obtain ⟨rfl, ⟨hsz, hP, hD0⟩, hE⟩ := hv
  have hx := B.exec
  have hb := B.bytes
  have hr := B.returns
  have hts := atoms_spec (ws := wsX2_run) B.pre
  have hown : s.vm.findClass RX2 = some m.cls := findClass_of_methodNamed B.named
  have hlocks := B.notSynchronized
  have hl := lv_entry ([.ref m0, .int (nI sp)]) (n := 2) (Nat.le_of_ble_eq_true rfl)
  rw [lg_entry_eq]
  generalize (lg_sl ([.ref m0, .int (nI sp)]) ++ List.replicate (2 - (lg_sl ([.ref m0, .int (nI sp)])).length) Slot.unset).toArray = ls at hl ⊢
  have hl : lv_has ls 2 [(0, .ref m0), (1, .int (nI sp))] := hl
  have hK := hE.1
  subst hsz
  have hD := hD0.self (sz := s.heap.size)
  generalize hAe : va_A ((MWs cI m0 a1 a2 a3 a4 K R L N ld o b k t)) s.heap.size = A at hD ⊢
  have hA : ∀ q : Nat, s.heap.size ≤ q → A q := fun q h => by rw [← hAe]; exact Or.inr h
  have hS : va_S A s.heap s.heap [] := va_S.rf
  refine lv_aload_n hx hb dX2_run_0 rfl (lv_at hl 0 rfl) ?_
  refine lv_iload_n hx hb dX2_run_1 rfl (lv_at hl 1 rfl) ?_
  refine lv_iconst (v := nI 0) hx hb dX2_run_2 (by decide) ?_
  refine lv_bipush (v := nI 6) hx hb dX2_run_3 (by decide) ?_
  refine xc_sie (va_runS (As := [.int (nI sp), .int (nI 0), .int (nI 6)]) (rest := [.ref m0]) ⟨hx, hb, hml, hown, hts⟩ (c_X2_isIn l (nI sp) (nI 0) (nI 6)) (va_cwS 3 hts gX2_run_X2_isIn rfl rfl rfl (by decide +kernel) ⟨(Nat.le_of_ble_eq_true rfl), (Nat.le_of_ble_eq_true rfl)⟩) ⟨XP_blind, XP_pre hE trivial⟩ rfl rfl hl.1 rfl (lv_room (Nat.le_of_ble_eq_true rfl)) dX2_run_5 ⟨Nat.le_of_ble_eq_true rfl, Nat.le_of_ble_eq_true rfl⟩) ?_
  refine x_top (nI 1) (by rw [decide_eq_true (in_t (Nat.zero_le _) hsp (by omega))]; rfl) ?_
  refine lv_if_ne (tgt := 15) hx hb dX2_run_8 (by decide) (fun _ => ?_) (fun h => absurd h (by decide))
  refine lv_aload_n hx hb dX2_run_15 rfl (lv_at hl 0 rfl) ?_
  refine va_get (ci := 2) (v := .int (nI ld)) (C := RX2) (T := TX2) (N := 9) hx hb hts iw_X2run_X2 hown hK hP 0 rfl rfl 4 (by decide) (hts (.fieldLink RX2 62 "BackMirrorModel" "last" "I") (by decide +kernel)) (fun _ h9 => h9) rfl dX2_run_16 ?_
  refine lv_bipush (v := nI 40) hx hb dX2_run_19 (by decide) ?_
  refine lv_icmp_ne (tgt := 28) hx hb dX2_run_21 (by decide) (fun c21 => ?_) (fun c21 => ?_)
  · have c21 : ¬ ld = 40 := fun h => c21 ((xeq (by omega) (by omega)).mpr h)
    refine lv_iconst (v := nI 0) hx hb dX2_run_28 (by decide) ?_
    have hP : va_P D vwCl ([] ++ (MWs cI m0 a1 a2 a3 a4 K R L N ld o b k t)) s.heap := hP
    have hD : va_D A ([] ++ (MWs cI m0 a1 a2 a3 a4 K R L N ld o b k t)) := hD
    have hFc := xfree (wc := (MWs cI m0 a1 a2 a3 a4 K R L N ld o b k t)) hD hS hA (fun _ h => List.mem_append_right _ h)
    have hPc := xP_sub (w2 := (MWs cI m0 a1 a2 a3 a4 K R L N ld o b k t)) (fun _ h => List.mem_append_right _ h) hP
    have hDc : va_D (fun _ => True) (MWs cI m0 a1 a2 a3 a4 K R L N ld o b k t) := (xD_sub (List.sublist_append_right _ _) hD).weaken (fun _ _ _ _ => trivial)
    refine va_calli (va_runV (As := [.int (nI 0)]) (rest := []) ⟨hx, hb, hml, hown, hts⟩ (c_X2_goes l m0 a1 a2 a3 a4 K R L N ld o b k t 0 (by omega) s.heap.size) (cwV 1 hts gX2_run_X2_goes rfl rfl rfl (by decide +kernel) ⟨(Nat.le_of_ble_eq_true rfl), (Nat.le_of_ble_eq_true rfl)⟩) ⟨XP_blind, va_recv hK hP (ci := 2) (q0 := 0) rfl rfl, XP_pre hE ⟨rfl, hPc, hDc⟩⟩ rfl rfl hl.1 rfl (lv_room (Nat.le_of_ble_eq_true rfl)) dX2_run_29 ⟨by first | exact Nat.le_of_ble_eq_true rfl | (show _ + _ ≤ _; omega), by first | exact Nat.le_of_ble_eq_true rfl | (show _ + _ ≤ _; omega)⟩) hS (fun q9 _ h => hFc q9 h) hFc (fun r9 u t9 H1 locs ht9 hvm9 hw9 hB9 hzc hkc hS => ?_)
    obtain ⟨hP1, hD1⟩ := hB9
    rw [ht9] at hP1
    obtain ⟨hP, hD⟩ := xjoin (wr := []) (wc := (MWs cI m0 a1 a2 a3 a4 K R L N ld o b k t)) (w1 := (MWs cI m0 a1 a2 a3 a4 K R L N ld o b k 0)) hP hD hkc hFc hP1 hD1
    generalize H1 = H at hP hS ⊢
    subst hw9
    have hP : va_P D vwCl [(m0, .inr (2, [.ref a1, .ref a2, .ref a3, .ref a4, .int (nI ld), .int (nI o), .int (nI b), .int (nI k), .int (nI 0)])), (a1, .inl (cI, 252, .inl K)), (a2, .inl (cI, 252, .inl R)), (a3, .inl (cI, 252, .inl L)), (a4, .inl (cI, 3024, .inl N))] H := hP
    have hD : va_D A [(m0, .inr (2, [.ref a1, .ref a2, .ref a3, .ref a4, .int (nI ld), .int (nI o), .int (nI b), .int (nI k), .int (nI 0)])), (a1, .inl (cI, 252, .inl K)), (a2, .inl (cI, 252, .inl R)), (a3, .inl (cI, 252, .inl L)), (a4, .inl (cI, 3024, .inl N))] := hD
    refine x_top (nI 1) rfl ?_
    refine lv_if_ne (tgt := 37) hx hb dX2_run_32 (by decide) (fun _ => ?_) (fun h => absurd h (by decide))
    have hg := dfN_le (G := G) (d := ld) 6
    refine lv_aload_n hx hb dX2_run_37 rfl (lv_at hl 0 rfl) ?_
    have hP : va_P D vwCl ([] ++ (MWs cI m0 a1 a2 a3 a4 K R L N ld o b k 0)) H := hP
    have hD : va_D A ([] ++ (MWs cI m0 a1 a2 a3 a4 K R L N ld o b k 0)) := hD
    have hFc := xfree (wc := (MWs cI m0 a1 a2 a3 a4 K R L N ld o b k 0)) hD hS hA (fun _ h => List.mem_append_right _ h)
    have hPc := xP_sub (w2 := (MWs cI m0 a1 a2 a3 a4 K R L N ld o b k 0)) (fun _ h => List.mem_append_right _ h) hP
    have hDc : va_D (fun _ => True) (MWs cI m0 a1 a2 a3 a4 K R L N ld o b k 0) := (xD_sub (List.sublist_append_right _ _) hD).weaken (fun _ _ _ _ => trivial)
    refine va_calli (va_runV (As := []) (rest := []) ⟨hx, hb, hml, hown, hts⟩ (c_X2_mends l m0 a1 a2 a3 a4 K R L N ld o b k 0 hbb hbk H.size) (cwV 0 hts gX2_run_X2_mends rfl rfl rfl (by decide +kernel) ⟨(Nat.le_of_ble_eq_true rfl), (Nat.le_of_ble_eq_true rfl)⟩) ⟨XP_blind, va_recv hK hP (ci := 2) (q0 := 0) rfl rfl, XP_pre hE ⟨rfl, hPc, hDc⟩⟩ rfl rfl hl.1 rfl (lv_room (Nat.le_of_ble_eq_true rfl)) dX2_run_38 ⟨by first | exact Nat.le_of_ble_eq_true rfl | (show _ + _ ≤ _; omega), by first | exact Nat.le_of_ble_eq_true rfl | (show _ + _ ≤ _; omega)⟩) hS (fun q9 _ h => hFc q9 h) hFc (fun r9 u t9 H1 locs ht9 hvm9 hw9 hB9 hzc hkc hS => ?_)
    obtain ⟨hP1, hD1⟩ := hB9
    rw [ht9] at hP1
    obtain ⟨hP, hD⟩ := xjoin (wr := []) (wc := (MWs cI m0 a1 a2 a3 a4 K R L N ld o b k 0)) (w1 := (MWs cI m0 a1 a2 a3 a4 K R L N ld o 0 0 0)) hP hD hkc hFc hP1 hD1
    generalize H1 = H at hP hS ⊢
    subst hw9
    have hP : va_P D vwCl [(m0, .inr (2, [.ref a1, .ref a2, .ref a3, .ref a4, .int (nI ld), .int (nI o), .int (nI 0), .int (nI 0), .int (nI 0)])), (a1, .inl (cI, 252, .inl K)), (a2, .inl (cI, 252, .inl R)), (a3, .inl (cI, 252, .inl L)), (a4, .inl (cI, 3024, .inl N))] H := hP
    have hD : va_D A [(m0, .inr (2, [.ref a1, .ref a2, .ref a3, .ref a4, .int (nI ld), .int (nI o), .int (nI 0), .int (nI 0), .int (nI 0)])), (a1, .inl (cI, 252, .inl K)), (a2, .inl (cI, 252, .inl R)), (a3, .inl (cI, 252, .inl L)), (a4, .inl (cI, 3024, .inl N))] := hD
    refine lv_pop hx hb dX2_run_41 rfl ?_
    refine lv_iload_n hx hb dX2_run_42 rfl (lv_at hl 1 rfl) ?_
    refine lv_aload_n hx hb dX2_run_43 rfl (lv_at hl 0 rfl) ?_
    refine lv_aload_n hx hb dX2_run_44 rfl (lv_at hl 0 rfl) ?_
    refine va_get (ci := 2) (v := .int (nI ld)) (C := RX2) (T := TX2) (N := 9) hx hb hts iw_X2run_X2 hown hK hP 0 rfl rfl 4 (by decide) (hts (.fieldLink RX2 62 "BackMirrorModel" "last" "I") (by decide +kernel)) (fun _ h9 => h9) rfl dX2_run_45 ?_
    refine xc_sie (va_runV (As := [.int (nI ld)]) (rest := [.int (nI sp)]) ⟨hx, hb, hml, hown, hts⟩ (c_X2_differs l m0 a1 a2 a3 a4 K R L N ld o 0 0 0 G hM ld (by omega)) (cwV 1 hts gX2_run_X2_differs rfl rfl rfl (by decide +kernel) ⟨(Nat.le_of_ble_eq_true rfl), (Nat.le_of_ble_eq_true rfl)⟩) ⟨XP_blind, va_recv hK hP (ci := 2) (q0 := 0) rfl rfl, XP_pre hE hP⟩ rfl rfl hl.1 rfl (lv_room (Nat.le_of_ble_eq_true rfl)) dX2_run_48 ⟨Nat.le_of_ble_eq_true rfl, Nat.le_of_ble_eq_true rfl⟩) ?_
    refine lv_icmp_ge (tgt := 66) hx hb dX2_run_51 (by decide) (fun c51 => ?_) (fun c51 => ?_)
    · have c51 : (dfN G ld 6) ≤ sp := (xle (by omega) (by omega)).mp c51
      omega
    · have c51 : ¬ (dfN G ld 6) ≤ sp := fun h => c51 ((xle (by omega) (by omega)).mpr h)
      refine lv_aload_n hx hb dX2_run_54 rfl (lv_at hl 0 rfl) ?_
      refine lv_iconst (v := nI 1) hx hb dX2_run_55 (by decide) ?_
      refine va_put (ci := 2) (v := .int (nI 1)) (ty := .boolean) (C := RX2) (T := TX2) (N := 9) hx hb hts iw_X2run_X2 tyX2 tyX2_ok nmX2 hown hK hP hD hS 0 rfl rfl 6 (by decide) (hts (.fieldLink RX2 55 "BackMirrorModel" "isBroken" "Z") (by decide +kernel)) (fun _ h9 => h9) rfl (by decide +kernel) (by decide) rfl (Nat.le_of_ble_eq_true rfl) dX2_run_56 (fun H locs hP hD hS => ?_)
      have hP : va_P D vwCl [(m0, .inr (2, [.ref a1, .ref a2, .ref a3, .ref a4, .int (nI ld), .int (nI o), .int (nI 1), .int (nI 0), .int (nI 0)])), (a1, .inl (cI, 252, .inl K)), (a2, .inl (cI, 252, .inl R)), (a3, .inl (cI, 252, .inl L)), (a4, .inl (cI, 3024, .inl N))] H := hP
      have hD : va_D A [(m0, .inr (2, [.ref a1, .ref a2, .ref a3, .ref a4, .int (nI ld), .int (nI o), .int (nI 1), .int (nI 0), .int (nI 0)])), (a1, .inl (cI, 252, .inl K)), (a2, .inl (cI, 252, .inl R)), (a3, .inl (cI, 252, .inl L)), (a4, .inl (cI, 3024, .inl N))] := hD
      refine lv_aload_n hx hb dX2_run_59 rfl (lv_at hl 0 rfl) ?_
      refine lv_iload_n hx hb dX2_run_60 rfl (lv_at hl 1 rfl) ?_
      refine va_put (ci := 2) (v := .int (nI sp)) (ty := .int) (C := RX2) (T := TX2) (N := 9) hx hb hts iw_X2run_X2 tyX2 tyX2_ok nmX2 hown hK hP hD hS 0 rfl rfl 7 (by decide) (hts (.fieldLink RX2 59 "BackMirrorModel" "made" "I") (by decide +kernel)) (fun _ h9 => h9) rfl (by decide +kernel) rfl rfl (Nat.le_of_ble_eq_true rfl) dX2_run_61 (fun H locs hP hD hS => ?_)
      have hP : va_P D vwCl [(m0, .inr (2, [.ref a1, .ref a2, .ref a3, .ref a4, .int (nI ld), .int (nI o), .int (nI 1), .int (nI sp), .int (nI 0)])), (a1, .inl (cI, 252, .inl K)), (a2, .inl (cI, 252, .inl R)), (a3, .inl (cI, 252, .inl L)), (a4, .inl (cI, 3024, .inl N))] H := hP
      have hD : va_D A [(m0, .inr (2, [.ref a1, .ref a2, .ref a3, .ref a4, .int (nI ld), .int (nI o), .int (nI 1), .int (nI sp), .int (nI 0)])), (a1, .inl (cI, 252, .inl K)), (a2, .inl (cI, 252, .inl R)), (a3, .inl (cI, 252, .inl L)), (a4, .inl (cI, 3024, .inl N))] := hD
      refine lv_iconst (v := (-1)) hx hb dX2_run_64 (by decide) ?_
      exact W.iret hx hb hr (fun t9 ht9 hW9 => ⟨⟨_, (), rfl, rfl, _, _, _, _, by rw [ht9]; exact hP, hD, hM⟩, hS.F ht9⟩) hS.2.2 dX2_run_65
  · have c21 : ld = 40 := (xeq (by omega) (by omega)).mp c21
    omega

set_option maxHeartbeats 4000000 in
set_option maxRecDepth 100000 in
theorem c_X2_run_ok (l : Launch) {D : va_G} {cI cT cJ : ClassId} (m0 a1 a2 a3 a4 : Nat) (K R L N : Nat → Int32) (ld o b k t : Nat) (G : Nat → Tv) (hM : MA G K R L N) (sp : Nat) (hsp : sp ≤ 6) (hld : ld < 40) (hbb : b ≤ 1) (hbk : b = 0 → k = 0) (hdf : dfN G ld 6 ≤ sp) (sz : Nat) : Met l yX2_run wsX2_run (rmD 5 0 0) (XP D cI cT cJ [.ref m0, .int (nI sp)] (fun H => H.size = sz ∧ va_P D vwCl (MWs cI m0 a1 a2 a3 a4 K R L N ld o b k t) H ∧ va_D (fun _ => True) (MWs cI m0 a1 a2 a3 a4 K R L N ld o b k t))) (va_Qi (S := Unit) (fun r _ => r = nI (ld + 1)) (fun _ t9 => MB D cI m0 a1 a2 a3 a4 (va_A (MWs cI m0 a1 a2 a3 a4 K R L N ld o b k t) sz) (cpD G (ld + 1) 6, o, ld + 1, 0, 0) 0 t9.heap) (va_A (MWs cI m0 a1 a2 a3 a4 K R L N ld o b k t) sz)) 0 0 (va_A (MWs cI m0 a1 a2 a3 a4 K R L N ld o b k t) sz) := by
  refine Met.ofW (cc := cX2_run) (maxL := 2) (ret := (some .int)) (by decide) rfl ?_
  intro p e s m args below meth c s₁ B hml hv
  obtain ⟨rfl, ⟨hsz, hP, hD0⟩, hE⟩ := hv
  have hx := B.exec
  have hb := B.bytes
  have hr := B.returns
  have hts := atoms_spec (ws := wsX2_run) B.pre
  have hown : s.vm.findClass RX2 = some m.cls := findClass_of_methodNamed B.named
  have hlocks := B.notSynchronized
  have hl := lv_entry ([.ref m0, .int (nI sp)]) (n := 2) (Nat.le_of_ble_eq_true rfl)
  rw [lg_entry_eq]
  generalize (lg_sl ([.ref m0, .int (nI sp)]) ++ List.replicate (2 - (lg_sl ([.ref m0, .int (nI sp)])).length) Slot.unset).toArray = ls at hl ⊢
  have hl : lv_has ls 2 [(0, .ref m0), (1, .int (nI sp))] := hl
  have hK := hE.1
  subst hsz
  have hD := hD0.self (sz := s.heap.size)
  generalize hAe : va_A ((MWs cI m0 a1 a2 a3 a4 K R L N ld o b k t)) s.heap.size = A at hD ⊢
  have hA : ∀ q : Nat, s.heap.size ≤ q → A q := fun q h => by rw [← hAe]; exact Or.inr h
  have hS : va_S A s.heap s.heap [] := va_S.rf
  refine lv_aload_n hx hb dX2_run_0 rfl (lv_at hl 0 rfl) ?_
  refine lv_iload_n hx hb dX2_run_1 rfl (lv_at hl 1 rfl) ?_
  refine lv_iconst (v := nI 0) hx hb dX2_run_2 (by decide) ?_
  refine lv_bipush (v := nI 6) hx hb dX2_run_3 (by decide) ?_
  refine xc_sie (va_runS (As := [.int (nI sp), .int (nI 0), .int (nI 6)]) (rest := [.ref m0]) ⟨hx, hb, hml, hown, hts⟩ (c_X2_isIn l (nI sp) (nI 0) (nI 6)) (va_cwS 3 hts gX2_run_X2_isIn rfl rfl rfl (by decide +kernel) ⟨(Nat.le_of_ble_eq_true rfl), (Nat.le_of_ble_eq_true rfl)⟩) ⟨XP_blind, XP_pre hE trivial⟩ rfl rfl hl.1 rfl (lv_room (Nat.le_of_ble_eq_true rfl)) dX2_run_5 ⟨Nat.le_of_ble_eq_true rfl, Nat.le_of_ble_eq_true rfl⟩) ?_
  refine x_top (nI 1) (by rw [decide_eq_true (in_t (Nat.zero_le _) hsp (by omega))]; rfl) ?_
  refine lv_if_ne (tgt := 15) hx hb dX2_run_8 (by decide) (fun _ => ?_) (fun h => absurd h (by decide))
  refine lv_aload_n hx hb dX2_run_15 rfl (lv_at hl 0 rfl) ?_
  refine va_get (ci := 2) (v := .int (nI ld)) (C := RX2) (T := TX2) (N := 9) hx hb hts iw_X2run_X2 hown hK hP 0 rfl rfl 4 (by decide) (hts (.fieldLink RX2 62 "BackMirrorModel" "last" "I") (by decide +kernel)) (fun _ h9 => h9) rfl dX2_run_16 ?_
  refine lv_bipush (v := nI 40) hx hb dX2_run_19 (by decide) ?_
  refine lv_icmp_ne (tgt := 28) hx hb dX2_run_21 (by decide) (fun c21 => ?_) (fun c21 => ?_)
  · have c21 : ¬ ld = 40 := fun h => c21 ((xeq (by omega) (by omega)).mpr h)
    refine lv_iconst (v := nI 0) hx hb dX2_run_28 (by decide) ?_
    have hP : va_P D vwCl ([] ++ (MWs cI m0 a1 a2 a3 a4 K R L N ld o b k t)) s.heap := hP
    have hD : va_D A ([] ++ (MWs cI m0 a1 a2 a3 a4 K R L N ld o b k t)) := hD
    have hFc := xfree (wc := (MWs cI m0 a1 a2 a3 a4 K R L N ld o b k t)) hD hS hA (fun _ h => List.mem_append_right _ h)
    have hPc := xP_sub (w2 := (MWs cI m0 a1 a2 a3 a4 K R L N ld o b k t)) (fun _ h => List.mem_append_right _ h) hP
    have hDc : va_D (fun _ => True) (MWs cI m0 a1 a2 a3 a4 K R L N ld o b k t) := (xD_sub (List.sublist_append_right _ _) hD).weaken (fun _ _ _ _ => trivial)
    refine va_calli (va_runV (As := [.int (nI 0)]) (rest := []) ⟨hx, hb, hml, hown, hts⟩ (c_X2_goes l m0 a1 a2 a3 a4 K R L N ld o b k t 0 (by omega) s.heap.size) (cwV 1 hts gX2_run_X2_goes rfl rfl rfl (by decide +kernel) ⟨(Nat.le_of_ble_eq_true rfl), (Nat.le_of_ble_eq_true rfl)⟩) ⟨XP_blind, va_recv hK hP (ci := 2) (q0 := 0) rfl rfl, XP_pre hE ⟨rfl, hPc, hDc⟩⟩ rfl rfl hl.1 rfl (lv_room (Nat.le_of_ble_eq_true rfl)) dX2_run_29 ⟨by first | exact Nat.le_of_ble_eq_true rfl | (show _ + _ ≤ _; omega), by first | exact Nat.le_of_ble_eq_true rfl | (show _ + _ ≤ _; omega)⟩) hS (fun q9 _ h => hFc q9 h) hFc (fun r9 u t9 H1 locs ht9 hvm9 hw9 hB9 hzc hkc hS => ?_)
    obtain ⟨hP1, hD1⟩ := hB9
    rw [ht9] at hP1
    obtain ⟨hP, hD⟩ := xjoin (wr := []) (wc := (MWs cI m0 a1 a2 a3 a4 K R L N ld o b k t)) (w1 := (MWs cI m0 a1 a2 a3 a4 K R L N ld o b k 0)) hP hD hkc hFc hP1 hD1
    generalize H1 = H at hP hS ⊢
    subst hw9
    have hP : va_P D vwCl [(m0, .inr (2, [.ref a1, .ref a2, .ref a3, .ref a4, .int (nI ld), .int (nI o), .int (nI b), .int (nI k), .int (nI 0)])), (a1, .inl (cI, 252, .inl K)), (a2, .inl (cI, 252, .inl R)), (a3, .inl (cI, 252, .inl L)), (a4, .inl (cI, 3024, .inl N))] H := hP
    have hD : va_D A [(m0, .inr (2, [.ref a1, .ref a2, .ref a3, .ref a4, .int (nI ld), .int (nI o), .int (nI b), .int (nI k), .int (nI 0)])), (a1, .inl (cI, 252, .inl K)), (a2, .inl (cI, 252, .inl R)), (a3, .inl (cI, 252, .inl L)), (a4, .inl (cI, 3024, .inl N))] := hD
    refine x_top (nI 1) rfl ?_
    refine lv_if_ne (tgt := 37) hx hb dX2_run_32 (by decide) (fun _ => ?_) (fun h => absurd h (by decide))
    have hg := dfN_le (G := G) (d := ld) 6
    refine lv_aload_n hx hb dX2_run_37 rfl (lv_at hl 0 rfl) ?_
    have hP : va_P D vwCl ([] ++ (MWs cI m0 a1 a2 a3 a4 K R L N ld o b k 0)) H := hP
    have hD : va_D A ([] ++ (MWs cI m0 a1 a2 a3 a4 K R L N ld o b k 0)) := hD
    have hFc := xfree (wc := (MWs cI m0 a1 a2 a3 a4 K R L N ld o b k 0)) hD hS hA (fun _ h => List.mem_append_right _ h)
    have hPc := xP_sub (w2 := (MWs cI m0 a1 a2 a3 a4 K R L N ld o b k 0)) (fun _ h => List.mem_append_right _ h) hP
    have hDc : va_D (fun _ => True) (MWs cI m0 a1 a2 a3 a4 K R L N ld o b k 0) := (xD_sub (List.sublist_append_right _ _) hD).weaken (fun _ _ _ _ => trivial)
    refine va_calli (va_runV (As := []) (rest := []) ⟨hx, hb, hml, hown, hts⟩ (c_X2_mends l m0 a1 a2 a3 a4 K R L N ld o b k 0 hbb hbk H.size) (cwV 0 hts gX2_run_X2_mends rfl rfl rfl (by decide +kernel) ⟨(Nat.le_of_ble_eq_true rfl), (Nat.le_of_ble_eq_true rfl)⟩) ⟨XP_blind, va_recv hK hP (ci := 2) (q0 := 0) rfl rfl, XP_pre hE ⟨rfl, hPc, hDc⟩⟩ rfl rfl hl.1 rfl (lv_room (Nat.le_of_ble_eq_true rfl)) dX2_run_38 ⟨by first | exact Nat.le_of_ble_eq_true rfl | (show _ + _ ≤ _; omega), by first | exact Nat.le_of_ble_eq_true rfl | (show _ + _ ≤ _; omega)⟩) hS (fun q9 _ h => hFc q9 h) hFc (fun r9 u t9 H1 locs ht9 hvm9 hw9 hB9 hzc hkc hS => ?_)
    obtain ⟨hP1, hD1⟩ := hB9
    rw [ht9] at hP1
    obtain ⟨hP, hD⟩ := xjoin (wr := []) (wc := (MWs cI m0 a1 a2 a3 a4 K R L N ld o b k 0)) (w1 := (MWs cI m0 a1 a2 a3 a4 K R L N ld o 0 0 0)) hP hD hkc hFc hP1 hD1
    generalize H1 = H at hP hS ⊢
    subst hw9
    have hP : va_P D vwCl [(m0, .inr (2, [.ref a1, .ref a2, .ref a3, .ref a4, .int (nI ld), .int (nI o), .int (nI 0), .int (nI 0), .int (nI 0)])), (a1, .inl (cI, 252, .inl K)), (a2, .inl (cI, 252, .inl R)), (a3, .inl (cI, 252, .inl L)), (a4, .inl (cI, 3024, .inl N))] H := hP
    have hD : va_D A [(m0, .inr (2, [.ref a1, .ref a2, .ref a3, .ref a4, .int (nI ld), .int (nI o), .int (nI 0), .int (nI 0), .int (nI 0)])), (a1, .inl (cI, 252, .inl K)), (a2, .inl (cI, 252, .inl R)), (a3, .inl (cI, 252, .inl L)), (a4, .inl (cI, 3024, .inl N))] := hD
    refine lv_pop hx hb dX2_run_41 rfl ?_
    refine lv_iload_n hx hb dX2_run_42 rfl (lv_at hl 1 rfl) ?_
    refine lv_aload_n hx hb dX2_run_43 rfl (lv_at hl 0 rfl) ?_
    refine lv_aload_n hx hb dX2_run_44 rfl (lv_at hl 0 rfl) ?_
    refine va_get (ci := 2) (v := .int (nI ld)) (C := RX2) (T := TX2) (N := 9) hx hb hts iw_X2run_X2 hown hK hP 0 rfl rfl 4 (by decide) (hts (.fieldLink RX2 62 "BackMirrorModel" "last" "I") (by decide +kernel)) (fun _ h9 => h9) rfl dX2_run_45 ?_
    refine xc_sie (va_runV (As := [.int (nI ld)]) (rest := [.int (nI sp)]) ⟨hx, hb, hml, hown, hts⟩ (c_X2_differs l m0 a1 a2 a3 a4 K R L N ld o 0 0 0 G hM ld (by omega)) (cwV 1 hts gX2_run_X2_differs rfl rfl rfl (by decide +kernel) ⟨(Nat.le_of_ble_eq_true rfl), (Nat.le_of_ble_eq_true rfl)⟩) ⟨XP_blind, va_recv hK hP (ci := 2) (q0 := 0) rfl rfl, XP_pre hE hP⟩ rfl rfl hl.1 rfl (lv_room (Nat.le_of_ble_eq_true rfl)) dX2_run_48 ⟨Nat.le_of_ble_eq_true rfl, Nat.le_of_ble_eq_true rfl⟩) ?_
    refine lv_icmp_ge (tgt := 66) hx hb dX2_run_51 (by decide) (fun c51 => ?_) (fun c51 => ?_)
    · have c51 : (dfN G ld 6) ≤ sp := (xle (by omega) (by omega)).mp c51
      refine lv_aload_n hx hb dX2_run_66 rfl (lv_at hl 0 rfl) ?_
      refine lv_dup hx hb dX2_run_67 rfl ?_
      refine va_get (ci := 2) (v := .int (nI ld)) (C := RX2) (T := TX2) (N := 9) hx hb hts iw_X2run_X2 hown hK hP 0 rfl rfl 4 (by decide) (hts (.fieldLink RX2 62 "BackMirrorModel" "last" "I") (by decide +kernel)) (fun _ h9 => h9) rfl dX2_run_68 ?_
      refine lv_iconst (v := nI 1) hx hb dX2_run_71 (by decide) ?_
      refine lv_iadd hx hb dX2_run_72 ?_
      refine x_top (nI (ld + 1)) (xadd (by omega)) ?_
      refine va_put (ci := 2) (v := .int (nI (ld + 1))) (ty := .int) (C := RX2) (T := TX2) (N := 9) hx hb hts iw_X2run_X2 tyX2 tyX2_ok nmX2 hown hK hP hD hS 0 rfl rfl 4 (by decide) (hts (.fieldLink RX2 62 "BackMirrorModel" "last" "I") (by decide +kernel)) (fun _ h9 => h9) rfl (by decide +kernel) rfl rfl (Nat.le_of_ble_eq_true rfl) dX2_run_73 (fun H locs hP hD hS => ?_)
      have hP : va_P D vwCl [(m0, .inr (2, [.ref a1, .ref a2, .ref a3, .ref a4, .int (nI (ld + 1)), .int (nI o), .int (nI 0), .int (nI 0), .int (nI 0)])), (a1, .inl (cI, 252, .inl K)), (a2, .inl (cI, 252, .inl R)), (a3, .inl (cI, 252, .inl L)), (a4, .inl (cI, 3024, .inl N))] H := hP
      have hD : va_D A [(m0, .inr (2, [.ref a1, .ref a2, .ref a3, .ref a4, .int (nI (ld + 1)), .int (nI o), .int (nI 0), .int (nI 0), .int (nI 0)])), (a1, .inl (cI, 252, .inl K)), (a2, .inl (cI, 252, .inl R)), (a3, .inl (cI, 252, .inl L)), (a4, .inl (cI, 3024, .inl N))] := hD
      refine lv_aload_n hx hb dX2_run_76 rfl (lv_at hl 0 rfl) ?_
      refine lv_bipush (v := nI 41) hx hb dX2_run_77 (by decide) ?_
      refine lv_aload_n hx hb dX2_run_79 rfl (lv_at hl 0 rfl) ?_
      refine va_get (ci := 2) (v := .int (nI (ld + 1))) (C := RX2) (T := TX2) (N := 9) hx hb hts iw_X2run_X2 hown hK hP 0 rfl rfl 4 (by decide) (hts (.fieldLink RX2 62 "BackMirrorModel" "last" "I") (by decide +kernel)) (fun _ h9 => h9) rfl dX2_run_80 ?_
      have hFc := xfree (wc := (MWs cI m0 a1 a2 a3 a4 K R L N (ld + 1) o 0 0 0)) hD hS hA (fun _ h => h)
      refine va_callv (va_runV (As := [.int (nI 41), .int (nI (ld + 1))]) (rest := []) ⟨hx, hb, hml, hown, hts⟩ (c_X2_copies l m0 a1 a2 a3 a4 K R L N (ld + 1) o 0 0 0 G hM 41 (ld + 1) (by omega) (by omega) (by omega) H.size) (cwV 2 hts gX2_run_X2_copies rfl rfl rfl (by decide +kernel) ⟨(Nat.le_of_ble_eq_true rfl), (Nat.le_of_ble_eq_true rfl)⟩) ⟨XP_blind, va_recv hK hP (ci := 2) (q0 := 0) rfl rfl, XP_pre hE ⟨rfl, hP, hD.weaken (fun _ _ _ _ => trivial)⟩⟩ rfl rfl hl.1 rfl (lv_room (Nat.le_of_ble_eq_true rfl)) dX2_run_83 ⟨Nat.le_of_ble_eq_true rfl, Nat.le_of_ble_eq_true rfl⟩) hS (fun q9 _ h => hFc q9 h) hFc (fun u t9 H1 locs ht9 hvm9 hw9 hB9 hzc hkc hS => ?_)
      obtain ⟨K', R', L', N', hP1, hD1, hM'⟩ := hB9
      rw [ht9] at hP1
      obtain ⟨hP, hD⟩ := xjoin (wr := []) (wc := (MWs cI m0 a1 a2 a3 a4 K R L N (ld + 1) o 0 0 0)) hP hD hkc hFc hP1 hD1
      generalize H1 = H at hP hS ⊢
      have hP : va_P D vwCl [(m0, .inr (2, [.ref a1, .ref a2, .ref a3, .ref a4, .int (nI (ld + 1)), .int (nI o), .int (nI 0), .int (nI 0), .int (nI 0)])), (a1, .inl (cI, 252, .inl K')), (a2, .inl (cI, 252, .inl R')), (a3, .inl (cI, 252, .inl L')), (a4, .inl (cI, 3024, .inl N'))] H := hP
      have hD : va_D A [(m0, .inr (2, [.ref a1, .ref a2, .ref a3, .ref a4, .int (nI (ld + 1)), .int (nI o), .int (nI 0), .int (nI 0), .int (nI 0)])), (a1, .inl (cI, 252, .inl K')), (a2, .inl (cI, 252, .inl R')), (a3, .inl (cI, 252, .inl L')), (a4, .inl (cI, 3024, .inl N'))] := hD
      refine lv_aload_n hx hb dX2_run_86 rfl (lv_at hl 0 rfl) ?_
      refine va_get (ci := 2) (v := .int (nI (ld + 1))) (C := RX2) (T := TX2) (N := 9) hx hb hts iw_X2run_X2 hown hK hP 0 rfl rfl 4 (by decide) (hts (.fieldLink RX2 62 "BackMirrorModel" "last" "I") (by decide +kernel)) (fun _ h9 => h9) rfl dX2_run_87 ?_
      exact W.iret hx hb hr (fun t9 ht9 hW9 => ⟨⟨_, (), rfl, rfl, _, _, _, _, by rw [ht9]; exact hP, hD, hM'⟩, hS.F ht9⟩) hS.2.2 dX2_run_90
    · have c51 : ¬ (dfN G ld 6) ≤ sp := fun h => c51 ((xle (by omega) (by omega)).mpr h)
      omega
  · have c21 : ld = 40 := (xeq (by omega) (by omega)).mp c21
    omega

set_option maxHeartbeats 4000000 in
set_option maxRecDepth 100000 in
theorem c_X2_run_b (l : Launch) {D : va_G} {cI cT cJ : ClassId} (m0 a1 a2 a3 a4 : Nat) (K R L N : Nat → Int32) (ld o b k t : Nat) (G : Nat → Tv) (hM : MA G K R L N) (v : Int32) (hv : ¬ ∃ s, s ≤ 6 ∧ v = nI s) (sz : Nat) : Met l yX2_run wsX2_run (rmD 5 0 0) (XP D cI cT cJ [.ref m0, .int v] (fun H => H.size = sz ∧ va_P D vwCl (MWs cI m0 a1 a2 a3 a4 K R L N ld o b k t) H ∧ va_D (fun _ => True) (MWs cI m0 a1 a2 a3 a4 K R L N ld o b k t))) (va_Qi (S := Unit) (fun r _ => True) (fun _ t9 => MB D cI m0 a1 a2 a3 a4 (va_A (MWs cI m0 a1 a2 a3 a4 K R L N ld o b k t) sz) (G, o, ld, b, k) 1 t9.heap) (va_A (MWs cI m0 a1 a2 a3 a4 K R L N ld o b k t) sz)) 0 0 (va_A (MWs cI m0 a1 a2 a3 a4 K R L N ld o b k t) sz) := by
  refine Met.ofW (cc := cX2_run) (maxL := 2) (ret := (some .int)) (by decide) rfl ?_
  intro p e s m args below meth c s₁ B hml hv
  obtain ⟨rfl, ⟨hsz, hP, hD0⟩, hE⟩ := hv
  have hx := B.exec
  have hb := B.bytes
  have hr := B.returns
  have hts := atoms_spec (ws := wsX2_run) B.pre
  have hown : s.vm.findClass RX2 = some m.cls := findClass_of_methodNamed B.named
  have hlocks := B.notSynchronized
  have hl := lv_entry ([.ref m0, .int v]) (n := 2) (Nat.le_of_ble_eq_true rfl)
  rw [lg_entry_eq]
  generalize (lg_sl ([.ref m0, .int v]) ++ List.replicate (2 - (lg_sl ([.ref m0, .int v])).length) Slot.unset).toArray = ls at hl ⊢
  have hl : lv_has ls 2 [(0, .ref m0), (1, .int v)] := hl
  have hK := hE.1
  subst hsz
  have hD := hD0.self (sz := s.heap.size)
  generalize hAe : va_A ((MWs cI m0 a1 a2 a3 a4 K R L N ld o b k t)) s.heap.size = A at hD ⊢
  have hA : ∀ q : Nat, s.heap.size ≤ q → A q := fun q h => by rw [← hAe]; exact Or.inr h
  have hS : va_S A s.heap s.heap [] := va_S.rf
  refine lv_aload_n hx hb dX2_run_0 rfl (lv_at hl 0 rfl) ?_
  refine lv_iload_n hx hb dX2_run_1 rfl (lv_at hl 1 rfl) ?_
  refine lv_iconst (v := nI 0) hx hb dX2_run_2 (by decide) ?_
  refine lv_bipush (v := nI 6) hx hb dX2_run_3 (by decide) ?_
  refine xc_sie (va_runS (As := [.int v, .int (nI 0), .int (nI 6)]) (rest := [.ref m0]) ⟨hx, hb, hml, hown, hts⟩ (c_X2_isIn l v (nI 0) (nI 6)) (va_cwS 3 hts gX2_run_X2_isIn rfl rfl rfl (by decide +kernel) ⟨(Nat.le_of_ble_eq_true rfl), (Nat.le_of_ble_eq_true rfl)⟩) ⟨XP_blind, XP_pre hE trivial⟩ rfl rfl hl.1 rfl (lv_room (Nat.le_of_ble_eq_true rfl)) dX2_run_5 ⟨Nat.le_of_ble_eq_true rfl, Nat.le_of_ble_eq_true rfl⟩) ?_
  refine x_top (nI 0) (by rw [decide_eq_false (in_f0 (by omega) hv)]; rfl) ?_
  refine lv_if_ne (tgt := 15) hx hb dX2_run_8 (by decide) (fun h => absurd h (by decide)) (fun _ => ?_)
  refine lv_iconst (v := nI 1) hx hb dX2_run_11 (by decide) ?_
  refine lv_goto (tgt := 29) hx hb dX2_run_12 (by decide) ?_
  have hP : va_P D vwCl ([] ++ (MWs cI m0 a1 a2 a3 a4 K R L N ld o b k t)) s.heap := hP
  have hD : va_D A ([] ++ (MWs cI m0 a1 a2 a3 a4 K R L N ld o b k t)) := hD
  have hFc := xfree (wc := (MWs cI m0 a1 a2 a3 a4 K R L N ld o b k t)) hD hS hA (fun _ h => List.mem_append_right _ h)
  have hPc := xP_sub (w2 := (MWs cI m0 a1 a2 a3 a4 K R L N ld o b k t)) (fun _ h => List.mem_append_right _ h) hP
  have hDc : va_D (fun _ => True) (MWs cI m0 a1 a2 a3 a4 K R L N ld o b k t) := (xD_sub (List.sublist_append_right _ _) hD).weaken (fun _ _ _ _ => trivial)
  refine va_calli (va_runV (As := [.int (nI 1)]) (rest := []) ⟨hx, hb, hml, hown, hts⟩ (c_X2_goes l m0 a1 a2 a3 a4 K R L N ld o b k t 1 (by omega) s.heap.size) (cwV 1 hts gX2_run_X2_goes rfl rfl rfl (by decide +kernel) ⟨(Nat.le_of_ble_eq_true rfl), (Nat.le_of_ble_eq_true rfl)⟩) ⟨XP_blind, va_recv hK hP (ci := 2) (q0 := 0) rfl rfl, XP_pre hE ⟨rfl, hPc, hDc⟩⟩ rfl rfl hl.1 rfl (lv_room (Nat.le_of_ble_eq_true rfl)) dX2_run_29 ⟨by first | exact Nat.le_of_ble_eq_true rfl | (show _ + _ ≤ _; omega), by first | exact Nat.le_of_ble_eq_true rfl | (show _ + _ ≤ _; omega)⟩) hS (fun q9 _ h => hFc q9 h) hFc (fun r9 u t9 H1 locs ht9 hvm9 hw9 hB9 hzc hkc hS => ?_)
  obtain ⟨hP1, hD1⟩ := hB9
  rw [ht9] at hP1
  obtain ⟨hP, hD⟩ := xjoin (wr := []) (wc := (MWs cI m0 a1 a2 a3 a4 K R L N ld o b k t)) (w1 := (MWs cI m0 a1 a2 a3 a4 K R L N ld o b k 1)) hP hD hkc hFc hP1 hD1
  generalize H1 = H at hP hS ⊢
  subst hw9
  have hP : va_P D vwCl [(m0, .inr (2, [.ref a1, .ref a2, .ref a3, .ref a4, .int (nI ld), .int (nI o), .int (nI b), .int (nI k), .int (nI 1)])), (a1, .inl (cI, 252, .inl K)), (a2, .inl (cI, 252, .inl R)), (a3, .inl (cI, 252, .inl L)), (a4, .inl (cI, 3024, .inl N))] H := hP
  have hD : va_D A [(m0, .inr (2, [.ref a1, .ref a2, .ref a3, .ref a4, .int (nI ld), .int (nI o), .int (nI b), .int (nI k), .int (nI 1)])), (a1, .inl (cI, 252, .inl K)), (a2, .inl (cI, 252, .inl R)), (a3, .inl (cI, 252, .inl L)), (a4, .inl (cI, 3024, .inl N))] := hD
  refine x_top (nI 0) rfl ?_
  refine lv_if_ne (tgt := 37) hx hb dX2_run_32 (by decide) (fun h => absurd h (by decide)) (fun _ => ?_)
  refine lv_iconst (v := nI 0) hx hb dX2_run_35 (by decide) ?_
  exact W.iret hx hb hr (fun t9 ht9 hW9 => ⟨⟨_, (), rfl, trivial, _, _, _, _, by rw [ht9]; exact hP, hD, hM⟩, hS.F ht9⟩) hS.2.2 dX2_run_36

set_option maxHeartbeats 4000000 in
set_option maxRecDepth 100000 in
theorem c_X2_run_c (l : Launch) {D : va_G} {cI cT cJ : ClassId} (m0 a1 a2 a3 a4 : Nat) (K R L N : Nat → Int32) (ld o b k t : Nat) (G : Nat → Tv) (hM : MA G K R L N) (sp : Nat) (hsp : sp ≤ 6) (hld : ld ≤ 40) (hld2 : ¬ ld < 40) (sz : Nat) : Met l yX2_run wsX2_run (rmD 5 0 0) (XP D cI cT cJ [.ref m0, .int (nI sp)] (fun H => H.size = sz ∧ va_P D vwCl (MWs cI m0 a1 a2 a3 a4 K R L N ld o b k t) H ∧ va_D (fun _ => True) (MWs cI m0 a1 a2 a3 a4 K R L N ld o b k t))) (va_Qi (S := Unit) (fun r _ => True) (fun _ t9 => MB D cI m0 a1 a2 a3 a4 (va_A (MWs cI m0 a1 a2 a3 a4 K R L N ld o b k t) sz) (G, o, ld, b, k) 2 t9.heap) (va_A (MWs cI m0 a1 a2 a3 a4 K R L N ld o b k t) sz)) 0 0 (va_A (MWs cI m0 a1 a2 a3 a4 K R L N ld o b k t) sz) := by
  refine Met.ofW (cc := cX2_run) (maxL := 2) (ret := (some .int)) (by decide) rfl ?_
  intro p e s m args below meth c s₁ B hml hv
  obtain ⟨rfl, ⟨hsz, hP, hD0⟩, hE⟩ := hv
  have hx := B.exec
  have hb := B.bytes
  have hr := B.returns
  have hts := atoms_spec (ws := wsX2_run) B.pre
  have hown : s.vm.findClass RX2 = some m.cls := findClass_of_methodNamed B.named
  have hlocks := B.notSynchronized
  have hl := lv_entry ([.ref m0, .int (nI sp)]) (n := 2) (Nat.le_of_ble_eq_true rfl)
  rw [lg_entry_eq]
  generalize (lg_sl ([.ref m0, .int (nI sp)]) ++ List.replicate (2 - (lg_sl ([.ref m0, .int (nI sp)])).length) Slot.unset).toArray = ls at hl ⊢
  have hl : lv_has ls 2 [(0, .ref m0), (1, .int (nI sp))] := hl
  have hK := hE.1
  subst hsz
  have hD := hD0.self (sz := s.heap.size)
  generalize hAe : va_A ((MWs cI m0 a1 a2 a3 a4 K R L N ld o b k t)) s.heap.size = A at hD ⊢
  have hA : ∀ q : Nat, s.heap.size ≤ q → A q := fun q h => by rw [← hAe]; exact Or.inr h
  have hS : va_S A s.heap s.heap [] := va_S.rf
  refine lv_aload_n hx hb dX2_run_0 rfl (lv_at hl 0 rfl) ?_
  refine lv_iload_n hx hb dX2_run_1 rfl (lv_at hl 1 rfl) ?_
  refine lv_iconst (v := nI 0) hx hb dX2_run_2 (by decide) ?_
  refine lv_bipush (v := nI 6) hx hb dX2_run_3 (by decide) ?_
  refine xc_sie (va_runS (As := [.int (nI sp), .int (nI 0), .int (nI 6)]) (rest := [.ref m0]) ⟨hx, hb, hml, hown, hts⟩ (c_X2_isIn l (nI sp) (nI 0) (nI 6)) (va_cwS 3 hts gX2_run_X2_isIn rfl rfl rfl (by decide +kernel) ⟨(Nat.le_of_ble_eq_true rfl), (Nat.le_of_ble_eq_true rfl)⟩) ⟨XP_blind, XP_pre hE trivial⟩ rfl rfl hl.1 rfl (lv_room (Nat.le_of_ble_eq_true rfl)) dX2_run_5 ⟨Nat.le_of_ble_eq_true rfl, Nat.le_of_ble_eq_true rfl⟩) ?_
  refine x_top (nI 1) (by rw [decide_eq_true (in_t (Nat.zero_le _) hsp (by omega))]; rfl) ?_
  refine lv_if_ne (tgt := 15) hx hb dX2_run_8 (by decide) (fun _ => ?_) (fun h => absurd h (by decide))
  refine lv_aload_n hx hb dX2_run_15 rfl (lv_at hl 0 rfl) ?_
  refine va_get (ci := 2) (v := .int (nI ld)) (C := RX2) (T := TX2) (N := 9) hx hb hts iw_X2run_X2 hown hK hP 0 rfl rfl 4 (by decide) (hts (.fieldLink RX2 62 "BackMirrorModel" "last" "I") (by decide +kernel)) (fun _ h9 => h9) rfl dX2_run_16 ?_
  refine lv_bipush (v := nI 40) hx hb dX2_run_19 (by decide) ?_
  refine lv_icmp_ne (tgt := 28) hx hb dX2_run_21 (by decide) (fun c21 => ?_) (fun c21 => ?_)
  · have c21 : ¬ ld = 40 := fun h => c21 ((xeq (by omega) (by omega)).mpr h)
    omega
  · have c21 : ld = 40 := (xeq (by omega) (by omega)).mp c21
    refine lv_iconst (v := nI 2) hx hb dX2_run_24 (by decide) ?_
    refine lv_goto (tgt := 29) hx hb dX2_run_25 (by decide) ?_
    have hP : va_P D vwCl ([] ++ (MWs cI m0 a1 a2 a3 a4 K R L N ld o b k t)) s.heap := hP
    have hD : va_D A ([] ++ (MWs cI m0 a1 a2 a3 a4 K R L N ld o b k t)) := hD
    have hFc := xfree (wc := (MWs cI m0 a1 a2 a3 a4 K R L N ld o b k t)) hD hS hA (fun _ h => List.mem_append_right _ h)
    have hPc := xP_sub (w2 := (MWs cI m0 a1 a2 a3 a4 K R L N ld o b k t)) (fun _ h => List.mem_append_right _ h) hP
    have hDc : va_D (fun _ => True) (MWs cI m0 a1 a2 a3 a4 K R L N ld o b k t) := (xD_sub (List.sublist_append_right _ _) hD).weaken (fun _ _ _ _ => trivial)
    refine va_calli (va_runV (As := [.int (nI 2)]) (rest := []) ⟨hx, hb, hml, hown, hts⟩ (c_X2_goes l m0 a1 a2 a3 a4 K R L N ld o b k t 2 (by omega) s.heap.size) (cwV 1 hts gX2_run_X2_goes rfl rfl rfl (by decide +kernel) ⟨(Nat.le_of_ble_eq_true rfl), (Nat.le_of_ble_eq_true rfl)⟩) ⟨XP_blind, va_recv hK hP (ci := 2) (q0 := 0) rfl rfl, XP_pre hE ⟨rfl, hPc, hDc⟩⟩ rfl rfl hl.1 rfl (lv_room (Nat.le_of_ble_eq_true rfl)) dX2_run_29 ⟨by first | exact Nat.le_of_ble_eq_true rfl | (show _ + _ ≤ _; omega), by first | exact Nat.le_of_ble_eq_true rfl | (show _ + _ ≤ _; omega)⟩) hS (fun q9 _ h => hFc q9 h) hFc (fun r9 u t9 H1 locs ht9 hvm9 hw9 hB9 hzc hkc hS => ?_)
    obtain ⟨hP1, hD1⟩ := hB9
    rw [ht9] at hP1
    obtain ⟨hP, hD⟩ := xjoin (wr := []) (wc := (MWs cI m0 a1 a2 a3 a4 K R L N ld o b k t)) (w1 := (MWs cI m0 a1 a2 a3 a4 K R L N ld o b k 2)) hP hD hkc hFc hP1 hD1
    generalize H1 = H at hP hS ⊢
    subst hw9
    have hP : va_P D vwCl [(m0, .inr (2, [.ref a1, .ref a2, .ref a3, .ref a4, .int (nI ld), .int (nI o), .int (nI b), .int (nI k), .int (nI 2)])), (a1, .inl (cI, 252, .inl K)), (a2, .inl (cI, 252, .inl R)), (a3, .inl (cI, 252, .inl L)), (a4, .inl (cI, 3024, .inl N))] H := hP
    have hD : va_D A [(m0, .inr (2, [.ref a1, .ref a2, .ref a3, .ref a4, .int (nI ld), .int (nI o), .int (nI b), .int (nI k), .int (nI 2)])), (a1, .inl (cI, 252, .inl K)), (a2, .inl (cI, 252, .inl R)), (a3, .inl (cI, 252, .inl L)), (a4, .inl (cI, 3024, .inl N))] := hD
    refine x_top (nI 0) rfl ?_
    refine lv_if_ne (tgt := 37) hx hb dX2_run_32 (by decide) (fun h => absurd h (by decide)) (fun _ => ?_)
    refine lv_iconst (v := nI 0) hx hb dX2_run_35 (by decide) ?_
    exact W.iret hx hb hr (fun t9 ht9 hW9 => ⟨⟨_, (), rfl, trivial, _, _, _, _, by rw [ht9]; exact hP, hD, hM⟩, hS.F ht9⟩) hS.2.2 dX2_run_36

theorem iw_X2mend_X2 : ∀ w ∈ u_ws RX2 TX2 9, w ∈ wsX2_mend := by decide +kernel
set_option maxHeartbeats 4000000 in
set_option maxRecDepth 100000 in
theorem c_X2_mend (l : Launch) {D : va_G} {cI cT cJ : ClassId} (m0 a1 a2 a3 a4 : Nat) (K R L N : Nat → Int32) (ld o b k t : Nat) (G : Nat → Tv) (hM : MA G K R L N)  (hbb : b ≤ 1) (hbk : b = 0 → k = 0) (sz : Nat) : Met l yX2_mend wsX2_mend (rmD 5 0 0) (XP D cI cT cJ [.ref m0] (fun H => H.size = sz ∧ va_P D vwCl (MWs cI m0 a1 a2 a3 a4 K R L N ld o b k t) H ∧ va_D (fun _ => True) (MWs cI m0 a1 a2 a3 a4 K R L N ld o b k t))) (va_Qi (S := Unit) (fun r _ => r = nI k) (fun _ t9 => MB D cI m0 a1 a2 a3 a4 (va_A (MWs cI m0 a1 a2 a3 a4 K R L N ld o b k t) sz) (G, o, ld, 0, 0) 0 t9.heap) (va_A (MWs cI m0 a1 a2 a3 a4 K R L N ld o b k t) sz)) 0 0 (va_A (MWs cI m0 a1 a2 a3 a4 K R L N ld o b k t) sz) := by
  refine Met.ofW (cc := cX2_mend) (maxL := 1) (ret := (some .int)) (by decide) rfl ?_
  intro p e s m args below meth c s₁ B hml hv
  obtain ⟨rfl, ⟨hsz, hP, hD0⟩, hE⟩ := hv
  have hx := B.exec
  have hb := B.bytes
  have hr := B.returns
  have hts := atoms_spec (ws := wsX2_mend) B.pre
  have hown : s.vm.findClass RX2 = some m.cls := findClass_of_methodNamed B.named
  have hlocks := B.notSynchronized
  have hl := lv_entry ([.ref m0]) (n := 1) (Nat.le_of_ble_eq_true rfl)
  rw [lg_entry_eq]
  generalize (lg_sl ([.ref m0]) ++ List.replicate (1 - (lg_sl ([.ref m0])).length) Slot.unset).toArray = ls at hl ⊢
  have hl : lv_has ls 1 [(0, .ref m0)] := hl
  have hK := hE.1
  subst hsz
  have hD := hD0.self (sz := s.heap.size)
  generalize hAe : va_A ((MWs cI m0 a1 a2 a3 a4 K R L N ld o b k t)) s.heap.size = A at hD ⊢
  have hA : ∀ q : Nat, s.heap.size ≤ q → A q := fun q h => by rw [← hAe]; exact Or.inr h
  have hS : va_S A s.heap s.heap [] := va_S.rf
  refine lv_aload_n hx hb dX2_mend_0 rfl (lv_at hl 0 rfl) ?_
  refine lv_iconst (v := nI 0) hx hb dX2_mend_1 (by decide) ?_
  refine va_put (ci := 2) (v := .int (nI 0)) (ty := .int) (C := RX2) (T := TX2) (N := 9) hx hb hts iw_X2mend_X2 tyX2 tyX2_ok nmX2 hown hK hP hD hS 0 rfl rfl 8 (by decide) (hts (.fieldLink RX2 22 "BackMirrorModel" "thrown" "I") (by decide +kernel)) (fun _ h9 => h9) rfl (by decide +kernel) rfl rfl (Nat.le_of_ble_eq_true rfl) dX2_mend_2 (fun H locs hP hD hS => ?_)
  have hP : va_P D vwCl [(m0, .inr (2, [.ref a1, .ref a2, .ref a3, .ref a4, .int (nI ld), .int (nI o), .int (nI b), .int (nI k), .int (nI 0)])), (a1, .inl (cI, 252, .inl K)), (a2, .inl (cI, 252, .inl R)), (a3, .inl (cI, 252, .inl L)), (a4, .inl (cI, 3024, .inl N))] H := hP
  have hD : va_D A [(m0, .inr (2, [.ref a1, .ref a2, .ref a3, .ref a4, .int (nI ld), .int (nI o), .int (nI b), .int (nI k), .int (nI 0)])), (a1, .inl (cI, 252, .inl K)), (a2, .inl (cI, 252, .inl R)), (a3, .inl (cI, 252, .inl L)), (a4, .inl (cI, 3024, .inl N))] := hD
  refine lv_aload_n hx hb dX2_mend_5 rfl (lv_at hl 0 rfl) ?_
  have hP : va_P D vwCl ([] ++ (MWs cI m0 a1 a2 a3 a4 K R L N ld o b k 0)) H := hP
  have hD : va_D A ([] ++ (MWs cI m0 a1 a2 a3 a4 K R L N ld o b k 0)) := hD
  have hFc := xfree (wc := (MWs cI m0 a1 a2 a3 a4 K R L N ld o b k 0)) hD hS hA (fun _ h => List.mem_append_right _ h)
  have hPc := xP_sub (w2 := (MWs cI m0 a1 a2 a3 a4 K R L N ld o b k 0)) (fun _ h => List.mem_append_right _ h) hP
  have hDc : va_D (fun _ => True) (MWs cI m0 a1 a2 a3 a4 K R L N ld o b k 0) := (xD_sub (List.sublist_append_right _ _) hD).weaken (fun _ _ _ _ => trivial)
  refine va_calli (va_runV (As := []) (rest := []) ⟨hx, hb, hml, hown, hts⟩ (c_X2_mends l m0 a1 a2 a3 a4 K R L N ld o b k 0 hbb hbk H.size) (cwV 0 hts gX2_mend_X2_mends rfl rfl rfl (by decide +kernel) ⟨(Nat.le_of_ble_eq_true rfl), (Nat.le_of_ble_eq_true rfl)⟩) ⟨XP_blind, va_recv hK hP (ci := 2) (q0 := 0) rfl rfl, XP_pre hE ⟨rfl, hPc, hDc⟩⟩ rfl rfl hl.1 rfl (lv_room (Nat.le_of_ble_eq_true rfl)) dX2_mend_6 ⟨by first | exact Nat.le_of_ble_eq_true rfl | (show _ + _ ≤ _; omega), by first | exact Nat.le_of_ble_eq_true rfl | (show _ + _ ≤ _; omega)⟩) hS (fun q9 _ h => hFc q9 h) hFc (fun r9 u t9 H1 locs ht9 hvm9 hw9 hB9 hzc hkc hS => ?_)
  obtain ⟨hP1, hD1⟩ := hB9
  rw [ht9] at hP1
  obtain ⟨hP, hD⟩ := xjoin (wr := []) (wc := (MWs cI m0 a1 a2 a3 a4 K R L N ld o b k 0)) (w1 := (MWs cI m0 a1 a2 a3 a4 K R L N ld o 0 0 0)) hP hD hkc hFc hP1 hD1
  generalize H1 = H at hP hS ⊢
  subst hw9
  have hP : va_P D vwCl [(m0, .inr (2, [.ref a1, .ref a2, .ref a3, .ref a4, .int (nI ld), .int (nI o), .int (nI 0), .int (nI 0), .int (nI 0)])), (a1, .inl (cI, 252, .inl K)), (a2, .inl (cI, 252, .inl R)), (a3, .inl (cI, 252, .inl L)), (a4, .inl (cI, 3024, .inl N))] H := hP
  have hD : va_D A [(m0, .inr (2, [.ref a1, .ref a2, .ref a3, .ref a4, .int (nI ld), .int (nI o), .int (nI 0), .int (nI 0), .int (nI 0)])), (a1, .inl (cI, 252, .inl K)), (a2, .inl (cI, 252, .inl R)), (a3, .inl (cI, 252, .inl L)), (a4, .inl (cI, 3024, .inl N))] := hD
  exact W.iret hx hb hr (fun t9 ht9 hW9 => ⟨⟨_, (), rfl, rfl, _, _, _, _, by rw [ht9]; exact hP, hD, hM⟩, hS.F ht9⟩) hS.2.2 dX2_mend_9

theorem iw_X2thin_X2 : ∀ w ∈ u_ws RX2 TX2 9, w ∈ wsX2_thin := by decide +kernel
set_option maxHeartbeats 4000000 in
set_option maxRecDepth 100000 in
theorem c_X2_thin_g (l : Launch) {D : va_G} {cI cT cJ : ClassId} (m0 a1 a2 a3 a4 : Nat) (K R L N : Nat → Int32) (ld o b k t : Nat) (G : Nat → Tv) (hM : MA G K R L N) (sp : Nat) (hsp1 : 1 ≤ sp) (hsp : sp ≤ 40) (hld : ld ≤ 40) (hos : o + sp ≤ ld) (hbb : b ≤ 1) (hbk : b = 0 → k = 0) (sz : Nat) : Met l yX2_thin wsX2_thin (rmD 5 0 0) (XP D cI cT cJ [.ref m0, .int (nI sp)] (fun H => H.size = sz ∧ va_P D vwCl (MWs cI m0 a1 a2 a3 a4 K R L N ld o b k t) H ∧ va_D (fun _ => True) (MWs cI m0 a1 a2 a3 a4 K R L N ld o b k t))) (va_Qi (S := Unit) (fun r _ => r = nI (o + sp)) (fun _ t9 => MB D cI m0 a1 a2 a3 a4 (va_A (MWs cI m0 a1 a2 a3 a4 K R L N ld o b k t) sz) (G, o + sp, ld, 0, 0) 0 t9.heap) (va_A (MWs cI m0 a1 a2 a3 a4 K R L N ld o b k t) sz)) 0 0 (va_A (MWs cI m0 a1 a2 a3 a4 K R L N ld o b k t) sz) := by
  refine Met.ofW (cc := cX2_thin) (maxL := 2) (ret := (some .int)) (by decide) rfl ?_
  intro p e s m args below meth c s₁ B hml hv
  obtain ⟨rfl, ⟨hsz, hP, hD0⟩, hE⟩ := hv
  have hx := B.exec
  have hb := B.bytes
  have hr := B.returns
  have hts := atoms_spec (ws := wsX2_thin) B.pre
  have hown : s.vm.findClass RX2 = some m.cls := findClass_of_methodNamed B.named
  have hlocks := B.notSynchronized
  have hl := lv_entry ([.ref m0, .int (nI sp)]) (n := 2) (Nat.le_of_ble_eq_true rfl)
  rw [lg_entry_eq]
  generalize (lg_sl ([.ref m0, .int (nI sp)]) ++ List.replicate (2 - (lg_sl ([.ref m0, .int (nI sp)])).length) Slot.unset).toArray = ls at hl ⊢
  have hl : lv_has ls 2 [(0, .ref m0), (1, .int (nI sp))] := hl
  have hK := hE.1
  subst hsz
  have hD := hD0.self (sz := s.heap.size)
  generalize hAe : va_A ((MWs cI m0 a1 a2 a3 a4 K R L N ld o b k t)) s.heap.size = A at hD ⊢
  have hA : ∀ q : Nat, s.heap.size ≤ q → A q := fun q h => by rw [← hAe]; exact Or.inr h
  have hS : va_S A s.heap s.heap [] := va_S.rf
  refine lv_aload_n hx hb dX2_thin_0 rfl (lv_at hl 0 rfl) ?_
  refine lv_iload_n hx hb dX2_thin_1 rfl (lv_at hl 1 rfl) ?_
  refine lv_iconst (v := nI 1) hx hb dX2_thin_2 (by decide) ?_
  refine lv_bipush (v := nI 40) hx hb dX2_thin_3 (by decide) ?_
  refine xc_sie (va_runS (As := [.int (nI sp), .int (nI 1), .int (nI 40)]) (rest := [.ref m0]) ⟨hx, hb, hml, hown, hts⟩ (c_X2_isIn l (nI sp) (nI 1) (nI 40)) (va_cwS 3 hts gX2_thin_X2_isIn rfl rfl rfl (by decide +kernel) ⟨(Nat.le_of_ble_eq_true rfl), (Nat.le_of_ble_eq_true rfl)⟩) ⟨XP_blind, XP_pre hE trivial⟩ rfl rfl hl.1 rfl (lv_room (Nat.le_of_ble_eq_true rfl)) dX2_thin_5 ⟨Nat.le_of_ble_eq_true rfl, Nat.le_of_ble_eq_true rfl⟩) ?_
  refine x_top (nI 1) (by rw [decide_eq_true (in_t hsp1 hsp (by omega))]; rfl) ?_
  refine lv_if_ne (tgt := 15) hx hb dX2_thin_8 (by decide) (fun _ => ?_) (fun h => absurd h (by decide))
  refine lv_aload_n hx hb dX2_thin_15 rfl (lv_at hl 0 rfl) ?_
  refine va_get (ci := 2) (v := .int (nI o)) (C := RX2) (T := TX2) (N := 9) hx hb hts iw_X2thin_X2 hown hK hP 0 rfl rfl 5 (by decide) (hts (.fieldLink RX2 76 "BackMirrorModel" "oldest" "I") (by decide +kernel)) (fun _ h9 => h9) rfl dX2_thin_16 ?_
  refine lv_iload_n hx hb dX2_thin_19 rfl (lv_at hl 1 rfl) ?_
  refine lv_iadd hx hb dX2_thin_20 ?_
  refine x_top (nI (o + sp)) (xadd (by omega)) ?_
  refine lv_aload_n hx hb dX2_thin_21 rfl (lv_at hl 0 rfl) ?_
  refine va_get (ci := 2) (v := .int (nI ld)) (C := RX2) (T := TX2) (N := 9) hx hb hts iw_X2thin_X2 hown hK hP 0 rfl rfl 4 (by decide) (hts (.fieldLink RX2 62 "BackMirrorModel" "last" "I") (by decide +kernel)) (fun _ h9 => h9) rfl dX2_thin_22 ?_
  refine lv_icmp_le (tgt := 32) hx hb dX2_thin_25 (by decide) (fun c25 => ?_) (fun c25 => ?_)
  · have c25 : (o + sp) ≤ ld := (xle (by omega) (by omega)).mp c25
    refine lv_iconst (v := nI 0) hx hb dX2_thin_32 (by decide) ?_
    have hP : va_P D vwCl ([] ++ (MWs cI m0 a1 a2 a3 a4 K R L N ld o b k t)) s.heap := hP
    have hD : va_D A ([] ++ (MWs cI m0 a1 a2 a3 a4 K R L N ld o b k t)) := hD
    have hFc := xfree (wc := (MWs cI m0 a1 a2 a3 a4 K R L N ld o b k t)) hD hS hA (fun _ h => List.mem_append_right _ h)
    have hPc := xP_sub (w2 := (MWs cI m0 a1 a2 a3 a4 K R L N ld o b k t)) (fun _ h => List.mem_append_right _ h) hP
    have hDc : va_D (fun _ => True) (MWs cI m0 a1 a2 a3 a4 K R L N ld o b k t) := (xD_sub (List.sublist_append_right _ _) hD).weaken (fun _ _ _ _ => trivial)
    refine va_calli (va_runV (As := [.int (nI 0)]) (rest := []) ⟨hx, hb, hml, hown, hts⟩ (c_X2_goes l m0 a1 a2 a3 a4 K R L N ld o b k t 0 (by omega) s.heap.size) (cwV 1 hts gX2_thin_X2_goes rfl rfl rfl (by decide +kernel) ⟨(Nat.le_of_ble_eq_true rfl), (Nat.le_of_ble_eq_true rfl)⟩) ⟨XP_blind, va_recv hK hP (ci := 2) (q0 := 0) rfl rfl, XP_pre hE ⟨rfl, hPc, hDc⟩⟩ rfl rfl hl.1 rfl (lv_room (Nat.le_of_ble_eq_true rfl)) dX2_thin_33 ⟨by first | exact Nat.le_of_ble_eq_true rfl | (show _ + _ ≤ _; omega), by first | exact Nat.le_of_ble_eq_true rfl | (show _ + _ ≤ _; omega)⟩) hS (fun q9 _ h => hFc q9 h) hFc (fun r9 u t9 H1 locs ht9 hvm9 hw9 hB9 hzc hkc hS => ?_)
    obtain ⟨hP1, hD1⟩ := hB9
    rw [ht9] at hP1
    obtain ⟨hP, hD⟩ := xjoin (wr := []) (wc := (MWs cI m0 a1 a2 a3 a4 K R L N ld o b k t)) (w1 := (MWs cI m0 a1 a2 a3 a4 K R L N ld o b k 0)) hP hD hkc hFc hP1 hD1
    generalize H1 = H at hP hS ⊢
    subst hw9
    have hP : va_P D vwCl [(m0, .inr (2, [.ref a1, .ref a2, .ref a3, .ref a4, .int (nI ld), .int (nI o), .int (nI b), .int (nI k), .int (nI 0)])), (a1, .inl (cI, 252, .inl K)), (a2, .inl (cI, 252, .inl R)), (a3, .inl (cI, 252, .inl L)), (a4, .inl (cI, 3024, .inl N))] H := hP
    have hD : va_D A [(m0, .inr (2, [.ref a1, .ref a2, .ref a3, .ref a4, .int (nI ld), .int (nI o), .int (nI b), .int (nI k), .int (nI 0)])), (a1, .inl (cI, 252, .inl K)), (a2, .inl (cI, 252, .inl R)), (a3, .inl (cI, 252, .inl L)), (a4, .inl (cI, 3024, .inl N))] := hD
    refine x_top (nI 1) rfl ?_
    refine lv_if_ne (tgt := 41) hx hb dX2_thin_36 (by decide) (fun _ => ?_) (fun h => absurd h (by decide))
    refine lv_aload_n hx hb dX2_thin_41 rfl (lv_at hl 0 rfl) ?_
    have hP : va_P D vwCl ([] ++ (MWs cI m0 a1 a2 a3 a4 K R L N ld o b k 0)) H := hP
    have hD : va_D A ([] ++ (MWs cI m0 a1 a2 a3 a4 K R L N ld o b k 0)) := hD
    have hFc := xfree (wc := (MWs cI m0 a1 a2 a3 a4 K R L N ld o b k 0)) hD hS hA (fun _ h => List.mem_append_right _ h)
    have hPc := xP_sub (w2 := (MWs cI m0 a1 a2 a3 a4 K R L N ld o b k 0)) (fun _ h => List.mem_append_right _ h) hP
    have hDc : va_D (fun _ => True) (MWs cI m0 a1 a2 a3 a4 K R L N ld o b k 0) := (xD_sub (List.sublist_append_right _ _) hD).weaken (fun _ _ _ _ => trivial)
    refine va_calli (va_runV (As := []) (rest := []) ⟨hx, hb, hml, hown, hts⟩ (c_X2_mends l m0 a1 a2 a3 a4 K R L N ld o b k 0 hbb hbk H.size) (cwV 0 hts gX2_thin_X2_mends rfl rfl rfl (by decide +kernel) ⟨(Nat.le_of_ble_eq_true rfl), (Nat.le_of_ble_eq_true rfl)⟩) ⟨XP_blind, va_recv hK hP (ci := 2) (q0 := 0) rfl rfl, XP_pre hE ⟨rfl, hPc, hDc⟩⟩ rfl rfl hl.1 rfl (lv_room (Nat.le_of_ble_eq_true rfl)) dX2_thin_42 ⟨by first | exact Nat.le_of_ble_eq_true rfl | (show _ + _ ≤ _; omega), by first | exact Nat.le_of_ble_eq_true rfl | (show _ + _ ≤ _; omega)⟩) hS (fun q9 _ h => hFc q9 h) hFc (fun r9 u t9 H1 locs ht9 hvm9 hw9 hB9 hzc hkc hS => ?_)
    obtain ⟨hP1, hD1⟩ := hB9
    rw [ht9] at hP1
    obtain ⟨hP, hD⟩ := xjoin (wr := []) (wc := (MWs cI m0 a1 a2 a3 a4 K R L N ld o b k 0)) (w1 := (MWs cI m0 a1 a2 a3 a4 K R L N ld o 0 0 0)) hP hD hkc hFc hP1 hD1
    generalize H1 = H at hP hS ⊢
    subst hw9
    have hP : va_P D vwCl [(m0, .inr (2, [.ref a1, .ref a2, .ref a3, .ref a4, .int (nI ld), .int (nI o), .int (nI 0), .int (nI 0), .int (nI 0)])), (a1, .inl (cI, 252, .inl K)), (a2, .inl (cI, 252, .inl R)), (a3, .inl (cI, 252, .inl L)), (a4, .inl (cI, 3024, .inl N))] H := hP
    have hD : va_D A [(m0, .inr (2, [.ref a1, .ref a2, .ref a3, .ref a4, .int (nI ld), .int (nI o), .int (nI 0), .int (nI 0), .int (nI 0)])), (a1, .inl (cI, 252, .inl K)), (a2, .inl (cI, 252, .inl R)), (a3, .inl (cI, 252, .inl L)), (a4, .inl (cI, 3024, .inl N))] := hD
    refine lv_pop hx hb dX2_thin_45 rfl ?_
    refine lv_aload_n hx hb dX2_thin_46 rfl (lv_at hl 0 rfl) ?_
    refine lv_dup hx hb dX2_thin_47 rfl ?_
    refine va_get (ci := 2) (v := .int (nI o)) (C := RX2) (T := TX2) (N := 9) hx hb hts iw_X2thin_X2 hown hK hP 0 rfl rfl 5 (by decide) (hts (.fieldLink RX2 76 "BackMirrorModel" "oldest" "I") (by decide +kernel)) (fun _ h9 => h9) rfl dX2_thin_48 ?_
    refine lv_iload_n hx hb dX2_thin_51 rfl (lv_at hl 1 rfl) ?_
    refine lv_iadd hx hb dX2_thin_52 ?_
    refine x_top (nI (o + sp)) (xadd (by omega)) ?_
    refine va_put (ci := 2) (v := .int (nI (o + sp))) (ty := .int) (C := RX2) (T := TX2) (N := 9) hx hb hts iw_X2thin_X2 tyX2 tyX2_ok nmX2 hown hK hP hD hS 0 rfl rfl 5 (by decide) (hts (.fieldLink RX2 76 "BackMirrorModel" "oldest" "I") (by decide +kernel)) (fun _ h9 => h9) rfl (by decide +kernel) rfl rfl (Nat.le_of_ble_eq_true rfl) dX2_thin_53 (fun H locs hP hD hS => ?_)
    have hP : va_P D vwCl [(m0, .inr (2, [.ref a1, .ref a2, .ref a3, .ref a4, .int (nI ld), .int (nI (o + sp)), .int (nI 0), .int (nI 0), .int (nI 0)])), (a1, .inl (cI, 252, .inl K)), (a2, .inl (cI, 252, .inl R)), (a3, .inl (cI, 252, .inl L)), (a4, .inl (cI, 3024, .inl N))] H := hP
    have hD : va_D A [(m0, .inr (2, [.ref a1, .ref a2, .ref a3, .ref a4, .int (nI ld), .int (nI (o + sp)), .int (nI 0), .int (nI 0), .int (nI 0)])), (a1, .inl (cI, 252, .inl K)), (a2, .inl (cI, 252, .inl R)), (a3, .inl (cI, 252, .inl L)), (a4, .inl (cI, 3024, .inl N))] := hD
    refine lv_aload_n hx hb dX2_thin_56 rfl (lv_at hl 0 rfl) ?_
    refine va_get (ci := 2) (v := .int (nI (o + sp))) (C := RX2) (T := TX2) (N := 9) hx hb hts iw_X2thin_X2 hown hK hP 0 rfl rfl 5 (by decide) (hts (.fieldLink RX2 76 "BackMirrorModel" "oldest" "I") (by decide +kernel)) (fun _ h9 => h9) rfl dX2_thin_57 ?_
    exact W.iret hx hb hr (fun t9 ht9 hW9 => ⟨⟨_, (), rfl, rfl, _, _, _, _, by rw [ht9]; exact hP, hD, hM⟩, hS.F ht9⟩) hS.2.2 dX2_thin_60
  · have c25 : ¬ (o + sp) ≤ ld := fun h => c25 ((xle (by omega) (by omega)).mpr h)
    omega

set_option maxHeartbeats 4000000 in
set_option maxRecDepth 100000 in
theorem c_X2_thin_b (l : Launch) {D : va_G} {cI cT cJ : ClassId} (m0 a1 a2 a3 a4 : Nat) (K R L N : Nat → Int32) (ld o b k t : Nat) (G : Nat → Tv) (hM : MA G K R L N) (v : Int32) (hv : ¬ ∃ s, 1 ≤ s ∧ s ≤ 40 ∧ v = nI s) (sz : Nat) : Met l yX2_thin wsX2_thin (rmD 5 0 0) (XP D cI cT cJ [.ref m0, .int v] (fun H => H.size = sz ∧ va_P D vwCl (MWs cI m0 a1 a2 a3 a4 K R L N ld o b k t) H ∧ va_D (fun _ => True) (MWs cI m0 a1 a2 a3 a4 K R L N ld o b k t))) (va_Qi (S := Unit) (fun r _ => True) (fun _ t9 => MB D cI m0 a1 a2 a3 a4 (va_A (MWs cI m0 a1 a2 a3 a4 K R L N ld o b k t) sz) (G, o, ld, b, k) 1 t9.heap) (va_A (MWs cI m0 a1 a2 a3 a4 K R L N ld o b k t) sz)) 0 0 (va_A (MWs cI m0 a1 a2 a3 a4 K R L N ld o b k t) sz) := by
  refine Met.ofW (cc := cX2_thin) (maxL := 2) (ret := (some .int)) (by decide) rfl ?_
  intro p e s m args below meth c s₁ B hml hv
  obtain ⟨rfl, ⟨hsz, hP, hD0⟩, hE⟩ := hv
  have hx := B.exec
  have hb := B.bytes
  have hr := B.returns
  have hts := atoms_spec (ws := wsX2_thin) B.pre
  have hown : s.vm.findClass RX2 = some m.cls := findClass_of_methodNamed B.named
  have hlocks := B.notSynchronized
  have hl := lv_entry ([.ref m0, .int v]) (n := 2) (Nat.le_of_ble_eq_true rfl)
  rw [lg_entry_eq]
  generalize (lg_sl ([.ref m0, .int v]) ++ List.replicate (2 - (lg_sl ([.ref m0, .int v])).length) Slot.unset).toArray = ls at hl ⊢
  have hl : lv_has ls 2 [(0, .ref m0), (1, .int v)] := hl
  have hK := hE.1
  subst hsz
  have hD := hD0.self (sz := s.heap.size)
  generalize hAe : va_A ((MWs cI m0 a1 a2 a3 a4 K R L N ld o b k t)) s.heap.size = A at hD ⊢
  have hA : ∀ q : Nat, s.heap.size ≤ q → A q := fun q h => by rw [← hAe]; exact Or.inr h
  have hS : va_S A s.heap s.heap [] := va_S.rf
  refine lv_aload_n hx hb dX2_thin_0 rfl (lv_at hl 0 rfl) ?_
  refine lv_iload_n hx hb dX2_thin_1 rfl (lv_at hl 1 rfl) ?_
  refine lv_iconst (v := nI 1) hx hb dX2_thin_2 (by decide) ?_
  refine lv_bipush (v := nI 40) hx hb dX2_thin_3 (by decide) ?_
  refine xc_sie (va_runS (As := [.int v, .int (nI 1), .int (nI 40)]) (rest := [.ref m0]) ⟨hx, hb, hml, hown, hts⟩ (c_X2_isIn l v (nI 1) (nI 40)) (va_cwS 3 hts gX2_thin_X2_isIn rfl rfl rfl (by decide +kernel) ⟨(Nat.le_of_ble_eq_true rfl), (Nat.le_of_ble_eq_true rfl)⟩) ⟨XP_blind, XP_pre hE trivial⟩ rfl rfl hl.1 rfl (lv_room (Nat.le_of_ble_eq_true rfl)) dX2_thin_5 ⟨Nat.le_of_ble_eq_true rfl, Nat.le_of_ble_eq_true rfl⟩) ?_
  refine x_top (nI 0) (by rw [decide_eq_false (in_f (by omega) (by omega) hv)]; rfl) ?_
  refine lv_if_ne (tgt := 15) hx hb dX2_thin_8 (by decide) (fun h => absurd h (by decide)) (fun _ => ?_)
  refine lv_iconst (v := nI 1) hx hb dX2_thin_11 (by decide) ?_
  refine lv_goto (tgt := 33) hx hb dX2_thin_12 (by decide) ?_
  have hP : va_P D vwCl ([] ++ (MWs cI m0 a1 a2 a3 a4 K R L N ld o b k t)) s.heap := hP
  have hD : va_D A ([] ++ (MWs cI m0 a1 a2 a3 a4 K R L N ld o b k t)) := hD
  have hFc := xfree (wc := (MWs cI m0 a1 a2 a3 a4 K R L N ld o b k t)) hD hS hA (fun _ h => List.mem_append_right _ h)
  have hPc := xP_sub (w2 := (MWs cI m0 a1 a2 a3 a4 K R L N ld o b k t)) (fun _ h => List.mem_append_right _ h) hP
  have hDc : va_D (fun _ => True) (MWs cI m0 a1 a2 a3 a4 K R L N ld o b k t) := (xD_sub (List.sublist_append_right _ _) hD).weaken (fun _ _ _ _ => trivial)
  refine va_calli (va_runV (As := [.int (nI 1)]) (rest := []) ⟨hx, hb, hml, hown, hts⟩ (c_X2_goes l m0 a1 a2 a3 a4 K R L N ld o b k t 1 (by omega) s.heap.size) (cwV 1 hts gX2_thin_X2_goes rfl rfl rfl (by decide +kernel) ⟨(Nat.le_of_ble_eq_true rfl), (Nat.le_of_ble_eq_true rfl)⟩) ⟨XP_blind, va_recv hK hP (ci := 2) (q0 := 0) rfl rfl, XP_pre hE ⟨rfl, hPc, hDc⟩⟩ rfl rfl hl.1 rfl (lv_room (Nat.le_of_ble_eq_true rfl)) dX2_thin_33 ⟨by first | exact Nat.le_of_ble_eq_true rfl | (show _ + _ ≤ _; omega), by first | exact Nat.le_of_ble_eq_true rfl | (show _ + _ ≤ _; omega)⟩) hS (fun q9 _ h => hFc q9 h) hFc (fun r9 u t9 H1 locs ht9 hvm9 hw9 hB9 hzc hkc hS => ?_)
  obtain ⟨hP1, hD1⟩ := hB9
  rw [ht9] at hP1
  obtain ⟨hP, hD⟩ := xjoin (wr := []) (wc := (MWs cI m0 a1 a2 a3 a4 K R L N ld o b k t)) (w1 := (MWs cI m0 a1 a2 a3 a4 K R L N ld o b k 1)) hP hD hkc hFc hP1 hD1
  generalize H1 = H at hP hS ⊢
  subst hw9
  have hP : va_P D vwCl [(m0, .inr (2, [.ref a1, .ref a2, .ref a3, .ref a4, .int (nI ld), .int (nI o), .int (nI b), .int (nI k), .int (nI 1)])), (a1, .inl (cI, 252, .inl K)), (a2, .inl (cI, 252, .inl R)), (a3, .inl (cI, 252, .inl L)), (a4, .inl (cI, 3024, .inl N))] H := hP
  have hD : va_D A [(m0, .inr (2, [.ref a1, .ref a2, .ref a3, .ref a4, .int (nI ld), .int (nI o), .int (nI b), .int (nI k), .int (nI 1)])), (a1, .inl (cI, 252, .inl K)), (a2, .inl (cI, 252, .inl R)), (a3, .inl (cI, 252, .inl L)), (a4, .inl (cI, 3024, .inl N))] := hD
  refine x_top (nI 0) rfl ?_
  refine lv_if_ne (tgt := 41) hx hb dX2_thin_36 (by decide) (fun h => absurd h (by decide)) (fun _ => ?_)
  refine lv_iconst (v := nI 0) hx hb dX2_thin_39 (by decide) ?_
  exact W.iret hx hb hr (fun t9 ht9 hW9 => ⟨⟨_, (), rfl, trivial, _, _, _, _, by rw [ht9]; exact hP, hD, hM⟩, hS.F ht9⟩) hS.2.2 dX2_thin_40

set_option maxHeartbeats 4000000 in
set_option maxRecDepth 100000 in
theorem c_X2_thin_c (l : Launch) {D : va_G} {cI cT cJ : ClassId} (m0 a1 a2 a3 a4 : Nat) (K R L N : Nat → Int32) (ld o b k t : Nat) (G : Nat → Tv) (hM : MA G K R L N) (sp : Nat) (hsp1 : 1 ≤ sp) (hsp : sp ≤ 40) (hld : ld ≤ 40) (hold : o ≤ ld) (hos : ¬ o + sp ≤ ld) (sz : Nat) : Met l yX2_thin wsX2_thin (rmD 5 0 0) (XP D cI cT cJ [.ref m0, .int (nI sp)] (fun H => H.size = sz ∧ va_P D vwCl (MWs cI m0 a1 a2 a3 a4 K R L N ld o b k t) H ∧ va_D (fun _ => True) (MWs cI m0 a1 a2 a3 a4 K R L N ld o b k t))) (va_Qi (S := Unit) (fun r _ => True) (fun _ t9 => MB D cI m0 a1 a2 a3 a4 (va_A (MWs cI m0 a1 a2 a3 a4 K R L N ld o b k t) sz) (G, o, ld, b, k) 2 t9.heap) (va_A (MWs cI m0 a1 a2 a3 a4 K R L N ld o b k t) sz)) 0 0 (va_A (MWs cI m0 a1 a2 a3 a4 K R L N ld o b k t) sz) := by
  refine Met.ofW (cc := cX2_thin) (maxL := 2) (ret := (some .int)) (by decide) rfl ?_
  intro p e s m args below meth c s₁ B hml hv
  obtain ⟨rfl, ⟨hsz, hP, hD0⟩, hE⟩ := hv
  have hx := B.exec
  have hb := B.bytes
  have hr := B.returns
  have hts := atoms_spec (ws := wsX2_thin) B.pre
  have hown : s.vm.findClass RX2 = some m.cls := findClass_of_methodNamed B.named
  have hlocks := B.notSynchronized
  have hl := lv_entry ([.ref m0, .int (nI sp)]) (n := 2) (Nat.le_of_ble_eq_true rfl)
  rw [lg_entry_eq]
  generalize (lg_sl ([.ref m0, .int (nI sp)]) ++ List.replicate (2 - (lg_sl ([.ref m0, .int (nI sp)])).length) Slot.unset).toArray = ls at hl ⊢
  have hl : lv_has ls 2 [(0, .ref m0), (1, .int (nI sp))] := hl
  have hK := hE.1
  subst hsz
  have hD := hD0.self (sz := s.heap.size)
  generalize hAe : va_A ((MWs cI m0 a1 a2 a3 a4 K R L N ld o b k t)) s.heap.size = A at hD ⊢
  have hA : ∀ q : Nat, s.heap.size ≤ q → A q := fun q h => by rw [← hAe]; exact Or.inr h
  have hS : va_S A s.heap s.heap [] := va_S.rf
  refine lv_aload_n hx hb dX2_thin_0 rfl (lv_at hl 0 rfl) ?_
  refine lv_iload_n hx hb dX2_thin_1 rfl (lv_at hl 1 rfl) ?_
  refine lv_iconst (v := nI 1) hx hb dX2_thin_2 (by decide) ?_
  refine lv_bipush (v := nI 40) hx hb dX2_thin_3 (by decide) ?_
  refine xc_sie (va_runS (As := [.int (nI sp), .int (nI 1), .int (nI 40)]) (rest := [.ref m0]) ⟨hx, hb, hml, hown, hts⟩ (c_X2_isIn l (nI sp) (nI 1) (nI 40)) (va_cwS 3 hts gX2_thin_X2_isIn rfl rfl rfl (by decide +kernel) ⟨(Nat.le_of_ble_eq_true rfl), (Nat.le_of_ble_eq_true rfl)⟩) ⟨XP_blind, XP_pre hE trivial⟩ rfl rfl hl.1 rfl (lv_room (Nat.le_of_ble_eq_true rfl)) dX2_thin_5 ⟨Nat.le_of_ble_eq_true rfl, Nat.le_of_ble_eq_true rfl⟩) ?_
  refine x_top (nI 1) (by rw [decide_eq_true (in_t hsp1 hsp (by omega))]; rfl) ?_
  refine lv_if_ne (tgt := 15) hx hb dX2_thin_8 (by decide) (fun _ => ?_) (fun h => absurd h (by decide))
  refine lv_aload_n hx hb dX2_thin_15 rfl (lv_at hl 0 rfl) ?_
  refine va_get (ci := 2) (v := .int (nI o)) (C := RX2) (T := TX2) (N := 9) hx hb hts iw_X2thin_X2 hown hK hP 0 rfl rfl 5 (by decide) (hts (.fieldLink RX2 76 "BackMirrorModel" "oldest" "I") (by decide +kernel)) (fun _ h9 => h9) rfl dX2_thin_16 ?_
  refine lv_iload_n hx hb dX2_thin_19 rfl (lv_at hl 1 rfl) ?_
  refine lv_iadd hx hb dX2_thin_20 ?_
  refine x_top (nI (o + sp)) (xadd (by omega)) ?_
  refine lv_aload_n hx hb dX2_thin_21 rfl (lv_at hl 0 rfl) ?_
  refine va_get (ci := 2) (v := .int (nI ld)) (C := RX2) (T := TX2) (N := 9) hx hb hts iw_X2thin_X2 hown hK hP 0 rfl rfl 4 (by decide) (hts (.fieldLink RX2 62 "BackMirrorModel" "last" "I") (by decide +kernel)) (fun _ h9 => h9) rfl dX2_thin_22 ?_
  refine lv_icmp_le (tgt := 32) hx hb dX2_thin_25 (by decide) (fun c25 => ?_) (fun c25 => ?_)
  · have c25 : (o + sp) ≤ ld := (xle (by omega) (by omega)).mp c25
    omega
  · have c25 : ¬ (o + sp) ≤ ld := fun h => c25 ((xle (by omega) (by omega)).mpr h)
    refine lv_iconst (v := nI 2) hx hb dX2_thin_28 (by decide) ?_
    refine lv_goto (tgt := 33) hx hb dX2_thin_29 (by decide) ?_
    have hP : va_P D vwCl ([] ++ (MWs cI m0 a1 a2 a3 a4 K R L N ld o b k t)) s.heap := hP
    have hD : va_D A ([] ++ (MWs cI m0 a1 a2 a3 a4 K R L N ld o b k t)) := hD
    have hFc := xfree (wc := (MWs cI m0 a1 a2 a3 a4 K R L N ld o b k t)) hD hS hA (fun _ h => List.mem_append_right _ h)
    have hPc := xP_sub (w2 := (MWs cI m0 a1 a2 a3 a4 K R L N ld o b k t)) (fun _ h => List.mem_append_right _ h) hP
    have hDc : va_D (fun _ => True) (MWs cI m0 a1 a2 a3 a4 K R L N ld o b k t) := (xD_sub (List.sublist_append_right _ _) hD).weaken (fun _ _ _ _ => trivial)
    refine va_calli (va_runV (As := [.int (nI 2)]) (rest := []) ⟨hx, hb, hml, hown, hts⟩ (c_X2_goes l m0 a1 a2 a3 a4 K R L N ld o b k t 2 (by omega) s.heap.size) (cwV 1 hts gX2_thin_X2_goes rfl rfl rfl (by decide +kernel) ⟨(Nat.le_of_ble_eq_true rfl), (Nat.le_of_ble_eq_true rfl)⟩) ⟨XP_blind, va_recv hK hP (ci := 2) (q0 := 0) rfl rfl, XP_pre hE ⟨rfl, hPc, hDc⟩⟩ rfl rfl hl.1 rfl (lv_room (Nat.le_of_ble_eq_true rfl)) dX2_thin_33 ⟨by first | exact Nat.le_of_ble_eq_true rfl | (show _ + _ ≤ _; omega), by first | exact Nat.le_of_ble_eq_true rfl | (show _ + _ ≤ _; omega)⟩) hS (fun q9 _ h => hFc q9 h) hFc (fun r9 u t9 H1 locs ht9 hvm9 hw9 hB9 hzc hkc hS => ?_)
    obtain ⟨hP1, hD1⟩ := hB9
    rw [ht9] at hP1
    obtain ⟨hP, hD⟩ := xjoin (wr := []) (wc := (MWs cI m0 a1 a2 a3 a4 K R L N ld o b k t)) (w1 := (MWs cI m0 a1 a2 a3 a4 K R L N ld o b k 2)) hP hD hkc hFc hP1 hD1
    generalize H1 = H at hP hS ⊢
    subst hw9
    have hP : va_P D vwCl [(m0, .inr (2, [.ref a1, .ref a2, .ref a3, .ref a4, .int (nI ld), .int (nI o), .int (nI b), .int (nI k), .int (nI 2)])), (a1, .inl (cI, 252, .inl K)), (a2, .inl (cI, 252, .inl R)), (a3, .inl (cI, 252, .inl L)), (a4, .inl (cI, 3024, .inl N))] H := hP
    have hD : va_D A [(m0, .inr (2, [.ref a1, .ref a2, .ref a3, .ref a4, .int (nI ld), .int (nI o), .int (nI b), .int (nI k), .int (nI 2)])), (a1, .inl (cI, 252, .inl K)), (a2, .inl (cI, 252, .inl R)), (a3, .inl (cI, 252, .inl L)), (a4, .inl (cI, 3024, .inl N))] := hD
    refine x_top (nI 0) rfl ?_
    refine lv_if_ne (tgt := 41) hx hb dX2_thin_36 (by decide) (fun h => absurd h (by decide)) (fun _ => ?_)
    refine lv_iconst (v := nI 0) hx hb dX2_thin_39 (by decide) ?_
    exact W.iret hx hb hr (fun t9 ht9 hW9 => ⟨⟨_, (), rfl, trivial, _, _, _, _, by rw [ht9]; exact hP, hD, hM⟩, hS.F ht9⟩) hS.2.2 dX2_thin_40

set_option maxHeartbeats 4000000 in
set_option maxRecDepth 100000 in
theorem c_X2_restore_g (l : Launch) {D : va_G} {cI cT cJ : ClassId} (m0 a1 a2 a3 a4 : Nat) (K R L N : Nat → Int32) (ld o b k t : Nat) (G : Nat → Tv) (hM : MA G K R L N) (d : Nat) (hd1 : o ≤ d) (hd2 : d ≤ ld) (hld : ld ≤ 40) (hbb : b ≤ 1) (hbk : b = 0 → k = 0) (sz : Nat) : Met l yX2_restore wsX2_restore (rmD 5 0 0) (XP D cI cT cJ [.ref m0, .int (nI d)] (fun H => H.size = sz ∧ va_P D vwCl (MWs cI m0 a1 a2 a3 a4 K R L N ld o b k t) H ∧ va_D (fun _ => True) (MWs cI m0 a1 a2 a3 a4 K R L N ld o b k t))) (va_Qi (S := Unit) (fun r _ => r = nI (dfN G d 6)) (fun _ t9 => MB D cI m0 a1 a2 a3 a4 (va_A (MWs cI m0 a1 a2 a3 a4 K R L N ld o b k t) sz) (cpL G d 6, o, ld, 0, 0) 0 t9.heap) (va_A (MWs cI m0 a1 a2 a3 a4 K R L N ld o b k t) sz)) 0 0 (va_A (MWs cI m0 a1 a2 a3 a4 K R L N ld o b k t) sz) := by
  refine Met.ofW (cc := cX2_restore) (maxL := 3) (ret := (some .int)) (by decide) rfl ?_
  intro p e s m args below meth c s₁ B hml hv
  obtain ⟨rfl, ⟨hsz, hP, hD0⟩, hE⟩ := hv
  have hx := B.exec
  have hb := B.bytes
  have hr := B.returns
  have hts := atoms_spec (ws := wsX2_restore) B.pre
  have hown : s.vm.findClass RX2 = some m.cls := findClass_of_methodNamed B.named
  have hlocks := B.notSynchronized
  have hl := lv_entry ([.ref m0, .int (nI d)]) (n := 3) (Nat.le_of_ble_eq_true rfl)
  rw [lg_entry_eq]
  generalize (lg_sl ([.ref m0, .int (nI d)]) ++ List.replicate (3 - (lg_sl ([.ref m0, .int (nI d)])).length) Slot.unset).toArray = ls at hl ⊢
  have hl : lv_has ls 3 [(0, .ref m0), (1, .int (nI d))] := hl
  have hK := hE.1
  subst hsz
  have hD := hD0.self (sz := s.heap.size)
  generalize hAe : va_A ((MWs cI m0 a1 a2 a3 a4 K R L N ld o b k t)) s.heap.size = A at hD ⊢
  have hA : ∀ q : Nat, s.heap.size ≤ q → A q := fun q h => by rw [← hAe]; exact Or.inr h
  have hS : va_S A s.heap s.heap [] := va_S.rf
  refine lv_aload_n hx hb dX2_restore_0 rfl (lv_at hl 0 rfl) ?_
  refine lv_aload_n hx hb dX2_restore_1 rfl (lv_at hl 0 rfl) ?_
  refine lv_iload_n hx hb dX2_restore_2 rfl (lv_at hl 1 rfl) ?_
  refine xc_sie (va_runV (As := [.int (nI d)]) (rest := [.ref m0]) ⟨hx, hb, hml, hown, hts⟩ (c_X2_isKept l m0 a1 a2 a3 a4 K R L N ld o b k t (nI d)) (cwV 1 hts gX2_restore_X2_isKept rfl rfl rfl (by decide +kernel) ⟨(Nat.le_of_ble_eq_true rfl), (Nat.le_of_ble_eq_true rfl)⟩) ⟨XP_blind, va_recv hK hP (ci := 2) (q0 := 0) rfl rfl, XP_pre hE hP⟩ rfl rfl hl.1 rfl (lv_room (Nat.le_of_ble_eq_true rfl)) dX2_restore_3 ⟨Nat.le_of_ble_eq_true rfl, Nat.le_of_ble_eq_true rfl⟩) ?_
  refine x_top (nI 1) (by rw [decide_eq_true (in_t hd1 hd2 (by omega))]; rfl) ?_
  refine lv_if_eq (tgt := 13) hx hb dX2_restore_6 (by decide) (fun h => absurd h (by decide)) (fun _ => ?_)
  refine lv_iconst (v := nI 0) hx hb dX2_restore_9 (by decide) ?_
  refine lv_goto (tgt := 14) hx hb dX2_restore_10 (by decide) ?_
  have hP : va_P D vwCl ([] ++ (MWs cI m0 a1 a2 a3 a4 K R L N ld o b k t)) s.heap := hP
  have hD : va_D A ([] ++ (MWs cI m0 a1 a2 a3 a4 K R L N ld o b k t)) := hD
  have hFc := xfree (wc := (MWs cI m0 a1 a2 a3 a4 K R L N ld o b k t)) hD hS hA (fun _ h => List.mem_append_right _ h)
  have hPc := xP_sub (w2 := (MWs cI m0 a1 a2 a3 a4 K R L N ld o b k t)) (fun _ h => List.mem_append_right _ h) hP
  have hDc : va_D (fun _ => True) (MWs cI m0 a1 a2 a3 a4 K R L N ld o b k t) := (xD_sub (List.sublist_append_right _ _) hD).weaken (fun _ _ _ _ => trivial)
  refine va_calli (va_runV (As := [.int (nI 0)]) (rest := []) ⟨hx, hb, hml, hown, hts⟩ (c_X2_goes l m0 a1 a2 a3 a4 K R L N ld o b k t 0 (by omega) s.heap.size) (cwV 1 hts gX2_restore_X2_goes rfl rfl rfl (by decide +kernel) ⟨(Nat.le_of_ble_eq_true rfl), (Nat.le_of_ble_eq_true rfl)⟩) ⟨XP_blind, va_recv hK hP (ci := 2) (q0 := 0) rfl rfl, XP_pre hE ⟨rfl, hPc, hDc⟩⟩ rfl rfl hl.1 rfl (lv_room (Nat.le_of_ble_eq_true rfl)) dX2_restore_14 ⟨by first | exact Nat.le_of_ble_eq_true rfl | (show _ + _ ≤ _; omega), by first | exact Nat.le_of_ble_eq_true rfl | (show _ + _ ≤ _; omega)⟩) hS (fun q9 _ h => hFc q9 h) hFc (fun r9 u t9 H1 locs ht9 hvm9 hw9 hB9 hzc hkc hS => ?_)
  obtain ⟨hP1, hD1⟩ := hB9
  rw [ht9] at hP1
  obtain ⟨hP, hD⟩ := xjoin (wr := []) (wc := (MWs cI m0 a1 a2 a3 a4 K R L N ld o b k t)) (w1 := (MWs cI m0 a1 a2 a3 a4 K R L N ld o b k 0)) hP hD hkc hFc hP1 hD1
  generalize H1 = H at hP hS ⊢
  subst hw9
  have hP : va_P D vwCl [(m0, .inr (2, [.ref a1, .ref a2, .ref a3, .ref a4, .int (nI ld), .int (nI o), .int (nI b), .int (nI k), .int (nI 0)])), (a1, .inl (cI, 252, .inl K)), (a2, .inl (cI, 252, .inl R)), (a3, .inl (cI, 252, .inl L)), (a4, .inl (cI, 3024, .inl N))] H := hP
  have hD : va_D A [(m0, .inr (2, [.ref a1, .ref a2, .ref a3, .ref a4, .int (nI ld), .int (nI o), .int (nI b), .int (nI k), .int (nI 0)])), (a1, .inl (cI, 252, .inl K)), (a2, .inl (cI, 252, .inl R)), (a3, .inl (cI, 252, .inl L)), (a4, .inl (cI, 3024, .inl N))] := hD
  refine x_top (nI 1) rfl ?_
  refine lv_if_ne (tgt := 22) hx hb dX2_restore_17 (by decide) (fun _ => ?_) (fun h => absurd h (by decide))
  refine lv_aload_n hx hb dX2_restore_22 rfl (lv_at hl 0 rfl) ?_
  have hP : va_P D vwCl ([] ++ (MWs cI m0 a1 a2 a3 a4 K R L N ld o b k 0)) H := hP
  have hD : va_D A ([] ++ (MWs cI m0 a1 a2 a3 a4 K R L N ld o b k 0)) := hD
  have hFc := xfree (wc := (MWs cI m0 a1 a2 a3 a4 K R L N ld o b k 0)) hD hS hA (fun _ h => List.mem_append_right _ h)
  have hPc := xP_sub (w2 := (MWs cI m0 a1 a2 a3 a4 K R L N ld o b k 0)) (fun _ h => List.mem_append_right _ h) hP
  have hDc : va_D (fun _ => True) (MWs cI m0 a1 a2 a3 a4 K R L N ld o b k 0) := (xD_sub (List.sublist_append_right _ _) hD).weaken (fun _ _ _ _ => trivial)
  refine va_calli (va_runV (As := []) (rest := []) ⟨hx, hb, hml, hown, hts⟩ (c_X2_mends l m0 a1 a2 a3 a4 K R L N ld o b k 0 hbb hbk H.size) (cwV 0 hts gX2_restore_X2_mends rfl rfl rfl (by decide +kernel) ⟨(Nat.le_of_ble_eq_true rfl), (Nat.le_of_ble_eq_true rfl)⟩) ⟨XP_blind, va_recv hK hP (ci := 2) (q0 := 0) rfl rfl, XP_pre hE ⟨rfl, hPc, hDc⟩⟩ rfl rfl hl.1 rfl (lv_room (Nat.le_of_ble_eq_true rfl)) dX2_restore_23 ⟨by first | exact Nat.le_of_ble_eq_true rfl | (show _ + _ ≤ _; omega), by first | exact Nat.le_of_ble_eq_true rfl | (show _ + _ ≤ _; omega)⟩) hS (fun q9 _ h => hFc q9 h) hFc (fun r9 u t9 H1 locs ht9 hvm9 hw9 hB9 hzc hkc hS => ?_)
  obtain ⟨hP1, hD1⟩ := hB9
  rw [ht9] at hP1
  obtain ⟨hP, hD⟩ := xjoin (wr := []) (wc := (MWs cI m0 a1 a2 a3 a4 K R L N ld o b k 0)) (w1 := (MWs cI m0 a1 a2 a3 a4 K R L N ld o 0 0 0)) hP hD hkc hFc hP1 hD1
  generalize H1 = H at hP hS ⊢
  subst hw9
  have hP : va_P D vwCl [(m0, .inr (2, [.ref a1, .ref a2, .ref a3, .ref a4, .int (nI ld), .int (nI o), .int (nI 0), .int (nI 0), .int (nI 0)])), (a1, .inl (cI, 252, .inl K)), (a2, .inl (cI, 252, .inl R)), (a3, .inl (cI, 252, .inl L)), (a4, .inl (cI, 3024, .inl N))] H := hP
  have hD : va_D A [(m0, .inr (2, [.ref a1, .ref a2, .ref a3, .ref a4, .int (nI ld), .int (nI o), .int (nI 0), .int (nI 0), .int (nI 0)])), (a1, .inl (cI, 252, .inl K)), (a2, .inl (cI, 252, .inl R)), (a3, .inl (cI, 252, .inl L)), (a4, .inl (cI, 3024, .inl N))] := hD
  refine lv_pop hx hb dX2_restore_26 rfl ?_
  refine lv_aload_n hx hb dX2_restore_27 rfl (lv_at hl 0 rfl) ?_
  refine lv_iload_n hx hb dX2_restore_28 rfl (lv_at hl 1 rfl) ?_
  refine xc_sie (va_runV (As := [.int (nI d)]) (rest := []) ⟨hx, hb, hml, hown, hts⟩ (c_X2_differs l m0 a1 a2 a3 a4 K R L N ld o 0 0 0 G hM d (by omega)) (cwV 1 hts gX2_restore_X2_differs rfl rfl rfl (by decide +kernel) ⟨(Nat.le_of_ble_eq_true rfl), (Nat.le_of_ble_eq_true rfl)⟩) ⟨XP_blind, va_recv hK hP (ci := 2) (q0 := 0) rfl rfl, XP_pre hE hP⟩ rfl rfl hl.1 rfl (lv_room (Nat.le_of_ble_eq_true rfl)) dX2_restore_29 ⟨Nat.le_of_ble_eq_true rfl, Nat.le_of_ble_eq_true rfl⟩) ?_
  refine lv_istore_n (lv' := [(2, .int (nI (dfN G d 6))), (0, .ref m0), (1, .int (nI d))]) hx hb dX2_restore_32 rfl hl (by decide) rfl (fun ls hl => ?_)
  refine lv_aload_n hx hb dX2_restore_33 rfl (lv_at hl 1 rfl) ?_
  refine lv_iload_n hx hb dX2_restore_34 rfl (lv_at hl 2 rfl) ?_
  refine lv_bipush (v := nI 41) hx hb dX2_restore_35 (by decide) ?_
  have hFc := xfree (wc := (MWs cI m0 a1 a2 a3 a4 K R L N ld o 0 0 0)) hD hS hA (fun _ h => h)
  refine va_callv (va_runV (As := [.int (nI d), .int (nI 41)]) (rest := []) ⟨hx, hb, hml, hown, hts⟩ (c_X2_copies l m0 a1 a2 a3 a4 K R L N ld o 0 0 0 G hM d 41 (by omega) (by omega) (by omega) H.size) (cwV 2 hts gX2_restore_X2_copies rfl rfl rfl (by decide +kernel) ⟨(Nat.le_of_ble_eq_true rfl), (Nat.le_of_ble_eq_true rfl)⟩) ⟨XP_blind, va_recv hK hP (ci := 2) (q0 := 0) rfl rfl, XP_pre hE ⟨rfl, hP, hD.weaken (fun _ _ _ _ => trivial)⟩⟩ rfl rfl hl.1 rfl (lv_room (Nat.le_of_ble_eq_true rfl)) dX2_restore_37 ⟨Nat.le_of_ble_eq_true rfl, Nat.le_of_ble_eq_true rfl⟩) hS (fun q9 _ h => hFc q9 h) hFc (fun u t9 H1 locs ht9 hvm9 hw9 hB9 hzc hkc hS => ?_)
  obtain ⟨K', R', L', N', hP1, hD1, hM'⟩ := hB9
  rw [ht9] at hP1
  obtain ⟨hP, hD⟩ := xjoin (wr := []) (wc := (MWs cI m0 a1 a2 a3 a4 K R L N ld o 0 0 0)) hP hD hkc hFc hP1 hD1
  generalize H1 = H at hP hS ⊢
  have hP : va_P D vwCl [(m0, .inr (2, [.ref a1, .ref a2, .ref a3, .ref a4, .int (nI ld), .int (nI o), .int (nI 0), .int (nI 0), .int (nI 0)])), (a1, .inl (cI, 252, .inl K')), (a2, .inl (cI, 252, .inl R')), (a3, .inl (cI, 252, .inl L')), (a4, .inl (cI, 3024, .inl N'))] H := hP
  have hD : va_D A [(m0, .inr (2, [.ref a1, .ref a2, .ref a3, .ref a4, .int (nI ld), .int (nI o), .int (nI 0), .int (nI 0), .int (nI 0)])), (a1, .inl (cI, 252, .inl K')), (a2, .inl (cI, 252, .inl R')), (a3, .inl (cI, 252, .inl L')), (a4, .inl (cI, 3024, .inl N'))] := hD
  refine lv_iload_n hx hb dX2_restore_40 rfl (lv_at hl 0 rfl) ?_
  exact W.iret hx hb hr (fun t9 ht9 hW9 => ⟨⟨_, (), rfl, rfl, _, _, _, _, by rw [ht9]; exact hP, hD, hM'⟩, hS.F ht9⟩) hS.2.2 dX2_restore_41

set_option maxHeartbeats 4000000 in
set_option maxRecDepth 100000 in
theorem c_X2_restore_b (l : Launch) {D : va_G} {cI cT cJ : ClassId} (m0 a1 a2 a3 a4 : Nat) (K R L N : Nat → Int32) (ld o b k t : Nat) (G : Nat → Tv) (hM : MA G K R L N) (v : Int32) (hld : ld ≤ 40) (hold : o ≤ ld) (hv : ¬ Kp o ld v) (sz : Nat) : Met l yX2_restore wsX2_restore (rmD 5 0 0) (XP D cI cT cJ [.ref m0, .int v] (fun H => H.size = sz ∧ va_P D vwCl (MWs cI m0 a1 a2 a3 a4 K R L N ld o b k t) H ∧ va_D (fun _ => True) (MWs cI m0 a1 a2 a3 a4 K R L N ld o b k t))) (va_Qi (S := Unit) (fun r _ => True) (fun _ t9 => MB D cI m0 a1 a2 a3 a4 (va_A (MWs cI m0 a1 a2 a3 a4 K R L N ld o b k t) sz) (G, o, ld, b, k) 1 t9.heap) (va_A (MWs cI m0 a1 a2 a3 a4 K R L N ld o b k t) sz)) 0 0 (va_A (MWs cI m0 a1 a2 a3 a4 K R L N ld o b k t) sz) := by
  refine Met.ofW (cc := cX2_restore) (maxL := 3) (ret := (some .int)) (by decide) rfl ?_
  intro p e s m args below meth c s₁ B hml hv
  obtain ⟨rfl, ⟨hsz, hP, hD0⟩, hE⟩ := hv
  have hx := B.exec
  have hb := B.bytes
  have hr := B.returns
  have hts := atoms_spec (ws := wsX2_restore) B.pre
  have hown : s.vm.findClass RX2 = some m.cls := findClass_of_methodNamed B.named
  have hlocks := B.notSynchronized
  have hl := lv_entry ([.ref m0, .int v]) (n := 3) (Nat.le_of_ble_eq_true rfl)
  rw [lg_entry_eq]
  generalize (lg_sl ([.ref m0, .int v]) ++ List.replicate (3 - (lg_sl ([.ref m0, .int v])).length) Slot.unset).toArray = ls at hl ⊢
  have hl : lv_has ls 3 [(0, .ref m0), (1, .int v)] := hl
  have hK := hE.1
  subst hsz
  have hD := hD0.self (sz := s.heap.size)
  generalize hAe : va_A ((MWs cI m0 a1 a2 a3 a4 K R L N ld o b k t)) s.heap.size = A at hD ⊢
  have hA : ∀ q : Nat, s.heap.size ≤ q → A q := fun q h => by rw [← hAe]; exact Or.inr h
  have hS : va_S A s.heap s.heap [] := va_S.rf
  refine lv_aload_n hx hb dX2_restore_0 rfl (lv_at hl 0 rfl) ?_
  refine lv_aload_n hx hb dX2_restore_1 rfl (lv_at hl 0 rfl) ?_
  refine lv_iload_n hx hb dX2_restore_2 rfl (lv_at hl 1 rfl) ?_
  refine xc_sie (va_runV (As := [.int v]) (rest := [.ref m0]) ⟨hx, hb, hml, hown, hts⟩ (c_X2_isKept l m0 a1 a2 a3 a4 K R L N ld o b k t v) (cwV 1 hts gX2_restore_X2_isKept rfl rfl rfl (by decide +kernel) ⟨(Nat.le_of_ble_eq_true rfl), (Nat.le_of_ble_eq_true rfl)⟩) ⟨XP_blind, va_recv hK hP (ci := 2) (q0 := 0) rfl rfl, XP_pre hE hP⟩ rfl rfl hl.1 rfl (lv_room (Nat.le_of_ble_eq_true rfl)) dX2_restore_3 ⟨Nat.le_of_ble_eq_true rfl, Nat.le_of_ble_eq_true rfl⟩) ?_
  refine x_top (nI 0) (by rw [decide_eq_false (kp_f hld hold hv)]; rfl) ?_
  refine lv_if_eq (tgt := 13) hx hb dX2_restore_6 (by decide) (fun _ => ?_) (fun h => absurd h (by decide))
  refine lv_iconst (v := nI 1) hx hb dX2_restore_13 (by decide) ?_
  have hP : va_P D vwCl ([] ++ (MWs cI m0 a1 a2 a3 a4 K R L N ld o b k t)) s.heap := hP
  have hD : va_D A ([] ++ (MWs cI m0 a1 a2 a3 a4 K R L N ld o b k t)) := hD
  have hFc := xfree (wc := (MWs cI m0 a1 a2 a3 a4 K R L N ld o b k t)) hD hS hA (fun _ h => List.mem_append_right _ h)
  have hPc := xP_sub (w2 := (MWs cI m0 a1 a2 a3 a4 K R L N ld o b k t)) (fun _ h => List.mem_append_right _ h) hP
  have hDc : va_D (fun _ => True) (MWs cI m0 a1 a2 a3 a4 K R L N ld o b k t) := (xD_sub (List.sublist_append_right _ _) hD).weaken (fun _ _ _ _ => trivial)
  refine va_calli (va_runV (As := [.int (nI 1)]) (rest := []) ⟨hx, hb, hml, hown, hts⟩ (c_X2_goes l m0 a1 a2 a3 a4 K R L N ld o b k t 1 (by omega) s.heap.size) (cwV 1 hts gX2_restore_X2_goes rfl rfl rfl (by decide +kernel) ⟨(Nat.le_of_ble_eq_true rfl), (Nat.le_of_ble_eq_true rfl)⟩) ⟨XP_blind, va_recv hK hP (ci := 2) (q0 := 0) rfl rfl, XP_pre hE ⟨rfl, hPc, hDc⟩⟩ rfl rfl hl.1 rfl (lv_room (Nat.le_of_ble_eq_true rfl)) dX2_restore_14 ⟨by first | exact Nat.le_of_ble_eq_true rfl | (show _ + _ ≤ _; omega), by first | exact Nat.le_of_ble_eq_true rfl | (show _ + _ ≤ _; omega)⟩) hS (fun q9 _ h => hFc q9 h) hFc (fun r9 u t9 H1 locs ht9 hvm9 hw9 hB9 hzc hkc hS => ?_)
  obtain ⟨hP1, hD1⟩ := hB9
  rw [ht9] at hP1
  obtain ⟨hP, hD⟩ := xjoin (wr := []) (wc := (MWs cI m0 a1 a2 a3 a4 K R L N ld o b k t)) (w1 := (MWs cI m0 a1 a2 a3 a4 K R L N ld o b k 1)) hP hD hkc hFc hP1 hD1
  generalize H1 = H at hP hS ⊢
  subst hw9
  have hP : va_P D vwCl [(m0, .inr (2, [.ref a1, .ref a2, .ref a3, .ref a4, .int (nI ld), .int (nI o), .int (nI b), .int (nI k), .int (nI 1)])), (a1, .inl (cI, 252, .inl K)), (a2, .inl (cI, 252, .inl R)), (a3, .inl (cI, 252, .inl L)), (a4, .inl (cI, 3024, .inl N))] H := hP
  have hD : va_D A [(m0, .inr (2, [.ref a1, .ref a2, .ref a3, .ref a4, .int (nI ld), .int (nI o), .int (nI b), .int (nI k), .int (nI 1)])), (a1, .inl (cI, 252, .inl K)), (a2, .inl (cI, 252, .inl R)), (a3, .inl (cI, 252, .inl L)), (a4, .inl (cI, 3024, .inl N))] := hD
  refine x_top (nI 0) rfl ?_
  refine lv_if_ne (tgt := 22) hx hb dX2_restore_17 (by decide) (fun h => absurd h (by decide)) (fun _ => ?_)
  refine lv_iconst (v := nI 0) hx hb dX2_restore_20 (by decide) ?_
  exact W.iret hx hb hr (fun t9 ht9 hW9 => ⟨⟨_, (), rfl, trivial, _, _, _, _, by rw [ht9]; exact hP, hD, hM⟩, hS.F ht9⟩) hS.2.2 dX2_restore_21

theorem iw_X2last_X2 : ∀ w ∈ u_ws RX2 TX2 9, w ∈ wsX2_last := by decide +kernel
set_option maxHeartbeats 4000000 in
set_option maxRecDepth 100000 in
theorem c_X2_last (l : Launch) {D : va_G} {cI cT cJ : ClassId} (m0 a1 a2 a3 a4 : Nat) (K R L N : Nat → Int32) (ld o b k t : Nat) (G : Nat → Tv) (hM : MA G K R L N)   (sz : Nat) : Met l yX2_last wsX2_last (rmD 5 0 0) (XP D cI cT cJ [.ref m0] (fun H => H.size = sz ∧ va_P D vwCl (MWs cI m0 a1 a2 a3 a4 K R L N ld o b k t) H ∧ va_D (fun _ => True) (MWs cI m0 a1 a2 a3 a4 K R L N ld o b k t))) (va_Qi (S := Unit) (fun r _ => r = nI ld) (fun _ t9 => MB D cI m0 a1 a2 a3 a4 (va_A (MWs cI m0 a1 a2 a3 a4 K R L N ld o b k t) sz) (G, o, ld, b, k) 0 t9.heap) (va_A (MWs cI m0 a1 a2 a3 a4 K R L N ld o b k t) sz)) 0 0 (va_A (MWs cI m0 a1 a2 a3 a4 K R L N ld o b k t) sz) := by
  refine Met.ofW (cc := cX2_last) (maxL := 1) (ret := (some .int)) (by decide) rfl ?_
  intro p e s m args below meth c s₁ B hml hv
  obtain ⟨rfl, ⟨hsz, hP, hD0⟩, hE⟩ := hv
  have hx := B.exec
  have hb := B.bytes
  have hr := B.returns
  have hts := atoms_spec (ws := wsX2_last) B.pre
  have hown : s.vm.findClass RX2 = some m.cls := findClass_of_methodNamed B.named
  have hlocks := B.notSynchronized
  have hl := lv_entry ([.ref m0]) (n := 1) (Nat.le_of_ble_eq_true rfl)
  rw [lg_entry_eq]
  generalize (lg_sl ([.ref m0]) ++ List.replicate (1 - (lg_sl ([.ref m0])).length) Slot.unset).toArray = ls at hl ⊢
  have hl : lv_has ls 1 [(0, .ref m0)] := hl
  have hK := hE.1
  subst hsz
  have hD := hD0.self (sz := s.heap.size)
  generalize hAe : va_A ((MWs cI m0 a1 a2 a3 a4 K R L N ld o b k t)) s.heap.size = A at hD ⊢
  have hA : ∀ q : Nat, s.heap.size ≤ q → A q := fun q h => by rw [← hAe]; exact Or.inr h
  have hS : va_S A s.heap s.heap [] := va_S.rf
  refine lv_aload_n hx hb dX2_last_0 rfl (lv_at hl 0 rfl) ?_
  refine lv_iconst (v := nI 0) hx hb dX2_last_1 (by decide) ?_
  refine va_put (ci := 2) (v := .int (nI 0)) (ty := .int) (C := RX2) (T := TX2) (N := 9) hx hb hts iw_X2last_X2 tyX2 tyX2_ok nmX2 hown hK hP hD hS 0 rfl rfl 8 (by decide) (hts (.fieldLink RX2 22 "BackMirrorModel" "thrown" "I") (by decide +kernel)) (fun _ h9 => h9) rfl (by decide +kernel) rfl rfl (Nat.le_of_ble_eq_true rfl) dX2_last_2 (fun H locs hP hD hS => ?_)
  have hP : va_P D vwCl [(m0, .inr (2, [.ref a1, .ref a2, .ref a3, .ref a4, .int (nI ld), .int (nI o), .int (nI b), .int (nI k), .int (nI 0)])), (a1, .inl (cI, 252, .inl K)), (a2, .inl (cI, 252, .inl R)), (a3, .inl (cI, 252, .inl L)), (a4, .inl (cI, 3024, .inl N))] H := hP
  have hD : va_D A [(m0, .inr (2, [.ref a1, .ref a2, .ref a3, .ref a4, .int (nI ld), .int (nI o), .int (nI b), .int (nI k), .int (nI 0)])), (a1, .inl (cI, 252, .inl K)), (a2, .inl (cI, 252, .inl R)), (a3, .inl (cI, 252, .inl L)), (a4, .inl (cI, 3024, .inl N))] := hD
  refine lv_aload_n hx hb dX2_last_5 rfl (lv_at hl 0 rfl) ?_
  refine va_get (ci := 2) (v := .int (nI ld)) (C := RX2) (T := TX2) (N := 9) hx hb hts iw_X2last_X2 hown hK hP 0 rfl rfl 4 (by decide) (hts (.fieldLink RX2 62 "BackMirrorModel" "last" "I") (by decide +kernel)) (fun _ h9 => h9) rfl dX2_last_6 ?_
  exact W.iret hx hb hr (fun t9 ht9 hW9 => ⟨⟨_, (), rfl, rfl, _, _, _, _, by rw [ht9]; exact hP, hD, hM⟩, hS.F ht9⟩) hS.2.2 dX2_last_9

theorem iw_X2oldest_X2 : ∀ w ∈ u_ws RX2 TX2 9, w ∈ wsX2_oldest := by decide +kernel
set_option maxHeartbeats 4000000 in
set_option maxRecDepth 100000 in
theorem c_X2_oldest (l : Launch) {D : va_G} {cI cT cJ : ClassId} (m0 a1 a2 a3 a4 : Nat) (K R L N : Nat → Int32) (ld o b k t : Nat) (G : Nat → Tv) (hM : MA G K R L N)   (sz : Nat) : Met l yX2_oldest wsX2_oldest (rmD 5 0 0) (XP D cI cT cJ [.ref m0] (fun H => H.size = sz ∧ va_P D vwCl (MWs cI m0 a1 a2 a3 a4 K R L N ld o b k t) H ∧ va_D (fun _ => True) (MWs cI m0 a1 a2 a3 a4 K R L N ld o b k t))) (va_Qi (S := Unit) (fun r _ => r = nI o) (fun _ t9 => MB D cI m0 a1 a2 a3 a4 (va_A (MWs cI m0 a1 a2 a3 a4 K R L N ld o b k t) sz) (G, o, ld, b, k) 0 t9.heap) (va_A (MWs cI m0 a1 a2 a3 a4 K R L N ld o b k t) sz)) 0 0 (va_A (MWs cI m0 a1 a2 a3 a4 K R L N ld o b k t) sz) := by
  refine Met.ofW (cc := cX2_oldest) (maxL := 1) (ret := (some .int)) (by decide) rfl ?_
  intro p e s m args below meth c s₁ B hml hv
  obtain ⟨rfl, ⟨hsz, hP, hD0⟩, hE⟩ := hv
  have hx := B.exec
  have hb := B.bytes
  have hr := B.returns
  have hts := atoms_spec (ws := wsX2_oldest) B.pre
  have hown : s.vm.findClass RX2 = some m.cls := findClass_of_methodNamed B.named
  have hlocks := B.notSynchronized
  have hl := lv_entry ([.ref m0]) (n := 1) (Nat.le_of_ble_eq_true rfl)
  rw [lg_entry_eq]
  generalize (lg_sl ([.ref m0]) ++ List.replicate (1 - (lg_sl ([.ref m0])).length) Slot.unset).toArray = ls at hl ⊢
  have hl : lv_has ls 1 [(0, .ref m0)] := hl
  have hK := hE.1
  subst hsz
  have hD := hD0.self (sz := s.heap.size)
  generalize hAe : va_A ((MWs cI m0 a1 a2 a3 a4 K R L N ld o b k t)) s.heap.size = A at hD ⊢
  have hA : ∀ q : Nat, s.heap.size ≤ q → A q := fun q h => by rw [← hAe]; exact Or.inr h
  have hS : va_S A s.heap s.heap [] := va_S.rf
  refine lv_aload_n hx hb dX2_oldest_0 rfl (lv_at hl 0 rfl) ?_
  refine lv_iconst (v := nI 0) hx hb dX2_oldest_1 (by decide) ?_
  refine va_put (ci := 2) (v := .int (nI 0)) (ty := .int) (C := RX2) (T := TX2) (N := 9) hx hb hts iw_X2oldest_X2 tyX2 tyX2_ok nmX2 hown hK hP hD hS 0 rfl rfl 8 (by decide) (hts (.fieldLink RX2 22 "BackMirrorModel" "thrown" "I") (by decide +kernel)) (fun _ h9 => h9) rfl (by decide +kernel) rfl rfl (Nat.le_of_ble_eq_true rfl) dX2_oldest_2 (fun H locs hP hD hS => ?_)
  have hP : va_P D vwCl [(m0, .inr (2, [.ref a1, .ref a2, .ref a3, .ref a4, .int (nI ld), .int (nI o), .int (nI b), .int (nI k), .int (nI 0)])), (a1, .inl (cI, 252, .inl K)), (a2, .inl (cI, 252, .inl R)), (a3, .inl (cI, 252, .inl L)), (a4, .inl (cI, 3024, .inl N))] H := hP
  have hD : va_D A [(m0, .inr (2, [.ref a1, .ref a2, .ref a3, .ref a4, .int (nI ld), .int (nI o), .int (nI b), .int (nI k), .int (nI 0)])), (a1, .inl (cI, 252, .inl K)), (a2, .inl (cI, 252, .inl R)), (a3, .inl (cI, 252, .inl L)), (a4, .inl (cI, 3024, .inl N))] := hD
  refine lv_aload_n hx hb dX2_oldest_5 rfl (lv_at hl 0 rfl) ?_
  refine va_get (ci := 2) (v := .int (nI o)) (C := RX2) (T := TX2) (N := 9) hx hb hts iw_X2oldest_X2 hown hK hP 0 rfl rfl 5 (by decide) (hts (.fieldLink RX2 76 "BackMirrorModel" "oldest" "I") (by decide +kernel)) (fun _ h9 => h9) rfl dX2_oldest_6 ?_
  exact W.iret hx hb hr (fun t9 ht9 hW9 => ⟨⟨_, (), rfl, rfl, _, _, _, _, by rw [ht9]; exact hP, hD, hM⟩, hS.F ht9⟩) hS.2.2 dX2_oldest_9

theorem iw_X2isBroken_X2 : ∀ w ∈ u_ws RX2 TX2 9, w ∈ wsX2_isBroken := by decide +kernel
set_option maxHeartbeats 4000000 in
set_option maxRecDepth 100000 in
theorem c_X2_isBroken (l : Launch) {D : va_G} {cI cT cJ : ClassId} (m0 a1 a2 a3 a4 : Nat) (K R L N : Nat → Int32) (ld o b k t : Nat) (G : Nat → Tv) (hM : MA G K R L N)  (hbb : b ≤ 1) (sz : Nat) : Met l yX2_isBroken wsX2_isBroken (rmD 5 0 0) (XP D cI cT cJ [.ref m0] (fun H => H.size = sz ∧ va_P D vwCl (MWs cI m0 a1 a2 a3 a4 K R L N ld o b k t) H ∧ va_D (fun _ => True) (MWs cI m0 a1 a2 a3 a4 K R L N ld o b k t))) (va_Qi (S := Unit) (fun r _ => r = nI b) (fun _ t9 => MB D cI m0 a1 a2 a3 a4 (va_A (MWs cI m0 a1 a2 a3 a4 K R L N ld o b k t) sz) (G, o, ld, b, k) 0 t9.heap) (va_A (MWs cI m0 a1 a2 a3 a4 K R L N ld o b k t) sz)) 0 0 (va_A (MWs cI m0 a1 a2 a3 a4 K R L N ld o b k t) sz) := by
  refine Met.ofW (cc := cX2_isBroken) (maxL := 1) (ret := (some .boolean)) (by decide) rfl ?_
  intro p e s m args below meth c s₁ B hml hv
  obtain ⟨rfl, ⟨hsz, hP, hD0⟩, hE⟩ := hv
  have hx := B.exec
  have hb := B.bytes
  have hr := B.returns
  have hts := atoms_spec (ws := wsX2_isBroken) B.pre
  have hown : s.vm.findClass RX2 = some m.cls := findClass_of_methodNamed B.named
  have hlocks := B.notSynchronized
  have hl := lv_entry ([.ref m0]) (n := 1) (Nat.le_of_ble_eq_true rfl)
  rw [lg_entry_eq]
  generalize (lg_sl ([.ref m0]) ++ List.replicate (1 - (lg_sl ([.ref m0])).length) Slot.unset).toArray = ls at hl ⊢
  have hl : lv_has ls 1 [(0, .ref m0)] := hl
  have hK := hE.1
  subst hsz
  have hD := hD0.self (sz := s.heap.size)
  generalize hAe : va_A ((MWs cI m0 a1 a2 a3 a4 K R L N ld o b k t)) s.heap.size = A at hD ⊢
  have hA : ∀ q : Nat, s.heap.size ≤ q → A q := fun q h => by rw [← hAe]; exact Or.inr h
  have hS : va_S A s.heap s.heap [] := va_S.rf
  refine lv_aload_n hx hb dX2_isBroken_0 rfl (lv_at hl 0 rfl) ?_
  refine lv_iconst (v := nI 0) hx hb dX2_isBroken_1 (by decide) ?_
  refine va_put (ci := 2) (v := .int (nI 0)) (ty := .int) (C := RX2) (T := TX2) (N := 9) hx hb hts iw_X2isBroken_X2 tyX2 tyX2_ok nmX2 hown hK hP hD hS 0 rfl rfl 8 (by decide) (hts (.fieldLink RX2 22 "BackMirrorModel" "thrown" "I") (by decide +kernel)) (fun _ h9 => h9) rfl (by decide +kernel) rfl rfl (Nat.le_of_ble_eq_true rfl) dX2_isBroken_2 (fun H locs hP hD hS => ?_)
  have hP : va_P D vwCl [(m0, .inr (2, [.ref a1, .ref a2, .ref a3, .ref a4, .int (nI ld), .int (nI o), .int (nI b), .int (nI k), .int (nI 0)])), (a1, .inl (cI, 252, .inl K)), (a2, .inl (cI, 252, .inl R)), (a3, .inl (cI, 252, .inl L)), (a4, .inl (cI, 3024, .inl N))] H := hP
  have hD : va_D A [(m0, .inr (2, [.ref a1, .ref a2, .ref a3, .ref a4, .int (nI ld), .int (nI o), .int (nI b), .int (nI k), .int (nI 0)])), (a1, .inl (cI, 252, .inl K)), (a2, .inl (cI, 252, .inl R)), (a3, .inl (cI, 252, .inl L)), (a4, .inl (cI, 3024, .inl N))] := hD
  refine lv_aload_n hx hb dX2_isBroken_5 rfl (lv_at hl 0 rfl) ?_
  refine va_get (ci := 2) (v := .int (nI b)) (C := RX2) (T := TX2) (N := 9) hx hb hts iw_X2isBroken_X2 hown hK hP 0 rfl rfl 6 (by decide) (hts (.fieldLink RX2 55 "BackMirrorModel" "isBroken" "Z") (by decide +kernel)) (fun _ h9 => h9) rfl dX2_isBroken_6 ?_
  exact W.zret hx hb hr (xnb _ hbb) (fun t9 ht9 hW9 => ⟨⟨_, (), rfl, rfl, _, _, _, _, by rw [ht9]; exact hP, hD, hM⟩, hS.F ht9⟩) hS.2.2 dX2_isBroken_9

theorem iw_X2needs_X2 : ∀ w ∈ u_ws RX2 TX2 9, w ∈ wsX2_needs := by decide +kernel
set_option maxHeartbeats 4000000 in
set_option maxRecDepth 100000 in
theorem c_X2_needs (l : Launch) {D : va_G} {cI cT cJ : ClassId} (m0 a1 a2 a3 a4 : Nat) (K R L N : Nat → Int32) (ld o b k t : Nat) (G : Nat → Tv) (hM : MA G K R L N)  (hld : ld ≤ 40) (sz : Nat) : Met l yX2_needs wsX2_needs (rmD 5 0 0) (XP D cI cT cJ [.ref m0] (fun H => H.size = sz ∧ va_P D vwCl (MWs cI m0 a1 a2 a3 a4 K R L N ld o b k t) H ∧ va_D (fun _ => True) (MWs cI m0 a1 a2 a3 a4 K R L N ld o b k t))) (va_Qi (S := Unit) (fun r _ => r = nI (dfN G ld 6)) (fun _ t9 => MB D cI m0 a1 a2 a3 a4 (va_A (MWs cI m0 a1 a2 a3 a4 K R L N ld o b k t) sz) (G, o, ld, b, k) 0 t9.heap) (va_A (MWs cI m0 a1 a2 a3 a4 K R L N ld o b k t) sz)) 0 0 (va_A (MWs cI m0 a1 a2 a3 a4 K R L N ld o b k t) sz) := by
  refine Met.ofW (cc := cX2_needs) (maxL := 1) (ret := (some .int)) (by decide) rfl ?_
  intro p e s m args below meth c s₁ B hml hv
  obtain ⟨rfl, ⟨hsz, hP, hD0⟩, hE⟩ := hv
  have hx := B.exec
  have hb := B.bytes
  have hr := B.returns
  have hts := atoms_spec (ws := wsX2_needs) B.pre
  have hown : s.vm.findClass RX2 = some m.cls := findClass_of_methodNamed B.named
  have hlocks := B.notSynchronized
  have hl := lv_entry ([.ref m0]) (n := 1) (Nat.le_of_ble_eq_true rfl)
  rw [lg_entry_eq]
  generalize (lg_sl ([.ref m0]) ++ List.replicate (1 - (lg_sl ([.ref m0])).length) Slot.unset).toArray = ls at hl ⊢
  have hl : lv_has ls 1 [(0, .ref m0)] := hl
  have hK := hE.1
  subst hsz
  have hD := hD0.self (sz := s.heap.size)
  generalize hAe : va_A ((MWs cI m0 a1 a2 a3 a4 K R L N ld o b k t)) s.heap.size = A at hD ⊢
  have hA : ∀ q : Nat, s.heap.size ≤ q → A q := fun q h => by rw [← hAe]; exact Or.inr h
  have hS : va_S A s.heap s.heap [] := va_S.rf
  refine lv_aload_n hx hb dX2_needs_0 rfl (lv_at hl 0 rfl) ?_
  refine lv_iconst (v := nI 0) hx hb dX2_needs_1 (by decide) ?_
  refine va_put (ci := 2) (v := .int (nI 0)) (ty := .int) (C := RX2) (T := TX2) (N := 9) hx hb hts iw_X2needs_X2 tyX2 tyX2_ok nmX2 hown hK hP hD hS 0 rfl rfl 8 (by decide) (hts (.fieldLink RX2 22 "BackMirrorModel" "thrown" "I") (by decide +kernel)) (fun _ h9 => h9) rfl (by decide +kernel) rfl rfl (Nat.le_of_ble_eq_true rfl) dX2_needs_2 (fun H locs hP hD hS => ?_)
  have hP : va_P D vwCl [(m0, .inr (2, [.ref a1, .ref a2, .ref a3, .ref a4, .int (nI ld), .int (nI o), .int (nI b), .int (nI k), .int (nI 0)])), (a1, .inl (cI, 252, .inl K)), (a2, .inl (cI, 252, .inl R)), (a3, .inl (cI, 252, .inl L)), (a4, .inl (cI, 3024, .inl N))] H := hP
  have hD : va_D A [(m0, .inr (2, [.ref a1, .ref a2, .ref a3, .ref a4, .int (nI ld), .int (nI o), .int (nI b), .int (nI k), .int (nI 0)])), (a1, .inl (cI, 252, .inl K)), (a2, .inl (cI, 252, .inl R)), (a3, .inl (cI, 252, .inl L)), (a4, .inl (cI, 3024, .inl N))] := hD
  refine lv_aload_n hx hb dX2_needs_5 rfl (lv_at hl 0 rfl) ?_
  refine lv_aload_n hx hb dX2_needs_6 rfl (lv_at hl 0 rfl) ?_
  refine va_get (ci := 2) (v := .int (nI ld)) (C := RX2) (T := TX2) (N := 9) hx hb hts iw_X2needs_X2 hown hK hP 0 rfl rfl 4 (by decide) (hts (.fieldLink RX2 62 "BackMirrorModel" "last" "I") (by decide +kernel)) (fun _ h9 => h9) rfl dX2_needs_7 ?_
  refine xc_sie (va_runV (As := [.int (nI ld)]) (rest := []) ⟨hx, hb, hml, hown, hts⟩ (c_X2_differs l m0 a1 a2 a3 a4 K R L N ld o b k 0 G hM ld (by omega)) (cwV 1 hts gX2_needs_X2_differs rfl rfl rfl (by decide +kernel) ⟨(Nat.le_of_ble_eq_true rfl), (Nat.le_of_ble_eq_true rfl)⟩) ⟨XP_blind, va_recv hK hP (ci := 2) (q0 := 0) rfl rfl, XP_pre hE hP⟩ rfl rfl hl.1 rfl (lv_room (Nat.le_of_ble_eq_true rfl)) dX2_needs_10 ⟨Nat.le_of_ble_eq_true rfl, Nat.le_of_ble_eq_true rfl⟩) ?_
  exact W.iret hx hb hr (fun t9 ht9 hW9 => ⟨⟨_, (), rfl, rfl, _, _, _, _, by rw [ht9]; exact hP, hD, hM⟩, hS.F ht9⟩) hS.2.2 dX2_needs_13

set_option maxHeartbeats 4000000 in
set_option maxRecDepth 100000 in
theorem c_X2_asks_g (l : Launch) {D : va_G} {cI cT cJ : ClassId} (m0 a1 a2 a3 a4 : Nat) (K R L N : Nat → Int32) (ld o b k t : Nat) (G : Nat → Tv) (hM : MA G K R L N) (v w : Int32) (i : Nat) (hld : ld ≤ 40) (hold : o ≤ ld) (hAT : AT o ld v w i) (sz : Nat) : Met l yX2_asks wsX2_asks (rmD 3 0 0) (XP D cI cT cJ [.ref m0, .int v, .int w] (fun H => H.size = sz ∧ va_P D vwCl (MWs cI m0 a1 a2 a3 a4 K R L N ld o b k t) H ∧ va_D (fun _ => True) (MWs cI m0 a1 a2 a3 a4 K R L N ld o b k t))) (va_Qi (S := Unit) (fun r _ => r = nI 1) (fun _ t9 => MB D cI m0 a1 a2 a3 a4 (va_A (MWs cI m0 a1 a2 a3 a4 K R L N ld o b k t) sz) (G, o, ld, b, k) 0 t9.heap) (va_A (MWs cI m0 a1 a2 a3 a4 K R L N ld o b k t) sz)) 0 0 (va_A (MWs cI m0 a1 a2 a3 a4 K R L N ld o b k t) sz) := by
  refine Met.ofW (cc := cX2_asks) (maxL := 3) (ret := (some .boolean)) (by decide) rfl ?_
  intro p e s m args below meth c s₁ B hml hv
  obtain ⟨rfl, ⟨hsz, hP, hD0⟩, hE⟩ := hv
  have hx := B.exec
  have hb := B.bytes
  have hr := B.returns
  have hts := atoms_spec (ws := wsX2_asks) B.pre
  have hown : s.vm.findClass RX2 = some m.cls := findClass_of_methodNamed B.named
  have hlocks := B.notSynchronized
  have hl := lv_entry ([.ref m0, .int v, .int w]) (n := 3) (Nat.le_of_ble_eq_true rfl)
  rw [lg_entry_eq]
  generalize (lg_sl ([.ref m0, .int v, .int w]) ++ List.replicate (3 - (lg_sl ([.ref m0, .int v, .int w])).length) Slot.unset).toArray = ls at hl ⊢
  have hl : lv_has ls 3 [(0, .ref m0), (1, .int v), (2, .int w)] := hl
  have hK := hE.1
  subst hsz
  have hD := hD0.self (sz := s.heap.size)
  generalize hAe : va_A ((MWs cI m0 a1 a2 a3 a4 K R L N ld o b k t)) s.heap.size = A at hD ⊢
  have hA : ∀ q : Nat, s.heap.size ≤ q → A q := fun q h => by rw [← hAe]; exact Or.inr h
  have hS : va_S A s.heap s.heap [] := va_S.rf
  obtain ⟨j, hj, rfl, hvv⟩ := hAT
  rcases hvv with ⟨rfl, rfl⟩ | ⟨d, h1, h2, rfl, rfl⟩
  · refine lv_aload_n hx hb dX2_asks_0 rfl (lv_at hl 0 rfl) ?_
    refine lv_iload_n hx hb dX2_asks_1 rfl (lv_at hl 1 rfl) ?_
    refine lv_iconst (v := (-1)) hx hb dX2_asks_2 (by decide) ?_
    refine lv_icmp_eq (tgt := 14) hx hb dX2_asks_3 (by decide) (fun _ => ?_) (fun h => absurd h (by decide))
    refine lv_iload_n hx hb dX2_asks_14 rfl (lv_at hl 2 rfl) ?_
    refine xc_sie (va_runS (As := [.int (nI j)]) (rest := [.ref m0]) ⟨hx, hb, hml, hown, hts⟩ (c_X2_isPlace l (nI j)) (va_cwS 1 hts gX2_asks_X2_isPlace rfl rfl rfl (by decide +kernel) ⟨(Nat.le_of_ble_eq_true rfl), (Nat.le_of_ble_eq_true rfl)⟩) ⟨XP_blind, XP_pre hE trivial⟩ rfl rfl hl.1 rfl (lv_room (Nat.le_of_ble_eq_true rfl)) dX2_asks_15 ⟨Nat.le_of_ble_eq_true rfl, Nat.le_of_ble_eq_true rfl⟩) ?_
    refine x_top (nI 1) (by rw [decide_eq_true (pl_t hj)]; rfl) ?_
    refine lv_if_eq (tgt := 25) hx hb dX2_asks_18 (by decide) (fun h => absurd h (by decide)) (fun _ => ?_)
    refine lv_iconst (v := nI 0) hx hb dX2_asks_21 (by decide) ?_
    refine lv_goto (tgt := 26) hx hb dX2_asks_22 (by decide) ?_
    have hP : va_P D vwCl ([] ++ (MWs cI m0 a1 a2 a3 a4 K R L N ld o b k t)) s.heap := hP
    have hD : va_D A ([] ++ (MWs cI m0 a1 a2 a3 a4 K R L N ld o b k t)) := hD
    have hFc := xfree (wc := (MWs cI m0 a1 a2 a3 a4 K R L N ld o b k t)) hD hS hA (fun _ h => List.mem_append_right _ h)
    have hPc := xP_sub (w2 := (MWs cI m0 a1 a2 a3 a4 K R L N ld o b k t)) (fun _ h => List.mem_append_right _ h) hP
    have hDc : va_D (fun _ => True) (MWs cI m0 a1 a2 a3 a4 K R L N ld o b k t) := (xD_sub (List.sublist_append_right _ _) hD).weaken (fun _ _ _ _ => trivial)
    refine va_calli (va_runV (As := [.int (nI 0)]) (rest := []) ⟨hx, hb, hml, hown, hts⟩ (c_X2_goes l m0 a1 a2 a3 a4 K R L N ld o b k t 0 (by omega) s.heap.size) (cwV 1 hts gX2_asks_X2_goes rfl rfl rfl (by decide +kernel) ⟨(Nat.le_of_ble_eq_true rfl), (Nat.le_of_ble_eq_true rfl)⟩) ⟨XP_blind, va_recv hK hP (ci := 2) (q0 := 0) rfl rfl, XP_pre hE ⟨rfl, hPc, hDc⟩⟩ rfl rfl hl.1 rfl (lv_room (Nat.le_of_ble_eq_true rfl)) dX2_asks_26 ⟨by first | exact Nat.le_of_ble_eq_true rfl | (show _ + _ ≤ _; omega), by first | exact Nat.le_of_ble_eq_true rfl | (show _ + _ ≤ _; omega)⟩) hS (fun q9 _ h => hFc q9 h) hFc (fun r9 u t9 H1 locs ht9 hvm9 hw9 hB9 hzc hkc hS => ?_)
    obtain ⟨hP1, hD1⟩ := hB9
    rw [ht9] at hP1
    obtain ⟨hP, hD⟩ := xjoin (wr := []) (wc := (MWs cI m0 a1 a2 a3 a4 K R L N ld o b k t)) (w1 := (MWs cI m0 a1 a2 a3 a4 K R L N ld o b k 0)) hP hD hkc hFc hP1 hD1
    generalize H1 = H at hP hS ⊢
    subst hw9
    have hP : va_P D vwCl [(m0, .inr (2, [.ref a1, .ref a2, .ref a3, .ref a4, .int (nI ld), .int (nI o), .int (nI b), .int (nI k), .int (nI 0)])), (a1, .inl (cI, 252, .inl K)), (a2, .inl (cI, 252, .inl R)), (a3, .inl (cI, 252, .inl L)), (a4, .inl (cI, 3024, .inl N))] H := hP
    have hD : va_D A [(m0, .inr (2, [.ref a1, .ref a2, .ref a3, .ref a4, .int (nI ld), .int (nI o), .int (nI b), .int (nI k), .int (nI 0)])), (a1, .inl (cI, 252, .inl K)), (a2, .inl (cI, 252, .inl R)), (a3, .inl (cI, 252, .inl L)), (a4, .inl (cI, 3024, .inl N))] := hD
    refine x_top (nI 1) rfl ?_
    exact W.zret hx hb hr (by decide) (fun t9 ht9 hW9 => ⟨⟨_, (), rfl, rfl, _, _, _, _, by rw [ht9]; exact hP, hD, hM⟩, hS.F ht9⟩) hS.2.2 dX2_asks_29
  · refine lv_aload_n hx hb dX2_asks_0 rfl (lv_at hl 0 rfl) ?_
    refine lv_iload_n hx hb dX2_asks_1 rfl (lv_at hl 1 rfl) ?_
    refine lv_iconst (v := (-1)) hx hb dX2_asks_2 (by decide) ?_
    refine lv_icmp_eq (tgt := 14) hx hb dX2_asks_3 (by decide) (fun c3 => ?_) (fun c3 => ?_)
    · exact absurd c3 (nI_m1 (by omega))
    · refine lv_aload_n hx hb dX2_asks_6 rfl (lv_at hl 0 rfl) ?_
      refine lv_iload_n hx hb dX2_asks_7 rfl (lv_at hl 1 rfl) ?_
      refine xc_sie (va_runV (As := [.int (nI d)]) (rest := [.ref m0]) ⟨hx, hb, hml, hown, hts⟩ (c_X2_isKept l m0 a1 a2 a3 a4 K R L N ld o b k t (nI d)) (cwV 1 hts gX2_asks_X2_isKept rfl rfl rfl (by decide +kernel) ⟨(Nat.le_of_ble_eq_true rfl), (Nat.le_of_ble_eq_true rfl)⟩) ⟨XP_blind, va_recv hK hP (ci := 2) (q0 := 0) rfl rfl, XP_pre hE hP⟩ rfl rfl hl.1 rfl (lv_room (Nat.le_of_ble_eq_true rfl)) dX2_asks_8 ⟨Nat.le_of_ble_eq_true rfl, Nat.le_of_ble_eq_true rfl⟩) ?_
      refine x_top (nI 1) (by rw [decide_eq_true (in_t h1 h2 (by omega))]; rfl) ?_
      refine lv_if_eq (tgt := 25) hx hb dX2_asks_11 (by decide) (fun h => absurd h (by decide)) (fun _ => ?_)
      refine lv_iload_n hx hb dX2_asks_14 rfl (lv_at hl 2 rfl) ?_
      refine xc_sie (va_runS (As := [.int (nI j)]) (rest := [.ref m0]) ⟨hx, hb, hml, hown, hts⟩ (c_X2_isPlace l (nI j)) (va_cwS 1 hts gX2_asks_X2_isPlace rfl rfl rfl (by decide +kernel) ⟨(Nat.le_of_ble_eq_true rfl), (Nat.le_of_ble_eq_true rfl)⟩) ⟨XP_blind, XP_pre hE trivial⟩ rfl rfl hl.1 rfl (lv_room (Nat.le_of_ble_eq_true rfl)) dX2_asks_15 ⟨Nat.le_of_ble_eq_true rfl, Nat.le_of_ble_eq_true rfl⟩) ?_
      refine x_top (nI 1) (by rw [decide_eq_true (pl_t hj)]; rfl) ?_
      refine lv_if_eq (tgt := 25) hx hb dX2_asks_18 (by decide) (fun h => absurd h (by decide)) (fun _ => ?_)
      refine lv_iconst (v := nI 0) hx hb dX2_asks_21 (by decide) ?_
      refine lv_goto (tgt := 26) hx hb dX2_asks_22 (by decide) ?_
      have hP : va_P D vwCl ([] ++ (MWs cI m0 a1 a2 a3 a4 K R L N ld o b k t)) s.heap := hP
      have hD : va_D A ([] ++ (MWs cI m0 a1 a2 a3 a4 K R L N ld o b k t)) := hD
      have hFc := xfree (wc := (MWs cI m0 a1 a2 a3 a4 K R L N ld o b k t)) hD hS hA (fun _ h => List.mem_append_right _ h)
      have hPc := xP_sub (w2 := (MWs cI m0 a1 a2 a3 a4 K R L N ld o b k t)) (fun _ h => List.mem_append_right _ h) hP
      have hDc : va_D (fun _ => True) (MWs cI m0 a1 a2 a3 a4 K R L N ld o b k t) := (xD_sub (List.sublist_append_right _ _) hD).weaken (fun _ _ _ _ => trivial)
      refine va_calli (va_runV (As := [.int (nI 0)]) (rest := []) ⟨hx, hb, hml, hown, hts⟩ (c_X2_goes l m0 a1 a2 a3 a4 K R L N ld o b k t 0 (by omega) s.heap.size) (cwV 1 hts gX2_asks_X2_goes rfl rfl rfl (by decide +kernel) ⟨(Nat.le_of_ble_eq_true rfl), (Nat.le_of_ble_eq_true rfl)⟩) ⟨XP_blind, va_recv hK hP (ci := 2) (q0 := 0) rfl rfl, XP_pre hE ⟨rfl, hPc, hDc⟩⟩ rfl rfl hl.1 rfl (lv_room (Nat.le_of_ble_eq_true rfl)) dX2_asks_26 ⟨by first | exact Nat.le_of_ble_eq_true rfl | (show _ + _ ≤ _; omega), by first | exact Nat.le_of_ble_eq_true rfl | (show _ + _ ≤ _; omega)⟩) hS (fun q9 _ h => hFc q9 h) hFc (fun r9 u t9 H1 locs ht9 hvm9 hw9 hB9 hzc hkc hS => ?_)
      obtain ⟨hP1, hD1⟩ := hB9
      rw [ht9] at hP1
      obtain ⟨hP, hD⟩ := xjoin (wr := []) (wc := (MWs cI m0 a1 a2 a3 a4 K R L N ld o b k t)) (w1 := (MWs cI m0 a1 a2 a3 a4 K R L N ld o b k 0)) hP hD hkc hFc hP1 hD1
      generalize H1 = H at hP hS ⊢
      subst hw9
      have hP : va_P D vwCl [(m0, .inr (2, [.ref a1, .ref a2, .ref a3, .ref a4, .int (nI ld), .int (nI o), .int (nI b), .int (nI k), .int (nI 0)])), (a1, .inl (cI, 252, .inl K)), (a2, .inl (cI, 252, .inl R)), (a3, .inl (cI, 252, .inl L)), (a4, .inl (cI, 3024, .inl N))] H := hP
      have hD : va_D A [(m0, .inr (2, [.ref a1, .ref a2, .ref a3, .ref a4, .int (nI ld), .int (nI o), .int (nI b), .int (nI k), .int (nI 0)])), (a1, .inl (cI, 252, .inl K)), (a2, .inl (cI, 252, .inl R)), (a3, .inl (cI, 252, .inl L)), (a4, .inl (cI, 3024, .inl N))] := hD
      refine x_top (nI 1) rfl ?_
      exact W.zret hx hb hr (by decide) (fun t9 ht9 hW9 => ⟨⟨_, (), rfl, rfl, _, _, _, _, by rw [ht9]; exact hP, hD, hM⟩, hS.F ht9⟩) hS.2.2 dX2_asks_29

set_option maxHeartbeats 4000000 in
set_option maxRecDepth 100000 in
theorem c_X2_asks_b (l : Launch) {D : va_G} {cI cT cJ : ClassId} (m0 a1 a2 a3 a4 : Nat) (K R L N : Nat → Int32) (ld o b k t : Nat) (G : Nat → Tv) (hM : MA G K R L N) (v w : Int32) (hld : ld ≤ 40) (hold : o ≤ ld) (hAT : ¬ ∃ i, AT o ld v w i) (sz : Nat) : Met l yX2_asks wsX2_asks (rmD 3 0 0) (XP D cI cT cJ [.ref m0, .int v, .int w] (fun H => H.size = sz ∧ va_P D vwCl (MWs cI m0 a1 a2 a3 a4 K R L N ld o b k t) H ∧ va_D (fun _ => True) (MWs cI m0 a1 a2 a3 a4 K R L N ld o b k t))) (va_Qi (S := Unit) (fun r _ => r = nI 0) (fun _ t9 => MB D cI m0 a1 a2 a3 a4 (va_A (MWs cI m0 a1 a2 a3 a4 K R L N ld o b k t) sz) (G, o, ld, b, k) 1 t9.heap) (va_A (MWs cI m0 a1 a2 a3 a4 K R L N ld o b k t) sz)) 0 0 (va_A (MWs cI m0 a1 a2 a3 a4 K R L N ld o b k t) sz) := by
  refine Met.ofW (cc := cX2_asks) (maxL := 3) (ret := (some .boolean)) (by decide) rfl ?_
  intro p e s m args below meth c s₁ B hml hv
  obtain ⟨rfl, ⟨hsz, hP, hD0⟩, hE⟩ := hv
  have hx := B.exec
  have hb := B.bytes
  have hr := B.returns
  have hts := atoms_spec (ws := wsX2_asks) B.pre
  have hown : s.vm.findClass RX2 = some m.cls := findClass_of_methodNamed B.named
  have hlocks := B.notSynchronized
  have hl := lv_entry ([.ref m0, .int v, .int w]) (n := 3) (Nat.le_of_ble_eq_true rfl)
  rw [lg_entry_eq]
  generalize (lg_sl ([.ref m0, .int v, .int w]) ++ List.replicate (3 - (lg_sl ([.ref m0, .int v, .int w])).length) Slot.unset).toArray = ls at hl ⊢
  have hl : lv_has ls 3 [(0, .ref m0), (1, .int v), (2, .int w)] := hl
  have hK := hE.1
  subst hsz
  have hD := hD0.self (sz := s.heap.size)
  generalize hAe : va_A ((MWs cI m0 a1 a2 a3 a4 K R L N ld o b k t)) s.heap.size = A at hD ⊢
  have hA : ∀ q : Nat, s.heap.size ≤ q → A q := fun q h => by rw [← hAe]; exact Or.inr h
  have hS : va_S A s.heap s.heap [] := va_S.rf
  refine lv_aload_n hx hb dX2_asks_0 rfl (lv_at hl 0 rfl) ?_
  refine lv_iload_n hx hb dX2_asks_1 rfl (lv_at hl 1 rfl) ?_
  refine lv_iconst (v := (-1)) hx hb dX2_asks_2 (by decide) ?_
  refine lv_icmp_eq (tgt := 14) hx hb dX2_asks_3 (by decide) (fun c3 => ?_) (fun c3 => ?_)
  · refine lv_iload_n hx hb dX2_asks_14 rfl (lv_at hl 2 rfl) ?_
    refine xc_sie (va_runS (As := [.int w]) (rest := [.ref m0]) ⟨hx, hb, hml, hown, hts⟩ (c_X2_isPlace l w) (va_cwS 1 hts gX2_asks_X2_isPlace rfl rfl rfl (by decide +kernel) ⟨(Nat.le_of_ble_eq_true rfl), (Nat.le_of_ble_eq_true rfl)⟩) ⟨XP_blind, XP_pre hE trivial⟩ rfl rfl hl.1 rfl (lv_room (Nat.le_of_ble_eq_true rfl)) dX2_asks_15 ⟨Nat.le_of_ble_eq_true rfl, Nat.le_of_ble_eq_true rfl⟩) ?_
    refine lv_if_eq (tgt := 25) hx hb dX2_asks_18 (by decide) (fun c18 => ?_) (fun c18 => ?_)
    · have c18 : (decide (nI 0 ≤ w ∧ w ≤ nI 5)) = false := bN_f c18
      refine lv_iconst (v := nI 1) hx hb dX2_asks_25 (by decide) ?_
      have hP : va_P D vwCl ([] ++ (MWs cI m0 a1 a2 a3 a4 K R L N ld o b k t)) s.heap := hP
      have hD : va_D A ([] ++ (MWs cI m0 a1 a2 a3 a4 K R L N ld o b k t)) := hD
      have hFc := xfree (wc := (MWs cI m0 a1 a2 a3 a4 K R L N ld o b k t)) hD hS hA (fun _ h => List.mem_append_right _ h)
      have hPc := xP_sub (w2 := (MWs cI m0 a1 a2 a3 a4 K R L N ld o b k t)) (fun _ h => List.mem_append_right _ h) hP
      have hDc : va_D (fun _ => True) (MWs cI m0 a1 a2 a3 a4 K R L N ld o b k t) := (xD_sub (List.sublist_append_right _ _) hD).weaken (fun _ _ _ _ => trivial)
      refine va_calli (va_runV (As := [.int (nI 1)]) (rest := []) ⟨hx, hb, hml, hown, hts⟩ (c_X2_goes l m0 a1 a2 a3 a4 K R L N ld o b k t 1 (by omega) s.heap.size) (cwV 1 hts gX2_asks_X2_goes rfl rfl rfl (by decide +kernel) ⟨(Nat.le_of_ble_eq_true rfl), (Nat.le_of_ble_eq_true rfl)⟩) ⟨XP_blind, va_recv hK hP (ci := 2) (q0 := 0) rfl rfl, XP_pre hE ⟨rfl, hPc, hDc⟩⟩ rfl rfl hl.1 rfl (lv_room (Nat.le_of_ble_eq_true rfl)) dX2_asks_26 ⟨by first | exact Nat.le_of_ble_eq_true rfl | (show _ + _ ≤ _; omega), by first | exact Nat.le_of_ble_eq_true rfl | (show _ + _ ≤ _; omega)⟩) hS (fun q9 _ h => hFc q9 h) hFc (fun r9 u t9 H1 locs ht9 hvm9 hw9 hB9 hzc hkc hS => ?_)
      obtain ⟨hP1, hD1⟩ := hB9
      rw [ht9] at hP1
      obtain ⟨hP, hD⟩ := xjoin (wr := []) (wc := (MWs cI m0 a1 a2 a3 a4 K R L N ld o b k t)) (w1 := (MWs cI m0 a1 a2 a3 a4 K R L N ld o b k 1)) hP hD hkc hFc hP1 hD1
      generalize H1 = H at hP hS ⊢
      subst hw9
      have hP : va_P D vwCl [(m0, .inr (2, [.ref a1, .ref a2, .ref a3, .ref a4, .int (nI ld), .int (nI o), .int (nI b), .int (nI k), .int (nI 1)])), (a1, .inl (cI, 252, .inl K)), (a2, .inl (cI, 252, .inl R)), (a3, .inl (cI, 252, .inl L)), (a4, .inl (cI, 3024, .inl N))] H := hP
      have hD : va_D A [(m0, .inr (2, [.ref a1, .ref a2, .ref a3, .ref a4, .int (nI ld), .int (nI o), .int (nI b), .int (nI k), .int (nI 1)])), (a1, .inl (cI, 252, .inl K)), (a2, .inl (cI, 252, .inl R)), (a3, .inl (cI, 252, .inl L)), (a4, .inl (cI, 3024, .inl N))] := hD
      refine x_top (nI 0) rfl ?_
      exact W.zret hx hb hr (by decide) (fun t9 ht9 hW9 => ⟨⟨_, (), rfl, rfl, _, _, _, _, by rw [ht9]; exact hP, hD, hM⟩, hS.F ht9⟩) hS.2.2 dX2_asks_29
    · have c18 : (decide (nI 0 ≤ w ∧ w ≤ nI 5)) = true := bN_t c18
      exact absurd (by obtain ⟨j, hj, rfl⟩ := pl_of c18; first | exact ⟨_, j, hj, rfl, Or.inl ⟨c3, rfl⟩⟩ | (obtain ⟨d, h1, h2, rfl⟩ := kp_of hld hold c11; exact ⟨_, j, hj, rfl, Or.inr ⟨d, h1, h2, rfl, rfl⟩⟩)) hAT
  · refine lv_aload_n hx hb dX2_asks_6 rfl (lv_at hl 0 rfl) ?_
    refine lv_iload_n hx hb dX2_asks_7 rfl (lv_at hl 1 rfl) ?_
    refine xc_sie (va_runV (As := [.int v]) (rest := [.ref m0]) ⟨hx, hb, hml, hown, hts⟩ (c_X2_isKept l m0 a1 a2 a3 a4 K R L N ld o b k t v) (cwV 1 hts gX2_asks_X2_isKept rfl rfl rfl (by decide +kernel) ⟨(Nat.le_of_ble_eq_true rfl), (Nat.le_of_ble_eq_true rfl)⟩) ⟨XP_blind, va_recv hK hP (ci := 2) (q0 := 0) rfl rfl, XP_pre hE hP⟩ rfl rfl hl.1 rfl (lv_room (Nat.le_of_ble_eq_true rfl)) dX2_asks_8 ⟨Nat.le_of_ble_eq_true rfl, Nat.le_of_ble_eq_true rfl⟩) ?_
    refine lv_if_eq (tgt := 25) hx hb dX2_asks_11 (by decide) (fun c11 => ?_) (fun c11 => ?_)
    · have c11 : (decide (nI o ≤ v ∧ v ≤ nI ld)) = false := bN_f c11
      refine lv_iconst (v := nI 1) hx hb dX2_asks_25 (by decide) ?_
      have hP : va_P D vwCl ([] ++ (MWs cI m0 a1 a2 a3 a4 K R L N ld o b k t)) s.heap := hP
      have hD : va_D A ([] ++ (MWs cI m0 a1 a2 a3 a4 K R L N ld o b k t)) := hD
      have hFc := xfree (wc := (MWs cI m0 a1 a2 a3 a4 K R L N ld o b k t)) hD hS hA (fun _ h => List.mem_append_right _ h)
      have hPc := xP_sub (w2 := (MWs cI m0 a1 a2 a3 a4 K R L N ld o b k t)) (fun _ h => List.mem_append_right _ h) hP
      have hDc : va_D (fun _ => True) (MWs cI m0 a1 a2 a3 a4 K R L N ld o b k t) := (xD_sub (List.sublist_append_right _ _) hD).weaken (fun _ _ _ _ => trivial)
      refine va_calli (va_runV (As := [.int (nI 1)]) (rest := []) ⟨hx, hb, hml, hown, hts⟩ (c_X2_goes l m0 a1 a2 a3 a4 K R L N ld o b k t 1 (by omega) s.heap.size) (cwV 1 hts gX2_asks_X2_goes rfl rfl rfl (by decide +kernel) ⟨(Nat.le_of_ble_eq_true rfl), (Nat.le_of_ble_eq_true rfl)⟩) ⟨XP_blind, va_recv hK hP (ci := 2) (q0 := 0) rfl rfl, XP_pre hE ⟨rfl, hPc, hDc⟩⟩ rfl rfl hl.1 rfl (lv_room (Nat.le_of_ble_eq_true rfl)) dX2_asks_26 ⟨by first | exact Nat.le_of_ble_eq_true rfl | (show _ + _ ≤ _; omega), by first | exact Nat.le_of_ble_eq_true rfl | (show _ + _ ≤ _; omega)⟩) hS (fun q9 _ h => hFc q9 h) hFc (fun r9 u t9 H1 locs ht9 hvm9 hw9 hB9 hzc hkc hS => ?_)
      obtain ⟨hP1, hD1⟩ := hB9
      rw [ht9] at hP1
      obtain ⟨hP, hD⟩ := xjoin (wr := []) (wc := (MWs cI m0 a1 a2 a3 a4 K R L N ld o b k t)) (w1 := (MWs cI m0 a1 a2 a3 a4 K R L N ld o b k 1)) hP hD hkc hFc hP1 hD1
      generalize H1 = H at hP hS ⊢
      subst hw9
      have hP : va_P D vwCl [(m0, .inr (2, [.ref a1, .ref a2, .ref a3, .ref a4, .int (nI ld), .int (nI o), .int (nI b), .int (nI k), .int (nI 1)])), (a1, .inl (cI, 252, .inl K)), (a2, .inl (cI, 252, .inl R)), (a3, .inl (cI, 252, .inl L)), (a4, .inl (cI, 3024, .inl N))] H := hP
      have hD : va_D A [(m0, .inr (2, [.ref a1, .ref a2, .ref a3, .ref a4, .int (nI ld), .int (nI o), .int (nI b), .int (nI k), .int (nI 1)])), (a1, .inl (cI, 252, .inl K)), (a2, .inl (cI, 252, .inl R)), (a3, .inl (cI, 252, .inl L)), (a4, .inl (cI, 3024, .inl N))] := hD
      refine x_top (nI 0) rfl ?_
      exact W.zret hx hb hr (by decide) (fun t9 ht9 hW9 => ⟨⟨_, (), rfl, rfl, _, _, _, _, by rw [ht9]; exact hP, hD, hM⟩, hS.F ht9⟩) hS.2.2 dX2_asks_29
    · have c11 : (decide (nI o ≤ v ∧ v ≤ nI ld)) = true := bN_t c11
      refine lv_iload_n hx hb dX2_asks_14 rfl (lv_at hl 2 rfl) ?_
      refine xc_sie (va_runS (As := [.int w]) (rest := [.ref m0]) ⟨hx, hb, hml, hown, hts⟩ (c_X2_isPlace l w) (va_cwS 1 hts gX2_asks_X2_isPlace rfl rfl rfl (by decide +kernel) ⟨(Nat.le_of_ble_eq_true rfl), (Nat.le_of_ble_eq_true rfl)⟩) ⟨XP_blind, XP_pre hE trivial⟩ rfl rfl hl.1 rfl (lv_room (Nat.le_of_ble_eq_true rfl)) dX2_asks_15 ⟨Nat.le_of_ble_eq_true rfl, Nat.le_of_ble_eq_true rfl⟩) ?_
      refine lv_if_eq (tgt := 25) hx hb dX2_asks_18 (by decide) (fun c18 => ?_) (fun c18 => ?_)
      · have c18 : (decide (nI 0 ≤ w ∧ w ≤ nI 5)) = false := bN_f c18
        refine lv_iconst (v := nI 1) hx hb dX2_asks_25 (by decide) ?_
        have hP : va_P D vwCl ([] ++ (MWs cI m0 a1 a2 a3 a4 K R L N ld o b k t)) s.heap := hP
        have hD : va_D A ([] ++ (MWs cI m0 a1 a2 a3 a4 K R L N ld o b k t)) := hD
        have hFc := xfree (wc := (MWs cI m0 a1 a2 a3 a4 K R L N ld o b k t)) hD hS hA (fun _ h => List.mem_append_right _ h)
        have hPc := xP_sub (w2 := (MWs cI m0 a1 a2 a3 a4 K R L N ld o b k t)) (fun _ h => List.mem_append_right _ h) hP
        have hDc : va_D (fun _ => True) (MWs cI m0 a1 a2 a3 a4 K R L N ld o b k t) := (xD_sub (List.sublist_append_right _ _) hD).weaken (fun _ _ _ _ => trivial)
        refine va_calli (va_runV (As := [.int (nI 1)]) (rest := []) ⟨hx, hb, hml, hown, hts⟩ (c_X2_goes l m0 a1 a2 a3 a4 K R L N ld o b k t 1 (by omega) s.heap.size) (cwV 1 hts gX2_asks_X2_goes rfl rfl rfl (by decide +kernel) ⟨(Nat.le_of_ble_eq_true rfl), (Nat.le_of_ble_eq_true rfl)⟩) ⟨XP_blind, va_recv hK hP (ci := 2) (q0 := 0) rfl rfl, XP_pre hE ⟨rfl, hPc, hDc⟩⟩ rfl rfl hl.1 rfl (lv_room (Nat.le_of_ble_eq_true rfl)) dX2_asks_26 ⟨by first | exact Nat.le_of_ble_eq_true rfl | (show _ + _ ≤ _; omega), by first | exact Nat.le_of_ble_eq_true rfl | (show _ + _ ≤ _; omega)⟩) hS (fun q9 _ h => hFc q9 h) hFc (fun r9 u t9 H1 locs ht9 hvm9 hw9 hB9 hzc hkc hS => ?_)
        obtain ⟨hP1, hD1⟩ := hB9
        rw [ht9] at hP1
        obtain ⟨hP, hD⟩ := xjoin (wr := []) (wc := (MWs cI m0 a1 a2 a3 a4 K R L N ld o b k t)) (w1 := (MWs cI m0 a1 a2 a3 a4 K R L N ld o b k 1)) hP hD hkc hFc hP1 hD1
        generalize H1 = H at hP hS ⊢
        subst hw9
        have hP : va_P D vwCl [(m0, .inr (2, [.ref a1, .ref a2, .ref a3, .ref a4, .int (nI ld), .int (nI o), .int (nI b), .int (nI k), .int (nI 1)])), (a1, .inl (cI, 252, .inl K)), (a2, .inl (cI, 252, .inl R)), (a3, .inl (cI, 252, .inl L)), (a4, .inl (cI, 3024, .inl N))] H := hP
        have hD : va_D A [(m0, .inr (2, [.ref a1, .ref a2, .ref a3, .ref a4, .int (nI ld), .int (nI o), .int (nI b), .int (nI k), .int (nI 1)])), (a1, .inl (cI, 252, .inl K)), (a2, .inl (cI, 252, .inl R)), (a3, .inl (cI, 252, .inl L)), (a4, .inl (cI, 3024, .inl N))] := hD
        refine x_top (nI 0) rfl ?_
        exact W.zret hx hb hr (by decide) (fun t9 ht9 hW9 => ⟨⟨_, (), rfl, rfl, _, _, _, _, by rw [ht9]; exact hP, hD, hM⟩, hS.F ht9⟩) hS.2.2 dX2_asks_29
      · have c18 : (decide (nI 0 ≤ w ∧ w ≤ nI 5)) = true := bN_t c18
        exact absurd (by obtain ⟨j, hj, rfl⟩ := pl_of c18; first | exact ⟨_, j, hj, rfl, Or.inl ⟨c3, rfl⟩⟩ | (obtain ⟨d, h1, h2, rfl⟩ := kp_of hld hold c11; exact ⟨_, j, hj, rfl, Or.inr ⟨d, h1, h2, rfl, rfl⟩⟩)) hAT

set_option maxHeartbeats 4000000 in
set_option maxRecDepth 100000 in
theorem c_X2_where (l : Launch) {D : va_G} {cI cT cJ : ClassId} (o ld : Nat) (v w : Int32) (i : Nat) (hld : ld ≤ 40) (hold : o ≤ ld) (hAT : AT o ld v w i) : Met l yX2_where wsX2_where (rmD 2 0 0) (XP D cI cT cJ [.int v, .int w] (fun _ => True)) (XSi (fun r => r = nI i)) 0 0 (fun _ => False) := by
  refine Met.ofW (cc := cX2_where) (maxL := 2) (ret := (some .int)) (by decide) rfl ?_
  intro p e s m args below meth c s₁ B hml hv
  obtain ⟨rfl, -, hE⟩ := hv
  have hx := B.exec
  have hb := B.bytes
  have hr := B.returns
  have hts := atoms_spec (ws := wsX2_where) B.pre
  have hown : s.vm.findClass RX2 = some m.cls := findClass_of_methodNamed B.named
  have hlocks := B.notSynchronized
  have hl := lv_entry ([.int v, .int w]) (n := 2) (Nat.le_of_ble_eq_true rfl)
  rw [lg_entry_eq]
  generalize (lg_sl ([.int v, .int w]) ++ List.replicate (2 - (lg_sl ([.int v, .int w])).length) Slot.unset).toArray = ls at hl ⊢
  have hl : lv_has ls 2 [(0, .int v), (1, .int w)] := hl
  have hK := hE.1
  obtain ⟨j, hj, rfl, hvv⟩ := hAT
  rcases hvv with ⟨rfl, rfl⟩ | ⟨d, h1, h2, rfl, rfl⟩
  · refine lv_iload_n hx hb dX2_where_0 rfl (lv_at hl 0 rfl) ?_
    refine lv_iconst (v := (-1)) hx hb dX2_where_1 (by decide) ?_
    refine lv_icmp_ne (tgt := 10) hx hb dX2_where_2 (by decide) (fun h => absurd h (by decide)) (fun _ => ?_)
    refine lv_bipush (v := nI 41) hx hb dX2_where_5 (by decide) ?_
    refine lv_goto (tgt := 11) hx hb dX2_where_7 (by decide) ?_
    refine lv_iload_n hx hb dX2_where_11 rfl (lv_at hl 1 rfl) ?_
    refine xc_sie (va_runS (As := [.int (nI 41), .int (nI j)]) (rest := []) ⟨hx, hb, hml, hown, hts⟩ (c_X2_at l 41 j) (va_cwS 2 hts gX2_where_X2_at rfl rfl rfl (by decide +kernel) ⟨(Nat.le_of_ble_eq_true rfl), (Nat.le_of_ble_eq_true rfl)⟩) ⟨XP_blind, XP_pre hE trivial⟩ rfl rfl hl.1 rfl (lv_room (Nat.le_of_ble_eq_true rfl)) dX2_where_12 ⟨Nat.le_of_ble_eq_true rfl, Nat.le_of_ble_eq_true rfl⟩) ?_
    refine x_top (nI (246 + j)) rfl ?_
    exact W.iret hx hb hr (fun t9 ht9 hW9 => ⟨_, rfl, rfl, ht9⟩) (fun _ h => nomatch h) dX2_where_15
  · refine lv_iload_n hx hb dX2_where_0 rfl (lv_at hl 0 rfl) ?_
    refine lv_iconst (v := (-1)) hx hb dX2_where_1 (by decide) ?_
    refine lv_icmp_ne (tgt := 10) hx hb dX2_where_2 (by decide) (fun c2 => ?_) (fun c2 => ?_)
    · refine lv_iload_n hx hb dX2_where_10 rfl (lv_at hl 0 rfl) ?_
      refine lv_iload_n hx hb dX2_where_11 rfl (lv_at hl 1 rfl) ?_
      refine xc_sie (va_runS (As := [.int (nI d), .int (nI j)]) (rest := []) ⟨hx, hb, hml, hown, hts⟩ (c_X2_at l d j) (va_cwS 2 hts gX2_where_X2_at rfl rfl rfl (by decide +kernel) ⟨(Nat.le_of_ble_eq_true rfl), (Nat.le_of_ble_eq_true rfl)⟩) ⟨XP_blind, XP_pre hE trivial⟩ rfl rfl hl.1 rfl (lv_room (Nat.le_of_ble_eq_true rfl)) dX2_where_12 ⟨Nat.le_of_ble_eq_true rfl, Nat.le_of_ble_eq_true rfl⟩) ?_
      exact W.iret hx hb hr (fun t9 ht9 hW9 => ⟨_, rfl, rfl, ht9⟩) (fun _ h => nomatch h) dX2_where_15
    · exact absurd c2 (nI_m1 (by omega))

theorem AT_lt {o ld i : Nat} {v w : Int32} (hld : ld ≤ 40) (h : AT o ld v w i) : i < 252 := by
  obtain ⟨j, hj, -, ⟨-, rfl⟩ | ⟨d, -, h2, -, rfl⟩⟩ := h <;> omega

theorem iw_X2kindAt_X2 : ∀ w ∈ u_ws RX2 TX2 9, w ∈ wsX2_kindAt := by decide +kernel
set_option maxHeartbeats 4000000 in
set_option maxRecDepth 100000 in
theorem c_X2_kindAt_g (l : Launch) {D : va_G} {cI cT cJ : ClassId} (m0 a1 a2 a3 a4 : Nat) (K R L N : Nat → Int32) (ld o b k t : Nat) (G : Nat → Tv) (hM : MA G K R L N) (v w : Int32) (i : Nat) (hld : ld ≤ 40) (hold : o ≤ ld) (hAT : AT o ld v w i) (sz : Nat) : Met l yX2_kindAt wsX2_kindAt (rmD 5 0 0) (XP D cI cT cJ [.ref m0, .int v, .int w] (fun H => H.size = sz ∧ va_P D vwCl (MWs cI m0 a1 a2 a3 a4 K R L N ld o b k t) H ∧ va_D (fun _ => True) (MWs cI m0 a1 a2 a3 a4 K R L N ld o b k t))) (va_Qi (S := Unit) (fun r _ => r = (G i).1) (fun _ t9 => MB D cI m0 a1 a2 a3 a4 (va_A (MWs cI m0 a1 a2 a3 a4 K R L N ld o b k t) sz) (G, o, ld, b, k) 0 t9.heap) (va_A (MWs cI m0 a1 a2 a3 a4 K R L N ld o b k t) sz)) 0 0 (va_A (MWs cI m0 a1 a2 a3 a4 K R L N ld o b k t) sz) := by
  refine Met.ofW (cc := cX2_kindAt) (maxL := 3) (ret := (some .int)) (by decide) rfl ?_
  intro p e s m args below meth c s₁ B hml hv
  obtain ⟨rfl, ⟨hsz, hP, hD0⟩, hE⟩ := hv
  have hx := B.exec
  have hb := B.bytes
  have hr := B.returns
  have hts := atoms_spec (ws := wsX2_kindAt) B.pre
  have hown : s.vm.findClass RX2 = some m.cls := findClass_of_methodNamed B.named
  have hlocks := B.notSynchronized
  have hl := lv_entry ([.ref m0, .int v, .int w]) (n := 3) (Nat.le_of_ble_eq_true rfl)
  rw [lg_entry_eq]
  generalize (lg_sl ([.ref m0, .int v, .int w]) ++ List.replicate (3 - (lg_sl ([.ref m0, .int v, .int w])).length) Slot.unset).toArray = ls at hl ⊢
  have hl : lv_has ls 3 [(0, .ref m0), (1, .int v), (2, .int w)] := hl
  have hK := hE.1
  subst hsz
  have hD := hD0.self (sz := s.heap.size)
  generalize hAe : va_A ((MWs cI m0 a1 a2 a3 a4 K R L N ld o b k t)) s.heap.size = A at hD ⊢
  have hA : ∀ q : Nat, s.heap.size ≤ q → A q := fun q h => by rw [← hAe]; exact Or.inr h
  have hS : va_S A s.heap s.heap [] := va_S.rf
  have hib := AT_lt hld hAT
  refine lv_aload_n hx hb dX2_kindAt_0 rfl (lv_at hl 0 rfl) ?_
  refine lv_iload_n hx hb dX2_kindAt_1 rfl (lv_at hl 1 rfl) ?_
  refine lv_iload_n hx hb dX2_kindAt_2 rfl (lv_at hl 2 rfl) ?_
  have hFc := xfree (wc := (MWs cI m0 a1 a2 a3 a4 K R L N ld o b k t)) hD hS hA (fun _ h => h)
  refine va_calli (va_runV (As := [.int v, .int w]) (rest := []) ⟨hx, hb, hml, hown, hts⟩ (c_X2_asks_g l m0 a1 a2 a3 a4 K R L N ld o b k t G hM v w i hld hold hAT s.heap.size) (cwV 2 hts gX2_kindAt_X2_asks rfl rfl rfl (by decide +kernel) ⟨(Nat.le_of_ble_eq_true rfl), (Nat.le_of_ble_eq_true rfl)⟩) ⟨XP_blind, va_recv hK hP (ci := 2) (q0 := 0) rfl rfl, XP_pre hE ⟨rfl, hP, hD.weaken (fun _ _ _ _ => trivial)⟩⟩ rfl rfl hl.1 rfl (lv_room (Nat.le_of_ble_eq_true rfl)) dX2_kindAt_3 ⟨Nat.le_of_ble_eq_true rfl, Nat.le_of_ble_eq_true rfl⟩) hS (fun q9 _ h => hFc q9 h) hFc (fun r9 u t9 H1 locs ht9 hvm9 hw9 hB9 hzc hkc hS => ?_)
  obtain ⟨K', R', L', N', hP1, hD1, hM⟩ := hB9
  rw [ht9] at hP1
  subst hw9
  obtain ⟨hP, hD⟩ := xjoin (wr := []) (wc := (MWs cI m0 a1 a2 a3 a4 K R L N ld o b k t)) hP hD hkc hFc hP1 hD1
  generalize H1 = H at hP hS ⊢
  have hM : MA G K' R' L' N' := hM
  have hP : va_P D vwCl [(m0, .inr (2, [.ref a1, .ref a2, .ref a3, .ref a4, .int (nI ld), .int (nI o), .int (nI b), .int (nI k), .int (nI 0)])), (a1, .inl (cI, 252, .inl K')), (a2, .inl (cI, 252, .inl R')), (a3, .inl (cI, 252, .inl L')), (a4, .inl (cI, 3024, .inl N'))] H := hP
  have hD : va_D A [(m0, .inr (2, [.ref a1, .ref a2, .ref a3, .ref a4, .int (nI ld), .int (nI o), .int (nI b), .int (nI k), .int (nI 0)])), (a1, .inl (cI, 252, .inl K')), (a2, .inl (cI, 252, .inl R')), (a3, .inl (cI, 252, .inl L')), (a4, .inl (cI, 3024, .inl N'))] := hD
  refine lv_if_eq (tgt := 22) hx hb dX2_kindAt_6 (by decide) (fun h => absurd h (by decide)) (fun _ => ?_)
  refine lv_aload_n hx hb dX2_kindAt_9 rfl (lv_at hl 0 rfl) ?_
  refine va_get (ci := 2) (v := .ref a1) (C := RX2) (T := TX2) (N := 9) hx hb hts iw_X2kindAt_X2 hown hK hP 0 rfl rfl 0 (by decide) (hts (.fieldLink RX2 7 "BackMirrorModel" "kinds" "[I") (by decide +kernel)) (fun _ h9 => h9) rfl dX2_kindAt_10 ?_
  refine lv_iload_n hx hb dX2_kindAt_13 rfl (lv_at hl 1 rfl) ?_
  refine lv_iload_n hx hb dX2_kindAt_14 rfl (lv_at hl 2 rfl) ?_
  refine xc_sie (va_runS (As := [.int v, .int w]) (rest := [.ref a1]) ⟨hx, hb, hml, hown, hts⟩ (c_X2_where l o ld v w i hld hold hAT) (va_cwS 2 hts gX2_kindAt_X2_where rfl rfl rfl (by decide +kernel) ⟨(Nat.le_of_ble_eq_true rfl), (Nat.le_of_ble_eq_true rfl)⟩) ⟨XP_blind, XP_pre hE trivial⟩ rfl rfl hl.1 rfl (lv_room (Nat.le_of_ble_eq_true rfl)) dX2_kindAt_15 ⟨Nat.le_of_ble_eq_true rfl, Nat.le_of_ble_eq_true rfl⟩) ?_
  refine va_iald hx hb hK hP 1 0 rfl rfl (xin (by omega) (by omega)) dX2_kindAt_18 ?_
  refine x_top (K' i) (by rw [nI_clamp (by omega)]) ?_
  refine x_top ((G (i)).1) ((hM (i) (by omega)).1) ?_
  refine lv_goto (tgt := 23) hx hb dX2_kindAt_19 (by decide) ?_
  exact W.iret hx hb hr (fun t9 ht9 hW9 => ⟨⟨_, (), rfl, rfl, _, _, _, _, by rw [ht9]; exact hP, hD, hM⟩, hS.F ht9⟩) hS.2.2 dX2_kindAt_23

set_option maxHeartbeats 4000000 in
set_option maxRecDepth 100000 in
theorem c_X2_kindAt_b (l : Launch) {D : va_G} {cI cT cJ : ClassId} (m0 a1 a2 a3 a4 : Nat) (K R L N : Nat → Int32) (ld o b k t : Nat) (G : Nat → Tv) (hM : MA G K R L N) (v w : Int32) (hld : ld ≤ 40) (hold : o ≤ ld) (hAT : ¬ ∃ i, AT o ld v w i) (sz : Nat) : Met l yX2_kindAt wsX2_kindAt (rmD 5 0 0) (XP D cI cT cJ [.ref m0, .int v, .int w] (fun H => H.size = sz ∧ va_P D vwCl (MWs cI m0 a1 a2 a3 a4 K R L N ld o b k t) H ∧ va_D (fun _ => True) (MWs cI m0 a1 a2 a3 a4 K R L N ld o b k t))) (va_Qi (S := Unit) (fun r _ => True) (fun _ t9 => MB D cI m0 a1 a2 a3 a4 (va_A (MWs cI m0 a1 a2 a3 a4 K R L N ld o b k t) sz) (G, o, ld, b, k) 1 t9.heap) (va_A (MWs cI m0 a1 a2 a3 a4 K R L N ld o b k t) sz)) 0 0 (va_A (MWs cI m0 a1 a2 a3 a4 K R L N ld o b k t) sz) := by
  refine Met.ofW (cc := cX2_kindAt) (maxL := 3) (ret := (some .int)) (by decide) rfl ?_
  intro p e s m args below meth c s₁ B hml hv
  obtain ⟨rfl, ⟨hsz, hP, hD0⟩, hE⟩ := hv
  have hx := B.exec
  have hb := B.bytes
  have hr := B.returns
  have hts := atoms_spec (ws := wsX2_kindAt) B.pre
  have hown : s.vm.findClass RX2 = some m.cls := findClass_of_methodNamed B.named
  have hlocks := B.notSynchronized
  have hl := lv_entry ([.ref m0, .int v, .int w]) (n := 3) (Nat.le_of_ble_eq_true rfl)
  rw [lg_entry_eq]
  generalize (lg_sl ([.ref m0, .int v, .int w]) ++ List.replicate (3 - (lg_sl ([.ref m0, .int v, .int w])).length) Slot.unset).toArray = ls at hl ⊢
  have hl : lv_has ls 3 [(0, .ref m0), (1, .int v), (2, .int w)] := hl
  have hK := hE.1
  subst hsz
  have hD := hD0.self (sz := s.heap.size)
  generalize hAe : va_A ((MWs cI m0 a1 a2 a3 a4 K R L N ld o b k t)) s.heap.size = A at hD ⊢
  have hA : ∀ q : Nat, s.heap.size ≤ q → A q := fun q h => by rw [← hAe]; exact Or.inr h
  have hS : va_S A s.heap s.heap [] := va_S.rf
  refine lv_aload_n hx hb dX2_kindAt_0 rfl (lv_at hl 0 rfl) ?_
  refine lv_iload_n hx hb dX2_kindAt_1 rfl (lv_at hl 1 rfl) ?_
  refine lv_iload_n hx hb dX2_kindAt_2 rfl (lv_at hl 2 rfl) ?_
  have hFc := xfree (wc := (MWs cI m0 a1 a2 a3 a4 K R L N ld o b k t)) hD hS hA (fun _ h => h)
  refine va_calli (va_runV (As := [.int v, .int w]) (rest := []) ⟨hx, hb, hml, hown, hts⟩ (c_X2_asks_b l m0 a1 a2 a3 a4 K R L N ld o b k t G hM v w hld hold hAT s.heap.size) (cwV 2 hts gX2_kindAt_X2_asks rfl rfl rfl (by decide +kernel) ⟨(Nat.le_of_ble_eq_true rfl), (Nat.le_of_ble_eq_true rfl)⟩) ⟨XP_blind, va_recv hK hP (ci := 2) (q0 := 0) rfl rfl, XP_pre hE ⟨rfl, hP, hD.weaken (fun _ _ _ _ => trivial)⟩⟩ rfl rfl hl.1 rfl (lv_room (Nat.le_of_ble_eq_true rfl)) dX2_kindAt_3 ⟨Nat.le_of_ble_eq_true rfl, Nat.le_of_ble_eq_true rfl⟩) hS (fun q9 _ h => hFc q9 h) hFc (fun r9 u t9 H1 locs ht9 hvm9 hw9 hB9 hzc hkc hS => ?_)
  obtain ⟨K', R', L', N', hP1, hD1, hM⟩ := hB9
  rw [ht9] at hP1
  subst hw9
  obtain ⟨hP, hD⟩ := xjoin (wr := []) (wc := (MWs cI m0 a1 a2 a3 a4 K R L N ld o b k t)) hP hD hkc hFc hP1 hD1
  generalize H1 = H at hP hS ⊢
  have hM : MA G K' R' L' N' := hM
  have hP : va_P D vwCl [(m0, .inr (2, [.ref a1, .ref a2, .ref a3, .ref a4, .int (nI ld), .int (nI o), .int (nI b), .int (nI k), .int (nI 1)])), (a1, .inl (cI, 252, .inl K')), (a2, .inl (cI, 252, .inl R')), (a3, .inl (cI, 252, .inl L')), (a4, .inl (cI, 3024, .inl N'))] H := hP
  have hD : va_D A [(m0, .inr (2, [.ref a1, .ref a2, .ref a3, .ref a4, .int (nI ld), .int (nI o), .int (nI b), .int (nI k), .int (nI 1)])), (a1, .inl (cI, 252, .inl K')), (a2, .inl (cI, 252, .inl R')), (a3, .inl (cI, 252, .inl L')), (a4, .inl (cI, 3024, .inl N'))] := hD
  refine lv_if_eq (tgt := 22) hx hb dX2_kindAt_6 (by decide) (fun _ => ?_) (fun h => absurd h (by decide))
  refine lv_iconst (v := nI 0) hx hb dX2_kindAt_22 (by decide) ?_
  exact W.iret hx hb hr (fun t9 ht9 hW9 => ⟨⟨_, (), rfl, trivial, _, _, _, _, by rw [ht9]; exact hP, hD, hM⟩, hS.F ht9⟩) hS.2.2 dX2_kindAt_23

theorem iw_X2rightsAt_X2 : ∀ w ∈ u_ws RX2 TX2 9, w ∈ wsX2_rightsAt := by decide +kernel
set_option maxHeartbeats 4000000 in
set_option maxRecDepth 100000 in
theorem c_X2_rightsAt_g (l : Launch) {D : va_G} {cI cT cJ : ClassId} (m0 a1 a2 a3 a4 : Nat) (K R L N : Nat → Int32) (ld o b k t : Nat) (G : Nat → Tv) (hM : MA G K R L N) (v w : Int32) (i : Nat) (hld : ld ≤ 40) (hold : o ≤ ld) (hAT : AT o ld v w i) (sz : Nat) : Met l yX2_rightsAt wsX2_rightsAt (rmD 5 0 0) (XP D cI cT cJ [.ref m0, .int v, .int w] (fun H => H.size = sz ∧ va_P D vwCl (MWs cI m0 a1 a2 a3 a4 K R L N ld o b k t) H ∧ va_D (fun _ => True) (MWs cI m0 a1 a2 a3 a4 K R L N ld o b k t))) (va_Qi (S := Unit) (fun r _ => r = (G i).2.1) (fun _ t9 => MB D cI m0 a1 a2 a3 a4 (va_A (MWs cI m0 a1 a2 a3 a4 K R L N ld o b k t) sz) (G, o, ld, b, k) 0 t9.heap) (va_A (MWs cI m0 a1 a2 a3 a4 K R L N ld o b k t) sz)) 0 0 (va_A (MWs cI m0 a1 a2 a3 a4 K R L N ld o b k t) sz) := by
  refine Met.ofW (cc := cX2_rightsAt) (maxL := 3) (ret := (some .int)) (by decide) rfl ?_
  intro p e s m args below meth c s₁ B hml hv
  obtain ⟨rfl, ⟨hsz, hP, hD0⟩, hE⟩ := hv
  have hx := B.exec
  have hb := B.bytes
  have hr := B.returns
  have hts := atoms_spec (ws := wsX2_rightsAt) B.pre
  have hown : s.vm.findClass RX2 = some m.cls := findClass_of_methodNamed B.named
  have hlocks := B.notSynchronized
  have hl := lv_entry ([.ref m0, .int v, .int w]) (n := 3) (Nat.le_of_ble_eq_true rfl)
  rw [lg_entry_eq]
  generalize (lg_sl ([.ref m0, .int v, .int w]) ++ List.replicate (3 - (lg_sl ([.ref m0, .int v, .int w])).length) Slot.unset).toArray = ls at hl ⊢
  have hl : lv_has ls 3 [(0, .ref m0), (1, .int v), (2, .int w)] := hl
  have hK := hE.1
  subst hsz
  have hD := hD0.self (sz := s.heap.size)
  generalize hAe : va_A ((MWs cI m0 a1 a2 a3 a4 K R L N ld o b k t)) s.heap.size = A at hD ⊢
  have hA : ∀ q : Nat, s.heap.size ≤ q → A q := fun q h => by rw [← hAe]; exact Or.inr h
  have hS : va_S A s.heap s.heap [] := va_S.rf
  have hib := AT_lt hld hAT
  refine lv_aload_n hx hb dX2_rightsAt_0 rfl (lv_at hl 0 rfl) ?_
  refine lv_iload_n hx hb dX2_rightsAt_1 rfl (lv_at hl 1 rfl) ?_
  refine lv_iload_n hx hb dX2_rightsAt_2 rfl (lv_at hl 2 rfl) ?_
  have hFc := xfree (wc := (MWs cI m0 a1 a2 a3 a4 K R L N ld o b k t)) hD hS hA (fun _ h => h)
  refine va_calli (va_runV (As := [.int v, .int w]) (rest := []) ⟨hx, hb, hml, hown, hts⟩ (c_X2_asks_g l m0 a1 a2 a3 a4 K R L N ld o b k t G hM v w i hld hold hAT s.heap.size) (cwV 2 hts gX2_rightsAt_X2_asks rfl rfl rfl (by decide +kernel) ⟨(Nat.le_of_ble_eq_true rfl), (Nat.le_of_ble_eq_true rfl)⟩) ⟨XP_blind, va_recv hK hP (ci := 2) (q0 := 0) rfl rfl, XP_pre hE ⟨rfl, hP, hD.weaken (fun _ _ _ _ => trivial)⟩⟩ rfl rfl hl.1 rfl (lv_room (Nat.le_of_ble_eq_true rfl)) dX2_rightsAt_3 ⟨Nat.le_of_ble_eq_true rfl, Nat.le_of_ble_eq_true rfl⟩) hS (fun q9 _ h => hFc q9 h) hFc (fun r9 u t9 H1 locs ht9 hvm9 hw9 hB9 hzc hkc hS => ?_)
  obtain ⟨K', R', L', N', hP1, hD1, hM⟩ := hB9
  rw [ht9] at hP1
  subst hw9
  obtain ⟨hP, hD⟩ := xjoin (wr := []) (wc := (MWs cI m0 a1 a2 a3 a4 K R L N ld o b k t)) hP hD hkc hFc hP1 hD1
  generalize H1 = H at hP hS ⊢
  have hM : MA G K' R' L' N' := hM
  have hP : va_P D vwCl [(m0, .inr (2, [.ref a1, .ref a2, .ref a3, .ref a4, .int (nI ld), .int (nI o), .int (nI b), .int (nI k), .int (nI 0)])), (a1, .inl (cI, 252, .inl K')), (a2, .inl (cI, 252, .inl R')), (a3, .inl (cI, 252, .inl L')), (a4, .inl (cI, 3024, .inl N'))] H := hP
  have hD : va_D A [(m0, .inr (2, [.ref a1, .ref a2, .ref a3, .ref a4, .int (nI ld), .int (nI o), .int (nI b), .int (nI k), .int (nI 0)])), (a1, .inl (cI, 252, .inl K')), (a2, .inl (cI, 252, .inl R')), (a3, .inl (cI, 252, .inl L')), (a4, .inl (cI, 3024, .inl N'))] := hD
  refine lv_if_eq (tgt := 22) hx hb dX2_rightsAt_6 (by decide) (fun h => absurd h (by decide)) (fun _ => ?_)
  refine lv_aload_n hx hb dX2_rightsAt_9 rfl (lv_at hl 0 rfl) ?_
  refine va_get (ci := 2) (v := .ref a2) (C := RX2) (T := TX2) (N := 9) hx hb hts iw_X2rightsAt_X2 hown hK hP 0 rfl rfl 1 (by decide) (hts (.fieldLink RX2 13 "BackMirrorModel" "rights" "[I") (by decide +kernel)) (fun _ h9 => h9) rfl dX2_rightsAt_10 ?_
  refine lv_iload_n hx hb dX2_rightsAt_13 rfl (lv_at hl 1 rfl) ?_
  refine lv_iload_n hx hb dX2_rightsAt_14 rfl (lv_at hl 2 rfl) ?_
  refine xc_sie (va_runS (As := [.int v, .int w]) (rest := [.ref a2]) ⟨hx, hb, hml, hown, hts⟩ (c_X2_where l o ld v w i hld hold hAT) (va_cwS 2 hts gX2_rightsAt_X2_where rfl rfl rfl (by decide +kernel) ⟨(Nat.le_of_ble_eq_true rfl), (Nat.le_of_ble_eq_true rfl)⟩) ⟨XP_blind, XP_pre hE trivial⟩ rfl rfl hl.1 rfl (lv_room (Nat.le_of_ble_eq_true rfl)) dX2_rightsAt_15 ⟨Nat.le_of_ble_eq_true rfl, Nat.le_of_ble_eq_true rfl⟩) ?_
  refine va_iald hx hb hK hP 2 0 rfl rfl (xin (by omega) (by omega)) dX2_rightsAt_18 ?_
  refine x_top (R' i) (by rw [nI_clamp (by omega)]) ?_
  refine x_top ((G (i)).2.1) ((hM (i) (by omega)).2.1) ?_
  refine lv_goto (tgt := 23) hx hb dX2_rightsAt_19 (by decide) ?_
  exact W.iret hx hb hr (fun t9 ht9 hW9 => ⟨⟨_, (), rfl, rfl, _, _, _, _, by rw [ht9]; exact hP, hD, hM⟩, hS.F ht9⟩) hS.2.2 dX2_rightsAt_23

set_option maxHeartbeats 4000000 in
set_option maxRecDepth 100000 in
theorem c_X2_rightsAt_b (l : Launch) {D : va_G} {cI cT cJ : ClassId} (m0 a1 a2 a3 a4 : Nat) (K R L N : Nat → Int32) (ld o b k t : Nat) (G : Nat → Tv) (hM : MA G K R L N) (v w : Int32) (hld : ld ≤ 40) (hold : o ≤ ld) (hAT : ¬ ∃ i, AT o ld v w i) (sz : Nat) : Met l yX2_rightsAt wsX2_rightsAt (rmD 5 0 0) (XP D cI cT cJ [.ref m0, .int v, .int w] (fun H => H.size = sz ∧ va_P D vwCl (MWs cI m0 a1 a2 a3 a4 K R L N ld o b k t) H ∧ va_D (fun _ => True) (MWs cI m0 a1 a2 a3 a4 K R L N ld o b k t))) (va_Qi (S := Unit) (fun r _ => True) (fun _ t9 => MB D cI m0 a1 a2 a3 a4 (va_A (MWs cI m0 a1 a2 a3 a4 K R L N ld o b k t) sz) (G, o, ld, b, k) 1 t9.heap) (va_A (MWs cI m0 a1 a2 a3 a4 K R L N ld o b k t) sz)) 0 0 (va_A (MWs cI m0 a1 a2 a3 a4 K R L N ld o b k t) sz) := by
  refine Met.ofW (cc := cX2_rightsAt) (maxL := 3) (ret := (some .int)) (by decide) rfl ?_
  intro p e s m args below meth c s₁ B hml hv
  obtain ⟨rfl, ⟨hsz, hP, hD0⟩, hE⟩ := hv
  have hx := B.exec
  have hb := B.bytes
  have hr := B.returns
  have hts := atoms_spec (ws := wsX2_rightsAt) B.pre
  have hown : s.vm.findClass RX2 = some m.cls := findClass_of_methodNamed B.named
  have hlocks := B.notSynchronized
  have hl := lv_entry ([.ref m0, .int v, .int w]) (n := 3) (Nat.le_of_ble_eq_true rfl)
  rw [lg_entry_eq]
  generalize (lg_sl ([.ref m0, .int v, .int w]) ++ List.replicate (3 - (lg_sl ([.ref m0, .int v, .int w])).length) Slot.unset).toArray = ls at hl ⊢
  have hl : lv_has ls 3 [(0, .ref m0), (1, .int v), (2, .int w)] := hl
  have hK := hE.1
  subst hsz
  have hD := hD0.self (sz := s.heap.size)
  generalize hAe : va_A ((MWs cI m0 a1 a2 a3 a4 K R L N ld o b k t)) s.heap.size = A at hD ⊢
  have hA : ∀ q : Nat, s.heap.size ≤ q → A q := fun q h => by rw [← hAe]; exact Or.inr h
  have hS : va_S A s.heap s.heap [] := va_S.rf
  refine lv_aload_n hx hb dX2_rightsAt_0 rfl (lv_at hl 0 rfl) ?_
  refine lv_iload_n hx hb dX2_rightsAt_1 rfl (lv_at hl 1 rfl) ?_
  refine lv_iload_n hx hb dX2_rightsAt_2 rfl (lv_at hl 2 rfl) ?_
  have hFc := xfree (wc := (MWs cI m0 a1 a2 a3 a4 K R L N ld o b k t)) hD hS hA (fun _ h => h)
  refine va_calli (va_runV (As := [.int v, .int w]) (rest := []) ⟨hx, hb, hml, hown, hts⟩ (c_X2_asks_b l m0 a1 a2 a3 a4 K R L N ld o b k t G hM v w hld hold hAT s.heap.size) (cwV 2 hts gX2_rightsAt_X2_asks rfl rfl rfl (by decide +kernel) ⟨(Nat.le_of_ble_eq_true rfl), (Nat.le_of_ble_eq_true rfl)⟩) ⟨XP_blind, va_recv hK hP (ci := 2) (q0 := 0) rfl rfl, XP_pre hE ⟨rfl, hP, hD.weaken (fun _ _ _ _ => trivial)⟩⟩ rfl rfl hl.1 rfl (lv_room (Nat.le_of_ble_eq_true rfl)) dX2_rightsAt_3 ⟨Nat.le_of_ble_eq_true rfl, Nat.le_of_ble_eq_true rfl⟩) hS (fun q9 _ h => hFc q9 h) hFc (fun r9 u t9 H1 locs ht9 hvm9 hw9 hB9 hzc hkc hS => ?_)
  obtain ⟨K', R', L', N', hP1, hD1, hM⟩ := hB9
  rw [ht9] at hP1
  subst hw9
  obtain ⟨hP, hD⟩ := xjoin (wr := []) (wc := (MWs cI m0 a1 a2 a3 a4 K R L N ld o b k t)) hP hD hkc hFc hP1 hD1
  generalize H1 = H at hP hS ⊢
  have hM : MA G K' R' L' N' := hM
  have hP : va_P D vwCl [(m0, .inr (2, [.ref a1, .ref a2, .ref a3, .ref a4, .int (nI ld), .int (nI o), .int (nI b), .int (nI k), .int (nI 1)])), (a1, .inl (cI, 252, .inl K')), (a2, .inl (cI, 252, .inl R')), (a3, .inl (cI, 252, .inl L')), (a4, .inl (cI, 3024, .inl N'))] H := hP
  have hD : va_D A [(m0, .inr (2, [.ref a1, .ref a2, .ref a3, .ref a4, .int (nI ld), .int (nI o), .int (nI b), .int (nI k), .int (nI 1)])), (a1, .inl (cI, 252, .inl K')), (a2, .inl (cI, 252, .inl R')), (a3, .inl (cI, 252, .inl L')), (a4, .inl (cI, 3024, .inl N'))] := hD
  refine lv_if_eq (tgt := 22) hx hb dX2_rightsAt_6 (by decide) (fun _ => ?_) (fun h => absurd h (by decide))
  refine lv_iconst (v := nI 0) hx hb dX2_rightsAt_22 (by decide) ?_
  exact W.iret hx hb hr (fun t9 ht9 hW9 => ⟨⟨_, (), rfl, trivial, _, _, _, _, by rw [ht9]; exact hP, hD, hM⟩, hS.F ht9⟩) hS.2.2 dX2_rightsAt_23

theorem iw_X2numberAt_X2 : ∀ w ∈ u_ws RX2 TX2 9, w ∈ wsX2_numberAt := by decide +kernel
set_option maxHeartbeats 4000000 in
set_option maxRecDepth 100000 in
theorem c_X2_numberAt_g (l : Launch) {D : va_G} {cI cT cJ : ClassId} (m0 a1 a2 a3 a4 : Nat) (K R L N : Nat → Int32) (ld o b k t : Nat) (G : Nat → Tv) (hM : MA G K R L N) (v w : Int32) (i sp : Nat) (hld : ld ≤ 40) (hold : o ≤ ld) (hAT : AT o ld v w i) (hsp : sp < 12) (sz : Nat) : Met l yX2_numberAt wsX2_numberAt (rmD 5 0 0) (XP D cI cT cJ [.ref m0, .int v, .int w, .int (nI sp)] (fun H => H.size = sz ∧ va_P D vwCl (MWs cI m0 a1 a2 a3 a4 K R L N ld o b k t) H ∧ va_D (fun _ => True) (MWs cI m0 a1 a2 a3 a4 K R L N ld o b k t))) (va_Qi (S := Unit) (fun r _ => r = if sp < (G i).2.2.1 then (G i).2.2.2 sp else -1) (fun _ t9 => MB D cI m0 a1 a2 a3 a4 (va_A (MWs cI m0 a1 a2 a3 a4 K R L N ld o b k t) sz) (G, o, ld, b, k) 0 t9.heap) (va_A (MWs cI m0 a1 a2 a3 a4 K R L N ld o b k t) sz)) 0 0 (va_A (MWs cI m0 a1 a2 a3 a4 K R L N ld o b k t) sz) := by
  refine Met.ofW (cc := cX2_numberAt) (maxL := 5) (ret := (some .int)) (by decide) rfl ?_
  intro p e s m args below meth c s₁ B hml hv
  obtain ⟨rfl, ⟨hsz, hP, hD0⟩, hE⟩ := hv
  have hx := B.exec
  have hb := B.bytes
  have hr := B.returns
  have hts := atoms_spec (ws := wsX2_numberAt) B.pre
  have hown : s.vm.findClass RX2 = some m.cls := findClass_of_methodNamed B.named
  have hlocks := B.notSynchronized
  have hl := lv_entry ([.ref m0, .int v, .int w, .int (nI sp)]) (n := 5) (Nat.le_of_ble_eq_true rfl)
  rw [lg_entry_eq]
  generalize (lg_sl ([.ref m0, .int v, .int w, .int (nI sp)]) ++ List.replicate (5 - (lg_sl ([.ref m0, .int v, .int w, .int (nI sp)])).length) Slot.unset).toArray = ls at hl ⊢
  have hl : lv_has ls 5 [(0, .ref m0), (1, .int v), (2, .int w), (3, .int (nI sp))] := hl
  have hK := hE.1
  subst hsz
  have hD := hD0.self (sz := s.heap.size)
  generalize hAe : va_A ((MWs cI m0 a1 a2 a3 a4 K R L N ld o b k t)) s.heap.size = A at hD ⊢
  have hA : ∀ q : Nat, s.heap.size ≤ q → A q := fun q h => by rw [← hAe]; exact Or.inr h
  have hS : va_S A s.heap s.heap [] := va_S.rf
  have hib := AT_lt hld hAT
  refine lv_aload_n hx hb dX2_numberAt_0 rfl (lv_at hl 0 rfl) ?_
  refine lv_iload_n hx hb dX2_numberAt_1 rfl (lv_at hl 1 rfl) ?_
  refine lv_iload_n hx hb dX2_numberAt_2 rfl (lv_at hl 2 rfl) ?_
  have hFc := xfree (wc := (MWs cI m0 a1 a2 a3 a4 K R L N ld o b k t)) hD hS hA (fun _ h => h)
  refine va_calli (va_runV (As := [.int v, .int w]) (rest := []) ⟨hx, hb, hml, hown, hts⟩ (c_X2_asks_g l m0 a1 a2 a3 a4 K R L N ld o b k t G hM v w i hld hold hAT s.heap.size) (cwV 2 hts gX2_numberAt_X2_asks rfl rfl rfl (by decide +kernel) ⟨(Nat.le_of_ble_eq_true rfl), (Nat.le_of_ble_eq_true rfl)⟩) ⟨XP_blind, va_recv hK hP (ci := 2) (q0 := 0) rfl rfl, XP_pre hE ⟨rfl, hP, hD.weaken (fun _ _ _ _ => trivial)⟩⟩ rfl rfl hl.1 rfl (lv_room (Nat.le_of_ble_eq_true rfl)) dX2_numberAt_3 ⟨Nat.le_of_ble_eq_true rfl, Nat.le_of_ble_eq_true rfl⟩) hS (fun q9 _ h => hFc q9 h) hFc (fun r9 u t9 H1 locs ht9 hvm9 hw9 hB9 hzc hkc hS => ?_)
  obtain ⟨K', R', L', N', hP1, hD1, hM⟩ := hB9
  rw [ht9] at hP1
  subst hw9
  obtain ⟨hP, hD⟩ := xjoin (wr := []) (wc := (MWs cI m0 a1 a2 a3 a4 K R L N ld o b k t)) hP hD hkc hFc hP1 hD1
  generalize H1 = H at hP hS ⊢
  have hM : MA G K' R' L' N' := hM
  have hP : va_P D vwCl [(m0, .inr (2, [.ref a1, .ref a2, .ref a3, .ref a4, .int (nI ld), .int (nI o), .int (nI b), .int (nI k), .int (nI 0)])), (a1, .inl (cI, 252, .inl K')), (a2, .inl (cI, 252, .inl R')), (a3, .inl (cI, 252, .inl L')), (a4, .inl (cI, 3024, .inl N'))] H := hP
  have hD : va_D A [(m0, .inr (2, [.ref a1, .ref a2, .ref a3, .ref a4, .int (nI ld), .int (nI o), .int (nI b), .int (nI k), .int (nI 0)])), (a1, .inl (cI, 252, .inl K')), (a2, .inl (cI, 252, .inl R')), (a3, .inl (cI, 252, .inl L')), (a4, .inl (cI, 3024, .inl N'))] := hD
  refine lv_if_eq (tgt := 31) hx hb dX2_numberAt_6 (by decide) (fun h => absurd h (by decide)) (fun _ => ?_)
  refine lv_aload_n hx hb dX2_numberAt_9 rfl (lv_at hl 0 rfl) ?_
  refine lv_iload_n hx hb dX2_numberAt_10 rfl (lv_at hl 3 rfl) ?_
  refine lv_iconst (v := nI 0) hx hb dX2_numberAt_11 (by decide) ?_
  refine lv_bipush (v := nI 11) hx hb dX2_numberAt_12 (by decide) ?_
  refine xc_sie (va_runS (As := [.int (nI sp), .int (nI 0), .int (nI 11)]) (rest := [.ref m0]) ⟨hx, hb, hml, hown, hts⟩ (c_X2_isIn l (nI sp) (nI 0) (nI 11)) (va_cwS 3 hts gX2_numberAt_X2_isIn rfl rfl rfl (by decide +kernel) ⟨(Nat.le_of_ble_eq_true rfl), (Nat.le_of_ble_eq_true rfl)⟩) ⟨XP_blind, XP_pre hE trivial⟩ rfl rfl hl.1 rfl (lv_room (Nat.le_of_ble_eq_true rfl)) dX2_numberAt_14 ⟨Nat.le_of_ble_eq_true rfl, Nat.le_of_ble_eq_true rfl⟩) ?_
  refine x_top (nI 1) (by rw [decide_eq_true (in_t (Nat.zero_le _) (Nat.le_of_lt_succ hsp) (by omega))]; rfl) ?_
  refine lv_if_eq (tgt := 24) hx hb dX2_numberAt_17 (by decide) (fun h => absurd h (by decide)) (fun _ => ?_)
  refine lv_iconst (v := nI 0) hx hb dX2_numberAt_20 (by decide) ?_
  refine lv_goto (tgt := 25) hx hb dX2_numberAt_21 (by decide) ?_
  have hP : va_P D vwCl ([] ++ (MWs cI m0 a1 a2 a3 a4 K' R' L' N' ld o b k 0)) H := hP
  have hD : va_D A ([] ++ (MWs cI m0 a1 a2 a3 a4 K' R' L' N' ld o b k 0)) := hD
  have hFc := xfree (wc := (MWs cI m0 a1 a2 a3 a4 K' R' L' N' ld o b k 0)) hD hS hA (fun _ h => List.mem_append_right _ h)
  have hPc := xP_sub (w2 := (MWs cI m0 a1 a2 a3 a4 K' R' L' N' ld o b k 0)) (fun _ h => List.mem_append_right _ h) hP
  have hDc : va_D (fun _ => True) (MWs cI m0 a1 a2 a3 a4 K' R' L' N' ld o b k 0) := (xD_sub (List.sublist_append_right _ _) hD).weaken (fun _ _ _ _ => trivial)
  refine va_calli (va_runV (As := [.int (nI 0)]) (rest := []) ⟨hx, hb, hml, hown, hts⟩ (c_X2_goes l m0 a1 a2 a3 a4 K' R' L' N' ld o b k 0 0 (by omega) H.size) (cwV 1 hts gX2_numberAt_X2_goes rfl rfl rfl (by decide +kernel) ⟨(Nat.le_of_ble_eq_true rfl), (Nat.le_of_ble_eq_true rfl)⟩) ⟨XP_blind, va_recv hK hP (ci := 2) (q0 := 0) rfl rfl, XP_pre hE ⟨rfl, hPc, hDc⟩⟩ rfl rfl hl.1 rfl (lv_room (Nat.le_of_ble_eq_true rfl)) dX2_numberAt_25 ⟨by first | exact Nat.le_of_ble_eq_true rfl | (show _ + _ ≤ _; omega), by first | exact Nat.le_of_ble_eq_true rfl | (show _ + _ ≤ _; omega)⟩) hS (fun q9 _ h => hFc q9 h) hFc (fun r9 u t9 H1 locs ht9 hvm9 hw9 hB9 hzc hkc hS => ?_)
  obtain ⟨hP1, hD1⟩ := hB9
  rw [ht9] at hP1
  obtain ⟨hP, hD⟩ := xjoin (wr := []) (wc := (MWs cI m0 a1 a2 a3 a4 K' R' L' N' ld o b k 0)) (w1 := (MWs cI m0 a1 a2 a3 a4 K' R' L' N' ld o b k 0)) hP hD hkc hFc hP1 hD1
  generalize H1 = H at hP hS ⊢
  subst hw9
  have hP : va_P D vwCl [(m0, .inr (2, [.ref a1, .ref a2, .ref a3, .ref a4, .int (nI ld), .int (nI o), .int (nI b), .int (nI k), .int (nI 0)])), (a1, .inl (cI, 252, .inl K')), (a2, .inl (cI, 252, .inl R')), (a3, .inl (cI, 252, .inl L')), (a4, .inl (cI, 3024, .inl N'))] H := hP
  have hD : va_D A [(m0, .inr (2, [.ref a1, .ref a2, .ref a3, .ref a4, .int (nI ld), .int (nI o), .int (nI b), .int (nI k), .int (nI 0)])), (a1, .inl (cI, 252, .inl K')), (a2, .inl (cI, 252, .inl R')), (a3, .inl (cI, 252, .inl L')), (a4, .inl (cI, 3024, .inl N'))] := hD
  refine x_top (nI 1) rfl ?_
  refine lv_if_ne (tgt := 33) hx hb dX2_numberAt_28 (by decide) (fun _ => ?_) (fun h => absurd h (by decide))
  refine lv_iload_n hx hb dX2_numberAt_33 rfl (lv_at hl 1 rfl) ?_
  refine lv_iload_n hx hb dX2_numberAt_34 rfl (lv_at hl 2 rfl) ?_
  refine xc_sie (va_runS (As := [.int v, .int w]) (rest := []) ⟨hx, hb, hml, hown, hts⟩ (c_X2_where l o ld v w i hld hold hAT) (va_cwS 2 hts gX2_numberAt_X2_where rfl rfl rfl (by decide +kernel) ⟨(Nat.le_of_ble_eq_true rfl), (Nat.le_of_ble_eq_true rfl)⟩) ⟨XP_blind, XP_pre hE trivial⟩ rfl rfl hl.1 rfl (lv_room (Nat.le_of_ble_eq_true rfl)) dX2_numberAt_35 ⟨Nat.le_of_ble_eq_true rfl, Nat.le_of_ble_eq_true rfl⟩) ?_
  refine lv_istore (lv' := [(4, .int (nI i)), (0, .ref m0), (1, .int v), (2, .int w), (3, .int (nI sp))]) hx hb dX2_numberAt_38 hl (by decide) rfl (fun ls hl => ?_)
  refine lv_iload_n hx hb dX2_numberAt_40 rfl (lv_at hl 4 rfl) ?_
  refine lv_aload_n hx hb dX2_numberAt_41 rfl (lv_at hl 1 rfl) ?_
  refine va_get (ci := 2) (v := .ref a3) (C := RX2) (T := TX2) (N := 9) hx hb hts iw_X2numberAt_X2 hown hK hP 0 rfl rfl 2 (by decide) (hts (.fieldLink RX2 16 "BackMirrorModel" "lengths" "[I") (by decide +kernel)) (fun _ h9 => h9) rfl dX2_numberAt_42 ?_
  refine lv_iload hx hb dX2_numberAt_45 (lv_at hl 0 rfl) ?_
  refine va_iald hx hb hK hP 3 0 rfl rfl (xin (by omega) (by omega)) dX2_numberAt_47 ?_
  refine x_top (L' i) (by rw [nI_clamp (by omega)]) ?_
  have hb47 := (hM (i) (by omega)).2.2.2.1
  refine x_top (nI ((G (i)).2.2.1)) ((hM (i) (by omega)).2.2.1) ?_
  refine lv_icmp_ge (tgt := 66) hx hb dX2_numberAt_48 (by decide) (fun c48 => ?_) (fun c48 => ?_)
  · have c48 : ((G (i)).2.2.1) ≤ sp := (xle (by omega) (by omega)).mp c48
    refine lv_iconst (v := (-1)) hx hb dX2_numberAt_66 (by decide) ?_
    exact W.iret hx hb hr (fun t9 ht9 hW9 => ⟨⟨_, (), rfl, by first | (rw [if_pos (by omega)]; done) | (rw [if_neg (by omega)]; done), _, _, _, _, by rw [ht9]; exact hP, hD, hM⟩, hS.F ht9⟩) hS.2.2 dX2_numberAt_67
  · have c48 : ¬ ((G (i)).2.2.1) ≤ sp := fun h => c48 ((xle (by omega) (by omega)).mpr h)
    refine lv_aload_n hx hb dX2_numberAt_51 rfl (lv_at hl 1 rfl) ?_
    refine va_get (ci := 2) (v := .ref a4) (C := RX2) (T := TX2) (N := 9) hx hb hts iw_X2numberAt_X2 hown hK hP 0 rfl rfl 3 (by decide) (hts (.fieldLink RX2 19 "BackMirrorModel" "numbers" "[I") (by decide +kernel)) (fun _ h9 => h9) rfl dX2_numberAt_52 ?_
    refine lv_bipush (v := nI 12) hx hb dX2_numberAt_55 (by decide) ?_
    refine lv_iload hx hb dX2_numberAt_57 (lv_at hl 0 rfl) ?_
    refine lv_imul hx hb dX2_numberAt_59 ?_
    refine x_top (nI (12 * i)) (pk_mul _ _) ?_
    refine lv_iload_n hx hb dX2_numberAt_60 rfl (lv_at hl 4 rfl) ?_
    refine lv_iadd hx hb dX2_numberAt_61 ?_
    refine x_top (nI ((12 * i) + sp)) (xadd (by omega)) ?_
    refine va_iald hx hb hK hP 4 0 rfl rfl (xin (by omega) (by omega)) dX2_numberAt_62 ?_
    refine x_top (N' ((12 * i) + sp)) (by rw [nI_clamp (by omega)]) ?_
    refine x_top ((G i).2.2.2 sp) ((hM i hib).2.2.2.2 sp (by omega)) ?_
    refine lv_goto (tgt := 67) hx hb dX2_numberAt_63 (by decide) ?_
    exact W.iret hx hb hr (fun t9 ht9 hW9 => ⟨⟨_, (), rfl, by first | (rw [if_pos (by omega)]; done) | (rw [if_neg (by omega)]; done), _, _, _, _, by rw [ht9]; exact hP, hD, hM⟩, hS.F ht9⟩) hS.2.2 dX2_numberAt_67

set_option maxHeartbeats 4000000 in
set_option maxRecDepth 100000 in
theorem c_X2_numberAt_b (l : Launch) {D : va_G} {cI cT cJ : ClassId} (m0 a1 a2 a3 a4 : Nat) (K R L N : Nat → Int32) (ld o b k t : Nat) (G : Nat → Tv) (hM : MA G K R L N) (v w z : Int32) (hld : ld ≤ 40) (hold : o ≤ ld) (hAT : ¬ ∃ i, AT o ld v w i) (sz : Nat) : Met l yX2_numberAt wsX2_numberAt (rmD 5 0 0) (XP D cI cT cJ [.ref m0, .int v, .int w, .int z] (fun H => H.size = sz ∧ va_P D vwCl (MWs cI m0 a1 a2 a3 a4 K R L N ld o b k t) H ∧ va_D (fun _ => True) (MWs cI m0 a1 a2 a3 a4 K R L N ld o b k t))) (va_Qi (S := Unit) (fun r _ => True) (fun _ t9 => MB D cI m0 a1 a2 a3 a4 (va_A (MWs cI m0 a1 a2 a3 a4 K R L N ld o b k t) sz) (G, o, ld, b, k) 1 t9.heap) (va_A (MWs cI m0 a1 a2 a3 a4 K R L N ld o b k t) sz)) 0 0 (va_A (MWs cI m0 a1 a2 a3 a4 K R L N ld o b k t) sz) := by
  refine Met.ofW (cc := cX2_numberAt) (maxL := 5) (ret := (some .int)) (by decide) rfl ?_
  intro p e s m args below meth c s₁ B hml hv
  obtain ⟨rfl, ⟨hsz, hP, hD0⟩, hE⟩ := hv
  have hx := B.exec
  have hb := B.bytes
  have hr := B.returns
  have hts := atoms_spec (ws := wsX2_numberAt) B.pre
  have hown : s.vm.findClass RX2 = some m.cls := findClass_of_methodNamed B.named
  have hlocks := B.notSynchronized
  have hl := lv_entry ([.ref m0, .int v, .int w, .int z]) (n := 5) (Nat.le_of_ble_eq_true rfl)
  rw [lg_entry_eq]
  generalize (lg_sl ([.ref m0, .int v, .int w, .int z]) ++ List.replicate (5 - (lg_sl ([.ref m0, .int v, .int w, .int z])).length) Slot.unset).toArray = ls at hl ⊢
  have hl : lv_has ls 5 [(0, .ref m0), (1, .int v), (2, .int w), (3, .int z)] := hl
  have hK := hE.1
  subst hsz
  have hD := hD0.self (sz := s.heap.size)
  generalize hAe : va_A ((MWs cI m0 a1 a2 a3 a4 K R L N ld o b k t)) s.heap.size = A at hD ⊢
  have hA : ∀ q : Nat, s.heap.size ≤ q → A q := fun q h => by rw [← hAe]; exact Or.inr h
  have hS : va_S A s.heap s.heap [] := va_S.rf
  refine lv_aload_n hx hb dX2_numberAt_0 rfl (lv_at hl 0 rfl) ?_
  refine lv_iload_n hx hb dX2_numberAt_1 rfl (lv_at hl 1 rfl) ?_
  refine lv_iload_n hx hb dX2_numberAt_2 rfl (lv_at hl 2 rfl) ?_
  have hFc := xfree (wc := (MWs cI m0 a1 a2 a3 a4 K R L N ld o b k t)) hD hS hA (fun _ h => h)
  refine va_calli (va_runV (As := [.int v, .int w]) (rest := []) ⟨hx, hb, hml, hown, hts⟩ (c_X2_asks_b l m0 a1 a2 a3 a4 K R L N ld o b k t G hM v w hld hold hAT s.heap.size) (cwV 2 hts gX2_numberAt_X2_asks rfl rfl rfl (by decide +kernel) ⟨(Nat.le_of_ble_eq_true rfl), (Nat.le_of_ble_eq_true rfl)⟩) ⟨XP_blind, va_recv hK hP (ci := 2) (q0 := 0) rfl rfl, XP_pre hE ⟨rfl, hP, hD.weaken (fun _ _ _ _ => trivial)⟩⟩ rfl rfl hl.1 rfl (lv_room (Nat.le_of_ble_eq_true rfl)) dX2_numberAt_3 ⟨Nat.le_of_ble_eq_true rfl, Nat.le_of_ble_eq_true rfl⟩) hS (fun q9 _ h => hFc q9 h) hFc (fun r9 u t9 H1 locs ht9 hvm9 hw9 hB9 hzc hkc hS => ?_)
  obtain ⟨K', R', L', N', hP1, hD1, hM⟩ := hB9
  rw [ht9] at hP1
  subst hw9
  obtain ⟨hP, hD⟩ := xjoin (wr := []) (wc := (MWs cI m0 a1 a2 a3 a4 K R L N ld o b k t)) hP hD hkc hFc hP1 hD1
  generalize H1 = H at hP hS ⊢
  have hM : MA G K' R' L' N' := hM
  have hP : va_P D vwCl [(m0, .inr (2, [.ref a1, .ref a2, .ref a3, .ref a4, .int (nI ld), .int (nI o), .int (nI b), .int (nI k), .int (nI 1)])), (a1, .inl (cI, 252, .inl K')), (a2, .inl (cI, 252, .inl R')), (a3, .inl (cI, 252, .inl L')), (a4, .inl (cI, 3024, .inl N'))] H := hP
  have hD : va_D A [(m0, .inr (2, [.ref a1, .ref a2, .ref a3, .ref a4, .int (nI ld), .int (nI o), .int (nI b), .int (nI k), .int (nI 1)])), (a1, .inl (cI, 252, .inl K')), (a2, .inl (cI, 252, .inl R')), (a3, .inl (cI, 252, .inl L')), (a4, .inl (cI, 3024, .inl N'))] := hD
  refine lv_if_eq (tgt := 31) hx hb dX2_numberAt_6 (by decide) (fun _ => ?_) (fun h => absurd h (by decide))
  refine lv_iconst (v := nI 0) hx hb dX2_numberAt_31 (by decide) ?_
  exact W.iret hx hb hr (fun t9 ht9 hW9 => ⟨⟨_, (), rfl, trivial, _, _, _, _, by rw [ht9]; exact hP, hD, hM⟩, hS.F ht9⟩) hS.2.2 dX2_numberAt_32

set_option maxHeartbeats 4000000 in
set_option maxRecDepth 100000 in
theorem c_X2_numberAt_c (l : Launch) {D : va_G} {cI cT cJ : ClassId} (m0 a1 a2 a3 a4 : Nat) (K R L N : Nat → Int32) (ld o b k t : Nat) (G : Nat → Tv) (hM : MA G K R L N) (v w z : Int32) (i : Nat) (hld : ld ≤ 40) (hold : o ≤ ld) (hAT : AT o ld v w i) (hbad : ¬ ∃ sp, sp < 12 ∧ z = nI sp) (sz : Nat) : Met l yX2_numberAt wsX2_numberAt (rmD 5 0 0) (XP D cI cT cJ [.ref m0, .int v, .int w, .int z] (fun H => H.size = sz ∧ va_P D vwCl (MWs cI m0 a1 a2 a3 a4 K R L N ld o b k t) H ∧ va_D (fun _ => True) (MWs cI m0 a1 a2 a3 a4 K R L N ld o b k t))) (va_Qi (S := Unit) (fun r _ => True) (fun _ t9 => MB D cI m0 a1 a2 a3 a4 (va_A (MWs cI m0 a1 a2 a3 a4 K R L N ld o b k t) sz) (G, o, ld, b, k) 1 t9.heap) (va_A (MWs cI m0 a1 a2 a3 a4 K R L N ld o b k t) sz)) 0 0 (va_A (MWs cI m0 a1 a2 a3 a4 K R L N ld o b k t) sz) := by
  refine Met.ofW (cc := cX2_numberAt) (maxL := 5) (ret := (some .int)) (by decide) rfl ?_
  intro p e s m args below meth c s₁ B hml hv
  obtain ⟨rfl, ⟨hsz, hP, hD0⟩, hE⟩ := hv
  have hx := B.exec
  have hb := B.bytes
  have hr := B.returns
  have hts := atoms_spec (ws := wsX2_numberAt) B.pre
  have hown : s.vm.findClass RX2 = some m.cls := findClass_of_methodNamed B.named
  have hlocks := B.notSynchronized
  have hl := lv_entry ([.ref m0, .int v, .int w, .int z]) (n := 5) (Nat.le_of_ble_eq_true rfl)
  rw [lg_entry_eq]
  generalize (lg_sl ([.ref m0, .int v, .int w, .int z]) ++ List.replicate (5 - (lg_sl ([.ref m0, .int v, .int w, .int z])).length) Slot.unset).toArray = ls at hl ⊢
  have hl : lv_has ls 5 [(0, .ref m0), (1, .int v), (2, .int w), (3, .int z)] := hl
  have hK := hE.1
  subst hsz
  have hD := hD0.self (sz := s.heap.size)
  generalize hAe : va_A ((MWs cI m0 a1 a2 a3 a4 K R L N ld o b k t)) s.heap.size = A at hD ⊢
  have hA : ∀ q : Nat, s.heap.size ≤ q → A q := fun q h => by rw [← hAe]; exact Or.inr h
  have hS : va_S A s.heap s.heap [] := va_S.rf
  refine lv_aload_n hx hb dX2_numberAt_0 rfl (lv_at hl 0 rfl) ?_
  refine lv_iload_n hx hb dX2_numberAt_1 rfl (lv_at hl 1 rfl) ?_
  refine lv_iload_n hx hb dX2_numberAt_2 rfl (lv_at hl 2 rfl) ?_
  have hFc := xfree (wc := (MWs cI m0 a1 a2 a3 a4 K R L N ld o b k t)) hD hS hA (fun _ h => h)
  refine va_calli (va_runV (As := [.int v, .int w]) (rest := []) ⟨hx, hb, hml, hown, hts⟩ (c_X2_asks_g l m0 a1 a2 a3 a4 K R L N ld o b k t G hM v w i hld hold hAT s.heap.size) (cwV 2 hts gX2_numberAt_X2_asks rfl rfl rfl (by decide +kernel) ⟨(Nat.le_of_ble_eq_true rfl), (Nat.le_of_ble_eq_true rfl)⟩) ⟨XP_blind, va_recv hK hP (ci := 2) (q0 := 0) rfl rfl, XP_pre hE ⟨rfl, hP, hD.weaken (fun _ _ _ _ => trivial)⟩⟩ rfl rfl hl.1 rfl (lv_room (Nat.le_of_ble_eq_true rfl)) dX2_numberAt_3 ⟨Nat.le_of_ble_eq_true rfl, Nat.le_of_ble_eq_true rfl⟩) hS (fun q9 _ h => hFc q9 h) hFc (fun r9 u t9 H1 locs ht9 hvm9 hw9 hB9 hzc hkc hS => ?_)
  obtain ⟨K', R', L', N', hP1, hD1, hM⟩ := hB9
  rw [ht9] at hP1
  subst hw9
  obtain ⟨hP, hD⟩ := xjoin (wr := []) (wc := (MWs cI m0 a1 a2 a3 a4 K R L N ld o b k t)) hP hD hkc hFc hP1 hD1
  generalize H1 = H at hP hS ⊢
  have hM : MA G K' R' L' N' := hM
  have hP : va_P D vwCl [(m0, .inr (2, [.ref a1, .ref a2, .ref a3, .ref a4, .int (nI ld), .int (nI o), .int (nI b), .int (nI k), .int (nI 0)])), (a1, .inl (cI, 252, .inl K')), (a2, .inl (cI, 252, .inl R')), (a3, .inl (cI, 252, .inl L')), (a4, .inl (cI, 3024, .inl N'))] H := hP
  have hD : va_D A [(m0, .inr (2, [.ref a1, .ref a2, .ref a3, .ref a4, .int (nI ld), .int (nI o), .int (nI b), .int (nI k), .int (nI 0)])), (a1, .inl (cI, 252, .inl K')), (a2, .inl (cI, 252, .inl R')), (a3, .inl (cI, 252, .inl L')), (a4, .inl (cI, 3024, .inl N'))] := hD
  refine lv_if_eq (tgt := 31) hx hb dX2_numberAt_6 (by decide) (fun h => absurd h (by decide)) (fun _ => ?_)
  refine lv_aload_n hx hb dX2_numberAt_9 rfl (lv_at hl 0 rfl) ?_
  refine lv_iload_n hx hb dX2_numberAt_10 rfl (lv_at hl 3 rfl) ?_
  refine lv_iconst (v := nI 0) hx hb dX2_numberAt_11 (by decide) ?_
  refine lv_bipush (v := nI 11) hx hb dX2_numberAt_12 (by decide) ?_
  refine xc_sie (va_runS (As := [.int z, .int (nI 0), .int (nI 11)]) (rest := [.ref m0]) ⟨hx, hb, hml, hown, hts⟩ (c_X2_isIn l z (nI 0) (nI 11)) (va_cwS 3 hts gX2_numberAt_X2_isIn rfl rfl rfl (by decide +kernel) ⟨(Nat.le_of_ble_eq_true rfl), (Nat.le_of_ble_eq_true rfl)⟩) ⟨XP_blind, XP_pre hE trivial⟩ rfl rfl hl.1 rfl (lv_room (Nat.le_of_ble_eq_true rfl)) dX2_numberAt_14 ⟨Nat.le_of_ble_eq_true rfl, Nat.le_of_ble_eq_true rfl⟩) ?_
  refine x_top (nI 0) (by rw [decide_eq_false (in_f0 (by omega) (fun h => hbad (h.elim fun j hj => ⟨j, by omega, hj.2⟩)))]; rfl) ?_
  refine lv_if_eq (tgt := 24) hx hb dX2_numberAt_17 (by decide) (fun _ => ?_) (fun h => absurd h (by decide))
  refine lv_iconst (v := nI 1) hx hb dX2_numberAt_24 (by decide) ?_
  have hP : va_P D vwCl ([] ++ (MWs cI m0 a1 a2 a3 a4 K' R' L' N' ld o b k 0)) H := hP
  have hD : va_D A ([] ++ (MWs cI m0 a1 a2 a3 a4 K' R' L' N' ld o b k 0)) := hD
  have hFc := xfree (wc := (MWs cI m0 a1 a2 a3 a4 K' R' L' N' ld o b k 0)) hD hS hA (fun _ h => List.mem_append_right _ h)
  have hPc := xP_sub (w2 := (MWs cI m0 a1 a2 a3 a4 K' R' L' N' ld o b k 0)) (fun _ h => List.mem_append_right _ h) hP
  have hDc : va_D (fun _ => True) (MWs cI m0 a1 a2 a3 a4 K' R' L' N' ld o b k 0) := (xD_sub (List.sublist_append_right _ _) hD).weaken (fun _ _ _ _ => trivial)
  refine va_calli (va_runV (As := [.int (nI 1)]) (rest := []) ⟨hx, hb, hml, hown, hts⟩ (c_X2_goes l m0 a1 a2 a3 a4 K' R' L' N' ld o b k 0 1 (by omega) H.size) (cwV 1 hts gX2_numberAt_X2_goes rfl rfl rfl (by decide +kernel) ⟨(Nat.le_of_ble_eq_true rfl), (Nat.le_of_ble_eq_true rfl)⟩) ⟨XP_blind, va_recv hK hP (ci := 2) (q0 := 0) rfl rfl, XP_pre hE ⟨rfl, hPc, hDc⟩⟩ rfl rfl hl.1 rfl (lv_room (Nat.le_of_ble_eq_true rfl)) dX2_numberAt_25 ⟨by first | exact Nat.le_of_ble_eq_true rfl | (show _ + _ ≤ _; omega), by first | exact Nat.le_of_ble_eq_true rfl | (show _ + _ ≤ _; omega)⟩) hS (fun q9 _ h => hFc q9 h) hFc (fun r9 u t9 H1 locs ht9 hvm9 hw9 hB9 hzc hkc hS => ?_)
  obtain ⟨hP1, hD1⟩ := hB9
  rw [ht9] at hP1
  obtain ⟨hP, hD⟩ := xjoin (wr := []) (wc := (MWs cI m0 a1 a2 a3 a4 K' R' L' N' ld o b k 0)) (w1 := (MWs cI m0 a1 a2 a3 a4 K' R' L' N' ld o b k 1)) hP hD hkc hFc hP1 hD1
  generalize H1 = H at hP hS ⊢
  subst hw9
  have hP : va_P D vwCl [(m0, .inr (2, [.ref a1, .ref a2, .ref a3, .ref a4, .int (nI ld), .int (nI o), .int (nI b), .int (nI k), .int (nI 1)])), (a1, .inl (cI, 252, .inl K')), (a2, .inl (cI, 252, .inl R')), (a3, .inl (cI, 252, .inl L')), (a4, .inl (cI, 3024, .inl N'))] H := hP
  have hD : va_D A [(m0, .inr (2, [.ref a1, .ref a2, .ref a3, .ref a4, .int (nI ld), .int (nI o), .int (nI b), .int (nI k), .int (nI 1)])), (a1, .inl (cI, 252, .inl K')), (a2, .inl (cI, 252, .inl R')), (a3, .inl (cI, 252, .inl L')), (a4, .inl (cI, 3024, .inl N'))] := hD
  refine x_top (nI 0) rfl ?_
  refine lv_if_ne (tgt := 33) hx hb dX2_numberAt_28 (by decide) (fun h => absurd h (by decide)) (fun _ => ?_)
  refine lv_iconst (v := nI 0) hx hb dX2_numberAt_31 (by decide) ?_
  exact W.iret hx hb hr (fun t9 ht9 hW9 => ⟨⟨_, (), rfl, trivial, _, _, _, _, by rw [ht9]; exact hP, hD, hM⟩, hS.F ht9⟩) hS.2.2 dX2_numberAt_32

set_option maxHeartbeats 4000000 in
set_option maxRecDepth 100000 in
theorem c_X2_sizeAt_g (l : Launch) {D : va_G} {cI cT cJ : ClassId} (m0 a1 a2 a3 a4 : Nat) (K R L N : Nat → Int32) (ld o b k t : Nat) (G : Nat → Tv) (hM : MA G K R L N) (d j : Nat) (hd1 : o ≤ d) (hd2 : d ≤ ld) (hld : ld ≤ 40) (hj : j < 6) (sz : Nat) : Met l yX2_sizeAt wsX2_sizeAt (rmD 6 0 0) (XP D cI cT cJ [.ref m0, .int (nI d), .int (nI j)] (fun H => H.size = sz ∧ va_P D vwCl (MWs cI m0 a1 a2 a3 a4 K R L N ld o b k t) H ∧ va_D (fun _ => True) (MWs cI m0 a1 a2 a3 a4 K R L N ld o b k t))) (va_Qi (S := Unit) (fun r _ => r = nI (difW G ld d j)) (fun _ t9 => MB D cI m0 a1 a2 a3 a4 (va_A (MWs cI m0 a1 a2 a3 a4 K R L N ld o b k t) sz) (G, o, ld, b, k) 0 t9.heap) (va_A (MWs cI m0 a1 a2 a3 a4 K R L N ld o b k t) sz)) 0 0 (va_A (MWs cI m0 a1 a2 a3 a4 K R L N ld o b k t) sz) := by
  refine Met.ofW (cc := cX2_sizeAt) (maxL := 3) (ret := (some .int)) (by decide) rfl ?_
  intro p e s m args below meth c s₁ B hml hv
  obtain ⟨rfl, ⟨hsz, hP, hD0⟩, hE⟩ := hv
  have hx := B.exec
  have hb := B.bytes
  have hr := B.returns
  have hts := atoms_spec (ws := wsX2_sizeAt) B.pre
  have hown : s.vm.findClass RX2 = some m.cls := findClass_of_methodNamed B.named
  have hlocks := B.notSynchronized
  have hl := lv_entry ([.ref m0, .int (nI d), .int (nI j)]) (n := 3) (Nat.le_of_ble_eq_true rfl)
  rw [lg_entry_eq]
  generalize (lg_sl ([.ref m0, .int (nI d), .int (nI j)]) ++ List.replicate (3 - (lg_sl ([.ref m0, .int (nI d), .int (nI j)])).length) Slot.unset).toArray = ls at hl ⊢
  have hl : lv_has ls 3 [(0, .ref m0), (1, .int (nI d)), (2, .int (nI j))] := hl
  have hK := hE.1
  subst hsz
  have hD := hD0.self (sz := s.heap.size)
  generalize hAe : va_A ((MWs cI m0 a1 a2 a3 a4 K R L N ld o b k t)) s.heap.size = A at hD ⊢
  have hA : ∀ q : Nat, s.heap.size ≤ q → A q := fun q h => by rw [← hAe]; exact Or.inr h
  have hS : va_S A s.heap s.heap [] := va_S.rf
  refine lv_aload_n hx hb dX2_sizeAt_0 rfl (lv_at hl 0 rfl) ?_
  refine lv_aload_n hx hb dX2_sizeAt_1 rfl (lv_at hl 0 rfl) ?_
  refine lv_iload_n hx hb dX2_sizeAt_2 rfl (lv_at hl 1 rfl) ?_
  refine xc_sie (va_runV (As := [.int (nI d)]) (rest := [.ref m0]) ⟨hx, hb, hml, hown, hts⟩ (c_X2_isKept l m0 a1 a2 a3 a4 K R L N ld o b k t (nI d)) (cwV 1 hts gX2_sizeAt_X2_isKept rfl rfl rfl (by decide +kernel) ⟨(Nat.le_of_ble_eq_true rfl), (Nat.le_of_ble_eq_true rfl)⟩) ⟨XP_blind, va_recv hK hP (ci := 2) (q0 := 0) rfl rfl, XP_pre hE hP⟩ rfl rfl hl.1 rfl (lv_room (Nat.le_of_ble_eq_true rfl)) dX2_sizeAt_3 ⟨Nat.le_of_ble_eq_true rfl, Nat.le_of_ble_eq_true rfl⟩) ?_
  refine x_top (nI 1) (by rw [decide_eq_true (in_t hd1 hd2 (by omega))]; rfl) ?_
  refine lv_if_eq (tgt := 20) hx hb dX2_sizeAt_6 (by decide) (fun h => absurd h (by decide)) (fun _ => ?_)
  refine lv_iload_n hx hb dX2_sizeAt_9 rfl (lv_at hl 2 rfl) ?_
  refine xc_sie (va_runS (As := [.int (nI j)]) (rest := [.ref m0]) ⟨hx, hb, hml, hown, hts⟩ (c_X2_isPlace l (nI j)) (va_cwS 1 hts gX2_sizeAt_X2_isPlace rfl rfl rfl (by decide +kernel) ⟨(Nat.le_of_ble_eq_true rfl), (Nat.le_of_ble_eq_true rfl)⟩) ⟨XP_blind, XP_pre hE trivial⟩ rfl rfl hl.1 rfl (lv_room (Nat.le_of_ble_eq_true rfl)) dX2_sizeAt_10 ⟨Nat.le_of_ble_eq_true rfl, Nat.le_of_ble_eq_true rfl⟩) ?_
  refine x_top (nI 1) (by rw [decide_eq_true (pl_t hj)]; rfl) ?_
  refine lv_if_eq (tgt := 20) hx hb dX2_sizeAt_13 (by decide) (fun h => absurd h (by decide)) (fun _ => ?_)
  refine lv_iconst (v := nI 0) hx hb dX2_sizeAt_16 (by decide) ?_
  refine lv_goto (tgt := 21) hx hb dX2_sizeAt_17 (by decide) ?_
  have hP : va_P D vwCl ([] ++ (MWs cI m0 a1 a2 a3 a4 K R L N ld o b k t)) s.heap := hP
  have hD : va_D A ([] ++ (MWs cI m0 a1 a2 a3 a4 K R L N ld o b k t)) := hD
  have hFc := xfree (wc := (MWs cI m0 a1 a2 a3 a4 K R L N ld o b k t)) hD hS hA (fun _ h => List.mem_append_right _ h)
  have hPc := xP_sub (w2 := (MWs cI m0 a1 a2 a3 a4 K R L N ld o b k t)) (fun _ h => List.mem_append_right _ h) hP
  have hDc : va_D (fun _ => True) (MWs cI m0 a1 a2 a3 a4 K R L N ld o b k t) := (xD_sub (List.sublist_append_right _ _) hD).weaken (fun _ _ _ _ => trivial)
  refine va_calli (va_runV (As := [.int (nI 0)]) (rest := []) ⟨hx, hb, hml, hown, hts⟩ (c_X2_goes l m0 a1 a2 a3 a4 K R L N ld o b k t 0 (by omega) s.heap.size) (cwV 1 hts gX2_sizeAt_X2_goes rfl rfl rfl (by decide +kernel) ⟨(Nat.le_of_ble_eq_true rfl), (Nat.le_of_ble_eq_true rfl)⟩) ⟨XP_blind, va_recv hK hP (ci := 2) (q0 := 0) rfl rfl, XP_pre hE ⟨rfl, hPc, hDc⟩⟩ rfl rfl hl.1 rfl (lv_room (Nat.le_of_ble_eq_true rfl)) dX2_sizeAt_21 ⟨by first | exact Nat.le_of_ble_eq_true rfl | (show _ + _ ≤ _; omega), by first | exact Nat.le_of_ble_eq_true rfl | (show _ + _ ≤ _; omega)⟩) hS (fun q9 _ h => hFc q9 h) hFc (fun r9 u t9 H1 locs ht9 hvm9 hw9 hB9 hzc hkc hS => ?_)
  obtain ⟨hP1, hD1⟩ := hB9
  rw [ht9] at hP1
  obtain ⟨hP, hD⟩ := xjoin (wr := []) (wc := (MWs cI m0 a1 a2 a3 a4 K R L N ld o b k t)) (w1 := (MWs cI m0 a1 a2 a3 a4 K R L N ld o b k 0)) hP hD hkc hFc hP1 hD1
  generalize H1 = H at hP hS ⊢
  subst hw9
  have hP : va_P D vwCl [(m0, .inr (2, [.ref a1, .ref a2, .ref a3, .ref a4, .int (nI ld), .int (nI o), .int (nI b), .int (nI k), .int (nI 0)])), (a1, .inl (cI, 252, .inl K)), (a2, .inl (cI, 252, .inl R)), (a3, .inl (cI, 252, .inl L)), (a4, .inl (cI, 3024, .inl N))] H := hP
  have hD : va_D A [(m0, .inr (2, [.ref a1, .ref a2, .ref a3, .ref a4, .int (nI ld), .int (nI o), .int (nI b), .int (nI k), .int (nI 0)])), (a1, .inl (cI, 252, .inl K)), (a2, .inl (cI, 252, .inl R)), (a3, .inl (cI, 252, .inl L)), (a4, .inl (cI, 3024, .inl N))] := hD
  refine x_top (nI 1) rfl ?_
  refine lv_if_eq (tgt := 36) hx hb dX2_sizeAt_24 (by decide) (fun h => absurd h (by decide)) (fun _ => ?_)
  refine lv_aload_n hx hb dX2_sizeAt_27 rfl (lv_at hl 0 rfl) ?_
  refine lv_iload_n hx hb dX2_sizeAt_28 rfl (lv_at hl 1 rfl) ?_
  refine lv_iload_n hx hb dX2_sizeAt_29 rfl (lv_at hl 2 rfl) ?_
  refine xc_sie (va_runV (As := [.int (nI d), .int (nI j)]) (rest := []) ⟨hx, hb, hml, hown, hts⟩ (c_X2_sizeOf l m0 a1 a2 a3 a4 K R L N ld o b k 0 G hM d j hld (by omega) (by omega)) (cwV 2 hts gX2_sizeAt_X2_sizeOf rfl rfl rfl (by decide +kernel) ⟨(Nat.le_of_ble_eq_true rfl), (Nat.le_of_ble_eq_true rfl)⟩) ⟨XP_blind, va_recv hK hP (ci := 2) (q0 := 0) rfl rfl, XP_pre hE hP⟩ rfl rfl hl.1 rfl (lv_room (Nat.le_of_ble_eq_true rfl)) dX2_sizeAt_30 ⟨Nat.le_of_ble_eq_true rfl, Nat.le_of_ble_eq_true rfl⟩) ?_
  refine lv_goto (tgt := 37) hx hb dX2_sizeAt_33 (by decide) ?_
  exact W.iret hx hb hr (fun t9 ht9 hW9 => ⟨⟨_, (), rfl, rfl, _, _, _, _, by rw [ht9]; exact hP, hD, hM⟩, hS.F ht9⟩) hS.2.2 dX2_sizeAt_37

set_option maxHeartbeats 4000000 in
set_option maxRecDepth 100000 in
theorem c_X2_sizeAt_b (l : Launch) {D : va_G} {cI cT cJ : ClassId} (m0 a1 a2 a3 a4 : Nat) (K R L N : Nat → Int32) (ld o b k t : Nat) (G : Nat → Tv) (hM : MA G K R L N) (v w : Int32) (hld : ld ≤ 40) (hold : o ≤ ld) (hbad : ¬ ∃ d j : Nat, o ≤ d ∧ d ≤ ld ∧ v = nI d ∧ j < 6 ∧ w = nI j) (sz : Nat) : Met l yX2_sizeAt wsX2_sizeAt (rmD 6 0 0) (XP D cI cT cJ [.ref m0, .int v, .int w] (fun H => H.size = sz ∧ va_P D vwCl (MWs cI m0 a1 a2 a3 a4 K R L N ld o b k t) H ∧ va_D (fun _ => True) (MWs cI m0 a1 a2 a3 a4 K R L N ld o b k t))) (va_Qi (S := Unit) (fun r _ => True) (fun _ t9 => MB D cI m0 a1 a2 a3 a4 (va_A (MWs cI m0 a1 a2 a3 a4 K R L N ld o b k t) sz) (G, o, ld, b, k) 1 t9.heap) (va_A (MWs cI m0 a1 a2 a3 a4 K R L N ld o b k t) sz)) 0 0 (va_A (MWs cI m0 a1 a2 a3 a4 K R L N ld o b k t) sz) := by
  refine Met.ofW (cc := cX2_sizeAt) (maxL := 3) (ret := (some .int)) (by decide) rfl ?_
  intro p e s m args below meth c s₁ B hml hv
  obtain ⟨rfl, ⟨hsz, hP, hD0⟩, hE⟩ := hv
  have hx := B.exec
  have hb := B.bytes
  have hr := B.returns
  have hts := atoms_spec (ws := wsX2_sizeAt) B.pre
  have hown : s.vm.findClass RX2 = some m.cls := findClass_of_methodNamed B.named
  have hlocks := B.notSynchronized
  have hl := lv_entry ([.ref m0, .int v, .int w]) (n := 3) (Nat.le_of_ble_eq_true rfl)
  rw [lg_entry_eq]
  generalize (lg_sl ([.ref m0, .int v, .int w]) ++ List.replicate (3 - (lg_sl ([.ref m0, .int v, .int w])).length) Slot.unset).toArray = ls at hl ⊢
  have hl : lv_has ls 3 [(0, .ref m0), (1, .int v), (2, .int w)] := hl
  have hK := hE.1
  subst hsz
  have hD := hD0.self (sz := s.heap.size)
  generalize hAe : va_A ((MWs cI m0 a1 a2 a3 a4 K R L N ld o b k t)) s.heap.size = A at hD ⊢
  have hA : ∀ q : Nat, s.heap.size ≤ q → A q := fun q h => by rw [← hAe]; exact Or.inr h
  have hS : va_S A s.heap s.heap [] := va_S.rf
  refine lv_aload_n hx hb dX2_sizeAt_0 rfl (lv_at hl 0 rfl) ?_
  refine lv_aload_n hx hb dX2_sizeAt_1 rfl (lv_at hl 0 rfl) ?_
  refine lv_iload_n hx hb dX2_sizeAt_2 rfl (lv_at hl 1 rfl) ?_
  refine xc_sie (va_runV (As := [.int v]) (rest := [.ref m0]) ⟨hx, hb, hml, hown, hts⟩ (c_X2_isKept l m0 a1 a2 a3 a4 K R L N ld o b k t v) (cwV 1 hts gX2_sizeAt_X2_isKept rfl rfl rfl (by decide +kernel) ⟨(Nat.le_of_ble_eq_true rfl), (Nat.le_of_ble_eq_true rfl)⟩) ⟨XP_blind, va_recv hK hP (ci := 2) (q0 := 0) rfl rfl, XP_pre hE hP⟩ rfl rfl hl.1 rfl (lv_room (Nat.le_of_ble_eq_true rfl)) dX2_sizeAt_3 ⟨Nat.le_of_ble_eq_true rfl, Nat.le_of_ble_eq_true rfl⟩) ?_
  refine lv_if_eq (tgt := 20) hx hb dX2_sizeAt_6 (by decide) (fun c6 => ?_) (fun c6 => ?_)
  · have c6 : (decide (nI o ≤ v ∧ v ≤ nI ld)) = false := bN_f c6
    refine lv_iconst (v := nI 1) hx hb dX2_sizeAt_20 (by decide) ?_
    have hP : va_P D vwCl ([] ++ (MWs cI m0 a1 a2 a3 a4 K R L N ld o b k t)) s.heap := hP
    have hD : va_D A ([] ++ (MWs cI m0 a1 a2 a3 a4 K R L N ld o b k t)) := hD
    have hFc := xfree (wc := (MWs cI m0 a1 a2 a3 a4 K R L N ld o b k t)) hD hS hA (fun _ h => List.mem_append_right _ h)
    have hPc := xP_sub (w2 := (MWs cI m0 a1 a2 a3 a4 K R L N ld o b k t)) (fun _ h => List.mem_append_right _ h) hP
    have hDc : va_D (fun _ => True) (MWs cI m0 a1 a2 a3 a4 K R L N ld o b k t) := (xD_sub (List.sublist_append_right _ _) hD).weaken (fun _ _ _ _ => trivial)
    refine va_calli (va_runV (As := [.int (nI 1)]) (rest := []) ⟨hx, hb, hml, hown, hts⟩ (c_X2_goes l m0 a1 a2 a3 a4 K R L N ld o b k t 1 (by omega) s.heap.size) (cwV 1 hts gX2_sizeAt_X2_goes rfl rfl rfl (by decide +kernel) ⟨(Nat.le_of_ble_eq_true rfl), (Nat.le_of_ble_eq_true rfl)⟩) ⟨XP_blind, va_recv hK hP (ci := 2) (q0 := 0) rfl rfl, XP_pre hE ⟨rfl, hPc, hDc⟩⟩ rfl rfl hl.1 rfl (lv_room (Nat.le_of_ble_eq_true rfl)) dX2_sizeAt_21 ⟨by first | exact Nat.le_of_ble_eq_true rfl | (show _ + _ ≤ _; omega), by first | exact Nat.le_of_ble_eq_true rfl | (show _ + _ ≤ _; omega)⟩) hS (fun q9 _ h => hFc q9 h) hFc (fun r9 u t9 H1 locs ht9 hvm9 hw9 hB9 hzc hkc hS => ?_)
    obtain ⟨hP1, hD1⟩ := hB9
    rw [ht9] at hP1
    obtain ⟨hP, hD⟩ := xjoin (wr := []) (wc := (MWs cI m0 a1 a2 a3 a4 K R L N ld o b k t)) (w1 := (MWs cI m0 a1 a2 a3 a4 K R L N ld o b k 1)) hP hD hkc hFc hP1 hD1
    generalize H1 = H at hP hS ⊢
    subst hw9
    have hP : va_P D vwCl [(m0, .inr (2, [.ref a1, .ref a2, .ref a3, .ref a4, .int (nI ld), .int (nI o), .int (nI b), .int (nI k), .int (nI 1)])), (a1, .inl (cI, 252, .inl K)), (a2, .inl (cI, 252, .inl R)), (a3, .inl (cI, 252, .inl L)), (a4, .inl (cI, 3024, .inl N))] H := hP
    have hD : va_D A [(m0, .inr (2, [.ref a1, .ref a2, .ref a3, .ref a4, .int (nI ld), .int (nI o), .int (nI b), .int (nI k), .int (nI 1)])), (a1, .inl (cI, 252, .inl K)), (a2, .inl (cI, 252, .inl R)), (a3, .inl (cI, 252, .inl L)), (a4, .inl (cI, 3024, .inl N))] := hD
    refine x_top (nI 0) rfl ?_
    refine lv_if_eq (tgt := 36) hx hb dX2_sizeAt_24 (by decide) (fun _ => ?_) (fun h => absurd h (by decide))
    refine lv_iconst (v := nI 0) hx hb dX2_sizeAt_36 (by decide) ?_
    exact W.iret hx hb hr (fun t9 ht9 hW9 => ⟨⟨_, (), rfl, trivial, _, _, _, _, by rw [ht9]; exact hP, hD, hM⟩, hS.F ht9⟩) hS.2.2 dX2_sizeAt_37
  · have c6 : (decide (nI o ≤ v ∧ v ≤ nI ld)) = true := bN_t c6
    refine lv_iload_n hx hb dX2_sizeAt_9 rfl (lv_at hl 2 rfl) ?_
    refine xc_sie (va_runS (As := [.int w]) (rest := [.ref m0]) ⟨hx, hb, hml, hown, hts⟩ (c_X2_isPlace l w) (va_cwS 1 hts gX2_sizeAt_X2_isPlace rfl rfl rfl (by decide +kernel) ⟨(Nat.le_of_ble_eq_true rfl), (Nat.le_of_ble_eq_true rfl)⟩) ⟨XP_blind, XP_pre hE trivial⟩ rfl rfl hl.1 rfl (lv_room (Nat.le_of_ble_eq_true rfl)) dX2_sizeAt_10 ⟨Nat.le_of_ble_eq_true rfl, Nat.le_of_ble_eq_true rfl⟩) ?_
    refine lv_if_eq (tgt := 20) hx hb dX2_sizeAt_13 (by decide) (fun c13 => ?_) (fun c13 => ?_)
    · have c13 : (decide (nI 0 ≤ w ∧ w ≤ nI 5)) = false := bN_f c13
      refine lv_iconst (v := nI 1) hx hb dX2_sizeAt_20 (by decide) ?_
      have hP : va_P D vwCl ([] ++ (MWs cI m0 a1 a2 a3 a4 K R L N ld o b k t)) s.heap := hP
      have hD : va_D A ([] ++ (MWs cI m0 a1 a2 a3 a4 K R L N ld o b k t)) := hD
      have hFc := xfree (wc := (MWs cI m0 a1 a2 a3 a4 K R L N ld o b k t)) hD hS hA (fun _ h => List.mem_append_right _ h)
      have hPc := xP_sub (w2 := (MWs cI m0 a1 a2 a3 a4 K R L N ld o b k t)) (fun _ h => List.mem_append_right _ h) hP
      have hDc : va_D (fun _ => True) (MWs cI m0 a1 a2 a3 a4 K R L N ld o b k t) := (xD_sub (List.sublist_append_right _ _) hD).weaken (fun _ _ _ _ => trivial)
      refine va_calli (va_runV (As := [.int (nI 1)]) (rest := []) ⟨hx, hb, hml, hown, hts⟩ (c_X2_goes l m0 a1 a2 a3 a4 K R L N ld o b k t 1 (by omega) s.heap.size) (cwV 1 hts gX2_sizeAt_X2_goes rfl rfl rfl (by decide +kernel) ⟨(Nat.le_of_ble_eq_true rfl), (Nat.le_of_ble_eq_true rfl)⟩) ⟨XP_blind, va_recv hK hP (ci := 2) (q0 := 0) rfl rfl, XP_pre hE ⟨rfl, hPc, hDc⟩⟩ rfl rfl hl.1 rfl (lv_room (Nat.le_of_ble_eq_true rfl)) dX2_sizeAt_21 ⟨by first | exact Nat.le_of_ble_eq_true rfl | (show _ + _ ≤ _; omega), by first | exact Nat.le_of_ble_eq_true rfl | (show _ + _ ≤ _; omega)⟩) hS (fun q9 _ h => hFc q9 h) hFc (fun r9 u t9 H1 locs ht9 hvm9 hw9 hB9 hzc hkc hS => ?_)
      obtain ⟨hP1, hD1⟩ := hB9
      rw [ht9] at hP1
      obtain ⟨hP, hD⟩ := xjoin (wr := []) (wc := (MWs cI m0 a1 a2 a3 a4 K R L N ld o b k t)) (w1 := (MWs cI m0 a1 a2 a3 a4 K R L N ld o b k 1)) hP hD hkc hFc hP1 hD1
      generalize H1 = H at hP hS ⊢
      subst hw9
      have hP : va_P D vwCl [(m0, .inr (2, [.ref a1, .ref a2, .ref a3, .ref a4, .int (nI ld), .int (nI o), .int (nI b), .int (nI k), .int (nI 1)])), (a1, .inl (cI, 252, .inl K)), (a2, .inl (cI, 252, .inl R)), (a3, .inl (cI, 252, .inl L)), (a4, .inl (cI, 3024, .inl N))] H := hP
      have hD : va_D A [(m0, .inr (2, [.ref a1, .ref a2, .ref a3, .ref a4, .int (nI ld), .int (nI o), .int (nI b), .int (nI k), .int (nI 1)])), (a1, .inl (cI, 252, .inl K)), (a2, .inl (cI, 252, .inl R)), (a3, .inl (cI, 252, .inl L)), (a4, .inl (cI, 3024, .inl N))] := hD
      refine x_top (nI 0) rfl ?_
      refine lv_if_eq (tgt := 36) hx hb dX2_sizeAt_24 (by decide) (fun _ => ?_) (fun h => absurd h (by decide))
      refine lv_iconst (v := nI 0) hx hb dX2_sizeAt_36 (by decide) ?_
      exact W.iret hx hb hr (fun t9 ht9 hW9 => ⟨⟨_, (), rfl, trivial, _, _, _, _, by rw [ht9]; exact hP, hD, hM⟩, hS.F ht9⟩) hS.2.2 dX2_sizeAt_37
    · have c13 : (decide (nI 0 ≤ w ∧ w ≤ nI 5)) = true := bN_t c13
      exact absurd (by obtain ⟨j, hj, rfl⟩ := pl_of c13; obtain ⟨d, h1, h2, rfl⟩ := kp_of hld hold c6; exact ⟨d, j, h1, h2, rfl, hj, rfl⟩) hbad

theorem iw_X2size_X2 : ∀ w ∈ u_ws RX2 TX2 9, w ∈ wsX2_size := by decide +kernel
set_option maxHeartbeats 4000000 in
set_option maxRecDepth 100000 in
theorem c_X2_size (l : Launch) {D : va_G} {cI cT cJ : ClassId} (m0 a1 a2 a3 a4 : Nat) (K R L N : Nat → Int32) (ld o b k t : Nat) (G : Nat → Tv) (hM : MA G K R L N)  (hld : ld ≤ 40) (hold : o ≤ ld) (sz : Nat) : Met l yX2_size wsX2_size (rmD 6 0 0) (XP D cI cT cJ [.ref m0] (fun H => H.size = sz ∧ va_P D vwCl (MWs cI m0 a1 a2 a3 a4 K R L N ld o b k t) H ∧ va_D (fun _ => True) (MWs cI m0 a1 a2 a3 a4 K R L N ld o b k t))) (va_Qi (S := Unit) (fun r _ => r = nI (szN G (6 * o) (6 * (ld - o)))) (fun _ t9 => MB D cI m0 a1 a2 a3 a4 (va_A (MWs cI m0 a1 a2 a3 a4 K R L N ld o b k t) sz) (G, o, ld, b, k) 0 t9.heap) (va_A (MWs cI m0 a1 a2 a3 a4 K R L N ld o b k t) sz)) 0 0 (va_A (MWs cI m0 a1 a2 a3 a4 K R L N ld o b k t) sz) := by
  refine Met.ofW (cc := cX2_size) (maxL := 3) (ret := (some .int)) (by decide) rfl ?_
  intro p e s m args below meth c s₁ B hml hv
  obtain ⟨rfl, ⟨hsz, hP, hD0⟩, hE⟩ := hv
  have hx := B.exec
  have hb := B.bytes
  have hr := B.returns
  have hts := atoms_spec (ws := wsX2_size) B.pre
  have hown : s.vm.findClass RX2 = some m.cls := findClass_of_methodNamed B.named
  have hlocks := B.notSynchronized
  have hl := lv_entry ([.ref m0]) (n := 3) (Nat.le_of_ble_eq_true rfl)
  rw [lg_entry_eq]
  generalize (lg_sl ([.ref m0]) ++ List.replicate (3 - (lg_sl ([.ref m0])).length) Slot.unset).toArray = ls at hl ⊢
  have hl : lv_has ls 3 [(0, .ref m0)] := hl
  have hK := hE.1
  subst hsz
  have hD := hD0.self (sz := s.heap.size)
  generalize hAe : va_A ((MWs cI m0 a1 a2 a3 a4 K R L N ld o b k t)) s.heap.size = A at hD ⊢
  have hA : ∀ q : Nat, s.heap.size ≤ q → A q := fun q h => by rw [← hAe]; exact Or.inr h
  have hS : va_S A s.heap s.heap [] := va_S.rf
  refine lv_aload_n hx hb dX2_size_0 rfl (lv_at hl 0 rfl) ?_
  refine lv_iconst (v := nI 0) hx hb dX2_size_1 (by decide) ?_
  refine va_put (ci := 2) (v := .int (nI 0)) (ty := .int) (C := RX2) (T := TX2) (N := 9) hx hb hts iw_X2size_X2 tyX2 tyX2_ok nmX2 hown hK hP hD hS 0 rfl rfl 8 (by decide) (hts (.fieldLink RX2 22 "BackMirrorModel" "thrown" "I") (by decide +kernel)) (fun _ h9 => h9) rfl (by decide +kernel) rfl rfl (Nat.le_of_ble_eq_true rfl) dX2_size_2 (fun H locs hP hD hS => ?_)
  have hP : va_P D vwCl [(m0, .inr (2, [.ref a1, .ref a2, .ref a3, .ref a4, .int (nI ld), .int (nI o), .int (nI b), .int (nI k), .int (nI 0)])), (a1, .inl (cI, 252, .inl K)), (a2, .inl (cI, 252, .inl R)), (a3, .inl (cI, 252, .inl L)), (a4, .inl (cI, 3024, .inl N))] H := hP
  have hD : va_D A [(m0, .inr (2, [.ref a1, .ref a2, .ref a3, .ref a4, .int (nI ld), .int (nI o), .int (nI b), .int (nI k), .int (nI 0)])), (a1, .inl (cI, 252, .inl K)), (a2, .inl (cI, 252, .inl R)), (a3, .inl (cI, 252, .inl L)), (a4, .inl (cI, 3024, .inl N))] := hD
  refine lv_iconst (v := nI 0) hx hb dX2_size_5 (by decide) ?_
  refine lv_istore_n (lv' := [(1, .int (nI 0)), (0, .ref m0)]) hx hb dX2_size_6 rfl hl (by decide) rfl (fun ls hl => ?_)
  refine lv_bipush (v := nI 6) hx hb dX2_size_7 (by decide) ?_
  refine lv_aload_n hx hb dX2_size_9 rfl (lv_at hl 1 rfl) ?_
  refine va_get (ci := 2) (v := .int (nI o)) (C := RX2) (T := TX2) (N := 9) hx hb hts iw_X2size_X2 hown hK hP 0 rfl rfl 5 (by decide) (hts (.fieldLink RX2 76 "BackMirrorModel" "oldest" "I") (by decide +kernel)) (fun _ h9 => h9) rfl dX2_size_10 ?_
  refine lv_imul hx hb dX2_size_13 ?_
  refine x_top (nI (6 * o)) (pk_mul _ _) ?_
  refine lv_istore_n (lv' := [(2, .int (nI (6 * o))), (1, .int (nI 0)), (0, .ref m0)]) hx hb dX2_size_14 rfl hl (by decide) rfl (fun ls hl => ?_)
  have hl : lv_has ls 3 [(2, .int (nI (6 * o))), (1, .int (nI (szN G (6 * o) (6 * o - 6 * o)))), (0, .ref m0)] := by rw [Nat.sub_self]; exact hl
  refine x_loopP (fun n ls => ∃ w j : Nat, (j + 1 = n) ∧ (6 * ld ≤ w + j) ∧ (w ≤ 6 * ld) ∧ (6 * o ≤ w) ∧ lv_has ls 3 [(2, .int (nI w)), (1, .int (nI (szN G (6 * o) (w - 6 * o)))), (0, .ref m0)]) (6 * ld - 6 * o + 1) ⟨6 * o, 6 * ld - 6 * o, rfl, by omega, by omega, by omega, lv_sub hl [0, 1, 2] rfl⟩ (fun ls h => by obtain ⟨w, j, hk, h1, h2, h3, -⟩ := h; omega) (fun n ls h ih => ?_)
  obtain ⟨w, j, hk, h1, h2, h3, hl⟩ := h
  refine lv_iload_n hx hb dX2_size_15 rfl (lv_at hl 0 rfl) ?_
  refine lv_bipush (v := nI 6) hx hb dX2_size_16 (by decide) ?_
  refine lv_aload_n hx hb dX2_size_18 rfl (lv_at hl 2 rfl) ?_
  refine va_get (ci := 2) (v := .int (nI ld)) (C := RX2) (T := TX2) (N := 9) hx hb hts iw_X2size_X2 hown hK hP 0 rfl rfl 4 (by decide) (hts (.fieldLink RX2 62 "BackMirrorModel" "last" "I") (by decide +kernel)) (fun _ h9 => h9) rfl dX2_size_19 ?_
  refine lv_imul hx hb dX2_size_22 ?_
  refine x_top (nI (6 * ld)) (pk_mul _ _) ?_
  refine lv_icmp_ge (tgt := 47) hx hb dX2_size_23 (by decide) (fun c23 => ?_) (fun c23 => ?_)
  · have c23 : (6 * ld) ≤ w := (xle (by omega) (by omega)).mp c23
    refine lv_iload_n hx hb dX2_size_47 rfl (lv_at hl 1 rfl) ?_
    exact W.iret hx hb hr (fun t9 ht9 hW9 => ⟨⟨_, (), rfl, by rw [show w - 6 * o = 6 * (ld - o) by omega], _, _, _, _, by rw [ht9]; exact hP, hD, hM⟩, hS.F ht9⟩) hS.2.2 dX2_size_48
  · have c23 : ¬ (6 * ld) ≤ w := fun h => c23 ((xle (by omega) (by omega)).mpr h)
    refine lv_iload_n hx hb dX2_size_26 rfl (lv_at hl 1 rfl) ?_
    refine lv_aload_n hx hb dX2_size_27 rfl (lv_at hl 2 rfl) ?_
    refine lv_iload_n hx hb dX2_size_28 rfl (lv_at hl 0 rfl) ?_
    refine lv_bipush (v := nI 6) hx hb dX2_size_29 (by decide) ?_
    refine lv_idiv hx hb dX2_size_31 (by decide) ?_
    refine x_top (nI (w / 6)) (pk_div (by omega) (by omega) (by omega)) ?_
    refine lv_iload_n hx hb dX2_size_32 rfl (lv_at hl 0 rfl) ?_
    refine lv_bipush (v := nI 6) hx hb dX2_size_33 (by decide) ?_
    refine lv_irem hx hb dX2_size_35 (by decide) ?_
    refine x_top (nI (w % 6)) (pk_rem (by omega) (by omega) (by omega)) ?_
    refine xc_sie (va_runV (As := [.int (nI (w / 6)), .int (nI (w % 6))]) (rest := [.int (nI (szN G (6 * o) (w - 6 * o)))]) ⟨hx, hb, hml, hown, hts⟩ (c_X2_sizeOf l m0 a1 a2 a3 a4 K R L N ld o b k 0 G hM (w / 6) (w % 6) hld (by omega) (by omega)) (cwV 2 hts gX2_size_X2_sizeOf rfl rfl rfl (by decide +kernel) ⟨(Nat.le_of_ble_eq_true rfl), (Nat.le_of_ble_eq_true rfl)⟩) ⟨XP_blind, va_recv hK hP (ci := 2) (q0 := 0) rfl rfl, XP_pre hE hP⟩ rfl rfl hl.1 rfl (lv_room (Nat.le_of_ble_eq_true rfl)) dX2_size_36 ⟨Nat.le_of_ble_eq_true rfl, Nat.le_of_ble_eq_true rfl⟩) ?_
    refine lv_iadd hx hb dX2_size_39 ?_
    refine x_top (nI ((szN G (6 * o) (w - 6 * o)) + (difW G ld (w / 6) (w % 6)))) (xadd (by omega)) ?_
    refine lv_istore_n (lv' := [(1, .int (nI ((szN G (6 * o) (w - 6 * o)) + (difW G ld (w / 6) (w % 6))))), (2, .int (nI w)), (0, .ref m0)]) hx hb dX2_size_40 rfl hl (by decide) rfl (fun ls hl => ?_)
    refine lv_iinc (v := nI (w + 1)) (lv' := [(2, .int (nI (w + 1))), (1, .int (nI ((szN G (6 * o) (w - 6 * o)) + (difW G ld (w / 6) (w % 6))))), (0, .ref m0)]) hx hb dX2_size_41 hl (k := 1) rfl (xinc _ 1 _ (by decide)) (by decide) rfl (fun ls hl => ?_)
    refine lv_goto (tgt := 15) hx hb dX2_size_44 (by decide) ?_
    have hw : (szN G (6 * o) (w - 6 * o)) + (difW G ld (w / 6) (w % 6)) = szN G (6 * o) (w + 1 - 6 * o) := by rw [show w + 1 - 6 * o = (w - 6 * o) + 1 by omega]; show _ = szN G (6 * o) (w - 6 * o) + dif (G (6 * o + (w - 6 * o))) (G (6 * o + (w - 6 * o) + 6)); unfold difW; rw [if_neg (by omega), show 6 * o + (w - 6 * o) = w by omega, show 6 * (w / 6) + w % 6 = w by omega, show 6 * (w / 6 + 1) + w % 6 = w + 6 by omega]
    have hl : lv_has ls 3 [(2, .int (nI (w + 1))), (1, .int (nI (szN G (6 * o) (w + 1 - 6 * o)))), (0, .ref m0)] := by rw [← hw]; exact hl
    exact ih _ ⟨w + 1, j - 1, by omega, by omega, by omega, by omega, lv_sub hl [0, 1, 2] rfl⟩

theorem MA_0 : MA G0 (fun _ => 0) (fun _ => 0) (fun _ => 0) (fun _ => 0) := fun i _ => ⟨rfl, rfl, rfl, Nat.zero_le _, fun _ h => absurd h (Nat.not_lt_zero _)⟩

theorem iw_X2init_X2 : ∀ w ∈ u_ws RX2 TX2 9, w ∈ wsX2_init := by decide +kernel
set_option maxHeartbeats 4000000 in
set_option maxRecDepth 100000 in
theorem c_X2_init (l : Launch) {D : va_G} {cI cT cJ : ClassId} (m0 sz : Nat) : Met l yX2_init wsX2_init (rmD 2 8 4000) (XP D cI cT cJ [.ref m0] (fun H => H.size = sz ∧ va_P D vwCl [(m0, .inr (2, [.null, .null, .null, .null, .int 0, .int 0, .int 0, .int 0, .int 0]))] H ∧ va_D (fun _ => True) [(m0, .inr (2, [.null, .null, .null, .null, .int 0, .int 0, .int 0, .int 0, .int 0]))])) (va_Qv (S := Nat × Nat × Nat × Nat) (fun _ => True) (fun u t => MB D cI m0 u.1 u.2.1 u.2.2.1 u.2.2.2 (va_A [(m0, .inr (2, [.null, .null, .null, .null, .int 0, .int 0, .int 0, .int 0, .int 0]))] sz) (G0, 0, 0, 0, 0) 0 t.heap) (va_A [(m0, .inr (2, [.null, .null, .null, .null, .int 0, .int 0, .int 0, .int 0, .int 0]))] sz)) 8 4000 (va_A [(m0, .inr (2, [.null, .null, .null, .null, .int 0, .int 0, .int 0, .int 0, .int 0]))] sz) := by
  refine Met.ofW (cc := cX2_init) (maxL := 1) (ret := none) (by decide) rfl ?_
  intro p e s m args below meth c s₁ B hml hv
  obtain ⟨rfl, ⟨hsz, hP, hD0⟩, hE⟩ := hv
  have hx := B.exec
  have hb := B.bytes
  have hr := B.returns
  have hts := atoms_spec (ws := wsX2_init) B.pre
  have hown : s.vm.findClass RX2 = some m.cls := findClass_of_methodNamed B.named
  have hlocks := B.notSynchronized
  have hin : meth.name = "<init>" := (name_of_methodNamed B.named B.method).1
  have hl := lv_entry ([.ref m0]) (n := 1) (Nat.le_of_ble_eq_true rfl)
  rw [lg_entry_eq]
  generalize (lg_sl ([.ref m0]) ++ List.replicate (1 - (lg_sl ([.ref m0])).length) Slot.unset).toArray = ls at hl ⊢
  have hl : lv_has ls 1 [(0, .ref m0)] := hl
  have hK := hE.1
  subst hsz
  have hD := hD0.self (sz := s.heap.size)
  generalize hAe : va_A ([(m0, .inr (2, [.null, .null, .null, .null, .int 0, .int 0, .int 0, .int 0, .int 0]))]) s.heap.size = A at hD ⊢
  have hA : ∀ q : Nat, s.heap.size ≤ q → A q := fun q h => by rw [← hAe]; exact Or.inr h
  have hS : va_S A s.heap s.heap [] := va_S.rf
  refine lv_aload_n hx hb dX2_init_0 rfl (lv_at hl 0 rfl) ?_
  refine W.objInit hx hb hown (hts (.methodLink RX2 1 objectInit) (by decide +kernel)) (hts (.instanceMethod objectInit) (by decide +kernel)) (hts (.code objectInit ⟨#[0xb1]⟩ 1 none) (by decide +kernel)) rfl (by rw [hml]; exact hl.1) rfl dX2_init_1 (Nat.le_of_ble_eq_true rfl) (Nat.le_of_ble_eq_true rfl) ?_
  refine W.eq (g2 := F0 m 4 ls []) rfl ?_
  refine lv_aload_n hx hb dX2_init_4 rfl (lv_at hl 0 rfl) ?_
  refine lv_sipush (v := nI 252) hx hb dX2_init_5 (by decide) ?_
  refine va_newa (atype := .int) (a0 := (252, .inl (fun _ => 0))) hx hb (hts (.arrayClass .int) (by decide +kernel)) rfl hK hP hD hS hA (fun _ => rfl) (xlt0 (by omega)) (nI_clamp (by omega)) (by show _ * 4 ≤ _; omega) (by first | exact Nat.le_of_ble_eq_true rfl | (show _ + _ ≤ 8; omega)) (by first | exact Nat.le_of_ble_eq_true rfl | (show _ + _ ≤ 4000; omega)) dX2_init_8 (fun a1 cA9 H hK9 hP hD hS => ?_)
  have hc9 := xcI hK9 hK 3 0 rfl rfl
  rw [hc9] at hP hD
  clear hK9 hc9
  have hP : va_P D vwCl [(m0, .inr (2, [.null, .null, .null, .null, .int 0, .int 0, .int 0, .int 0, .int 0])), (a1, .inl (cI, 252, .inl (fun _ => 0)))] H := hP
  have hD : va_D A [(m0, .inr (2, [.null, .null, .null, .null, .int 0, .int 0, .int 0, .int 0, .int 0])), (a1, .inl (cI, 252, .inl (fun _ => 0)))] := hD
  refine va_putF (ci := 2) (v := .ref a1) (ty := .array .int) (C := RX2) (T := TX2) (N := 9) hx hb hts iw_X2init_X2 tyX2 tyX2_ok nmX2 hown hK hP hD hS 0 rfl rfl 0 (by decide) (hts (.fieldLink RX2 7 "BackMirrorModel" "kinds" "[I") (by decide +kernel)) (fun _ h9 => h9) rfl hin rfl (by decide +kernel) rfl rfl (Nat.le_of_ble_eq_true rfl) dX2_init_10 (fun H locs hP hD hS => ?_)
  have hP : va_P D vwCl [(m0, .inr (2, [.ref a1, .null, .null, .null, .int 0, .int 0, .int 0, .int 0, .int 0])), (a1, .inl (cI, 252, .inl (fun _ => 0)))] H := hP
  have hD : va_D A [(m0, .inr (2, [.ref a1, .null, .null, .null, .int 0, .int 0, .int 0, .int 0, .int 0])), (a1, .inl (cI, 252, .inl (fun _ => 0)))] := hD
  refine lv_aload_n hx hb dX2_init_13 rfl (lv_at hl 0 rfl) ?_
  refine lv_sipush (v := nI 252) hx hb dX2_init_14 (by decide) ?_
  refine va_newa (atype := .int) (a0 := (252, .inl (fun _ => 0))) hx hb (hts (.arrayClass .int) (by decide +kernel)) rfl hK hP hD hS hA (fun _ => rfl) (xlt0 (by omega)) (nI_clamp (by omega)) (by show _ * 4 ≤ _; omega) (by first | exact Nat.le_of_ble_eq_true rfl | (show _ + _ ≤ 8; omega)) (by first | exact Nat.le_of_ble_eq_true rfl | (show _ + _ ≤ 4000; omega)) dX2_init_17 (fun a2 cA9 H hK9 hP hD hS => ?_)
  have hc9 := xcI hK9 hK 3 0 rfl rfl
  rw [hc9] at hP hD
  clear hK9 hc9
  have hP : va_P D vwCl [(m0, .inr (2, [.ref a1, .null, .null, .null, .int 0, .int 0, .int 0, .int 0, .int 0])), (a1, .inl (cI, 252, .inl (fun _ => 0))), (a2, .inl (cI, 252, .inl (fun _ => 0)))] H := hP
  have hD : va_D A [(m0, .inr (2, [.ref a1, .null, .null, .null, .int 0, .int 0, .int 0, .int 0, .int 0])), (a1, .inl (cI, 252, .inl (fun _ => 0))), (a2, .inl (cI, 252, .inl (fun _ => 0)))] := hD
  refine va_putF (ci := 2) (v := .ref a2) (ty := .array .int) (C := RX2) (T := TX2) (N := 9) hx hb hts iw_X2init_X2 tyX2 tyX2_ok nmX2 hown hK hP hD hS 0 rfl rfl 1 (by decide) (hts (.fieldLink RX2 13 "BackMirrorModel" "rights" "[I") (by decide +kernel)) (fun _ h9 => h9) rfl hin rfl (by decide +kernel) rfl rfl (Nat.le_of_ble_eq_true rfl) dX2_init_19 (fun H locs hP hD hS => ?_)
  have hP : va_P D vwCl [(m0, .inr (2, [.ref a1, .ref a2, .null, .null, .int 0, .int 0, .int 0, .int 0, .int 0])), (a1, .inl (cI, 252, .inl (fun _ => 0))), (a2, .inl (cI, 252, .inl (fun _ => 0)))] H := hP
  have hD : va_D A [(m0, .inr (2, [.ref a1, .ref a2, .null, .null, .int 0, .int 0, .int 0, .int 0, .int 0])), (a1, .inl (cI, 252, .inl (fun _ => 0))), (a2, .inl (cI, 252, .inl (fun _ => 0)))] := hD
  refine lv_aload_n hx hb dX2_init_22 rfl (lv_at hl 0 rfl) ?_
  refine lv_sipush (v := nI 252) hx hb dX2_init_23 (by decide) ?_
  refine va_newa (atype := .int) (a0 := (252, .inl (fun _ => 0))) hx hb (hts (.arrayClass .int) (by decide +kernel)) rfl hK hP hD hS hA (fun _ => rfl) (xlt0 (by omega)) (nI_clamp (by omega)) (by show _ * 4 ≤ _; omega) (by first | exact Nat.le_of_ble_eq_true rfl | (show _ + _ ≤ 8; omega)) (by first | exact Nat.le_of_ble_eq_true rfl | (show _ + _ ≤ 4000; omega)) dX2_init_26 (fun a3 cA9 H hK9 hP hD hS => ?_)
  have hc9 := xcI hK9 hK 3 0 rfl rfl
  rw [hc9] at hP hD
  clear hK9 hc9
  have hP : va_P D vwCl [(m0, .inr (2, [.ref a1, .ref a2, .null, .null, .int 0, .int 0, .int 0, .int 0, .int 0])), (a1, .inl (cI, 252, .inl (fun _ => 0))), (a2, .inl (cI, 252, .inl (fun _ => 0))), (a3, .inl (cI, 252, .inl (fun _ => 0)))] H := hP
  have hD : va_D A [(m0, .inr (2, [.ref a1, .ref a2, .null, .null, .int 0, .int 0, .int 0, .int 0, .int 0])), (a1, .inl (cI, 252, .inl (fun _ => 0))), (a2, .inl (cI, 252, .inl (fun _ => 0))), (a3, .inl (cI, 252, .inl (fun _ => 0)))] := hD
  refine va_putF (ci := 2) (v := .ref a3) (ty := .array .int) (C := RX2) (T := TX2) (N := 9) hx hb hts iw_X2init_X2 tyX2 tyX2_ok nmX2 hown hK hP hD hS 0 rfl rfl 2 (by decide) (hts (.fieldLink RX2 16 "BackMirrorModel" "lengths" "[I") (by decide +kernel)) (fun _ h9 => h9) rfl hin rfl (by decide +kernel) rfl rfl (Nat.le_of_ble_eq_true rfl) dX2_init_28 (fun H locs hP hD hS => ?_)
  have hP : va_P D vwCl [(m0, .inr (2, [.ref a1, .ref a2, .ref a3, .null, .int 0, .int 0, .int 0, .int 0, .int 0])), (a1, .inl (cI, 252, .inl (fun _ => 0))), (a2, .inl (cI, 252, .inl (fun _ => 0))), (a3, .inl (cI, 252, .inl (fun _ => 0)))] H := hP
  have hD : va_D A [(m0, .inr (2, [.ref a1, .ref a2, .ref a3, .null, .int 0, .int 0, .int 0, .int 0, .int 0])), (a1, .inl (cI, 252, .inl (fun _ => 0))), (a2, .inl (cI, 252, .inl (fun _ => 0))), (a3, .inl (cI, 252, .inl (fun _ => 0)))] := hD
  refine lv_aload_n hx hb dX2_init_31 rfl (lv_at hl 0 rfl) ?_
  refine lv_sipush (v := nI 3024) hx hb dX2_init_32 (by decide) ?_
  refine va_newa (atype := .int) (a0 := (3024, .inl (fun _ => 0))) hx hb (hts (.arrayClass .int) (by decide +kernel)) rfl hK hP hD hS hA (fun _ => rfl) (xlt0 (by omega)) (nI_clamp (by omega)) (by show _ * 4 ≤ _; omega) (by first | exact Nat.le_of_ble_eq_true rfl | (show _ + _ ≤ 8; omega)) (by first | exact Nat.le_of_ble_eq_true rfl | (show _ + _ ≤ 4000; omega)) dX2_init_35 (fun a4 cA9 H hK9 hP hD hS => ?_)
  have hc9 := xcI hK9 hK 3 0 rfl rfl
  rw [hc9] at hP hD
  clear hK9 hc9
  have hP : va_P D vwCl [(m0, .inr (2, [.ref a1, .ref a2, .ref a3, .null, .int 0, .int 0, .int 0, .int 0, .int 0])), (a1, .inl (cI, 252, .inl (fun _ => 0))), (a2, .inl (cI, 252, .inl (fun _ => 0))), (a3, .inl (cI, 252, .inl (fun _ => 0))), (a4, .inl (cI, 3024, .inl (fun _ => 0)))] H := hP
  have hD : va_D A [(m0, .inr (2, [.ref a1, .ref a2, .ref a3, .null, .int 0, .int 0, .int 0, .int 0, .int 0])), (a1, .inl (cI, 252, .inl (fun _ => 0))), (a2, .inl (cI, 252, .inl (fun _ => 0))), (a3, .inl (cI, 252, .inl (fun _ => 0))), (a4, .inl (cI, 3024, .inl (fun _ => 0)))] := hD
  refine va_putF (ci := 2) (v := .ref a4) (ty := .array .int) (C := RX2) (T := TX2) (N := 9) hx hb hts iw_X2init_X2 tyX2 tyX2_ok nmX2 hown hK hP hD hS 0 rfl rfl 3 (by decide) (hts (.fieldLink RX2 19 "BackMirrorModel" "numbers" "[I") (by decide +kernel)) (fun _ h9 => h9) rfl hin rfl (by decide +kernel) rfl rfl (Nat.le_of_ble_eq_true rfl) dX2_init_37 (fun H locs hP hD hS => ?_)
  have hP : va_P D vwCl [(m0, .inr (2, [.ref a1, .ref a2, .ref a3, .ref a4, .int 0, .int 0, .int 0, .int 0, .int 0])), (a1, .inl (cI, 252, .inl (fun _ => 0))), (a2, .inl (cI, 252, .inl (fun _ => 0))), (a3, .inl (cI, 252, .inl (fun _ => 0))), (a4, .inl (cI, 3024, .inl (fun _ => 0)))] H := hP
  have hD : va_D A [(m0, .inr (2, [.ref a1, .ref a2, .ref a3, .ref a4, .int 0, .int 0, .int 0, .int 0, .int 0])), (a1, .inl (cI, 252, .inl (fun _ => 0))), (a2, .inl (cI, 252, .inl (fun _ => 0))), (a3, .inl (cI, 252, .inl (fun _ => 0))), (a4, .inl (cI, 3024, .inl (fun _ => 0)))] := hD
  refine W.widen (k := 8) (n := 4000) (by first | exact Nat.le_of_ble_eq_true rfl | (show _ ≤ 8; omega)) (by first | exact Nat.le_of_ble_eq_true rfl | (show _ ≤ 4000; omega)) ?_
  exact W.vret hx hb hr (fun t9 ht9 hW9 => ⟨⟨(a1, a2, a3, a4), rfl, trivial, _, _, _, _, by rw [ht9]; exact hP, hD, MA_0⟩, hS.F ht9⟩) hS.2.2 dX2_init_40
