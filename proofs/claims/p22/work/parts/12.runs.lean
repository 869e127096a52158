/-! run, thin, restore -/
theorem xIn1_t {v : Int32} {n : Nat} (hn : n < 2 ^ 31) (h1 : 1 ≤ n) (h0 : ¬ v < nI 1) (h2 : v ≤ nI n) : ∃ j, 1 ≤ j ∧ j ≤ n ∧ v = nI j := by
  have hv : ¬ v < 0 := fun h => h0 (Int32.lt_trans h (by decide))
  obtain ⟨j, hj, rfl⟩ := xIn_t hn hv h2
  exact ⟨j, Nat.le_of_not_lt fun g => h0 ((xlt (by omega) (by omega)).mpr g), hj, rfl⟩

theorem iw_X1run_X1 : ∀ w ∈ u_ws RX1 TX1 6, w ∈ wsX1_run := by decide +kernel
set_option maxHeartbeats 4000000 in
set_option maxRecDepth 100000 in
theorem c_X1_run (l : Launch) (hst : l.stackTraces = false) {D : va_G} {cI cT cJ : ClassId} (Ax : Nat → Prop) (x lv kp : Nat) (fL fK : Nat → Option Nat) (o ld b k : Nat) (FZ : va_W) (G : Nat → Tv) (hC : CA cI FZ fL fK G) (v : Int32) (hld : ld ≤ 40) (sz : Nat) : vx_Met l yX1_run wsX1_run (rmD 8 8 40) (XPx D cI cT cJ Ax [.ref x, .int v] (fun H => H.size = sz ∧ va_P D vwCl (CW cT x lv kp fL fK o ld b k FZ) H ∧ va_D (fun _ => True) (CW cT x lv kp fL fK o ld b k FZ))) (va_Qi (S := Sv) (fun r u => ∃ s, s ≤ 6 ∧ v = nI s ∧ ld < 40 ∧ ((s < dfN G ld 6 ∧ r = -1 ∧ u = (G, o, ld, 1, s)) ∨ (dfN G ld 6 ≤ s ∧ r = nI (ld + 1) ∧ u = (cpD G (ld + 1) 6, o, ld + 1, 0, 0)))) (fun u t => CB D cI cT x lv kp (va_A (CW cT x lv kp fL fK o ld b k FZ) sz) u t.heap) (va_A (CW cT x lv kp fL fK o ld b k FZ) sz)) (XXc (fun E => (E = nIA ∧ ¬ ∃ s, s ≤ 6 ∧ v = nI s) ∨ (E = nIS ∧ (∃ s, s ≤ 6 ∧ v = nI s) ∧ ¬ ld < 40))) 8 40 (va_A (CW cT x lv kp fL fK o ld b k FZ) sz) := by
  refine vx_ofW (cc := cX1_run) (maxL := 3) (ret := (some .int)) (by decide) rfl ?_
  intro p e s m args below meth c s₁ B hml hnt hv
  obtain ⟨rfl, ⟨hsz, hP, hD0⟩, hE, hT⟩ := hv
  have hx := B.exec
  have hb := B.bytes
  have hr := B.returns
  have hts := atoms_spec (ws := wsX1_run) B.pre
  have hown : s.vm.findClass RX1 = some m.cls := findClass_of_methodNamed B.named
  have hlocks := B.notSynchronized
  have hl := lv_entry ([.ref x, .int v]) (n := 3) (Nat.le_of_ble_eq_true rfl)
  rw [lg_entry_eq]
  generalize (lg_sl ([.ref x, .int v]) ++ List.replicate (3 - (lg_sl ([.ref x, .int v])).length) Slot.unset).toArray = ls at hl ⊢
  have hl : lv_has ls 3 [(0, .ref x), (1, .int v)] := hl
  have hK := hE.1
  subst hsz
  have hD := hD0.self (sz := s.heap.size)
  generalize hAe : va_A (CW cT x lv kp fL fK o ld b k FZ) s.heap.size = A at hD ⊢
  have hA : ∀ q : Nat, s.heap.size ≤ q → A q := fun q h => by rw [← hAe]; exact Or.inr h
  have hS : va_S A s.heap s.heap [] := va_S.rf
  refine lv_iload_n hx hb dX1_run_0 rfl (lv_at hl 1 rfl) ?_
  refine lv_if_lt (tgt := 10) hx hb dX1_run_1 (by decide) (fun c1 => ?_) (fun c1 => ?_)
  · obtain ⟨sa9, hsa9⟩ := hT.1 (81, "no such number of steps") (by decide)
    exact vx_throwS hx hb hst (own := RX1) (cls := nIA) (text := "no such number of steps") (names := nUP) (ik := 57) (is := 81) (ic := 61) hown (by decide +kernel) (by decide +kernel) (hts (.classLink RX1 57 nIA) (by decide +kernel)) (hts (.initialized nIA) (by decide +kernel)) hsa9 (vx_hat (fun w h => hts w (List.mem_cons_of_mem _ (List.mem_append_left _ (List.mem_append_right _ h)))) xb_IA (hT.use (X := nIA) (by decide))) xg_IA hT.2.2.2.1 hT.2.2.2.2 va_S.rf (hl.1.trans hml.symm) dX1_run_10 dX1_run_13 dX1_run_14 dX1_run_16 dX1_run_19 (fun x h => (hnt x h).elim) (Nat.le_of_ble_eq_true rfl) (Nat.le_of_ble_eq_true rfl) (Nat.le_of_ble_eq_true rfl) (Nat.le_of_ble_eq_true rfl) hlocks (fun t9 _ hz9 hk9 => ⟨Or.inl ⟨rfl, by rintro ⟨s9, h1, rfl⟩; first | exact xN0 (by omega) c1 | exact xNle h1 (by omega) c7⟩, hz9, hk9⟩) (fun _ h => nomatch h) (Nat.le_of_ble_eq_true rfl) (Nat.le_of_ble_eq_true rfl)
  · refine lv_iload_n hx hb dX1_run_4 rfl (lv_at hl 1 rfl) ?_
    refine lv_bipush (v := nI 6) hx hb dX1_run_5 (by decide) ?_
    refine lv_icmp_le (tgt := 20) hx hb dX1_run_7 (by decide) (fun c7 => ?_) (fun c7 => ?_)
    · obtain ⟨sp, hsp, rfl⟩ := xIn_t (n := 6) (by omega) c1 c7
      have hg := dfN_le (G := G) (d := ld) 6
      refine lv_aload_n hx hb dX1_run_20 rfl (lv_at hl 0 rfl) ?_
      refine va_get (ci := 1) (v := .int (nI ld)) (C := RX1) (T := TX1) (N := 6) hx hb hts iw_X1run_X1 hown hK hP 0 rfl rfl 3 (by decide) (hts (.fieldLink RX1 25 "BackMirror" "lastDate" "I") (by decide +kernel)) (fun _ h9 => h9) rfl dX1_run_21 ?_
      refine lv_bipush (v := nI 40) hx hb dX1_run_24 (by decide) ?_
      refine lv_icmp_lt (tgt := 39) hx hb dX1_run_26 (by decide) (fun c26 => ?_) (fun c26 => ?_)
      · have c26 : ld < 40 := (xlt (by omega) (by omega)).mp c26
        refine lv_aload_n hx hb dX1_run_39 rfl (lv_at hl 0 rfl) ?_
        have hP : va_P D vwCl ([] ++ (CW cT x lv kp fL fK o ld b k FZ)) s.heap := hP
        have hD : va_D A ([] ++ (CW cT x lv kp fL fK o ld b k FZ)) := hD
        have hFc := xfree (wc := (CW cT x lv kp fL fK o ld b k FZ)) hD hS hA (fun _ h => List.mem_append_right _ h)
        have hPc := xP_sub (w2 := (CW cT x lv kp fL fK o ld b k FZ)) (fun _ h => List.mem_append_right _ h) hP
        have hDc : va_D (fun _ => True) (CW cT x lv kp fL fK o ld b k FZ) := (xD_sub (List.sublist_append_right _ _) hD).weaken (fun _ _ _ _ => trivial)
        refine va_calli (va_runV (As := []) (rest := []) ⟨hx, hb, hml, hown, hts⟩ (c_X1_undoBrokenRun l x lv kp fL fK o ld b k FZ s.heap.size) (cwV 0 hts gX1_run_X1_undoBrokenRun rfl rfl rfl (by decide +kernel) ⟨(Nat.le_of_ble_eq_true rfl), (Nat.le_of_ble_eq_true rfl)⟩) ⟨XP_blind, va_recv hK hP (ci := 1) (q0 := 0) rfl rfl, XP_pre hE ⟨rfl, hPc, hDc⟩⟩ rfl rfl hl.1 rfl (lv_room (Nat.le_of_ble_eq_true rfl)) dX1_run_40 ⟨by first | exact Nat.le_of_ble_eq_true rfl | (show _ + _ ≤ _; omega), by first | exact Nat.le_of_ble_eq_true rfl | (show _ + _ ≤ _; omega)⟩) hS (fun q9 _ h => hFc q9 h) hFc (fun r9 u t9 H1 locs ht9 hvm9 hw9 hB9 hzc hkc hS => ?_)
        obtain ⟨hP1, hD1⟩ := hB9
        rw [ht9] at hP1
        obtain ⟨hP, hD⟩ := xjoin (wr := []) (wc := (CW cT x lv kp fL fK o ld b k FZ)) (w1 := (CW cT x lv kp fL fK o ld 0 0 FZ)) hP hD hkc hFc hP1 hD1
        generalize H1 = H at hP hS ⊢
        subst hw9
        have hP : va_P D vwCl ((x, .inr (1, [.ref lv, .ref kp, .int (nI o), .int (nI ld), .int (nI 0), .int (nI 0)])) :: (lv, .inl (cT, 6, .inr (.inr (.inr (.inr fL))))) :: (kp, .inl (cT, 246, .inr (.inr (.inr (.inr fK))))) :: FZ) H := hP
        have hD : va_D A ((x, .inr (1, [.ref lv, .ref kp, .int (nI o), .int (nI ld), .int (nI 0), .int (nI 0)])) :: (lv, .inl (cT, 6, .inr (.inr (.inr (.inr fL))))) :: (kp, .inl (cT, 246, .inr (.inr (.inr (.inr fK))))) :: FZ) := hD
        refine lv_pop hx hb dX1_run_43 rfl ?_
        refine lv_iload_n hx hb dX1_run_44 rfl (lv_at hl 1 rfl) ?_
        refine lv_aload_n hx hb dX1_run_45 rfl (lv_at hl 0 rfl) ?_
        refine xc_sie (va_runV (As := []) (rest := [.int (nI sp)]) ⟨hx, hb, hml, hown, hts⟩ (c_X1_stepsNeeded l x lv kp fL fK o ld 0 0 FZ G hC (by omega)) (cwV 0 hts gX1_run_X1_stepsNeeded rfl rfl rfl (by decide +kernel) ⟨(Nat.le_of_ble_eq_true rfl), (Nat.le_of_ble_eq_true rfl)⟩) ⟨XP_blind, va_recv hK hP (ci := 1) (q0 := 0) rfl rfl, XP_pre hE hP⟩ rfl rfl hl.1 rfl (lv_room (Nat.le_of_ble_eq_true rfl)) dX1_run_46 ⟨Nat.le_of_ble_eq_true rfl, Nat.le_of_ble_eq_true rfl⟩) ?_
        refine lv_icmp_ge (tgt := 64) hx hb dX1_run_49 (by decide) (fun c49 => ?_) (fun c49 => ?_)
        · have c49 : (dfN G ld 6) ≤ sp := (xle (by omega) (by omega)).mp c49
          refine lv_aload_n hx hb dX1_run_64 rfl (lv_at hl 0 rfl) ?_
          refine lv_dup hx hb dX1_run_65 rfl ?_
          refine va_get (ci := 1) (v := .int (nI ld)) (C := RX1) (T := TX1) (N := 6) hx hb hts iw_X1run_X1 hown hK hP 0 rfl rfl 3 (by decide) (hts (.fieldLink RX1 25 "BackMirror" "lastDate" "I") (by decide +kernel)) (fun _ h9 => h9) rfl dX1_run_66 ?_
          refine lv_iconst (v := nI 1) hx hb dX1_run_69 (by decide) ?_
          refine lv_iadd hx hb dX1_run_70 ?_
          refine x_top (nI (ld + 1)) (xadd (by omega)) ?_
          refine va_put (ci := 1) (v := .int (nI (ld + 1))) (ty := .int) (C := RX1) (T := TX1) (N := 6) hx hb hts iw_X1run_X1 tyX1 tyX1_ok nmX1 hown hK hP hD hS 0 rfl rfl 3 (by decide) (hts (.fieldLink RX1 25 "BackMirror" "lastDate" "I") (by decide +kernel)) (fun _ h9 => h9) rfl (by decide +kernel) rfl rfl (Nat.le_of_ble_eq_true rfl) dX1_run_71 (fun H locs hP hD hS => ?_)
          have hP : va_P D vwCl ((x, .inr (1, [.ref lv, .ref kp, .int (nI o), .int (nI (ld + 1)), .int (nI 0), .int (nI 0)])) :: (lv, .inl (cT, 6, .inr (.inr (.inr (.inr fL))))) :: (kp, .inl (cT, 246, .inr (.inr (.inr (.inr fK))))) :: FZ) H := hP
          have hD : va_D A ((x, .inr (1, [.ref lv, .ref kp, .int (nI o), .int (nI (ld + 1)), .int (nI 0), .int (nI 0)])) :: (lv, .inl (cT, 6, .inr (.inr (.inr (.inr fL))))) :: (kp, .inl (cT, 246, .inr (.inr (.inr (.inr fK))))) :: FZ) := hD
          refine lv_iconst (v := nI 0) hx hb dX1_run_74 (by decide) ?_
          refine lv_istore_n (lv' := [(2, .int (nI 0)), (0, .ref x), (1, .int (nI sp))]) hx hb dX1_run_75 rfl hl (by decide) rfl (fun ls hl => ?_)
          refine x_loop (fun n H locs ls => ∃ (p j : Nat) (fK' : Nat → Option Nat), (j + 1 = n) ∧ (6 ≤ p + j) ∧ (p ≤ 6) ∧ (CA cI FZ fL fK' (cpD G (ld + 1) p)) ∧ va_P D vwCl ((x, .inr (1, [.ref lv, .ref kp, .int (nI o), .int (nI (ld + 1)), .int (nI 0), .int (nI 0)])) :: (lv, .inl (cT, 6, .inr (.inr (.inr (.inr fL))))) :: (kp, .inl (cT, 246, .inr (.inr (.inr (.inr fK'))))) :: FZ) H ∧ va_D A ((x, .inr (1, [.ref lv, .ref kp, .int (nI o), .int (nI (ld + 1)), .int (nI 0), .int (nI 0)])) :: (lv, .inl (cT, 6, .inr (.inr (.inr (.inr fL))))) :: (kp, .inl (cT, 246, .inr (.inr (.inr (.inr fK'))))) :: FZ) ∧ va_S A s.heap H locs ∧ lv_has ls 3 [(2, .int (nI p)), (0, .ref x), (1, .int (nI sp))]) (7) ⟨0, 6, fK, rfl, by omega, by omega, by rw [cpD_0]; exact hC, hP, hD, hS, lv_sub hl [0, 1, 2] rfl⟩ (fun H locs ls h => by obtain ⟨p, j, fK', hk, h1, h2, hC, -⟩ := h; omega) (fun n H locs ls h ih => ?_)
          obtain ⟨p, j, fK', hk, h1, h2, hC, hP, hD, hS, hl⟩ := h
          refine lv_iload_n hx hb dX1_run_76 rfl (lv_at hl 0 rfl) ?_
          refine lv_bipush (v := nI 6) hx hb dX1_run_77 (by decide) ?_
          refine lv_icmp_ge (tgt := 107) hx hb dX1_run_79 (by decide) (fun c79 => ?_) (fun c79 => ?_)
          · have c79 : 6 ≤ p := (xle (by omega) (by omega)).mp c79
            obtain rfl : p = 6 := by omega
            refine lv_aload_n hx hb dX1_run_107 rfl (lv_at hl 1 rfl) ?_
            refine va_get (ci := 1) (v := .int (nI (ld + 1))) (C := RX1) (T := TX1) (N := 6) hx hb hts iw_X1run_X1 hown hK hP 0 rfl rfl 3 (by decide) (hts (.fieldLink RX1 25 "BackMirror" "lastDate" "I") (by decide +kernel)) (fun _ h9 => h9) rfl dX1_run_108 ?_
            refine vx_ret ?_
            refine W.widen (k := 8) (n := 40) (by first | exact Nat.le_of_ble_eq_true rfl | (show _ ≤ 8; omega)) (by first | exact Nat.le_of_ble_eq_true rfl | (show _ ≤ 40; omega)) ?_
            exact W.iret hx hb hr (fun t9 ht9 hW9 => ⟨⟨_, (cpD G (ld + 1) 6, o, ld + 1, 0, 0), rfl, ⟨sp, hsp, rfl, by omega, Or.inr ⟨by omega, rfl, rfl⟩⟩, ⟨_, _, _, by rw [ht9]; exact hP, hD, hC⟩⟩, hS.F ht9⟩) hS.2.2 dX1_run_111
          · have c79 : ¬ 6 ≤ p := fun h => c79 ((xle (by omega) (by omega)).mpr h)
            refine lv_aload_n hx hb dX1_run_82 rfl (lv_at hl 1 rfl) ?_
            refine va_get (ci := 1) (v := .ref kp) (C := RX1) (T := TX1) (N := 6) hx hb hts iw_X1run_X1 hown hK hP 0 rfl rfl 1 (by decide) (hts (.fieldLink RX1 18 "BackMirror" "kept" "[LBackMirror$Thing;") (by decide +kernel)) (fun _ h9 => h9) rfl dX1_run_83 ?_
            refine lv_aload_n hx hb dX1_run_86 rfl (lv_at hl 1 rfl) ?_
            refine va_get (ci := 1) (v := .int (nI (ld + 1))) (C := RX1) (T := TX1) (N := 6) hx hb hts iw_X1run_X1 hown hK hP 0 rfl rfl 3 (by decide) (hts (.fieldLink RX1 25 "BackMirror" "lastDate" "I") (by decide +kernel)) (fun _ h9 => h9) rfl dX1_run_87 ?_
            refine lv_iload_n hx hb dX1_run_90 rfl (lv_at hl 0 rfl) ?_
            refine xc_sie (va_runS (As := [.int (nI (ld + 1)), .int (nI p)]) (rest := [.ref kp]) ⟨hx, hb, hml, hown, hts⟩ (c_X1_keptIndex l (ld + 1) p) (va_cwS 2 hts gX1_run_X1_keptIndex rfl rfl rfl (by decide +kernel) ⟨(Nat.le_of_ble_eq_true rfl), (Nat.le_of_ble_eq_true rfl)⟩) ⟨XP_blind, XP_pre hE trivial⟩ rfl rfl hl.1 rfl (lv_room (Nat.le_of_ble_eq_true rfl)) dX1_run_91 ⟨Nat.le_of_ble_eq_true rfl, Nat.le_of_ble_eq_true rfl⟩) ?_
            refine lv_aload_n hx hb dX1_run_94 rfl (lv_at hl 1 rfl) ?_
            refine va_get (ci := 1) (v := .ref lv) (C := RX1) (T := TX1) (N := 6) hx hb hts iw_X1run_X1 hown hK hP 0 rfl rfl 0 (by decide) (hts (.fieldLink RX1 14 "BackMirror" "live" "[LBackMirror$Thing;") (by decide +kernel)) (fun _ h9 => h9) rfl dX1_run_95 ?_
            refine lv_iload_n hx hb dX1_run_98 rfl (lv_at hl 0 rfl) ?_
            refine va_aldq hx hb hK hP 1 1 rfl rfl (xin (by omega) (by omega)) dX1_run_99 ?_
            obtain ⟨a1, ha1, hT1⟩ := hC.2 (p) (by omega)
            refine x_toprf (y := a1) (by rw [nI_clamp (by omega)]; exact ha1) ?_
            obtain ⟨hz1, q1, f1, hm1, hr1, he1⟩ := hT1
            obtain ⟨j9, hj9⟩ := List.getElem?_of_mem (hm1)
            refine va_astq (r := (RX0, TX0, 3)) hx hb hK hP hD hS 2 1 (j9 + 3) 0 rfl rfl hj9 rfl (xin (by omega) (by omega)) dX1_run_100 (fun H locs hP hD hS => ?_)
            rw [nI_clamp (show 6 * (ld + 1) + p < 2 ^ 31 by omega)] at hP hD
            have hP : va_P D vwCl ((x, .inr (1, [.ref lv, .ref kp, .int (nI o), .int (nI (ld + 1)), .int (nI 0), .int (nI 0)])) :: (lv, .inl (cT, 6, .inr (.inr (.inr (.inr fL))))) :: (kp, .inl (cT, 246, .inr (.inr (.inr (.inr (va_up fK' (6 * (ld + 1) + p) (some a1))))))) :: FZ) H := hP
            have hD : va_D A ((x, .inr (1, [.ref lv, .ref kp, .int (nI o), .int (nI (ld + 1)), .int (nI 0), .int (nI 0)])) :: (lv, .inl (cT, 6, .inr (.inr (.inr (.inr fL))))) :: (kp, .inl (cT, 246, .inr (.inr (.inr (.inr (va_up fK' (6 * (ld + 1) + p) (some a1))))))) :: FZ) := hD
            refine lv_iinc (v := nI (p + 1)) (lv' := [(2, .int (nI (p + 1))), (0, .ref x), (1, .int (nI sp))]) hx hb dX1_run_101 hl (k := 0) rfl (xinc _ 1 _ (by decide)) (by decide) rfl (fun ls hl => ?_)
            refine lv_goto (tgt := 76) hx hb dX1_run_104 (by decide) ?_
            exact ih _ _ _ ⟨p + 1, j - 1, (va_up fK' (6 * (ld + 1) + p) (some a1)), by omega, by omega, by omega, by rw [cpD_s (by omega) (by omega)]; exact hC.kept (by omega) ⟨hz1, q1, f1, hm1, hr1, he1⟩, hP, hD, hS, lv_sub hl [0, 1, 2] rfl⟩
        · have c49 : ¬ (dfN G ld 6) ≤ sp := fun h => c49 ((xle (by omega) (by omega)).mpr h)
          refine lv_aload_n hx hb dX1_run_52 rfl (lv_at hl 0 rfl) ?_
          refine lv_iconst (v := nI 1) hx hb dX1_run_53 (by decide) ?_
          refine va_put (ci := 1) (v := .int (nI 1)) (ty := .boolean) (C := RX1) (T := TX1) (N := 6) hx hb hts iw_X1run_X1 tyX1 tyX1_ok nmX1 hown hK hP hD hS 0 rfl rfl 4 (by decide) (hts (.fieldLink RX1 28 "BackMirror" "broken" "Z") (by decide +kernel)) (fun _ h9 => h9) rfl (by decide +kernel) (by decide) rfl (Nat.le_of_ble_eq_true rfl) dX1_run_54 (fun H locs hP hD hS => ?_)
          have hP : va_P D vwCl ((x, .inr (1, [.ref lv, .ref kp, .int (nI o), .int (nI ld), .int (nI 1), .int (nI 0)])) :: (lv, .inl (cT, 6, .inr (.inr (.inr (.inr fL))))) :: (kp, .inl (cT, 246, .inr (.inr (.inr (.inr fK))))) :: FZ) H := hP
          have hD : va_D A ((x, .inr (1, [.ref lv, .ref kp, .int (nI o), .int (nI ld), .int (nI 1), .int (nI 0)])) :: (lv, .inl (cT, 6, .inr (.inr (.inr (.inr fL))))) :: (kp, .inl (cT, 246, .inr (.inr (.inr (.inr fK))))) :: FZ) := hD
          refine lv_aload_n hx hb dX1_run_57 rfl (lv_at hl 0 rfl) ?_
          refine lv_iload_n hx hb dX1_run_58 rfl (lv_at hl 1 rfl) ?_
          refine va_put (ci := 1) (v := .int (nI sp)) (ty := .int) (C := RX1) (T := TX1) (N := 6) hx hb hts iw_X1run_X1 tyX1 tyX1_ok nmX1 hown hK hP hD hS 0 rfl rfl 5 (by decide) (hts (.fieldLink RX1 32 "BackMirror" "brokenSteps" "I") (by decide +kernel)) (fun _ h9 => h9) rfl (by decide +kernel) rfl rfl (Nat.le_of_ble_eq_true rfl) dX1_run_59 (fun H locs hP hD hS => ?_)
          have hP : va_P D vwCl ((x, .inr (1, [.ref lv, .ref kp, .int (nI o), .int (nI ld), .int (nI 1), .int (nI sp)])) :: (lv, .inl (cT, 6, .inr (.inr (.inr (.inr fL))))) :: (kp, .inl (cT, 246, .inr (.inr (.inr (.inr fK))))) :: FZ) H := hP
          have hD : va_D A ((x, .inr (1, [.ref lv, .ref kp, .int (nI o), .int (nI ld), .int (nI 1), .int (nI sp)])) :: (lv, .inl (cT, 6, .inr (.inr (.inr (.inr fL))))) :: (kp, .inl (cT, 246, .inr (.inr (.inr (.inr fK))))) :: FZ) := hD
          refine lv_iconst (v := (-1)) hx hb dX1_run_62 (by decide) ?_
          refine vx_ret ?_
          refine W.widen (k := 8) (n := 40) (by first | exact Nat.le_of_ble_eq_true rfl | (show _ ≤ 8; omega)) (by first | exact Nat.le_of_ble_eq_true rfl | (show _ ≤ 40; omega)) ?_
          exact W.iret hx hb hr (fun t9 ht9 hW9 => ⟨⟨_, (G, o, ld, 1, sp), rfl, ⟨sp, hsp, rfl, by omega, Or.inl ⟨by omega, rfl, rfl⟩⟩, ⟨_, _, _, by rw [ht9]; exact hP, hD, hC⟩⟩, hS.F ht9⟩) hS.2.2 dX1_run_63
      · have c26 : ¬ ld < 40 := fun h => c26 ((xlt (by omega) (by omega)).mpr h)
        obtain ⟨sa9, hsa9⟩ := hT.1 (83, "all dates were made") (by decide)
        exact vx_throwS hx hb hst (own := RX1) (cls := nIS) (text := "all dates were made") (names := nUP) (ik := 50) (is := 83) (ic := 54) hown (by decide +kernel) (by decide +kernel) (hts (.classLink RX1 50 nIS) (by decide +kernel)) (hts (.initialized nIS) (by decide +kernel)) hsa9 (vx_hat (fun w h => hts w (List.mem_cons_of_mem _ (List.mem_append_right _ h))) xb_IS (hT.use (X := nIS) (by decide))) xg_IS hT.2.2.2.1 hT.2.2.2.2 va_S.rf (hl.1.trans hml.symm) dX1_run_29 dX1_run_32 dX1_run_33 dX1_run_35 dX1_run_38 (fun x h => (hnt x h).elim) (Nat.le_of_ble_eq_true rfl) (Nat.le_of_ble_eq_true rfl) (Nat.le_of_ble_eq_true rfl) (Nat.le_of_ble_eq_true rfl) hlocks (fun t9 _ hz9 hk9 => ⟨Or.inr ⟨rfl, ⟨sp, hsp, rfl⟩, by omega⟩, hz9, hk9⟩) (fun _ h => nomatch h) (Nat.le_of_ble_eq_true rfl) (Nat.le_of_ble_eq_true rfl)
    · obtain ⟨sa9, hsa9⟩ := hT.1 (81, "no such number of steps") (by decide)
      exact vx_throwS hx hb hst (own := RX1) (cls := nIA) (text := "no such number of steps") (names := nUP) (ik := 57) (is := 81) (ic := 61) hown (by decide +kernel) (by decide +kernel) (hts (.classLink RX1 57 nIA) (by decide +kernel)) (hts (.initialized nIA) (by decide +kernel)) hsa9 (vx_hat (fun w h => hts w (List.mem_cons_of_mem _ (List.mem_append_left _ (List.mem_append_right _ h)))) xb_IA (hT.use (X := nIA) (by decide))) xg_IA hT.2.2.2.1 hT.2.2.2.2 va_S.rf (hl.1.trans hml.symm) dX1_run_10 dX1_run_13 dX1_run_14 dX1_run_16 dX1_run_19 (fun x h => (hnt x h).elim) (Nat.le_of_ble_eq_true rfl) (Nat.le_of_ble_eq_true rfl) (Nat.le_of_ble_eq_true rfl) (Nat.le_of_ble_eq_true rfl) hlocks (fun t9 _ hz9 hk9 => ⟨Or.inl ⟨rfl, by rintro ⟨s9, h1, rfl⟩; first | exact xN0 (by omega) c1 | exact xNle h1 (by omega) c7⟩, hz9, hk9⟩) (fun _ h => nomatch h) (Nat.le_of_ble_eq_true rfl) (Nat.le_of_ble_eq_true rfl)

theorem iw_X1thin_X1 : ∀ w ∈ u_ws RX1 TX1 6, w ∈ wsX1_thin := by decide +kernel
set_option maxHeartbeats 4000000 in
set_option maxRecDepth 100000 in
theorem c_X1_thin (l : Launch) (hst : l.stackTraces = false) {D : va_G} {cI cT cJ : ClassId} (Ax : Nat → Prop) (x lv kp : Nat) (fL fK : Nat → Option Nat) (o ld b k : Nat) (FZ : va_W) (G : Nat → Tv) (hC : CA cI FZ fL fK G) (v : Int32) (hld : ld ≤ 40) (hold : o ≤ ld) (sz : Nat) : vx_Met l yX1_thin wsX1_thin (rmD 8 8 40) (XPx D cI cT cJ Ax [.ref x, .int v] (fun H => H.size = sz ∧ va_P D vwCl (CW cT x lv kp fL fK o ld b k FZ) H ∧ va_D (fun _ => True) (CW cT x lv kp fL fK o ld b k FZ))) (va_Qi (S := Sv) (fun r u => ∃ s, 1 ≤ s ∧ s ≤ 40 ∧ v = nI s ∧ o + s ≤ ld ∧ r = nI (o + s) ∧ u = (G, o + s, ld, 0, 0)) (fun u t => CB D cI cT x lv kp (va_A (CW cT x lv kp fL fK o ld b k FZ) sz) u t.heap) (va_A (CW cT x lv kp fL fK o ld b k FZ) sz)) (XXc (fun E => (E = nIA ∧ ¬ ∃ s, 1 ≤ s ∧ s ≤ 40 ∧ v = nI s) ∨ (E = nIS ∧ ∃ s, 1 ≤ s ∧ s ≤ 40 ∧ v = nI s ∧ ¬ o + s ≤ ld))) 8 40 (va_A (CW cT x lv kp fL fK o ld b k FZ) sz) := by
  refine vx_ofW (cc := cX1_thin) (maxL := 2) (ret := (some .int)) (by decide) rfl ?_
  intro p e s m args below meth c s₁ B hml hnt hv
  obtain ⟨rfl, ⟨hsz, hP, hD0⟩, hE, hT⟩ := hv
  have hx := B.exec
  have hb := B.bytes
  have hr := B.returns
  have hts := atoms_spec (ws := wsX1_thin) B.pre
  have hown : s.vm.findClass RX1 = some m.cls := findClass_of_methodNamed B.named
  have hlocks := B.notSynchronized
  have hl := lv_entry ([.ref x, .int v]) (n := 2) (Nat.le_of_ble_eq_true rfl)
  rw [lg_entry_eq]
  generalize (lg_sl ([.ref x, .int v]) ++ List.replicate (2 - (lg_sl ([.ref x, .int v])).length) Slot.unset).toArray = ls at hl ⊢
  have hl : lv_has ls 2 [(0, .ref x), (1, .int v)] := hl
  have hK := hE.1
  subst hsz
  have hD := hD0.self (sz := s.heap.size)
  generalize hAe : va_A (CW cT x lv kp fL fK o ld b k FZ) s.heap.size = A at hD ⊢
  have hA : ∀ q : Nat, s.heap.size ≤ q → A q := fun q h => by rw [← hAe]; exact Or.inr h
  have hS : va_S A s.heap s.heap [] := va_S.rf
  refine lv_iload_n hx hb dX1_thin_0 rfl (lv_at hl 1 rfl) ?_
  refine lv_iconst (v := nI 1) hx hb dX1_thin_1 (by decide) ?_
  refine lv_icmp_lt (tgt := 11) hx hb dX1_thin_2 (by decide) (fun c2 => ?_) (fun c2 => ?_)
  · obtain ⟨sa9, hsa9⟩ := hT.1 (96, "no such number of dates") (by decide)
    exact vx_throwS hx hb hst (own := RX1) (cls := nIA) (text := "no such number of dates") (names := nUP) (ik := 57) (is := 96) (ic := 61) hown (by decide +kernel) (by decide +kernel) (hts (.classLink RX1 57 nIA) (by decide +kernel)) (hts (.initialized nIA) (by decide +kernel)) hsa9 (vx_hat (fun w h => hts w (List.mem_cons_of_mem _ (List.mem_append_left _ (List.mem_append_right _ h)))) xb_IA (hT.use (X := nIA) (by decide))) xg_IA hT.2.2.2.1 hT.2.2.2.2 va_S.rf (hl.1.trans hml.symm) dX1_thin_11 dX1_thin_14 dX1_thin_15 dX1_thin_17 dX1_thin_20 (fun x h => (hnt x h).elim) (Nat.le_of_ble_eq_true rfl) (Nat.le_of_ble_eq_true rfl) (Nat.le_of_ble_eq_true rfl) (Nat.le_of_ble_eq_true rfl) hlocks (fun t9 _ hz9 hk9 => ⟨Or.inl ⟨rfl, by rintro ⟨s9, h0, h1, rfl⟩; first | exact xNlt h0 (by omega) (fun h => absurd c2 (Int32.not_lt.mpr (Int32.le_of_lt h))) | exact absurd ((xlt (by omega) (by omega)).mp c2) (by omega) | exact xNle h1 (by omega) c8⟩, hz9, hk9⟩) (fun _ h => nomatch h) (Nat.le_of_ble_eq_true rfl) (Nat.le_of_ble_eq_true rfl)
  · refine lv_iload_n hx hb dX1_thin_5 rfl (lv_at hl 1 rfl) ?_
    refine lv_bipush (v := nI 40) hx hb dX1_thin_6 (by decide) ?_
    refine lv_icmp_le (tgt := 21) hx hb dX1_thin_8 (by decide) (fun c8 => ?_) (fun c8 => ?_)
    · obtain ⟨sp, hsp1, hsp, rfl⟩ := xIn1_t (n := 40) (by omega) (by omega) c2 c8
      refine lv_aload_n hx hb dX1_thin_21 rfl (lv_at hl 0 rfl) ?_
      refine va_get (ci := 1) (v := .int (nI o)) (C := RX1) (T := TX1) (N := 6) hx hb hts iw_X1thin_X1 hown hK hP 0 rfl rfl 2 (by decide) (hts (.fieldLink RX1 21 "BackMirror" "oldestDate" "I") (by decide +kernel)) (fun _ h9 => h9) rfl dX1_thin_22 ?_
      refine lv_iload_n hx hb dX1_thin_25 rfl (lv_at hl 1 rfl) ?_
      refine lv_iadd hx hb dX1_thin_26 ?_
      refine x_top (nI (o + sp)) (xadd (by omega)) ?_
      refine lv_aload_n hx hb dX1_thin_27 rfl (lv_at hl 0 rfl) ?_
      refine va_get (ci := 1) (v := .int (nI ld)) (C := RX1) (T := TX1) (N := 6) hx hb hts iw_X1thin_X1 hown hK hP 0 rfl rfl 3 (by decide) (hts (.fieldLink RX1 25 "BackMirror" "lastDate" "I") (by decide +kernel)) (fun _ h9 => h9) rfl dX1_thin_28 ?_
      refine lv_icmp_le (tgt := 44) hx hb dX1_thin_31 (by decide) (fun c31 => ?_) (fun c31 => ?_)
      · have c31 : (o + sp) ≤ ld := (xle (by omega) (by omega)).mp c31
        refine lv_aload_n hx hb dX1_thin_44 rfl (lv_at hl 0 rfl) ?_
        have hP : va_P D vwCl ([] ++ (CW cT x lv kp fL fK o ld b k FZ)) s.heap := hP
        have hD : va_D A ([] ++ (CW cT x lv kp fL fK o ld b k FZ)) := hD
        have hFc := xfree (wc := (CW cT x lv kp fL fK o ld b k FZ)) hD hS hA (fun _ h => List.mem_append_right _ h)
        have hPc := xP_sub (w2 := (CW cT x lv kp fL fK o ld b k FZ)) (fun _ h => List.mem_append_right _ h) hP
        have hDc : va_D (fun _ => True) (CW cT x lv kp fL fK o ld b k FZ) := (xD_sub (List.sublist_append_right _ _) hD).weaken (fun _ _ _ _ => trivial)
        refine va_calli (va_runV (As := []) (rest := []) ⟨hx, hb, hml, hown, hts⟩ (c_X1_undoBrokenRun l x lv kp fL fK o ld b k FZ s.heap.size) (cwV 0 hts gX1_thin_X1_undoBrokenRun rfl rfl rfl (by decide +kernel) ⟨(Nat.le_of_ble_eq_true rfl), (Nat.le_of_ble_eq_true rfl)⟩) ⟨XP_blind, va_recv hK hP (ci := 1) (q0 := 0) rfl rfl, XP_pre hE ⟨rfl, hPc, hDc⟩⟩ rfl rfl hl.1 rfl (lv_room (Nat.le_of_ble_eq_true rfl)) dX1_thin_45 ⟨by first | exact Nat.le_of_ble_eq_true rfl | (show _ + _ ≤ _; omega), by first | exact Nat.le_of_ble_eq_true rfl | (show _ + _ ≤ _; omega)⟩) hS (fun q9 _ h => hFc q9 h) hFc (fun r9 u t9 H1 locs ht9 hvm9 hw9 hB9 hzc hkc hS => ?_)
        obtain ⟨hP1, hD1⟩ := hB9
        rw [ht9] at hP1
        obtain ⟨hP, hD⟩ := xjoin (wr := []) (wc := (CW cT x lv kp fL fK o ld b k FZ)) (w1 := (CW cT x lv kp fL fK o ld 0 0 FZ)) hP hD hkc hFc hP1 hD1
        generalize H1 = H at hP hS ⊢
        subst hw9
        have hP : va_P D vwCl ((x, .inr (1, [.ref lv, .ref kp, .int (nI o), .int (nI ld), .int (nI 0), .int (nI 0)])) :: (lv, .inl (cT, 6, .inr (.inr (.inr (.inr fL))))) :: (kp, .inl (cT, 246, .inr (.inr (.inr (.inr fK))))) :: FZ) H := hP
        have hD : va_D A ((x, .inr (1, [.ref lv, .ref kp, .int (nI o), .int (nI ld), .int (nI 0), .int (nI 0)])) :: (lv, .inl (cT, 6, .inr (.inr (.inr (.inr fL))))) :: (kp, .inl (cT, 246, .inr (.inr (.inr (.inr fK))))) :: FZ) := hD
        refine lv_pop hx hb dX1_thin_48 rfl ?_
        refine lv_aload_n hx hb dX1_thin_49 rfl (lv_at hl 0 rfl) ?_
        refine lv_dup hx hb dX1_thin_50 rfl ?_
        refine va_get (ci := 1) (v := .int (nI o)) (C := RX1) (T := TX1) (N := 6) hx hb hts iw_X1thin_X1 hown hK hP 0 rfl rfl 2 (by decide) (hts (.fieldLink RX1 21 "BackMirror" "oldestDate" "I") (by decide +kernel)) (fun _ h9 => h9) rfl dX1_thin_51 ?_
        refine lv_iload_n hx hb dX1_thin_54 rfl (lv_at hl 1 rfl) ?_
        refine lv_iadd hx hb dX1_thin_55 ?_
        refine x_top (nI (o + sp)) (xadd (by omega)) ?_
        refine va_put (ci := 1) (v := .int (nI (o + sp))) (ty := .int) (C := RX1) (T := TX1) (N := 6) hx hb hts iw_X1thin_X1 tyX1 tyX1_ok nmX1 hown hK hP hD hS 0 rfl rfl 2 (by decide) (hts (.fieldLink RX1 21 "BackMirror" "oldestDate" "I") (by decide +kernel)) (fun _ h9 => h9) rfl (by decide +kernel) rfl rfl (Nat.le_of_ble_eq_true rfl) dX1_thin_56 (fun H locs hP hD hS => ?_)
        have hP : va_P D vwCl ((x, .inr (1, [.ref lv, .ref kp, .int (nI (o + sp)), .int (nI ld), .int (nI 0), .int (nI 0)])) :: (lv, .inl (cT, 6, .inr (.inr (.inr (.inr fL))))) :: (kp, .inl (cT, 246, .inr (.inr (.inr (.inr fK))))) :: FZ) H := hP
        have hD : va_D A ((x, .inr (1, [.ref lv, .ref kp, .int (nI (o + sp)), .int (nI ld), .int (nI 0), .int (nI 0)])) :: (lv, .inl (cT, 6, .inr (.inr (.inr (.inr fL))))) :: (kp, .inl (cT, 246, .inr (.inr (.inr (.inr fK))))) :: FZ) := hD
        refine lv_aload_n hx hb dX1_thin_59 rfl (lv_at hl 0 rfl) ?_
        refine va_get (ci := 1) (v := .int (nI (o + sp))) (C := RX1) (T := TX1) (N := 6) hx hb hts iw_X1thin_X1 hown hK hP 0 rfl rfl 2 (by decide) (hts (.fieldLink RX1 21 "BackMirror" "oldestDate" "I") (by decide +kernel)) (fun _ h9 => h9) rfl dX1_thin_60 ?_
        refine vx_ret ?_
        refine W.widen (k := 8) (n := 40) (by first | exact Nat.le_of_ble_eq_true rfl | (show _ ≤ 8; omega)) (by first | exact Nat.le_of_ble_eq_true rfl | (show _ ≤ 40; omega)) ?_
        exact W.iret hx hb hr (fun t9 ht9 hW9 => ⟨⟨_, (G, o + sp, ld, 0, 0), rfl, ⟨sp, hsp1, hsp, rfl, by omega, rfl, rfl⟩, ⟨_, _, _, by rw [ht9]; exact hP, hD, hC⟩⟩, hS.F ht9⟩) hS.2.2 dX1_thin_63
      · have c31 : ¬ (o + sp) ≤ ld := fun h => c31 ((xle (by omega) (by omega)).mpr h)
        obtain ⟨sa9, hsa9⟩ := hT.1 (98, "the last date stays") (by decide)
        exact vx_throwS hx hb hst (own := RX1) (cls := nIS) (text := "the last date stays") (names := nUP) (ik := 50) (is := 98) (ic := 54) hown (by decide +kernel) (by decide +kernel) (hts (.classLink RX1 50 nIS) (by decide +kernel)) (hts (.initialized nIS) (by decide +kernel)) hsa9 (vx_hat (fun w h => hts w (List.mem_cons_of_mem _ (List.mem_append_right _ h))) xb_IS (hT.use (X := nIS) (by decide))) xg_IS hT.2.2.2.1 hT.2.2.2.2 va_S.rf (hl.1.trans hml.symm) dX1_thin_34 dX1_thin_37 dX1_thin_38 dX1_thin_40 dX1_thin_43 (fun x h => (hnt x h).elim) (Nat.le_of_ble_eq_true rfl) (Nat.le_of_ble_eq_true rfl) (Nat.le_of_ble_eq_true rfl) (Nat.le_of_ble_eq_true rfl) hlocks (fun t9 _ hz9 hk9 => ⟨Or.inr ⟨rfl, sp, hsp1, hsp, rfl, by omega⟩, hz9, hk9⟩) (fun _ h => nomatch h) (Nat.le_of_ble_eq_true rfl) (Nat.le_of_ble_eq_true rfl)
    · obtain ⟨sa9, hsa9⟩ := hT.1 (96, "no such number of dates") (by decide)
      exact vx_throwS hx hb hst (own := RX1) (cls := nIA) (text := "no such number of dates") (names := nUP) (ik := 57) (is := 96) (ic := 61) hown (by decide +kernel) (by decide +kernel) (hts (.classLink RX1 57 nIA) (by decide +kernel)) (hts (.initialized nIA) (by decide +kernel)) hsa9 (vx_hat (fun w h => hts w (List.mem_cons_of_mem _ (List.mem_append_left _ (List.mem_append_right _ h)))) xb_IA (hT.use (X := nIA) (by decide))) xg_IA hT.2.2.2.1 hT.2.2.2.2 va_S.rf (hl.1.trans hml.symm) dX1_thin_11 dX1_thin_14 dX1_thin_15 dX1_thin_17 dX1_thin_20 (fun x h => (hnt x h).elim) (Nat.le_of_ble_eq_true rfl) (Nat.le_of_ble_eq_true rfl) (Nat.le_of_ble_eq_true rfl) (Nat.le_of_ble_eq_true rfl) hlocks (fun t9 _ hz9 hk9 => ⟨Or.inl ⟨rfl, by rintro ⟨s9, h0, h1, rfl⟩; first | exact xNlt h0 (by omega) (fun h => absurd c2 (Int32.not_lt.mpr (Int32.le_of_lt h))) | exact absurd ((xlt (by omega) (by omega)).mp c2) (by omega) | exact xNle h1 (by omega) c8⟩, hz9, hk9⟩) (fun _ h => nomatch h) (Nat.le_of_ble_eq_true rfl) (Nat.le_of_ble_eq_true rfl)

theorem iw_X1restore_X1 : ∀ w ∈ u_ws RX1 TX1 6, w ∈ wsX1_restore := by decide +kernel
set_option maxHeartbeats 4000000 in
set_option maxRecDepth 100000 in
theorem c_X1_restore (l : Launch) (hst : l.stackTraces = false) {D : va_G} {cI cT cJ : ClassId} (Ax : Nat → Prop) (x lv kp : Nat) (fL fK : Nat → Option Nat) (o ld b k : Nat) (FZ : va_W) (G : Nat → Tv) (hC : CA cI FZ fL fK G) (v : Int32) (hld : ld ≤ 40) (hold : o ≤ ld) (sz : Nat) : vx_Met l yX1_restore wsX1_restore (rmD 8 8 40) (XPx D cI cT cJ Ax [.ref x, .int v] (fun H => H.size = sz ∧ va_P D vwCl (CW cT x lv kp fL fK o ld b k FZ) H ∧ va_D (fun _ => True) (CW cT x lv kp fL fK o ld b k FZ))) (va_Qi (S := Sv) (fun r u => ∃ d, o ≤ d ∧ d ≤ ld ∧ v = nI d ∧ r = nI (dfN G d 6) ∧ u = (cpL G d 6, o, ld, 0, 0)) (fun u t => CB D cI cT x lv kp (va_A (CW cT x lv kp fL fK o ld b k FZ) sz) u t.heap) (va_A (CW cT x lv kp fL fK o ld b k FZ) sz)) (XXc (fun E => E = nIO ∧ ¬ Kp o ld v)) 8 40 (va_A (CW cT x lv kp fL fK o ld b k FZ) sz) := by
  refine vx_ofW (cc := cX1_restore) (maxL := 5) (ret := (some .int)) (by decide) rfl ?_
  intro p e s m args below meth c s₁ B hml hnt hv
  obtain ⟨rfl, ⟨hsz, hP, hD0⟩, hE, hT⟩ := hv
  have hx := B.exec
  have hb := B.bytes
  have hr := B.returns
  have hts := atoms_spec (ws := wsX1_restore) B.pre
  have hown : s.vm.findClass RX1 = some m.cls := findClass_of_methodNamed B.named
  have hlocks := B.notSynchronized
  have hl := lv_entry ([.ref x, .int v]) (n := 5) (Nat.le_of_ble_eq_true rfl)
  rw [lg_entry_eq]
  generalize (lg_sl ([.ref x, .int v]) ++ List.replicate (5 - (lg_sl ([.ref x, .int v])).length) Slot.unset).toArray = ls at hl ⊢
  have hl : lv_has ls 5 [(0, .ref x), (1, .int v)] := hl
  have hK := hE.1
  subst hsz
  have hD := hD0.self (sz := s.heap.size)
  generalize hAe : va_A (CW cT x lv kp fL fK o ld b k FZ) s.heap.size = A at hD ⊢
  have hA : ∀ q : Nat, s.heap.size ≤ q → A q := fun q h => by rw [← hAe]; exact Or.inr h
  have hS : va_S A s.heap s.heap [] := va_S.rf
  refine lv_aload_n hx hb dX1_restore_0 rfl (lv_at hl 0 rfl) ?_
  refine lv_iload_n hx hb dX1_restore_1 rfl (lv_at hl 1 rfl) ?_
  refine xcx (vx_runV (As := [.int v]) (rest := []) ⟨hx, hb, hml, hown, hts⟩ (c_X1_checkKept l hst _ x lv kp fL fK o ld b k FZ v hld hold) (cwV 1 hts gX1_restore_X1_checkKept rfl rfl rfl (by decide +kernel) ⟨(Nat.le_of_ble_eq_true rfl), (Nat.le_of_ble_eq_true rfl)⟩) ⟨XPx_blind, va_recv hK hP (ci := 1) (q0 := 0) rfl rfl, XPx_pre hE hT hP⟩ rfl rfl hl.1 rfl (lv_room (Nat.le_of_ble_eq_true rfl)) dX1_restore_2 ⟨Nat.le_of_ble_eq_true rfl, Nat.le_of_ble_eq_true rfl⟩) (fun E9 ce9 q9 H1 hp9 hz9 hk9 hc9 hv9 hcl9 => ?_) (fun v9 hw9 => ?_)
  · exact vx_out (fun x h => (hnt x h).elim) hlocks hc9 hv9 hcl9 (fun t9 ht9 _ => ⟨hp9, by rw [ht9]; exact hz9, fun q hq => by rw [ht9]; exact hk9 q hq⟩) (fun _ h => nomatch h) (Nat.le_of_ble_eq_true rfl) (Nat.le_of_ble_eq_true rfl)
  obtain ⟨rfl, ⟨d, hd1, hd2, rfl⟩⟩ := hw9
  refine W.eq (g2 := F0 m 5 ls []) rfl ?_
  refine lv_aload_n hx hb dX1_restore_5 rfl (lv_at hl 0 rfl) ?_
  have hP : va_P D vwCl ([] ++ (CW cT x lv kp fL fK o ld b k FZ)) s.heap := hP
  have hD : va_D A ([] ++ (CW cT x lv kp fL fK o ld b k FZ)) := hD
  have hFc := xfree (wc := (CW cT x lv kp fL fK o ld b k FZ)) hD hS hA (fun _ h => List.mem_append_right _ h)
  have hPc := xP_sub (w2 := (CW cT x lv kp fL fK o ld b k FZ)) (fun _ h => List.mem_append_right _ h) hP
  have hDc : va_D (fun _ => True) (CW cT x lv kp fL fK o ld b k FZ) := (xD_sub (List.sublist_append_right _ _) hD).weaken (fun _ _ _ _ => trivial)
  refine va_calli (va_runV (As := []) (rest := []) ⟨hx, hb, hml, hown, hts⟩ (c_X1_undoBrokenRun l x lv kp fL fK o ld b k FZ s.heap.size) (cwV 0 hts gX1_restore_X1_undoBrokenRun rfl rfl rfl (by decide +kernel) ⟨(Nat.le_of_ble_eq_true rfl), (Nat.le_of_ble_eq_true rfl)⟩) ⟨XP_blind, va_recv hK hP (ci := 1) (q0 := 0) rfl rfl, XP_pre hE ⟨rfl, hPc, hDc⟩⟩ rfl rfl hl.1 rfl (lv_room (Nat.le_of_ble_eq_true rfl)) dX1_restore_6 ⟨by first | exact Nat.le_of_ble_eq_true rfl | (show _ + _ ≤ _; omega), by first | exact Nat.le_of_ble_eq_true rfl | (show _ + _ ≤ _; omega)⟩) hS (fun q9 _ h => hFc q9 h) hFc (fun r9 u t9 H1 locs ht9 hvm9 hw9 hB9 hzc hkc hS => ?_)
  obtain ⟨hP1, hD1⟩ := hB9
  rw [ht9] at hP1
  obtain ⟨hP, hD⟩ := xjoin (wr := []) (wc := (CW cT x lv kp fL fK o ld b k FZ)) (w1 := (CW cT x lv kp fL fK o ld 0 0 FZ)) hP hD hkc hFc hP1 hD1
  generalize H1 = H at hP hS ⊢
  subst hw9
  have hP : va_P D vwCl ((x, .inr (1, [.ref lv, .ref kp, .int (nI o), .int (nI ld), .int (nI 0), .int (nI 0)])) :: (lv, .inl (cT, 6, .inr (.inr (.inr (.inr fL))))) :: (kp, .inl (cT, 246, .inr (.inr (.inr (.inr fK))))) :: FZ) H := hP
  have hD : va_D A ((x, .inr (1, [.ref lv, .ref kp, .int (nI o), .int (nI ld), .int (nI 0), .int (nI 0)])) :: (lv, .inl (cT, 6, .inr (.inr (.inr (.inr fL))))) :: (kp, .inl (cT, 246, .inr (.inr (.inr (.inr fK))))) :: FZ) := hD
  refine lv_pop hx hb dX1_restore_9 rfl ?_
  refine lv_iconst (v := nI 0) hx hb dX1_restore_10 (by decide) ?_
  refine lv_istore_n (lv' := [(2, .int (nI 0)), (0, .ref x), (1, .int (nI d))]) hx hb dX1_restore_11 rfl hl (by decide) rfl (fun ls hl => ?_)
  refine lv_iconst (v := nI 0) hx hb dX1_restore_12 (by decide) ?_
  refine lv_istore_n (lv' := [(3, .int (nI 0)), (2, .int (nI 0)), (0, .ref x), (1, .int (nI d))]) hx hb dX1_restore_13 rfl hl (by decide) rfl (fun ls hl => ?_)
  refine x_loop (fun n H locs ls => ∃ (p j : Nat) (fL' : Nat → Option Nat), (j + 1 = n) ∧ (6 ≤ p + j) ∧ (p ≤ 6) ∧ (CA cI FZ fL' fK (cpL G d p)) ∧ va_P D vwCl ((x, .inr (1, [.ref lv, .ref kp, .int (nI o), .int (nI ld), .int (nI 0), .int (nI 0)])) :: (lv, .inl (cT, 6, .inr (.inr (.inr (.inr fL'))))) :: (kp, .inl (cT, 246, .inr (.inr (.inr (.inr fK))))) :: FZ) H ∧ va_D A ((x, .inr (1, [.ref lv, .ref kp, .int (nI o), .int (nI ld), .int (nI 0), .int (nI 0)])) :: (lv, .inl (cT, 6, .inr (.inr (.inr (.inr fL'))))) :: (kp, .inl (cT, 246, .inr (.inr (.inr (.inr fK))))) :: FZ) ∧ va_S A s.heap H locs ∧ lv_has ls 5 [(3, .int (nI p)), (2, .int (nI (dfN G d p))), (0, .ref x), (1, .int (nI d))]) (7) ⟨0, 6, fL, rfl, by omega, by omega, by rw [cpL_0]; exact hC, hP, hD, hS, lv_sub hl [0, 1, 2, 3] rfl⟩ (fun H locs ls h => by obtain ⟨p, j, fL', hk, h1, h2, hC, -⟩ := h; omega) (fun n H locs ls h ih => ?_)
  obtain ⟨p, j, fL', hk, h1, h2, hC, hP, hD, hS, hl⟩ := h
  have hg1 := dfN_le (G := G) (d := d) p
  refine lv_iload_n hx hb dX1_restore_14 rfl (lv_at hl 0 rfl) ?_
  refine lv_bipush (v := nI 6) hx hb dX1_restore_15 (by decide) ?_
  refine lv_icmp_ge (tgt := 63) hx hb dX1_restore_17 (by decide) (fun c17 => ?_) (fun c17 => ?_)
  · have c17 : 6 ≤ p := (xle (by omega) (by omega)).mp c17
    obtain rfl : p = 6 := by omega
    refine lv_iload_n hx hb dX1_restore_63 rfl (lv_at hl 1 rfl) ?_
    refine vx_ret ?_
    refine W.widen (k := 8) (n := 40) (by first | exact Nat.le_of_ble_eq_true rfl | (show _ ≤ 8; omega)) (by first | exact Nat.le_of_ble_eq_true rfl | (show _ ≤ 40; omega)) ?_
    exact W.iret hx hb hr (fun t9 ht9 hW9 => ⟨⟨_, (cpL G d 6, o, ld, 0, 0), rfl, ⟨d, hd1, hd2, rfl, rfl, rfl⟩, ⟨_, _, _, by rw [ht9]; exact hP, hD, hC⟩⟩, hS.F ht9⟩) hS.2.2 dX1_restore_64
  · have c17 : ¬ 6 ≤ p := fun h => c17 ((xle (by omega) (by omega)).mpr h)
    refine lv_aload_n hx hb dX1_restore_20 rfl (lv_at hl 2 rfl) ?_
    refine va_get (ci := 1) (v := .ref kp) (C := RX1) (T := TX1) (N := 6) hx hb hts iw_X1restore_X1 hown hK hP 0 rfl rfl 1 (by decide) (hts (.fieldLink RX1 18 "BackMirror" "kept" "[LBackMirror$Thing;") (by decide +kernel)) (fun _ h9 => h9) rfl dX1_restore_21 ?_
    refine lv_iload_n hx hb dX1_restore_24 rfl (lv_at hl 3 rfl) ?_
    refine lv_iload_n hx hb dX1_restore_25 rfl (lv_at hl 0 rfl) ?_
    refine xc_sie (va_runS (As := [.int (nI d), .int (nI p)]) (rest := [.ref kp]) ⟨hx, hb, hml, hown, hts⟩ (c_X1_keptIndex l d p) (va_cwS 2 hts gX1_restore_X1_keptIndex rfl rfl rfl (by decide +kernel) ⟨(Nat.le_of_ble_eq_true rfl), (Nat.le_of_ble_eq_true rfl)⟩) ⟨XP_blind, XP_pre hE trivial⟩ rfl rfl hl.1 rfl (lv_room (Nat.le_of_ble_eq_true rfl)) dX1_restore_26 ⟨Nat.le_of_ble_eq_true rfl, Nat.le_of_ble_eq_true rfl⟩) ?_
    refine va_aldq hx hb hK hP 2 1 rfl rfl (xin (by omega) (by omega)) dX1_restore_29 ?_
    obtain ⟨a1, ha1, hT1⟩ := hC.1 (6 * d + p) (by omega)
    refine x_toprf (y := a1) (by rw [nI_clamp (by omega)]; exact ha1) ?_
    obtain ⟨hz1, q1, f1, hm1, hr1, he1⟩ := hT1
    refine lv_astore (lv' := [(4, .ref a1), (3, .int (nI p)), (2, .int (nI (dfN G d p))), (0, .ref x), (1, .int (nI d))]) hx hb dX1_restore_30 hl (by decide) rfl (fun ls hl => ?_)
    refine lv_aload_n hx hb dX1_restore_32 rfl (lv_at hl 3 rfl) ?_
    refine va_get (ci := 1) (v := .ref lv) (C := RX1) (T := TX1) (N := 6) hx hb hts iw_X1restore_X1 hown hK hP 0 rfl rfl 0 (by decide) (hts (.fieldLink RX1 14 "BackMirror" "live" "[LBackMirror$Thing;") (by decide +kernel)) (fun _ h9 => h9) rfl dX1_restore_33 ?_
    refine lv_iload_n hx hb dX1_restore_36 rfl (lv_at hl 1 rfl) ?_
    refine va_aldq hx hb hK hP 1 1 rfl rfl (xin (by omega) (by omega)) dX1_restore_37 ?_
    obtain ⟨a2, ha2, hT2⟩ := hC.2 (p) (by omega)
    refine x_toprf (y := a2) (by rw [nI_clamp (by omega)]; exact ha2) ?_
    obtain ⟨hz2, q2, f2, hm2, hr2, he2⟩ := hT2
    refine lv_aload hx hb dX1_restore_38 (lv_at hl 0 rfl) ?_
    refine xc_sie (va_runV (As := [.ref a1]) (rest := []) ⟨hx, hb, hml, hown, hts⟩ (c_X0_isLike l a2 q2 a1 q1 (((cpL G d p) (246 + p)).2.2.1) (((cpL G d p) (6 * d + p)).2.2.1) (((cpL G d p) (246 + p)).1) (((cpL G d p) (246 + p)).2.1) (((cpL G d p) (6 * d + p)).1) (((cpL G d p) (6 * d + p)).2.1) f2 f1 (by omega) (by omega)) (cwV 1 hts gX1_restore_X0_isLike rfl rfl rfl (by decide +kernel) ⟨(Nat.le_of_ble_eq_true rfl), (Nat.le_of_ble_eq_true rfl)⟩) ⟨XP_blind, va_recv hK (x1 hP (xm3 hm2)) (ci := 0) (q0 := 0) rfl rfl, XP_pre hE (x4 hP (xm3 hm2) (xm3 hr2) (xm3 hm1) (xm3 hr1))⟩ rfl rfl hl.1 rfl (lv_room (Nat.le_of_ble_eq_true rfl)) dX1_restore_40 ⟨Nat.le_of_ble_eq_true rfl, Nat.le_of_ble_eq_true rfl⟩) ?_
    refine x_top (nI (bN (sameB ((cpL G d p) (246 + p)) ((cpL G d p) (6 * d + p))))) (by rw [sameB_congr he2 he1]) ?_
    refine lv_if_ne (tgt := 49) hx hb dX1_restore_43 (by decide) (fun c43 => ?_) (fun c43 => ?_)
    · have c43 : (sameB ((cpL G d p) (246 + p)) ((cpL G d p) (6 * d + p))) = true := bN_t c43
      refine lv_aload_n hx hb dX1_restore_49 rfl (lv_at hl 3 rfl) ?_
      refine va_get (ci := 1) (v := .ref lv) (C := RX1) (T := TX1) (N := 6) hx hb hts iw_X1restore_X1 hown hK hP 0 rfl rfl 0 (by decide) (hts (.fieldLink RX1 14 "BackMirror" "live" "[LBackMirror$Thing;") (by decide +kernel)) (fun _ h9 => h9) rfl dX1_restore_50 ?_
      refine lv_iload_n hx hb dX1_restore_53 rfl (lv_at hl 1 rfl) ?_
      refine lv_aload hx hb dX1_restore_54 (lv_at hl 0 rfl) ?_
      obtain ⟨j9, hj9⟩ := List.getElem?_of_mem (hm1)
      refine va_astq (r := (RX0, TX0, 3)) hx hb hK hP hD hS 1 1 (j9 + 3) 0 rfl rfl hj9 rfl (xin (by omega) (by omega)) dX1_restore_56 (fun H locs hP hD hS => ?_)
      rw [nI_clamp (show p < 2 ^ 31 by omega)] at hP hD
      have hP : va_P D vwCl ((x, .inr (1, [.ref lv, .ref kp, .int (nI o), .int (nI ld), .int (nI 0), .int (nI 0)])) :: (lv, .inl (cT, 6, .inr (.inr (.inr (.inr (va_up fL' p (some a1))))))) :: (kp, .inl (cT, 246, .inr (.inr (.inr (.inr fK))))) :: FZ) H := hP
      have hD : va_D A ((x, .inr (1, [.ref lv, .ref kp, .int (nI o), .int (nI ld), .int (nI 0), .int (nI 0)])) :: (lv, .inl (cT, 6, .inr (.inr (.inr (.inr (va_up fL' p (some a1))))))) :: (kp, .inl (cT, 246, .inr (.inr (.inr (.inr fK))))) :: FZ) := hD
      refine lv_iinc (v := nI (p + 1)) (lv' := [(3, .int (nI (p + 1))), (4, .ref a1), (2, .int (nI (dfN G d p))), (0, .ref x), (1, .int (nI d))]) hx hb dX1_restore_57 hl (k := 1) rfl (xinc _ 1 _ (by decide)) (by decide) rfl (fun ls hl => ?_)
      refine lv_goto (tgt := 14) hx hb dX1_restore_60 (by decide) ?_
      rw [cpL_at, cpL_kept (by omega)] at c43
      have hw : dfN G d p = dfN G d (p + 1) := by simp only [dfN]; rw [sameB_comm, c43]; rfl
      rw [hw] at hl
      exact ih _ _ _ ⟨p + 1, j - 1, (va_up fL' p (some a1)), by omega, by omega, by omega, by rw [cpL_s (by omega) (by omega)]; exact hC.live ⟨hz1, q1, f1, hm1, hr1, he1⟩, hP, hD, hS, lv_sub hl [0, 2, 3, 4] rfl⟩
    · have c43 : (sameB ((cpL G d p) (246 + p)) ((cpL G d p) (6 * d + p))) = false := bN_f c43
      refine lv_iinc (v := nI (dfN G d p + 1)) (lv' := [(2, .int (nI (dfN G d p + 1))), (4, .ref a1), (3, .int (nI p)), (0, .ref x), (1, .int (nI d))]) hx hb dX1_restore_46 hl (k := 2) rfl (xinc _ 1 _ (by decide)) (by decide) rfl (fun ls hl => ?_)
      refine lv_aload_n hx hb dX1_restore_49 rfl (lv_at hl 3 rfl) ?_
      refine va_get (ci := 1) (v := .ref lv) (C := RX1) (T := TX1) (N := 6) hx hb hts iw_X1restore_X1 hown hK hP 0 rfl rfl 0 (by decide) (hts (.fieldLink RX1 14 "BackMirror" "live" "[LBackMirror$Thing;") (by decide +kernel)) (fun _ h9 => h9) rfl dX1_restore_50 ?_
      refine lv_iload_n hx hb dX1_restore_53 rfl (lv_at hl 2 rfl) ?_
      refine lv_aload hx hb dX1_restore_54 (lv_at hl 1 rfl) ?_
      obtain ⟨j9, hj9⟩ := List.getElem?_of_mem (hm1)
      refine va_astq (r := (RX0, TX0, 3)) hx hb hK hP hD hS 1 1 (j9 + 3) 0 rfl rfl hj9 rfl (xin (by omega) (by omega)) dX1_restore_56 (fun H locs hP hD hS => ?_)
      rw [nI_clamp (show p < 2 ^ 31 by omega)] at hP hD
      have hP : va_P D vwCl ((x, .inr (1, [.ref lv, .ref kp, .int (nI o), .int (nI ld), .int (nI 0), .int (nI 0)])) :: (lv, .inl (cT, 6, .inr (.inr (.inr (.inr (va_up fL' p (some a1))))))) :: (kp, .inl (cT, 246, .inr (.inr (.inr (.inr fK))))) :: FZ) H := hP
      have hD : va_D A ((x, .inr (1, [.ref lv, .ref kp, .int (nI o), .int (nI ld), .int (nI 0), .int (nI 0)])) :: (lv, .inl (cT, 6, .inr (.inr (.inr (.inr (va_up fL' p (some a1))))))) :: (kp, .inl (cT, 246, .inr (.inr (.inr (.inr fK))))) :: FZ) := hD
      refine lv_iinc (v := nI (p + 1)) (lv' := [(3, .int (nI (p + 1))), (2, .int (nI (dfN G d p + 1))), (4, .ref a1), (0, .ref x), (1, .int (nI d))]) hx hb dX1_restore_57 hl (k := 2) rfl (xinc _ 1 _ (by decide)) (by decide) rfl (fun ls hl => ?_)
      refine lv_goto (tgt := 14) hx hb dX1_restore_60 (by decide) ?_
      rw [cpL_at, cpL_kept (by omega)] at c43
      have hw : dfN G d p + 1 = dfN G d (p + 1) := by simp only [dfN]; rw [sameB_comm, c43]; rfl
      rw [hw] at hl
      exact ih _ _ _ ⟨p + 1, j - 1, (va_up fL' p (some a1)), by omega, by omega, by omega, by rw [cpL_s (by omega) (by omega)]; exact hC.live ⟨hz1, q1, f1, hm1, hr1, he1⟩, hP, hD, hS, lv_sub hl [0, 1, 3, 4] rfl⟩
