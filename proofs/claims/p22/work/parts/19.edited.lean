/-! one edit of the live tree, one run: what the law asks of them holds -/
theorem upn {G : Nat → Tv} {i j : Nat} {v : Tv} {G1 : Nat → Tv} (h : va_up G i v = G1) (hj : j ≠ i) : G1 j = G j := by rw [← h]; exact va_up_n hj
theorem ups {G : Nat → Tv} {i : Nat} {v : Tv} {G1 : Nat → Tv} (h : va_up G i v = G1) : G1 i = v := by rw [← h]; exact va_up_s
theorem upw {G : Nat → Tv} {i : Nat} {v : Tv} {G1 : Nat → Tv} (h : va_up G i v = G1) (hG : WFG G) (hv : WFT v) : WFG G1 := by rw [← h]; exact hG.up hv
theorem up2 {G : Nat → Tv} {i : Nat} {v w : Tv} {G1 G2 : Nat → Tv} (h : va_up G i v = G1) (h2 : va_up G1 i w = G2) : va_up G i w = G2 := by rw [← h2, ← h]; exact va_up_up.symm
set_option maxHeartbeats 4000000 in
set_option maxRecDepth 100000 in
theorem c_L_isEdited (l : Launch) (hst : l.stackTraces = false) {D : va_G} {cI cT cJ : ClassId} (Ax : Nat → Prop) (x lv kp : Nat) (fL fK : Nat → Option Nat) (o ld b k : Nat) (FZ : va_W) (G : Nat → Tv) (hC : CA cI FZ fL fK G) (la j hw w : Nat) (fl : Nat → Int64) (hj : j < 6) (hhw : hw < 2 ^ 31) (hww : w < 2 ^ 31) (hWG : WFG G) (hL : ∀ i, i < 6 → fl i = tlL (G (246 + i)) 12) (hld : ld ≤ 40) (hold : o ≤ ld) (sz : Nat) : Met l yL_isEdited wsL_isEdited (rmD 11 32 160) (XPl D cI cT cJ Ax [.ref x, .ref la, .int (nI j), .int (nI hw), .int (nI w)] (fun H => H.size = sz ∧ va_P D vwCl ((la, .inl (cJ, 6, .inr (.inl fl))) :: (CW cT x lv kp fL fK o ld b k FZ)) H ∧ va_D (fun _ => True) ((la, .inl (cJ, 6, .inr (.inl fl))) :: (CW cT x lv kp fL fK o ld b k FZ)) ∧ ∀ q, va_A ((la, .inl (cJ, 6, .inr (.inl fl))) :: (CW cT x lv kp fL fK o ld b k FZ)) sz q → Ax q)) (va_Qi (S := Tv) (fun r v => r = nI 1 ∧ WFT v) (fun v t => LBe D cI cT cJ la fl x lv kp (va_A ((la, .inl (cJ, 6, .inr (.inl fl))) :: (CW cT x lv kp fL fK o ld b k FZ)) sz) (va_up G (246 + j) v, o, ld, b, k) t.heap) (va_A ((la, .inl (cJ, 6, .inr (.inl fl))) :: (CW cT x lv kp fL fK o ld b k FZ)) sz)) 32 160 (va_A ((la, .inl (cJ, 6, .inr (.inl fl))) :: (CW cT x lv kp fL fK o ld b k FZ)) sz) := by
  refine Met.ofW (cc := cL_isEdited) (maxL := 14) (ret := (some .boolean)) (by decide) rfl ?_
  intro p e s m args below meth c s₁ B hml hv
  obtain ⟨rfl, ⟨hsz, hP, hD0, hAx⟩, hE, hT0, hN⟩ := hv
  have hx := B.exec
  have hb := B.bytes
  have hr := B.returns
  have hts := atoms_spec (ws := wsL_isEdited) B.pre
  have hown : s.vm.findClass RL = some m.cls := findClass_of_methodNamed B.named
  have hlocks := B.notSynchronized
  have hl := lv_entry ([.ref x, .ref la, .int (nI j), .int (nI hw), .int (nI w)]) (n := 14) (Nat.le_of_ble_eq_true rfl)
  rw [lg_entry_eq]
  generalize (lg_sl ([.ref x, .ref la, .int (nI j), .int (nI hw), .int (nI w)]) ++ List.replicate (14 - (lg_sl ([.ref x, .ref la, .int (nI j), .int (nI hw), .int (nI w)])).length) Slot.unset).toArray = ls at hl ⊢
  have hl : lv_has ls 14 [(0, .ref x), (1, .ref la), (2, .int (nI j)), (3, .int (nI hw)), (4, .int (nI w))] := hl
  have hK := hE.1
  have hT := hT0
  subst hsz
  have hD := hD0.self (sz := s.heap.size)
  generalize hAe : va_A ((la, .inl (cJ, 6, .inr (.inl fl))) :: (CW cT x lv kp fL fK o ld b k FZ)) s.heap.size = A at hD hAx ⊢
  have hA : ∀ q : Nat, s.heap.size ≤ q → A q := fun q h => by rw [← hAe]; exact Or.inr h
  have hS : va_S A s.heap s.heap [] := va_S.rf
  have hPc : va_P D vwCl (CW cT x lv kp fL fK o ld b k FZ) s.heap := xP_sub (fun _ h => List.mem_cons_of_mem _ h) hP
  obtain ⟨kk, rr, ek, hk2, er, hr7, hlen, hnum, hk0, hk2l⟩ := hWG (246 + j) (by omega)
  have hw12 : w % 12 < 12 := Nat.mod_lt _ (by decide)
  refine lv_aload_n hx hb dL_isEdited_0 rfl (lv_at hl 0 rfl) ?_
  refine lv_iconst (v := (-1)) hx hb dL_isEdited_1 (by decide) ?_
  refine lv_iload_n hx hb dL_isEdited_2 rfl (lv_at hl 2 rfl) ?_
  refine xcr (vx_runV (As := [.int ((-1)), .int (nI j)]) (rest := []) ⟨hx, hb, hml, hown, hts⟩ (c_X1_kindAt l hst Ax x lv kp fL fK o ld b k FZ G hC ((-1)) (nI j) hld hold) (cwV 2 hts gL_isEdited_X1_kindAt rfl rfl rfl (by decide +kernel) ⟨(Nat.le_of_ble_eq_true rfl), (Nat.le_of_ble_eq_true rfl)⟩) ⟨XPx_blind, va_recv hK hPc (ci := 1) (q0 := 0) rfl rfl, XPx_pre hE hT hPc⟩ rfl rfl hl.1 rfl (lv_room (Nat.le_of_ble_eq_true rfl)) dL_isEdited_3 ⟨by first | exact Nat.le_of_ble_eq_true rfl | (show _ + _ ≤ _; omega), by first | exact Nat.le_of_ble_eq_true rfl | (show _ + _ ≤ _; omega)⟩) (rq_no (AT_l (by omega))) (rq_k hld (AT_l (by omega))) ?_
  refine x_top (nI kk) (ek) ?_
  refine lv_istore (lv' := [(5, .int (nI kk)), (0, .ref x), (1, .ref la), (2, .int (nI j)), (3, .int (nI hw)), (4, .int (nI w))]) hx hb dL_isEdited_6 hl (by decide) rfl (fun ls hl => ?_)
  refine lv_aload_n hx hb dL_isEdited_8 rfl (lv_at hl 1 rfl) ?_
  refine lv_iconst (v := (-1)) hx hb dL_isEdited_9 (by decide) ?_
  refine lv_iload_n hx hb dL_isEdited_10 rfl (lv_at hl 3 rfl) ?_
  refine xcr (vx_runV (As := [.int ((-1)), .int (nI j)]) (rest := []) ⟨hx, hb, hml, hown, hts⟩ (c_X1_rightsAt l hst Ax x lv kp fL fK o ld b k FZ G hC ((-1)) (nI j) hld hold) (cwV 2 hts gL_isEdited_X1_rightsAt rfl rfl rfl (by decide +kernel) ⟨(Nat.le_of_ble_eq_true rfl), (Nat.le_of_ble_eq_true rfl)⟩) ⟨XPx_blind, va_recv hK hPc (ci := 1) (q0 := 0) rfl rfl, XPx_pre hE hT hPc⟩ rfl rfl hl.1 rfl (lv_room (Nat.le_of_ble_eq_true rfl)) dL_isEdited_11 ⟨by first | exact Nat.le_of_ble_eq_true rfl | (show _ + _ ≤ _; omega), by first | exact Nat.le_of_ble_eq_true rfl | (show _ + _ ≤ _; omega)⟩) (rq_no (AT_l (by omega))) (rq_r hld (AT_l (by omega))) ?_
  refine x_top (nI rr) (er) ?_
  refine lv_istore (lv' := [(6, .int (nI rr)), (5, .int (nI kk)), (0, .ref x), (1, .ref la), (2, .int (nI j)), (3, .int (nI hw)), (4, .int (nI w))]) hx hb dL_isEdited_14 hl (by decide) rfl (fun ls hl => ?_)
  refine lv_aload_n hx hb dL_isEdited_16 rfl (lv_at hl 2 rfl) ?_
  refine lv_iconst (v := (-1)) hx hb dL_isEdited_17 (by decide) ?_
  refine lv_iload_n hx hb dL_isEdited_18 rfl (lv_at hl 4 rfl) ?_
  refine xc_si2 (va_runS (As := [.ref x, .int ((-1)), .int (nI j)]) (rest := []) ⟨hx, hb, hml, hown, hts⟩ (c_L_length l hst Ax x lv kp fL fK o ld b k FZ G hC ((-1)) (nI j) (246 + j) (AT_l (by omega)) (hWG _ (by omega)) hld hold) (va_cwS 3 hts gL_isEdited_L_length rfl rfl rfl (by decide +kernel) ⟨(Nat.le_of_ble_eq_true rfl), (Nat.le_of_ble_eq_true rfl)⟩) ⟨XPx_blind, XPx_pre hE hT hPc⟩ rfl rfl hl.1 rfl (lv_room (Nat.le_of_ble_eq_true rfl)) dL_isEdited_19 ⟨by first | exact Nat.le_of_ble_eq_true rfl | (show _ + _ ≤ _; omega), by first | exact Nat.le_of_ble_eq_true rfl | (show _ + _ ≤ _; omega)⟩) ?_
  refine lv_istore (lv' := [(7, .int (nI ((G (246 + j)).2.2.1))), (6, .int (nI rr)), (5, .int (nI kk)), (0, .ref x), (1, .ref la), (2, .int (nI j)), (3, .int (nI hw)), (4, .int (nI w))]) hx hb dL_isEdited_22 hl (by decide) rfl (fun ls hl => ?_)
  refine lv_iload hx hb dL_isEdited_24 (lv_at hl 2 rfl) ?_
  refine x_join (ls := ls) 44 [.int ((if kk = 0 then -1 else num (G (246 + j)) (w % 12)))] ?_ (fun J => ?_)
  · refine lv_istore (lv' := [(8, .int ((if kk = 0 then -1 else num (G (246 + j)) (w % 12)))), (7, .int (nI ((G (246 + j)).2.2.1))), (6, .int (nI rr)), (5, .int (nI kk)), (0, .ref x), (1, .ref la), (2, .int (nI j)), (3, .int (nI hw)), (4, .int (nI w))]) hx hb dL_isEdited_44 hl (by decide) rfl (fun ls hl => ?_)
    refine lv_iconst (v := nI 1) hx hb dL_isEdited_46 (by decide) ?_
    refine lv_istore (lv' := [(9, .int (nI 1)), (8, .int ((if kk = 0 then -1 else num (G (246 + j)) (w % 12)))), (7, .int (nI ((G (246 + j)).2.2.1))), (6, .int (nI rr)), (5, .int (nI kk)), (0, .ref x), (1, .ref la), (2, .int (nI j)), (3, .int (nI hw)), (4, .int (nI w))]) hx hb dL_isEdited_47 hl (by decide) rfl (fun ls hl => ?_)
    refine lv_iload_n hx hb dL_isEdited_49 rfl (lv_at hl 8 rfl) ?_
    refine lv_iconst (v := nI 2) hx hb dL_isEdited_50 (by decide) ?_
    refine lv_icmp_ge (tgt := 105) hx hb dL_isEdited_51 (by decide) (fun c51 => ?_) (fun c51 => ?_)
    · have c51 : 2 ≤ hw := (xle (by omega) (by omega)).mp c51
      refine lv_iload_n hx hb dL_isEdited_105 rfl (lv_at hl 8 rfl) ?_
      refine lv_iconst (v := nI 2) hx hb dL_isEdited_106 (by decide) ?_
      refine lv_icmp_ne (tgt := 181) hx hb dL_isEdited_107 (by decide) (fun c107 => ?_) (fun c107 => ?_)
      · have c107 : ¬ hw = 2 := fun h => c107 ((xeq (by omega) (by omega)).mpr h)
        refine lv_iload_n hx hb dL_isEdited_181 rfl (lv_at hl 8 rfl) ?_
        refine lv_iconst (v := nI 3) hx hb dL_isEdited_182 (by decide) ?_
        refine lv_icmp_ne (tgt := 236) hx hb dL_isEdited_183 (by decide) (fun c183 => ?_) (fun c183 => ?_)
        · have c183 : ¬ hw = 3 := fun h => c183 ((xeq (by omega) (by omega)).mpr h)
          refine lv_iload_n hx hb dL_isEdited_236 rfl (lv_at hl 8 rfl) ?_
          refine lv_bipush (v := nI 17) hx hb dL_isEdited_237 (by decide) ?_
          refine lv_icmp_ge (tgt := 418) hx hb dL_isEdited_239 (by decide) (fun c239 => ?_) (fun c239 => ?_)
          · have c239 : 17 ≤ hw := (xle (by omega) (by omega)).mp c239
            refine lv_iload_n hx hb dL_isEdited_418 rfl (lv_at hl 8 rfl) ?_
            refine lv_bipush (v := nI 21) hx hb dL_isEdited_419 (by decide) ?_
            refine lv_icmp_ge (tgt := 552) hx hb dL_isEdited_421 (by decide) (fun c421 => ?_) (fun c421 => ?_)
            · have c421 : 21 ≤ hw := (xle (by omega) (by omega)).mp c421
              refine lv_aload_n hx hb dL_isEdited_552 rfl (lv_at hl 5 rfl) ?_
              refine lv_iconst (v := nI 5) hx hb dL_isEdited_553 (by decide) ?_
              refine lv_iload_n hx hb dL_isEdited_554 rfl (lv_at hl 7 rfl) ?_
              refine lv_iload hx hb dL_isEdited_555 (lv_at hl 9 rfl) ?_
              refine lv_bipush (v := nI 8) hx hb dL_isEdited_557 (by decide) ?_
              refine lv_irem hx hb dL_isEdited_559 (by decide) ?_
              refine x_top (nI (w % 8)) (pk_rem (by omega) (by omega) (by omega)) ?_
              refine lv_iconst (v := nI 0) hx hb dL_isEdited_560 (by decide) ?_
              by_cases hkz : kk = 0
              · have hDc : va_D (fun _ => True) (CW cT x lv kp fL fK o ld b k FZ) := (xD_sub (List.sublist_append_right [(la, .inl (cJ, 6, .inr (.inl fl)))] _) hD).weaken (fun _ _ _ _ => trivial)
                refine xcri (vx_runSX (As := [.ref x, .int (nI 5), .int (nI j), .int (nI (w % 8)), .int (nI 0)]) (rest := []) ⟨hx, hb, hml, hown, hts⟩ (a_setRights_S l hst Ax x lv kp fL fK o ld b k FZ G hC (j := j) (by omega) (nI (w % 8)) (nI 0) (by rw [ek, hkz])) (vx_cwSW 5 hts gL_isEdited_L_act rfl rfl rfl (by decide +kernel) ⟨(Nat.le_of_ble_eq_true rfl), (Nat.le_of_ble_eq_true rfl)⟩) ⟨XPl_blind, XPl_pre hE hT hN ⟨hPc, hDc⟩⟩ rfl rfl hl.1 rfl (lv_room (Nat.le_of_ble_eq_true rfl)) dL_isEdited_561 ⟨by first | exact Nat.le_of_ble_eq_true rfl | (show _ + _ ≤ _; omega), by first | exact Nat.le_of_ble_eq_true rfl | (show _ + _ ≤ _; omega)⟩) (fun r9 H1 hr9 hz9 hk9 => ?_)
                subst hr9
                have hP := xkept hP hk9
                have hPc := xkept hPc hk9
                have hS := xS_kept hS hz9 hk9
                clear hz9 hk9
                generalize H1 = H at hP hPc hS ⊢
                have hT := hT0.kept (fun a h1 h2 => hS.2.1 a h1 (fun z => h2 (hAx a z)))
                refine lv_iload hx hb dL_isEdited_564 (lv_at hl 4 rfl) ?_
                refine lv_if_ne (tgt := 575) hx hb dL_isEdited_566 (by decide) (fun c566 => ?_) (fun c566 => ?_)
                · have c566 : ¬ nI kk = nI 0 := c566
                  have c566 : ¬ kk = 0 := fun h => c566 ((xeq (by omega) (by omega)).mpr h)
                  omega
                · have c566 : nI kk = nI 0 := c566
                  have c566 : kk = 0 := (xeq (by omega) (by omega)).mp c566
                  refine lv_sipush (v := (-1163)) hx hb dL_isEdited_569 (by decide) ?_
                  refine lv_goto (tgt := 577) hx hb dL_isEdited_572 (by decide) ?_
                  refine lv_icmp_ne (tgt := 619) hx hb dL_isEdited_577 (by decide) (fun h => absurd h (by decide)) (fun _ => ?_)
                  refine lv_iload hx hb dL_isEdited_580 (lv_at hl 4 rfl) ?_
                  refine lv_if_eq (tgt := 615) hx hb dL_isEdited_582 (by decide) (fun c582 => ?_) (fun c582 => ?_)
                  · have c582 : nI kk = nI 0 := c582
                    have c582 : kk = 0 := (xeq (by omega) (by omega)).mp c582
                    refine lv_iconst (v := nI 1) hx hb dL_isEdited_615 (by decide) ?_
                    refine lv_goto (tgt := 620) hx hb dL_isEdited_616 (by decide) ?_
                    refine lv_istore (lv' := [(9, .int (nI 1)), (8, .int ((if kk = 0 then -1 else num (G (246 + j)) (w % 12)))), (7, .int (nI ((G (246 + j)).2.2.1))), (6, .int (nI rr)), (5, .int (nI kk)), (0, .ref x), (1, .ref la), (2, .int (nI j)), (3, .int (nI hw)), (4, .int (nI w))]) hx hb dL_isEdited_620 hl (by decide) rfl (fun ls hl => ?_)
                    refine lv_iload hx hb dL_isEdited_622 (lv_at hl 0 rfl) ?_
                    refine lv_if_eq (tgt := 640) hx hb dL_isEdited_624 (by decide) (fun h => absurd h (by decide)) (fun _ => ?_)
                    refine lv_aload_n hx hb dL_isEdited_627 rfl (lv_at hl 5 rfl) ?_
                    refine lv_aload_n hx hb dL_isEdited_628 rfl (lv_at hl 6 rfl) ?_
                    refine lv_iload_n hx hb dL_isEdited_629 rfl (lv_at hl 7 rfl) ?_
                    have hPo : va_P D vwCl ((la, .inl (cJ, 6, .inr (.inl fl))) :: (CW cT x lv kp fL fK o ld b k FZ)) H := xP_sub (fun _ h => h) hP
                    refine xc_si2 (va_runS (As := [.ref x, .ref la, .int (nI j)]) (rest := []) ⟨hx, hb, hml, hown, hts⟩ (c_L_isOnly l hst Ax x lv kp fL fK o ld b k FZ G hC la fl (nI j) (fun i hi hne => by have hij : i ≠ j := fun h => hne (by rw [h]); rw [hL i hi]) hld hold) (va_cwS 3 hts gL_isEdited_L_isOnly rfl rfl rfl (by decide +kernel) ⟨(Nat.le_of_ble_eq_true rfl), (Nat.le_of_ble_eq_true rfl)⟩) ⟨XPx_blind, XPx_pre hE hT hPo⟩ rfl rfl hl.1 rfl (lv_room (Nat.le_of_ble_eq_true rfl)) dL_isEdited_630 ⟨by first | exact Nat.le_of_ble_eq_true rfl | (show _ + _ ≤ _; omega), by first | exact Nat.le_of_ble_eq_true rfl | (show _ + _ ≤ _; omega)⟩) ?_
                    refine lv_if_eq (tgt := 640) hx hb dL_isEdited_633 (by decide) (fun h => absurd h (by decide)) (fun _ => ?_)
                    refine lv_iconst (v := nI 1) hx hb dL_isEdited_636 (by decide) ?_
                    refine lv_goto (tgt := 641) hx hb dL_isEdited_637 (by decide) ?_
                    refine W.widen (k := 32) (n := 160) (Nat.le_of_ble_eq_true rfl) (Nat.le_of_ble_eq_true rfl) ?_
                    exact W.zret hx hb hr (xnb _ (by omega)) (fun t9 ht9 hW9 => ⟨⟨_, (G (246 + j)), rfl, ⟨rfl, hWG _ (by omega)⟩, fL, fK, FZ, by rw [ht9]; exact hP, hD, by rw [va_up_id]; exact hC⟩, hS.F ht9⟩) hS.2.2 dL_isEdited_641
                  · have c582 : ¬ nI kk = nI 0 := c582
                    have c582 : ¬ kk = 0 := fun h => c582 ((xeq (by omega) (by omega)).mpr h)
                    omega
              · have hn0 : ¬ (G (246 + j)).1 = nI 0 := fun h => hkz ((xeq (by omega) (by omega)).mp (ek.symm.trans h))
                have hP : va_P D vwCl ([(la, .inl (cJ, 6, .inr (.inl fl)))] ++ (CW cT x lv kp fL fK o ld b k FZ)) s.heap := hP
                have hD : va_D A ([(la, .inl (cJ, 6, .inr (.inl fl)))] ++ (CW cT x lv kp fL fK o ld b k FZ)) := hD
                have hDc : va_D (fun _ => True) (CW cT x lv kp fL fK o ld b k FZ) := (xD_sub (List.sublist_append_right _ _) hD).weaken (fun _ _ _ _ => trivial)
                have hFc := xfree (wc := (CW cT x lv kp fL fK o ld b k FZ)) hD hS hA (fun _ h => List.mem_append_right _ h)
                refine xcw (vx_runSX (As := [.ref x, .int (nI 5), .int (nI j), .int (nI (w % 8)), .int (nI 0)]) (rest := []) ⟨hx, hb, hml, hown, hts⟩ (g_setRights l hst Ax x lv kp fL fK o ld b k FZ G hC (j := j) (y := w % 8) (by omega) hn0 (by omega) (nI 0) (s.heap).size) (vx_cwSW 5 hts gL_isEdited_L_act rfl rfl rfl (by decide +kernel) ⟨(Nat.le_of_ble_eq_true rfl), (Nat.le_of_ble_eq_true rfl)⟩) ⟨XPl_blind, XPl_pre hE hT hN ⟨rfl, hPc, hDc⟩⟩ rfl rfl hl.1 rfl (lv_room (Nat.le_of_ble_eq_true rfl)) dL_isEdited_561 ⟨by first | exact Nat.le_of_ble_eq_true rfl | (show _ + _ ≤ _; omega), by first | exact Nat.le_of_ble_eq_true rfl | (show _ + _ ≤ _; omega)⟩) hS (fun q9 _ h => hFc q9 h) hFc (fun _ _ _ _ _ hp9 _ _ _ _ _ _ => False.elim hp9) (fun r9 u t9 H1 locs ht9 hvm9 hw9 hB9 hzc hkc hS => ?_)
                obtain ⟨hr9, hu9⟩ := hw9
                subst hr9 hu9
                obtain ⟨fL1, fK1, FZ1, hP1, hD1, hC1⟩ := hB9
                rw [ht9] at hP1
                have hP1 : va_P D vwCl (CW cT x lv kp fL1 fK1 o ld b k FZ1) H1 := hP1
                have hD1 : va_D (va_A (CW cT x lv kp fL fK o ld b k FZ) (s.heap).size) (CW cT x lv kp fL1 fK1 o ld b k FZ1) := hD1
                obtain ⟨hP, hD⟩ := xjoin (wr := [(la, .inl (cJ, 6, .inr (.inl fl)))]) (wc := (CW cT x lv kp fL fK o ld b k FZ)) (w1 := (CW cT x lv kp fL1 fK1 o ld b k FZ1)) hP hD hkc hFc hP1 hD1
                have hPc := hP1
                clear hP1 hD1 hzc hkc hFc hvm9 ht9
                generalize H1 = H at hP hS hPc ⊢
                have hT := hT0.kept (fun a h1 h2 => hS.2.1 a h1 (fun z => h2 (hAx a z)))
                have hP : va_P D vwCl ((la, .inl (cJ, 6, .inr (.inl fl))) :: (x, .inr (1, [.ref lv, .ref kp, .int (nI o), .int (nI ld), .int (nI b), .int (nI k)])) :: (lv, .inl (cT, 6, .inr (.inr (.inr (.inr fL1))))) :: (kp, .inl (cT, 246, .inr (.inr (.inr (.inr fK1))))) :: FZ1) H := hP
                have hD : va_D A ((la, .inl (cJ, 6, .inr (.inl fl))) :: (x, .inr (1, [.ref lv, .ref kp, .int (nI o), .int (nI ld), .int (nI b), .int (nI k)])) :: (lv, .inl (cT, 6, .inr (.inr (.inr (.inr fL1))))) :: (kp, .inl (cT, 246, .inr (.inr (.inr (.inr fK1))))) :: FZ1) := hD
                have hC1 : CA cI FZ1 fL1 fK1 (va_up G (246 + j) (((G (246 + j)).1, nI (w % 8), (G (246 + j)).2.2.1, (G (246 + j)).2.2.2))) := hC1
                generalize hG1 : va_up G (246 + j) (((G (246 + j)).1, nI (w % 8), (G (246 + j)).2.2.1, (G (246 + j)).2.2.2)) = G1 at hC1
                have hG1j := ups hG1
                have hv1 := wt_rights (hWG _ (by omega)) hn0 (y := w % 8) (by omega)
                have hW1 := upw hG1 hWG hv1
                have hU1 := hG1
                refine x_top (nI rr) er ?_
                refine lv_iload hx hb dL_isEdited_564 (lv_at hl 4 rfl) ?_
                refine lv_if_ne (tgt := 575) hx hb dL_isEdited_566 (by decide) (fun c566 => ?_) (fun c566 => ?_)
                · have c566 : ¬ nI kk = nI 0 := c566
                  have c566 : ¬ kk = 0 := fun h => c566 ((xeq (by omega) (by omega)).mpr h)
                  refine lv_iload hx hb dL_isEdited_575 (lv_at hl 3 rfl) ?_
                  refine lv_icmp_ne (tgt := 619) hx hb dL_isEdited_577 (by decide) (fun h => absurd rfl h) (fun _ => ?_)
                  refine lv_iload hx hb dL_isEdited_580 (lv_at hl 4 rfl) ?_
                  refine lv_if_eq (tgt := 615) hx hb dL_isEdited_582 (by decide) (fun c582 => ?_) (fun c582 => ?_)
                  · have c582 : nI kk = nI 0 := c582
                    have c582 : kk = 0 := (xeq (by omega) (by omega)).mp c582
                    omega
                  · have c582 : ¬ nI kk = nI 0 := c582
                    have c582 : ¬ kk = 0 := fun h => c582 ((xeq (by omega) (by omega)).mpr h)
                    refine lv_aload_n hx hb dL_isEdited_585 rfl (lv_at hl 5 rfl) ?_
                    refine lv_iconst (v := (-1)) hx hb dL_isEdited_586 (by decide) ?_
                    refine lv_iload_n hx hb dL_isEdited_587 rfl (lv_at hl 7 rfl) ?_
                    refine xcr (vx_runV (As := [.int ((-1)), .int (nI j)]) (rest := []) ⟨hx, hb, hml, hown, hts⟩ (c_X1_rightsAt l hst Ax x lv kp fL1 fK1 o ld b k FZ1 G1 hC1 ((-1)) (nI j) hld hold) (cwV 2 hts gL_isEdited_X1_rightsAt rfl rfl rfl (by decide +kernel) ⟨(Nat.le_of_ble_eq_true rfl), (Nat.le_of_ble_eq_true rfl)⟩) ⟨XPx_blind, va_recv hK hPc (ci := 1) (q0 := 0) rfl rfl, XPx_pre hE hT hPc⟩ rfl rfl hl.1 rfl (lv_room (Nat.le_of_ble_eq_true rfl)) dL_isEdited_588 ⟨by first | exact Nat.le_of_ble_eq_true rfl | (show _ + _ ≤ _; omega), by first | exact Nat.le_of_ble_eq_true rfl | (show _ + _ ≤ _; omega)⟩) (rq_no (AT_l (by omega))) (rq_r hld (AT_l (by omega))) ?_
                    refine x_top (nI (w % 8)) (by rw [hG1j]) ?_
                    refine lv_iload hx hb dL_isEdited_591 (lv_at hl 9 rfl) ?_
                    refine lv_bipush (v := nI 8) hx hb dL_isEdited_593 (by decide) ?_
                    refine lv_irem hx hb dL_isEdited_595 (by decide) ?_
                    refine x_top (nI (w % 8)) (pk_rem (by omega) (by omega) (by omega)) ?_
                    refine lv_icmp_ne (tgt := 619) hx hb dL_isEdited_596 (by decide) (fun h => absurd rfl h) (fun _ => ?_)
                    refine lv_aload_n hx hb dL_isEdited_599 rfl (lv_at hl 5 rfl) ?_
                    refine lv_iconst (v := (-1)) hx hb dL_isEdited_600 (by decide) ?_
                    refine lv_iload_n hx hb dL_isEdited_601 rfl (lv_at hl 7 rfl) ?_
                    refine lv_iload hx hb dL_isEdited_602 (lv_at hl 9 rfl) ?_
                    refine lv_bipush (v := nI 12) hx hb dL_isEdited_604 (by decide) ?_
                    refine lv_irem hx hb dL_isEdited_606 (by decide) ?_
                    refine x_top (nI (w % 12)) (pk_rem (by omega) (by omega) (by omega)) ?_
                    refine xcr (vx_runV (As := [.int ((-1)), .int (nI j), .int (nI (w % 12))]) (rest := []) ⟨hx, hb, hml, hown, hts⟩ (c_X1_numberAt l hst Ax x lv kp fL1 fK1 o ld b k FZ1 G1 hC1 ((-1)) (nI j) (nI (w % 12)) hld hold) (cwV 3 hts gL_isEdited_X1_numberAt rfl rfl rfl (by decide +kernel) ⟨(Nat.le_of_ble_eq_true rfl), (Nat.le_of_ble_eq_true rfl)⟩) ⟨XPx_blind, va_recv hK hPc (ci := 1) (q0 := 0) rfl rfl, XPx_pre hE hT hPc⟩ rfl rfl hl.1 rfl (lv_room (Nat.le_of_ble_eq_true rfl)) dL_isEdited_607 ⟨by first | exact Nat.le_of_ble_eq_true rfl | (show _ + _ ≤ _; omega), by first | exact Nat.le_of_ble_eq_true rfl | (show _ + _ ≤ _; omega)⟩) (rq_nn (AT_l (by omega)) (by omega)) (rq_n hld (AT_l (by omega)) (by omega)) ?_
                    refine x_top ((if kk = 0 then -1 else num (G (246 + j)) (w % 12))) (by rw [hG1j, if_neg (by omega)]; rfl) ?_
                    refine lv_iload hx hb dL_isEdited_610 (lv_at hl 1 rfl) ?_
                    refine lv_icmp_ne (tgt := 619) hx hb dL_isEdited_612 (by decide) (fun h => absurd rfl h) (fun _ => ?_)
                    refine lv_iconst (v := nI 1) hx hb dL_isEdited_615 (by decide) ?_
                    refine lv_goto (tgt := 620) hx hb dL_isEdited_616 (by decide) ?_
                    refine lv_istore (lv' := [(9, .int (nI 1)), (8, .int ((if kk = 0 then -1 else num (G (246 + j)) (w % 12)))), (7, .int (nI ((G (246 + j)).2.2.1))), (6, .int (nI rr)), (5, .int (nI kk)), (0, .ref x), (1, .ref la), (2, .int (nI j)), (3, .int (nI hw)), (4, .int (nI w))]) hx hb dL_isEdited_620 hl (by decide) rfl (fun ls hl => ?_)
                    refine lv_iload hx hb dL_isEdited_622 (lv_at hl 0 rfl) ?_
                    refine lv_if_eq (tgt := 640) hx hb dL_isEdited_624 (by decide) (fun h => absurd h (by decide)) (fun _ => ?_)
                    refine lv_aload_n hx hb dL_isEdited_627 rfl (lv_at hl 5 rfl) ?_
                    refine lv_aload_n hx hb dL_isEdited_628 rfl (lv_at hl 6 rfl) ?_
                    refine lv_iload_n hx hb dL_isEdited_629 rfl (lv_at hl 7 rfl) ?_
                    have hPo : va_P D vwCl ((la, .inl (cJ, 6, .inr (.inl fl))) :: (CW cT x lv kp fL1 fK1 o ld b k FZ1)) H := xP_sub (fun _ h => h) hP
                    refine xc_si2 (va_runS (As := [.ref x, .ref la, .int (nI j)]) (rest := []) ⟨hx, hb, hml, hown, hts⟩ (c_L_isOnly l hst Ax x lv kp fL1 fK1 o ld b k FZ1 G1 hC1 la fl (nI j) (fun i hi hne => by have hij : i ≠ j := fun h => hne (by rw [h]); rw [upn hG1 (by omega), hL i hi]) hld hold) (va_cwS 3 hts gL_isEdited_L_isOnly rfl rfl rfl (by decide +kernel) ⟨(Nat.le_of_ble_eq_true rfl), (Nat.le_of_ble_eq_true rfl)⟩) ⟨XPx_blind, XPx_pre hE hT hPo⟩ rfl rfl hl.1 rfl (lv_room (Nat.le_of_ble_eq_true rfl)) dL_isEdited_630 ⟨by first | exact Nat.le_of_ble_eq_true rfl | (show _ + _ ≤ _; omega), by first | exact Nat.le_of_ble_eq_true rfl | (show _ + _ ≤ _; omega)⟩) ?_
                    refine lv_if_eq (tgt := 640) hx hb dL_isEdited_633 (by decide) (fun h => absurd h (by decide)) (fun _ => ?_)
                    refine lv_iconst (v := nI 1) hx hb dL_isEdited_636 (by decide) ?_
                    refine lv_goto (tgt := 641) hx hb dL_isEdited_637 (by decide) ?_
                    refine W.widen (k := 32) (n := 160) (Nat.le_of_ble_eq_true rfl) (Nat.le_of_ble_eq_true rfl) ?_
                    exact W.zret hx hb hr (xnb _ (by omega)) (fun t9 ht9 hW9 => ⟨⟨_, _, rfl, ⟨rfl, hv1⟩, fL1, fK1, FZ1, by rw [ht9]; exact hP, hD, by rw [hU1]; exact hC1⟩, hS.F ht9⟩) hS.2.2 dL_isEdited_641
                · have c566 : nI kk = nI 0 := c566
                  have c566 : kk = 0 := (xeq (by omega) (by omega)).mp c566
                  omega
            · have c421 : ¬ 21 ≤ hw := fun h => c421 ((xle (by omega) (by omega)).mpr h)
              refine lv_iload hx hb dL_isEdited_424 (lv_at hl 2 rfl) ?_
              refine x_join (ls := ls) 438 [.int (nI ((if (G (246 + j)).2.2.1 = 0 then 0 else w % (G (246 + j)).2.2.1)))] ?_ (fun J => ?_)
              · obtain ⟨sp, hsp0, hsp, esp⟩ : ∃ sp, ((G (246 + j)).2.2.1 = 0 → sp = 0) ∧ (0 < (G (246 + j)).2.2.1 → sp < (G (246 + j)).2.2.1) ∧ (if (G (246 + j)).2.2.1 = 0 then 0 else w % (G (246 + j)).2.2.1) = sp := ⟨_, fun h => if_pos h, fun h => by rw [if_neg (by omega)]; exact Nat.mod_lt w h, rfl⟩
                have hsp12 : sp < 12 := by omega
                refine x_top (nI sp) (congrArg nI esp) ?_
                refine lv_istore (lv' := [(10, .int (nI sp)), (9, .int (nI 1)), (8, .int ((if kk = 0 then -1 else num (G (246 + j)) (w % 12)))), (7, .int (nI ((G (246 + j)).2.2.1))), (6, .int (nI rr)), (5, .int (nI kk)), (0, .ref x), (1, .ref la), (2, .int (nI j)), (3, .int (nI hw)), (4, .int (nI w))]) hx hb dL_isEdited_438 hl (by decide) rfl (fun ls hl => ?_)
                refine lv_iload hx hb dL_isEdited_440 (lv_at hl 5 rfl) ?_
                refine lv_iconst (v := nI 1) hx hb dL_isEdited_442 (by decide) ?_
                refine x_join (ls := ls) 463 [.int ((if kk = 1 ∧ 0 < (G (246 + j)).2.2.1 then num (G (246 + j)) sp else -1))] ?_ (fun J => ?_)
                · refine lv_istore (lv' := [(11, .int ((if kk = 1 ∧ 0 < (G (246 + j)).2.2.1 then num (G (246 + j)) sp else -1))), (10, .int (nI sp)), (9, .int (nI 1)), (8, .int ((if kk = 0 then -1 else num (G (246 + j)) (w % 12)))), (7, .int (nI ((G (246 + j)).2.2.1))), (6, .int (nI rr)), (5, .int (nI kk)), (0, .ref x), (1, .ref la), (2, .int (nI j)), (3, .int (nI hw)), (4, .int (nI w))]) hx hb dL_isEdited_463 hl (by decide) rfl (fun ls hl => ?_)
                  refine lv_aload_n hx hb dL_isEdited_465 rfl (lv_at hl 7 rfl) ?_
                  refine lv_iconst (v := nI 4) hx hb dL_isEdited_466 (by decide) ?_
                  refine lv_iload_n hx hb dL_isEdited_467 rfl (lv_at hl 9 rfl) ?_
                  refine lv_iload hx hb dL_isEdited_468 (lv_at hl 1 rfl) ?_
                  refine lv_iconst (v := nI 0) hx hb dL_isEdited_470 (by decide) ?_
                  rcases (show (kk = 1 ∧ 0 < (G (246 + j)).2.2.1) ∨ ¬ kk = 1 ∨ (kk = 1 ∧ (G (246 + j)).2.2.1 = 0) by omega) with htk | htk | htk
                  · have hk1 : (G (246 + j)).1 = nI 1 := by rw [ek, htk.1]
                    have hP : va_P D vwCl ([(la, .inl (cJ, 6, .inr (.inl fl)))] ++ (CW cT x lv kp fL fK o ld b k FZ)) s.heap := hP
                    have hD : va_D A ([(la, .inl (cJ, 6, .inr (.inl fl)))] ++ (CW cT x lv kp fL fK o ld b k FZ)) := hD
                    have hDc : va_D (fun _ => True) (CW cT x lv kp fL fK o ld b k FZ) := (xD_sub (List.sublist_append_right _ _) hD).weaken (fun _ _ _ _ => trivial)
                    have hFc := xfree (wc := (CW cT x lv kp fL fK o ld b k FZ)) hD hS hA (fun _ h => List.mem_append_right _ h)
                    refine xcw (vx_runSX (As := [.ref x, .int (nI 4), .int (nI j), .int (nI sp), .int (nI 0)]) (rest := []) ⟨hx, hb, hml, hown, hts⟩ (g_take l hst Ax x lv kp fL fK o ld b k FZ G hC (j := j) (sp := sp) (by omega) hk1 (by omega) (nI 0) (s.heap).size) (vx_cwSW 5 hts gL_isEdited_L_act rfl rfl rfl (by decide +kernel) ⟨(Nat.le_of_ble_eq_true rfl), (Nat.le_of_ble_eq_true rfl)⟩) ⟨XPl_blind, XPl_pre hE hT hN ⟨rfl, hPc, hDc⟩⟩ rfl rfl hl.1 rfl (lv_room (Nat.le_of_ble_eq_true rfl)) dL_isEdited_471 ⟨by first | exact Nat.le_of_ble_eq_true rfl | (show _ + _ ≤ _; omega), by first | exact Nat.le_of_ble_eq_true rfl | (show _ + _ ≤ _; omega)⟩) hS (fun q9 _ h => hFc q9 h) hFc (fun _ _ _ _ _ hp9 _ _ _ _ _ _ => False.elim hp9) (fun r9 u t9 H1 locs ht9 hvm9 hw9 hB9 hzc hkc hS => ?_)
                    obtain ⟨hr9, hu9⟩ := hw9
                    subst hr9 hu9
                    obtain ⟨fL1, fK1, FZ1, hP1, hD1, hC1⟩ := hB9
                    rw [ht9] at hP1
                    have hP1 : va_P D vwCl (CW cT x lv kp fL1 fK1 o ld b k FZ1) H1 := hP1
                    have hD1 : va_D (va_A (CW cT x lv kp fL fK o ld b k FZ) (s.heap).size) (CW cT x lv kp fL1 fK1 o ld b k FZ1) := hD1
                    obtain ⟨hP, hD⟩ := xjoin (wr := [(la, .inl (cJ, 6, .inr (.inl fl)))]) (wc := (CW cT x lv kp fL fK o ld b k FZ)) (w1 := (CW cT x lv kp fL1 fK1 o ld b k FZ1)) hP hD hkc hFc hP1 hD1
                    have hPc := hP1
                    clear hP1 hD1 hzc hkc hFc hvm9 ht9
                    generalize H1 = H at hP hS hPc ⊢
                    have hT := hT0.kept (fun a h1 h2 => hS.2.1 a h1 (fun z => h2 (hAx a z)))
                    have hP : va_P D vwCl ((la, .inl (cJ, 6, .inr (.inl fl))) :: (x, .inr (1, [.ref lv, .ref kp, .int (nI o), .int (nI ld), .int (nI b), .int (nI k)])) :: (lv, .inl (cT, 6, .inr (.inr (.inr (.inr fL1))))) :: (kp, .inl (cT, 246, .inr (.inr (.inr (.inr fK1))))) :: FZ1) H := hP
                    have hD : va_D A ((la, .inl (cJ, 6, .inr (.inl fl))) :: (x, .inr (1, [.ref lv, .ref kp, .int (nI o), .int (nI ld), .int (nI b), .int (nI k)])) :: (lv, .inl (cT, 6, .inr (.inr (.inr (.inr fL1))))) :: (kp, .inl (cT, 246, .inr (.inr (.inr (.inr fK1))))) :: FZ1) := hD
                    have hC1 : CA cI FZ1 fL1 fK1 (va_up G (246 + j) ((nI 1, (G (246 + j)).2.1, (G (246 + j)).2.2.1 - 1, delR (G (246 + j)).2.2.2 sp))) := hC1
                    generalize hG1 : va_up G (246 + j) ((nI 1, (G (246 + j)).2.1, (G (246 + j)).2.2.1 - 1, delR (G (246 + j)).2.2.2 sp)) = G1 at hC1
                    have hG1j := ups hG1
                    have hv1 := wt_take (hWG _ (by omega)) hk1 (show sp < (G (246 + j)).2.2.1 by omega)
                    have hW1 := upw hG1 hWG hv1
                    have hU1 := hG1
                    refine x_top (if kk = 1 ∧ 0 < (G (246 + j)).2.2.1 then num (G (246 + j)) sp else -1) (by rw [if_pos htk]; exact (num_in (by omega)).symm) ?_
                    refine lv_istore (lv' := [(12, .int ((if kk = 1 ∧ 0 < (G (246 + j)).2.2.1 then num (G (246 + j)) sp else -1))), (11, .int ((if kk = 1 ∧ 0 < (G (246 + j)).2.2.1 then num (G (246 + j)) sp else -1))), (10, .int (nI sp)), (9, .int (nI 1)), (8, .int ((if kk = 0 then -1 else num (G (246 + j)) (w % 12)))), (7, .int (nI ((G (246 + j)).2.2.1))), (6, .int (nI rr)), (5, .int (nI kk)), (0, .ref x), (1, .ref la), (2, .int (nI j)), (3, .int (nI hw)), (4, .int (nI w))]) hx hb dL_isEdited_474 hl (by decide) rfl (fun ls hl => ?_)
                    refine lv_iload hx hb dL_isEdited_476 (lv_at hl 7 rfl) ?_
                    refine lv_iconst (v := nI 1) hx hb dL_isEdited_478 (by decide) ?_
                    refine lv_icmp_ne (tgt := 487) hx hb dL_isEdited_479 (by decide) (fun c479 => ?_) (fun c479 => ?_)
                    · have c479 : ¬ kk = 1 := fun h => c479 ((xeq (by omega) (by omega)).mpr h)
                      omega
                    · have c479 : kk = 1 := (xeq (by omega) (by omega)).mp c479
                      refine lv_iload hx hb dL_isEdited_482 (lv_at hl 5 rfl) ?_
                      refine lv_if_ne (tgt := 522) hx hb dL_isEdited_484 (by decide) (fun c484 => ?_) (fun c484 => ?_)
                      · have c484 : ¬ nI ((G (246 + j)).2.2.1) = nI 0 := c484
                        have c484 : ¬ ((G (246 + j)).2.2.1) = 0 := fun h => c484 ((xeq (by omega) (by omega)).mpr h)
                        refine lv_iload hx hb dL_isEdited_522 (lv_at hl 0 rfl) ?_
                        refine lv_iload hx hb dL_isEdited_524 (lv_at hl 1 rfl) ?_
                        refine lv_icmp_ne (tgt := 546) hx hb dL_isEdited_526 (by decide) (fun h => absurd rfl h) (fun _ => ?_)
                        refine lv_aload_n hx hb dL_isEdited_529 rfl (lv_at hl 8 rfl) ?_
                        refine lv_iconst (v := (-1)) hx hb dL_isEdited_530 (by decide) ?_
                        refine lv_iload_n hx hb dL_isEdited_531 rfl (lv_at hl 10 rfl) ?_
                        refine xc_si2 (va_runS (As := [.ref x, .int ((-1)), .int (nI j)]) (rest := []) ⟨hx, hb, hml, hown, hts⟩ (c_L_length l hst Ax x lv kp fL1 fK1 o ld b k FZ1 G1 hC1 ((-1)) (nI j) (246 + j) (AT_l (by omega)) (hW1 _ (by omega)) hld hold) (va_cwS 3 hts gL_isEdited_L_length rfl rfl rfl (by decide +kernel) ⟨(Nat.le_of_ble_eq_true rfl), (Nat.le_of_ble_eq_true rfl)⟩) ⟨XPx_blind, XPx_pre hE hT hPc⟩ rfl rfl hl.1 rfl (lv_room (Nat.le_of_ble_eq_true rfl)) dL_isEdited_532 ⟨by first | exact Nat.le_of_ble_eq_true rfl | (show _ + _ ≤ _; omega), by first | exact Nat.le_of_ble_eq_true rfl | (show _ + _ ≤ _; omega)⟩) ?_
                        refine x_top (nI (((G (246 + j)).2.2.1) - 1)) (by rw [hG1j]) ?_
                        refine lv_iload hx hb dL_isEdited_535 (lv_at hl 5 rfl) ?_
                        refine lv_iconst (v := nI 1) hx hb dL_isEdited_537 (by decide) ?_
                        refine lv_isub hx hb dL_isEdited_538 ?_
                        refine x_top (nI (((G (246 + j)).2.2.1) - 1)) (xsub (by omega)) ?_
                        refine lv_icmp_ne (tgt := 546) hx hb dL_isEdited_539 (by decide) (fun h => absurd rfl h) (fun _ => ?_)
                        refine lv_iconst (v := nI 1) hx hb dL_isEdited_542 (by decide) ?_
                        refine lv_goto (tgt := 547) hx hb dL_isEdited_543 (by decide) ?_
                        refine lv_istore (lv' := [(9, .int (nI 1)), (12, .int ((if kk = 1 ∧ 0 < (G (246 + j)).2.2.1 then num (G (246 + j)) sp else -1))), (11, .int ((if kk = 1 ∧ 0 < (G (246 + j)).2.2.1 then num (G (246 + j)) sp else -1))), (10, .int (nI sp)), (8, .int ((if kk = 0 then -1 else num (G (246 + j)) (w % 12)))), (7, .int (nI ((G (246 + j)).2.2.1))), (6, .int (nI rr)), (5, .int (nI kk)), (0, .ref x), (1, .ref la), (2, .int (nI j)), (3, .int (nI hw)), (4, .int (nI w))]) hx hb dL_isEdited_547 hl (by decide) rfl (fun ls hl => ?_)
                        refine lv_goto (tgt := 622) hx hb dL_isEdited_549 (by decide) ?_
                        refine lv_iload hx hb dL_isEdited_622 (lv_at hl 0 rfl) ?_
                        refine lv_if_eq (tgt := 640) hx hb dL_isEdited_624 (by decide) (fun h => absurd h (by decide)) (fun _ => ?_)
                        refine lv_aload_n hx hb dL_isEdited_627 rfl (lv_at hl 8 rfl) ?_
                        refine lv_aload_n hx hb dL_isEdited_628 rfl (lv_at hl 9 rfl) ?_
                        refine lv_iload_n hx hb dL_isEdited_629 rfl (lv_at hl 10 rfl) ?_
                        have hPo : va_P D vwCl ((la, .inl (cJ, 6, .inr (.inl fl))) :: (CW cT x lv kp fL1 fK1 o ld b k FZ1)) H := xP_sub (fun _ h => h) hP
                        refine xc_si2 (va_runS (As := [.ref x, .ref la, .int (nI j)]) (rest := []) ⟨hx, hb, hml, hown, hts⟩ (c_L_isOnly l hst Ax x lv kp fL1 fK1 o ld b k FZ1 G1 hC1 la fl (nI j) (fun i hi hne => by have hij : i ≠ j := fun h => hne (by rw [h]); rw [upn hG1 (by omega), hL i hi]) hld hold) (va_cwS 3 hts gL_isEdited_L_isOnly rfl rfl rfl (by decide +kernel) ⟨(Nat.le_of_ble_eq_true rfl), (Nat.le_of_ble_eq_true rfl)⟩) ⟨XPx_blind, XPx_pre hE hT hPo⟩ rfl rfl hl.1 rfl (lv_room (Nat.le_of_ble_eq_true rfl)) dL_isEdited_630 ⟨by first | exact Nat.le_of_ble_eq_true rfl | (show _ + _ ≤ _; omega), by first | exact Nat.le_of_ble_eq_true rfl | (show _ + _ ≤ _; omega)⟩) ?_
                        refine lv_if_eq (tgt := 640) hx hb dL_isEdited_633 (by decide) (fun h => absurd h (by decide)) (fun _ => ?_)
                        refine lv_iconst (v := nI 1) hx hb dL_isEdited_636 (by decide) ?_
                        refine lv_goto (tgt := 641) hx hb dL_isEdited_637 (by decide) ?_
                        refine W.widen (k := 32) (n := 160) (Nat.le_of_ble_eq_true rfl) (Nat.le_of_ble_eq_true rfl) ?_
                        exact W.zret hx hb hr (xnb _ (by omega)) (fun t9 ht9 hW9 => ⟨⟨_, _, rfl, ⟨rfl, hv1⟩, fL1, fK1, FZ1, by rw [ht9]; exact hP, hD, by rw [hU1]; exact hC1⟩, hS.F ht9⟩) hS.2.2 dL_isEdited_641
                      · have c484 : nI ((G (246 + j)).2.2.1) = nI 0 := c484
                        have c484 : ((G (246 + j)).2.2.1) = 0 := (xeq (by omega) (by omega)).mp c484
                        omega
                  · have hDc : va_D (fun _ => True) (CW cT x lv kp fL fK o ld b k FZ) := (xD_sub (List.sublist_append_right [(la, .inl (cJ, 6, .inr (.inl fl)))] _) hD).weaken (fun _ _ _ _ => trivial)
                    refine xcri (vx_runSX (As := [.ref x, .int (nI 4), .int (nI j), .int (nI sp), .int (nI 0)]) (rest := []) ⟨hx, hb, hml, hown, hts⟩ (a_take_S l hst Ax x lv kp fL fK o ld b k FZ G hC (j := j) (by omega) (nI sp) (nI 0) (fun h => htk ((xeq (by omega) (by omega)).mp (ek.symm.trans h)))) (vx_cwSW 5 hts gL_isEdited_L_act rfl rfl rfl (by decide +kernel) ⟨(Nat.le_of_ble_eq_true rfl), (Nat.le_of_ble_eq_true rfl)⟩) ⟨XPl_blind, XPl_pre hE hT hN ⟨hPc, hDc⟩⟩ rfl rfl hl.1 rfl (lv_room (Nat.le_of_ble_eq_true rfl)) dL_isEdited_471 ⟨by first | exact Nat.le_of_ble_eq_true rfl | (show _ + _ ≤ _; omega), by first | exact Nat.le_of_ble_eq_true rfl | (show _ + _ ≤ _; omega)⟩) (fun r9 H1 hr9 hz9 hk9 => ?_)
                    subst hr9
                    have hP := xkept hP hk9
                    have hPc := xkept hPc hk9
                    have hS := xS_kept hS hz9 hk9
                    clear hz9 hk9
                    generalize H1 = H at hP hPc hS ⊢
                    have hT := hT0.kept (fun a h1 h2 => hS.2.1 a h1 (fun z => h2 (hAx a z)))
                    refine lv_istore (lv' := [(12, .int ((-1163))), (11, .int ((if kk = 1 ∧ 0 < (G (246 + j)).2.2.1 then num (G (246 + j)) sp else -1))), (10, .int (nI sp)), (9, .int (nI 1)), (8, .int ((if kk = 0 then -1 else num (G (246 + j)) (w % 12)))), (7, .int (nI ((G (246 + j)).2.2.1))), (6, .int (nI rr)), (5, .int (nI kk)), (0, .ref x), (1, .ref la), (2, .int (nI j)), (3, .int (nI hw)), (4, .int (nI w))]) hx hb dL_isEdited_474 hl (by decide) rfl (fun ls hl => ?_)
                    refine lv_iload hx hb dL_isEdited_476 (lv_at hl 7 rfl) ?_
                    refine lv_iconst (v := nI 1) hx hb dL_isEdited_478 (by decide) ?_
                    refine lv_icmp_ne (tgt := 487) hx hb dL_isEdited_479 (by decide) (fun c479 => ?_) (fun c479 => ?_)
                    · have c479 : ¬ kk = 1 := fun h => c479 ((xeq (by omega) (by omega)).mpr h)
                      refine lv_iload hx hb dL_isEdited_487 (lv_at hl 0 rfl) ?_
                      refine lv_iload hx hb dL_isEdited_489 (lv_at hl 7 rfl) ?_
                      refine lv_iconst (v := nI 1) hx hb dL_isEdited_491 (by decide) ?_
                      refine lv_icmp_eq (tgt := 501) hx hb dL_isEdited_492 (by decide) (fun c492 => ?_) (fun c492 => ?_)
                      · have c492 : kk = 1 := (xeq (by omega) (by omega)).mp c492
                        omega
                      · have c492 : ¬ kk = 1 := fun h => c492 ((xeq (by omega) (by omega)).mpr h)
                        refine lv_sipush (v := (-1163)) hx hb dL_isEdited_495 (by decide) ?_
                        refine lv_goto (tgt := 504) hx hb dL_isEdited_498 (by decide) ?_
                        refine lv_icmp_ne (tgt := 520) hx hb dL_isEdited_504 (by decide) (fun h => absurd h (by decide)) (fun _ => ?_)
                        refine lv_aload_n hx hb dL_isEdited_507 rfl (lv_at hl 8 rfl) ?_
                        refine lv_aload_n hx hb dL_isEdited_508 rfl (lv_at hl 9 rfl) ?_
                        refine lv_iconst (v := (-1)) hx hb dL_isEdited_509 (by decide) ?_
                        have hPo : va_P D vwCl ((la, .inl (cJ, 6, .inr (.inl fl))) :: (CW cT x lv kp fL fK o ld b k FZ)) H := xP_sub (fun _ h => h) hP
                        refine xc_si2 (va_runS (As := [.ref x, .ref la, .int ((-1))]) (rest := []) ⟨hx, hb, hml, hown, hts⟩ (c_L_isOnly l hst Ax x lv kp fL fK o ld b k FZ G hC la fl ((-1)) (fun i hi _ => hL i hi) hld hold) (va_cwS 3 hts gL_isEdited_L_isOnly rfl rfl rfl (by decide +kernel) ⟨(Nat.le_of_ble_eq_true rfl), (Nat.le_of_ble_eq_true rfl)⟩) ⟨XPx_blind, XPx_pre hE hT hPo⟩ rfl rfl hl.1 rfl (lv_room (Nat.le_of_ble_eq_true rfl)) dL_isEdited_510 ⟨by first | exact Nat.le_of_ble_eq_true rfl | (show _ + _ ≤ _; omega), by first | exact Nat.le_of_ble_eq_true rfl | (show _ + _ ≤ _; omega)⟩) ?_
                        refine lv_if_eq (tgt := 520) hx hb dL_isEdited_513 (by decide) (fun h => absurd h (by decide)) (fun _ => ?_)
                        refine lv_iconst (v := nI 1) hx hb dL_isEdited_516 (by decide) ?_
                        refine lv_goto (tgt := 521) hx hb dL_isEdited_517 (by decide) ?_
                        refine W.widen (k := 32) (n := 160) (Nat.le_of_ble_eq_true rfl) (Nat.le_of_ble_eq_true rfl) ?_
                        exact W.zret hx hb hr (xnb _ (by omega)) (fun t9 ht9 hW9 => ⟨⟨_, (G (246 + j)), rfl, ⟨rfl, hWG _ (by omega)⟩, fL, fK, FZ, by rw [ht9]; exact hP, hD, by rw [va_up_id]; exact hC⟩, hS.F ht9⟩) hS.2.2 dL_isEdited_521
                    · have c479 : kk = 1 := (xeq (by omega) (by omega)).mp c479
                      omega
                  · have hDc : va_D (fun _ => True) (CW cT x lv kp fL fK o ld b k FZ) := (xD_sub (List.sublist_append_right [(la, .inl (cJ, 6, .inr (.inl fl)))] _) hD).weaken (fun _ _ _ _ => trivial)
                    refine xcri (vx_runSX (As := [.ref x, .int (nI 4), .int (nI j), .int (nI sp), .int (nI 0)]) (rest := []) ⟨hx, hb, hml, hown, hts⟩ (a_take_A l hst Ax x lv kp fL fK o ld b k FZ G hC (j := j) (by omega) (nI sp) (nI 0) (by rw [ek, htk.1]) (hi_nl (by omega) (by omega))) (vx_cwSW 5 hts gL_isEdited_L_act rfl rfl rfl (by decide +kernel) ⟨(Nat.le_of_ble_eq_true rfl), (Nat.le_of_ble_eq_true rfl)⟩) ⟨XPl_blind, XPl_pre hE hT hN ⟨hPc, hDc⟩⟩ rfl rfl hl.1 rfl (lv_room (Nat.le_of_ble_eq_true rfl)) dL_isEdited_471 ⟨by first | exact Nat.le_of_ble_eq_true rfl | (show _ + _ ≤ _; omega), by first | exact Nat.le_of_ble_eq_true rfl | (show _ + _ ≤ _; omega)⟩) (fun r9 H1 hr9 hz9 hk9 => ?_)
                    subst hr9
                    have hP := xkept hP hk9
                    have hPc := xkept hPc hk9
                    have hS := xS_kept hS hz9 hk9
                    clear hz9 hk9
                    generalize H1 = H at hP hPc hS ⊢
                    have hT := hT0.kept (fun a h1 h2 => hS.2.1 a h1 (fun z => h2 (hAx a z)))
                    refine lv_istore (lv' := [(12, .int ((-1162))), (11, .int ((if kk = 1 ∧ 0 < (G (246 + j)).2.2.1 then num (G (246 + j)) sp else -1))), (10, .int (nI sp)), (9, .int (nI 1)), (8, .int ((if kk = 0 then -1 else num (G (246 + j)) (w % 12)))), (7, .int (nI ((G (246 + j)).2.2.1))), (6, .int (nI rr)), (5, .int (nI kk)), (0, .ref x), (1, .ref la), (2, .int (nI j)), (3, .int (nI hw)), (4, .int (nI w))]) hx hb dL_isEdited_474 hl (by decide) rfl (fun ls hl => ?_)
                    refine lv_iload hx hb dL_isEdited_476 (lv_at hl 7 rfl) ?_
                    refine lv_iconst (v := nI 1) hx hb dL_isEdited_478 (by decide) ?_
                    refine lv_icmp_ne (tgt := 487) hx hb dL_isEdited_479 (by decide) (fun c479 => ?_) (fun c479 => ?_)
                    · have c479 : ¬ kk = 1 := fun h => c479 ((xeq (by omega) (by omega)).mpr h)
                      omega
                    · have c479 : kk = 1 := (xeq (by omega) (by omega)).mp c479
                      refine lv_iload hx hb dL_isEdited_482 (lv_at hl 5 rfl) ?_
                      refine lv_if_ne (tgt := 522) hx hb dL_isEdited_484 (by decide) (fun c484 => ?_) (fun c484 => ?_)
                      · have c484 : ¬ nI ((G (246 + j)).2.2.1) = nI 0 := c484
                        have c484 : ¬ ((G (246 + j)).2.2.1) = 0 := fun h => c484 ((xeq (by omega) (by omega)).mpr h)
                        omega
                      · have c484 : nI ((G (246 + j)).2.2.1) = nI 0 := c484
                        have c484 : ((G (246 + j)).2.2.1) = 0 := (xeq (by omega) (by omega)).mp c484
                        refine lv_iload hx hb dL_isEdited_487 (lv_at hl 0 rfl) ?_
                        refine lv_iload hx hb dL_isEdited_489 (lv_at hl 7 rfl) ?_
                        refine lv_iconst (v := nI 1) hx hb dL_isEdited_491 (by decide) ?_
                        refine lv_icmp_eq (tgt := 501) hx hb dL_isEdited_492 (by decide) (fun c492 => ?_) (fun c492 => ?_)
                        · have c492 : kk = 1 := (xeq (by omega) (by omega)).mp c492
                          refine lv_sipush (v := (-1162)) hx hb dL_isEdited_501 (by decide) ?_
                          refine lv_icmp_ne (tgt := 520) hx hb dL_isEdited_504 (by decide) (fun h => absurd h (by decide)) (fun _ => ?_)
                          refine lv_aload_n hx hb dL_isEdited_507 rfl (lv_at hl 8 rfl) ?_
                          refine lv_aload_n hx hb dL_isEdited_508 rfl (lv_at hl 9 rfl) ?_
                          refine lv_iconst (v := (-1)) hx hb dL_isEdited_509 (by decide) ?_
                          have hPo : va_P D vwCl ((la, .inl (cJ, 6, .inr (.inl fl))) :: (CW cT x lv kp fL fK o ld b k FZ)) H := xP_sub (fun _ h => h) hP
                          refine xc_si2 (va_runS (As := [.ref x, .ref la, .int ((-1))]) (rest := []) ⟨hx, hb, hml, hown, hts⟩ (c_L_isOnly l hst Ax x lv kp fL fK o ld b k FZ G hC la fl ((-1)) (fun i hi _ => hL i hi) hld hold) (va_cwS 3 hts gL_isEdited_L_isOnly rfl rfl rfl (by decide +kernel) ⟨(Nat.le_of_ble_eq_true rfl), (Nat.le_of_ble_eq_true rfl)⟩) ⟨XPx_blind, XPx_pre hE hT hPo⟩ rfl rfl hl.1 rfl (lv_room (Nat.le_of_ble_eq_true rfl)) dL_isEdited_510 ⟨by first | exact Nat.le_of_ble_eq_true rfl | (show _ + _ ≤ _; omega), by first | exact Nat.le_of_ble_eq_true rfl | (show _ + _ ≤ _; omega)⟩) ?_
                          refine lv_if_eq (tgt := 520) hx hb dL_isEdited_513 (by decide) (fun h => absurd h (by decide)) (fun _ => ?_)
                          refine lv_iconst (v := nI 1) hx hb dL_isEdited_516 (by decide) ?_
                          refine lv_goto (tgt := 521) hx hb dL_isEdited_517 (by decide) ?_
                          refine W.widen (k := 32) (n := 160) (Nat.le_of_ble_eq_true rfl) (Nat.le_of_ble_eq_true rfl) ?_
                          exact W.zret hx hb hr (xnb _ (by omega)) (fun t9 ht9 hW9 => ⟨⟨_, (G (246 + j)), rfl, ⟨rfl, hWG _ (by omega)⟩, fL, fK, FZ, by rw [ht9]; exact hP, hD, by rw [va_up_id]; exact hC⟩, hS.F ht9⟩) hS.2.2 dL_isEdited_521
                        · have c492 : ¬ kk = 1 := fun h => c492 ((xeq (by omega) (by omega)).mpr h)
                          omega
                · refine lv_icmp_ne (tgt := 462) hx hb dL_isEdited_443 (by decide) (fun c443 => ?_) (fun c443 => ?_)
                  · have c443 : ¬ kk = 1 := fun h => c443 ((xeq (by omega) (by omega)).mpr h)
                    refine lv_iconst (v := (-1)) hx hb dL_isEdited_462 (by decide) ?_
                    refine x_top ((if kk = 1 ∧ 0 < (G (246 + j)).2.2.1 then num (G (246 + j)) sp else -1)) (by rw [if_neg (by omega)]) ?_
                    exact J
                  · have c443 : kk = 1 := (xeq (by omega) (by omega)).mp c443
                    refine lv_iload hx hb dL_isEdited_446 (lv_at hl 3 rfl) ?_
                    refine lv_if_le (tgt := 462) hx hb dL_isEdited_448 (by decide) (fun c448 => ?_) (fun c448 => ?_)
                    · have c448 : nI ((G (246 + j)).2.2.1) ≤ nI 0 := c448
                      have c448 : ((G (246 + j)).2.2.1) ≤ 0 := (xle (by omega) (by omega)).mp c448
                      refine lv_iconst (v := (-1)) hx hb dL_isEdited_462 (by decide) ?_
                      refine x_top ((if kk = 1 ∧ 0 < (G (246 + j)).2.2.1 then num (G (246 + j)) sp else -1)) (by rw [if_neg (by omega)]) ?_
                      exact J
                    · have c448 : ¬ nI ((G (246 + j)).2.2.1) ≤ nI 0 := c448
                      have c448 : ¬ ((G (246 + j)).2.2.1) ≤ 0 := fun h => c448 ((xle (by omega) (by omega)).mpr h)
                      refine lv_aload_n hx hb dL_isEdited_451 rfl (lv_at hl 6 rfl) ?_
                      refine lv_iconst (v := (-1)) hx hb dL_isEdited_452 (by decide) ?_
                      refine lv_iload_n hx hb dL_isEdited_453 rfl (lv_at hl 8 rfl) ?_
                      refine lv_iload hx hb dL_isEdited_454 (lv_at hl 0 rfl) ?_
                      refine xcr (vx_runV (As := [.int ((-1)), .int (nI j), .int (nI sp)]) (rest := []) ⟨hx, hb, hml, hown, hts⟩ (c_X1_numberAt l hst Ax x lv kp fL fK o ld b k FZ G hC ((-1)) (nI j) (nI sp) hld hold) (cwV 3 hts gL_isEdited_X1_numberAt rfl rfl rfl (by decide +kernel) ⟨(Nat.le_of_ble_eq_true rfl), (Nat.le_of_ble_eq_true rfl)⟩) ⟨XPx_blind, va_recv hK hPc (ci := 1) (q0 := 0) rfl rfl, XPx_pre hE hT hPc⟩ rfl rfl hl.1 rfl (lv_room (Nat.le_of_ble_eq_true rfl)) dL_isEdited_456 ⟨by first | exact Nat.le_of_ble_eq_true rfl | (show _ + _ ≤ _; omega), by first | exact Nat.le_of_ble_eq_true rfl | (show _ + _ ≤ _; omega)⟩) (rq_nn (AT_l (by omega)) (by omega)) (rq_n hld (AT_l (by omega)) (by omega)) ?_
                      refine lv_goto (tgt := 463) hx hb dL_isEdited_459 (by decide) ?_
                      refine x_top ((if kk = 1 ∧ 0 < (G (246 + j)).2.2.1 then num (G (246 + j)) sp else -1)) (by rw [if_pos (by omega)]) ?_
                      exact J
              · refine lv_if_ne (tgt := 433) hx hb dL_isEdited_426 (by decide) (fun c426 => ?_) (fun c426 => ?_)
                · have c426 : ¬ nI ((G (246 + j)).2.2.1) = nI 0 := c426
                  have c426 : ¬ ((G (246 + j)).2.2.1) = 0 := fun h => c426 ((xeq (by omega) (by omega)).mpr h)
                  refine lv_iload hx hb dL_isEdited_433 (lv_at hl 9 rfl) ?_
                  refine lv_iload hx hb dL_isEdited_435 (lv_at hl 2 rfl) ?_
                  refine lv_irem hx hb dL_isEdited_437 (nI_ne0 (by omega) (by omega)) ?_
                  refine x_top (nI (w % ((G (246 + j)).2.2.1))) (pk_rem (by omega) (by omega) (by omega)) ?_
                  refine x_top (nI ((if (G (246 + j)).2.2.1 = 0 then 0 else w % (G (246 + j)).2.2.1))) (by rw [if_neg c426]) ?_
                  exact J
                · have c426 : nI ((G (246 + j)).2.2.1) = nI 0 := c426
                  have c426 : ((G (246 + j)).2.2.1) = 0 := (xeq (by omega) (by omega)).mp c426
                  refine lv_iconst (v := nI 0) hx hb dL_isEdited_429 (by decide) ?_
                  refine lv_goto (tgt := 438) hx hb dL_isEdited_430 (by decide) ?_
                  refine x_top (nI ((if (G (246 + j)).2.2.1 = 0 then 0 else w % (G (246 + j)).2.2.1))) (by rw [if_pos c426]) ?_
                  exact J
          · have c239 : ¬ 17 ≤ hw := fun h => c239 ((xle (by omega) (by omega)).mpr h)
            refine lv_iload hx hb dL_isEdited_242 (lv_at hl 9 rfl) ?_
            refine lv_iload hx hb dL_isEdited_244 (lv_at hl 2 rfl) ?_
            refine lv_iconst (v := nI 1) hx hb dL_isEdited_246 (by decide) ?_
            refine lv_iadd hx hb dL_isEdited_247 ?_
            refine x_top (nI (((G (246 + j)).2.2.1) + 1)) (xadd (by omega)) ?_
            refine lv_irem hx hb dL_isEdited_248 (nI_ne0 (by omega) (by omega)) ?_
            refine x_top (nI (w % (((G (246 + j)).2.2.1) + 1))) (pk_rem (by omega) (by omega) (by omega)) ?_
            obtain ⟨sp, hsp, esp⟩ : ∃ sp, sp ≤ (G (246 + j)).2.2.1 ∧ w % ((G (246 + j)).2.2.1 + 1) = sp := ⟨_, by have := Nat.mod_lt w (show 0 < (G (246 + j)).2.2.1 + 1 by omega); omega, rfl⟩
            refine x_top (nI sp) (congrArg nI esp) ?_
            refine lv_istore (lv' := [(10, .int (nI sp)), (9, .int (nI 1)), (8, .int ((if kk = 0 then -1 else num (G (246 + j)) (w % 12)))), (7, .int (nI ((G (246 + j)).2.2.1))), (6, .int (nI rr)), (5, .int (nI kk)), (0, .ref x), (1, .ref la), (2, .int (nI j)), (3, .int (nI hw)), (4, .int (nI w))]) hx hb dL_isEdited_249 hl (by decide) rfl (fun ls hl => ?_)
            refine lv_iload hx hb dL_isEdited_251 (lv_at hl 10 rfl) ?_
            refine lv_bipush (v := nI 13) hx hb dL_isEdited_253 (by decide) ?_
            refine lv_idiv hx hb dL_isEdited_255 (by decide) ?_
            refine x_top (nI (w / 13)) (pk_div (by omega) (by omega) (by omega)) ?_
            refine lv_iload hx hb dL_isEdited_256 (lv_at hl 10 rfl) ?_
            refine lv_iconst (v := nI 5) hx hb dL_isEdited_258 (by decide) ?_
            refine lv_irem hx hb dL_isEdited_259 (by decide) ?_
            refine x_top (nI (w % 5)) (pk_rem (by omega) (by omega) (by omega)) ?_
            refine x_join (ls := ls) 269 [.int (nI ((if w % 5 = 0 then 10 else 3))), .int (nI (w / 13))] ?_ (fun J => ?_)
            · obtain ⟨dv, hdv1, hdv2, edv⟩ : ∃ dv, 3 ≤ dv ∧ dv ≤ 10 ∧ (if w % 5 = 0 then 10 else 3) = dv := ⟨_, by split <;> omega, by split <;> omega, rfl⟩
              refine x_top (nI dv) (congrArg nI edv) ?_
              refine lv_irem hx hb dL_isEdited_269 (nI_ne0 (by omega) (by omega)) ?_
              refine x_top (nI ((w / 13) % dv)) (pk_rem (by omega) (by omega) (by omega)) ?_
              obtain ⟨y, hy, ey⟩ : ∃ y, y ≤ 9 ∧ w / 13 % dv = y := ⟨_, by have := Nat.mod_lt (w / 13) (show 0 < dv by omega); omega, rfl⟩
              refine x_top (nI y) (congrArg nI ey) ?_
              refine lv_istore (lv' := [(11, .int (nI y)), (10, .int (nI sp)), (9, .int (nI 1)), (8, .int ((if kk = 0 then -1 else num (G (246 + j)) (w % 12)))), (7, .int (nI ((G (246 + j)).2.2.1))), (6, .int (nI rr)), (5, .int (nI kk)), (0, .ref x), (1, .ref la), (2, .int (nI j)), (3, .int (nI hw)), (4, .int (nI w))]) hx hb dL_isEdited_270 hl (by decide) rfl (fun ls hl => ?_)
              refine lv_aload_n hx hb dL_isEdited_272 rfl (lv_at hl 7 rfl) ?_
              refine lv_iconst (v := nI 3) hx hb dL_isEdited_273 (by decide) ?_
              refine lv_iload_n hx hb dL_isEdited_274 rfl (lv_at hl 9 rfl) ?_
              refine lv_iload hx hb dL_isEdited_275 (lv_at hl 1 rfl) ?_
              refine lv_iload hx hb dL_isEdited_277 (lv_at hl 0 rfl) ?_
              by_cases hpk : PutK (G (246 + j))
              · have hk1 : kk = 1 := (xeq (by omega) (by omega)).mp (ek.symm.trans hpk.1)
                have hl12 : (G (246 + j)).2.2.1 < 12 := hpk.2
                have hP : va_P D vwCl ([(la, .inl (cJ, 6, .inr (.inl fl)))] ++ (CW cT x lv kp fL fK o ld b k FZ)) s.heap := hP
                have hD : va_D A ([(la, .inl (cJ, 6, .inr (.inl fl)))] ++ (CW cT x lv kp fL fK o ld b k FZ)) := hD
                have hDc : va_D (fun _ => True) (CW cT x lv kp fL fK o ld b k FZ) := (xD_sub (List.sublist_append_right _ _) hD).weaken (fun _ _ _ _ => trivial)
                have hFc := xfree (wc := (CW cT x lv kp fL fK o ld b k FZ)) hD hS hA (fun _ h => List.mem_append_right _ h)
                refine xcw (vx_runSX (As := [.ref x, .int (nI 3), .int (nI j), .int (nI sp), .int (nI y)]) (rest := []) ⟨hx, hb, hml, hown, hts⟩ (g_put l hst Ax x lv kp fL fK o ld b k FZ G hC (j := j) (sp := sp) (y := y) (by omega) hpk hsp hy (s.heap).size) (vx_cwSW 5 hts gL_isEdited_L_act rfl rfl rfl (by decide +kernel) ⟨(Nat.le_of_ble_eq_true rfl), (Nat.le_of_ble_eq_true rfl)⟩) ⟨XPl_blind, XPl_pre hE hT hN ⟨rfl, hPc, hDc⟩⟩ rfl rfl hl.1 rfl (lv_room (Nat.le_of_ble_eq_true rfl)) dL_isEdited_279 ⟨by first | exact Nat.le_of_ble_eq_true rfl | (show _ + _ ≤ _; omega), by first | exact Nat.le_of_ble_eq_true rfl | (show _ + _ ≤ _; omega)⟩) hS (fun q9 _ h => hFc q9 h) hFc (fun _ _ _ _ _ hp9 _ _ _ _ _ _ => False.elim hp9) (fun r9 u t9 H1 locs ht9 hvm9 hw9 hB9 hzc hkc hS => ?_)
                obtain ⟨hr9, hu9⟩ := hw9
                subst hr9 hu9
                obtain ⟨fL1, fK1, FZ1, hP1, hD1, hC1⟩ := hB9
                rw [ht9] at hP1
                have hP1 : va_P D vwCl (CW cT x lv kp fL1 fK1 o ld b k FZ1) H1 := hP1
                have hD1 : va_D (va_A (CW cT x lv kp fL fK o ld b k FZ) (s.heap).size) (CW cT x lv kp fL1 fK1 o ld b k FZ1) := hD1
                obtain ⟨hP, hD⟩ := xjoin (wr := [(la, .inl (cJ, 6, .inr (.inl fl)))]) (wc := (CW cT x lv kp fL fK o ld b k FZ)) (w1 := (CW cT x lv kp fL1 fK1 o ld b k FZ1)) hP hD hkc hFc hP1 hD1
                have hPc := hP1
                clear hP1 hD1 hzc hkc hFc hvm9 ht9
                generalize H1 = H at hP hS hPc ⊢
                have hT := hT0.kept (fun a h1 h2 => hS.2.1 a h1 (fun z => h2 (hAx a z)))
                have hP : va_P D vwCl ((la, .inl (cJ, 6, .inr (.inl fl))) :: (x, .inr (1, [.ref lv, .ref kp, .int (nI o), .int (nI ld), .int (nI b), .int (nI k)])) :: (lv, .inl (cT, 6, .inr (.inr (.inr (.inr fL1))))) :: (kp, .inl (cT, 246, .inr (.inr (.inr (.inr fK1))))) :: FZ1) H := hP
                have hD : va_D A ((la, .inl (cJ, 6, .inr (.inl fl))) :: (x, .inr (1, [.ref lv, .ref kp, .int (nI o), .int (nI ld), .int (nI b), .int (nI k)])) :: (lv, .inl (cT, 6, .inr (.inr (.inr (.inr fL1))))) :: (kp, .inl (cT, 246, .inr (.inr (.inr (.inr fK1))))) :: FZ1) := hD
                have hC1 : CA cI FZ1 fL1 fK1 (va_up G (246 + j) ((nI 1, (G (246 + j)).2.1, (G (246 + j)).2.2.1 + 1, insR (G (246 + j)).2.2.2 sp (nI y)))) := hC1
                generalize hG1 : va_up G (246 + j) ((nI 1, (G (246 + j)).2.1, (G (246 + j)).2.2.1 + 1, insR (G (246 + j)).2.2.2 sp (nI y))) = G1 at hC1
                have hG1j := ups hG1
                have hv1 := wt_put (hWG _ (by omega)) hpk.1 hpk.2 hsp hy
                have hW1 := upw hG1 hWG hv1
                have hU1 := hG1
                refine lv_istore (lv' := [(12, .int (nI (((G (246 + j)).2.2.1) + 1))), (11, .int (nI y)), (10, .int (nI sp)), (9, .int (nI 1)), (8, .int ((if kk = 0 then -1 else num (G (246 + j)) (w % 12)))), (7, .int (nI ((G (246 + j)).2.2.1))), (6, .int (nI rr)), (5, .int (nI kk)), (0, .ref x), (1, .ref la), (2, .int (nI j)), (3, .int (nI hw)), (4, .int (nI w))]) hx hb dL_isEdited_282 hl (by decide) rfl (fun ls hl => ?_)
                refine lv_iload hx hb dL_isEdited_284 (lv_at hl 7 rfl) ?_
                refine lv_iconst (v := nI 1) hx hb dL_isEdited_286 (by decide) ?_
                refine lv_icmp_ne (tgt := 297) hx hb dL_isEdited_287 (by decide) (fun c287 => ?_) (fun c287 => ?_)
                · have c287 : ¬ kk = 1 := fun h => c287 ((xeq (by omega) (by omega)).mpr h)
                  omega
                · have c287 : kk = 1 := (xeq (by omega) (by omega)).mp c287
                  refine lv_iload hx hb dL_isEdited_290 (lv_at hl 5 rfl) ?_
                  refine lv_bipush (v := nI 12) hx hb dL_isEdited_292 (by decide) ?_
                  refine lv_icmp_ne (tgt := 320) hx hb dL_isEdited_294 (by decide) (fun c294 => ?_) (fun c294 => ?_)
                  · have c294 : ¬ ((G (246 + j)).2.2.1) = 12 := fun h => c294 ((xeq (by omega) (by omega)).mpr h)
                    refine lv_aload_n hx hb dL_isEdited_320 rfl (lv_at hl 8 rfl) ?_
                    refine lv_iconst (v := (-1)) hx hb dL_isEdited_321 (by decide) ?_
                    refine lv_iload_n hx hb dL_isEdited_322 rfl (lv_at hl 10 rfl) ?_
                    refine lv_iload hx hb dL_isEdited_323 (lv_at hl 2 rfl) ?_
                    refine xcr (vx_runV (As := [.int ((-1)), .int (nI j), .int (nI sp)]) (rest := []) ⟨hx, hb, hml, hown, hts⟩ (c_X1_numberAt l hst Ax x lv kp fL1 fK1 o ld b k FZ1 G1 hC1 ((-1)) (nI j) (nI sp) hld hold) (cwV 3 hts gL_isEdited_X1_numberAt rfl rfl rfl (by decide +kernel) ⟨(Nat.le_of_ble_eq_true rfl), (Nat.le_of_ble_eq_true rfl)⟩) ⟨XPx_blind, va_recv hK hPc (ci := 1) (q0 := 0) rfl rfl, XPx_pre hE hT hPc⟩ rfl rfl hl.1 rfl (lv_room (Nat.le_of_ble_eq_true rfl)) dL_isEdited_325 ⟨by first | exact Nat.le_of_ble_eq_true rfl | (show _ + _ ≤ _; omega), by first | exact Nat.le_of_ble_eq_true rfl | (show _ + _ ≤ _; omega)⟩) (rq_nn (AT_l (by omega)) (by omega)) (rq_n hld (AT_l (by omega)) (by omega)) ?_
                    refine x_top (nI y) (by rw [hG1j]; exact num_ins hsp) ?_
                    refine lv_istore (lv' := [(13, .int (nI y)), (12, .int (nI (((G (246 + j)).2.2.1) + 1))), (11, .int (nI y)), (10, .int (nI sp)), (9, .int (nI 1)), (8, .int ((if kk = 0 then -1 else num (G (246 + j)) (w % 12)))), (7, .int (nI ((G (246 + j)).2.2.1))), (6, .int (nI rr)), (5, .int (nI kk)), (0, .ref x), (1, .ref la), (2, .int (nI j)), (3, .int (nI hw)), (4, .int (nI w))]) hx hb dL_isEdited_328 hl (by decide) rfl (fun ls hl => ?_)
                    refine lv_iload hx hb dL_isEdited_330 (lv_at hl 1 rfl) ?_
                    refine lv_iload hx hb dL_isEdited_332 (lv_at hl 6 rfl) ?_
                    refine lv_iconst (v := nI 1) hx hb dL_isEdited_334 (by decide) ?_
                    refine lv_iadd hx hb dL_isEdited_335 ?_
                    refine x_top (nI (((G (246 + j)).2.2.1) + 1)) (xadd (by omega)) ?_
                    refine lv_icmp_ne (tgt := 412) hx hb dL_isEdited_336 (by decide) (fun h => absurd rfl h) (fun _ => ?_)
                    refine lv_iload hx hb dL_isEdited_339 (lv_at hl 0 rfl) ?_
                    refine lv_iload hx hb dL_isEdited_341 (lv_at hl 2 rfl) ?_
                    refine lv_icmp_ne (tgt := 412) hx hb dL_isEdited_343 (by decide) (fun h => absurd rfl h) (fun _ => ?_)
                    refine lv_aload_n hx hb dL_isEdited_346 rfl (lv_at hl 9 rfl) ?_
                    refine lv_iconst (v := (-1)) hx hb dL_isEdited_347 (by decide) ?_
                    refine lv_iload_n hx hb dL_isEdited_348 rfl (lv_at hl 11 rfl) ?_
                    refine xc_si2 (va_runS (As := [.ref x, .int ((-1)), .int (nI j)]) (rest := []) ⟨hx, hb, hml, hown, hts⟩ (c_L_length l hst Ax x lv kp fL1 fK1 o ld b k FZ1 G1 hC1 ((-1)) (nI j) (246 + j) (AT_l (by omega)) (hW1 _ (by omega)) hld hold) (va_cwS 3 hts gL_isEdited_L_length rfl rfl rfl (by decide +kernel) ⟨(Nat.le_of_ble_eq_true rfl), (Nat.le_of_ble_eq_true rfl)⟩) ⟨XPx_blind, XPx_pre hE hT hPc⟩ rfl rfl hl.1 rfl (lv_room (Nat.le_of_ble_eq_true rfl)) dL_isEdited_349 ⟨by first | exact Nat.le_of_ble_eq_true rfl | (show _ + _ ≤ _; omega), by first | exact Nat.le_of_ble_eq_true rfl | (show _ + _ ≤ _; omega)⟩) ?_
                    refine x_top (nI (((G (246 + j)).2.2.1) + 1)) (by rw [hG1j]) ?_
                    refine lv_iload hx hb dL_isEdited_352 (lv_at hl 6 rfl) ?_
                    refine lv_iconst (v := nI 1) hx hb dL_isEdited_354 (by decide) ?_
                    refine lv_iadd hx hb dL_isEdited_355 ?_
                    refine x_top (nI (((G (246 + j)).2.2.1) + 1)) (xadd (by omega)) ?_
                    refine lv_icmp_ne (tgt := 412) hx hb dL_isEdited_356 (by decide) (fun h => absurd rfl h) (fun _ => ?_)
                    refine lv_iload hx hb dL_isEdited_359 (lv_at hl 3 rfl) ?_
                    refine lv_iload hx hb dL_isEdited_361 (lv_at hl 6 rfl) ?_
                    refine lv_icmp_eq (tgt := 408) hx hb dL_isEdited_363 (by decide) (fun c363 => ?_) (fun c363 => ?_)
                    · have c363 : sp = ((G (246 + j)).2.2.1) := (xeq (by omega) (by omega)).mp c363
                      refine lv_iconst (v := nI 1) hx hb dL_isEdited_408 (by decide) ?_
                      refine lv_goto (tgt := 413) hx hb dL_isEdited_409 (by decide) ?_
                      refine lv_istore (lv' := [(9, .int (nI 1)), (13, .int (nI y)), (12, .int (nI (((G (246 + j)).2.2.1) + 1))), (11, .int (nI y)), (10, .int (nI sp)), (8, .int ((if kk = 0 then -1 else num (G (246 + j)) (w % 12)))), (7, .int (nI ((G (246 + j)).2.2.1))), (6, .int (nI rr)), (5, .int (nI kk)), (0, .ref x), (1, .ref la), (2, .int (nI j)), (3, .int (nI hw)), (4, .int (nI w))]) hx hb dL_isEdited_413 hl (by decide) rfl (fun ls hl => ?_)
                      refine lv_goto (tgt := 622) hx hb dL_isEdited_415 (by decide) ?_
                      refine lv_iload hx hb dL_isEdited_622 (lv_at hl 0 rfl) ?_
                      refine lv_if_eq (tgt := 640) hx hb dL_isEdited_624 (by decide) (fun h => absurd h (by decide)) (fun _ => ?_)
                      refine lv_aload_n hx hb dL_isEdited_627 rfl (lv_at hl 9 rfl) ?_
                      refine lv_aload_n hx hb dL_isEdited_628 rfl (lv_at hl 10 rfl) ?_
                      refine lv_iload_n hx hb dL_isEdited_629 rfl (lv_at hl 11 rfl) ?_
                      have hPo : va_P D vwCl ((la, .inl (cJ, 6, .inr (.inl fl))) :: (CW cT x lv kp fL1 fK1 o ld b k FZ1)) H := xP_sub (fun _ h => h) hP
                      refine xc_si2 (va_runS (As := [.ref x, .ref la, .int (nI j)]) (rest := []) ⟨hx, hb, hml, hown, hts⟩ (c_L_isOnly l hst Ax x lv kp fL1 fK1 o ld b k FZ1 G1 hC1 la fl (nI j) (fun i hi hne => by have hij : i ≠ j := fun h => hne (by rw [h]); rw [upn hG1 (by omega), hL i hi]) hld hold) (va_cwS 3 hts gL_isEdited_L_isOnly rfl rfl rfl (by decide +kernel) ⟨(Nat.le_of_ble_eq_true rfl), (Nat.le_of_ble_eq_true rfl)⟩) ⟨XPx_blind, XPx_pre hE hT hPo⟩ rfl rfl hl.1 rfl (lv_room (Nat.le_of_ble_eq_true rfl)) dL_isEdited_630 ⟨by first | exact Nat.le_of_ble_eq_true rfl | (show _ + _ ≤ _; omega), by first | exact Nat.le_of_ble_eq_true rfl | (show _ + _ ≤ _; omega)⟩) ?_
                      refine lv_if_eq (tgt := 640) hx hb dL_isEdited_633 (by decide) (fun h => absurd h (by decide)) (fun _ => ?_)
                      refine lv_iconst (v := nI 1) hx hb dL_isEdited_636 (by decide) ?_
                      refine lv_goto (tgt := 641) hx hb dL_isEdited_637 (by decide) ?_
                      refine W.widen (k := 32) (n := 160) (Nat.le_of_ble_eq_true rfl) (Nat.le_of_ble_eq_true rfl) ?_
                      exact W.zret hx hb hr (xnb _ (by omega)) (fun t9 ht9 hW9 => ⟨⟨_, _, rfl, ⟨rfl, hv1⟩, fL1, fK1, FZ1, by rw [ht9]; exact hP, hD, by rw [hU1]; exact hC1⟩, hS.F ht9⟩) hS.2.2 dL_isEdited_641
                    · have c363 : ¬ sp = ((G (246 + j)).2.2.1) := fun h => c363 ((xeq (by omega) (by omega)).mpr h)
                      refine lv_aload_n hx hb dL_isEdited_366 rfl (lv_at hl 9 rfl) ?_
                      refine lv_iconst (v := nI 4) hx hb dL_isEdited_367 (by decide) ?_
                      refine lv_iload_n hx hb dL_isEdited_368 rfl (lv_at hl 11 rfl) ?_
                      refine lv_iload hx hb dL_isEdited_369 (lv_at hl 3 rfl) ?_
                      refine lv_iconst (v := nI 0) hx hb dL_isEdited_371 (by decide) ?_
                      have hP : va_P D vwCl ([(la, .inl (cJ, 6, .inr (.inl fl)))] ++ (CW cT x lv kp fL1 fK1 o ld b k FZ1)) H := hP
                      have hD : va_D A ([(la, .inl (cJ, 6, .inr (.inl fl)))] ++ (CW cT x lv kp fL1 fK1 o ld b k FZ1)) := hD
                      have hDc : va_D (fun _ => True) (CW cT x lv kp fL1 fK1 o ld b k FZ1) := (xD_sub (List.sublist_append_right _ _) hD).weaken (fun _ _ _ _ => trivial)
                      have hFc := xfree (wc := (CW cT x lv kp fL1 fK1 o ld b k FZ1)) hD hS hA (fun _ h => List.mem_append_right _ h)
                      refine xcw (vx_runSX (As := [.ref x, .int (nI 4), .int (nI j), .int (nI sp), .int (nI 0)]) (rest := []) ⟨hx, hb, hml, hown, hts⟩ (g_take l hst Ax x lv kp fL1 fK1 o ld b k FZ1 G1 hC1 (j := j) (sp := sp) (by omega) (by rw [hG1j]) (by rw [hG1j]; dsimp only; omega) (nI 0) (H).size) (vx_cwSW 5 hts gL_isEdited_L_act rfl rfl rfl (by decide +kernel) ⟨(Nat.le_of_ble_eq_true rfl), (Nat.le_of_ble_eq_true rfl)⟩) ⟨XPl_blind, XPl_pre hE hT hN ⟨rfl, hPc, hDc⟩⟩ rfl rfl hl.1 rfl (lv_room (Nat.le_of_ble_eq_true rfl)) dL_isEdited_372 ⟨by first | exact Nat.le_of_ble_eq_true rfl | (show _ + _ ≤ _; omega), by first | exact Nat.le_of_ble_eq_true rfl | (show _ + _ ≤ _; omega)⟩) hS (fun q9 _ h => hFc q9 h) hFc (fun _ _ _ _ _ hp9 _ _ _ _ _ _ => False.elim hp9) (fun r9 u t9 H1 locs ht9 hvm9 hw9 hB9 hzc hkc hS => ?_)
                      obtain ⟨hr9, hu9⟩ := hw9
                      subst hr9 hu9
                      obtain ⟨fL2, fK2, FZ2, hP1, hD1, hC2⟩ := hB9
                      rw [ht9] at hP1
                      have hP1 : va_P D vwCl (CW cT x lv kp fL2 fK2 o ld b k FZ2) H1 := hP1
                      have hD1 : va_D (va_A (CW cT x lv kp fL1 fK1 o ld b k FZ1) (H).size) (CW cT x lv kp fL2 fK2 o ld b k FZ2) := hD1
                      obtain ⟨hP, hD⟩ := xjoin (wr := [(la, .inl (cJ, 6, .inr (.inl fl)))]) (wc := (CW cT x lv kp fL1 fK1 o ld b k FZ1)) (w1 := (CW cT x lv kp fL2 fK2 o ld b k FZ2)) hP hD hkc hFc hP1 hD1
                      have hPc := hP1
                      clear hP1 hD1 hzc hkc hFc hvm9 ht9
                      generalize H1 = H at hP hS hPc ⊢
                      have hT := hT0.kept (fun a h1 h2 => hS.2.1 a h1 (fun z => h2 (hAx a z)))
                      have hP : va_P D vwCl ((la, .inl (cJ, 6, .inr (.inl fl))) :: (x, .inr (1, [.ref lv, .ref kp, .int (nI o), .int (nI ld), .int (nI b), .int (nI k)])) :: (lv, .inl (cT, 6, .inr (.inr (.inr (.inr fL2))))) :: (kp, .inl (cT, 246, .inr (.inr (.inr (.inr fK2))))) :: FZ2) H := hP
                      have hD : va_D A ((la, .inl (cJ, 6, .inr (.inl fl))) :: (x, .inr (1, [.ref lv, .ref kp, .int (nI o), .int (nI ld), .int (nI b), .int (nI k)])) :: (lv, .inl (cT, 6, .inr (.inr (.inr (.inr fL2))))) :: (kp, .inl (cT, 246, .inr (.inr (.inr (.inr fK2))))) :: FZ2) := hD
                      have hC2 : CA cI FZ2 fL2 fK2 (va_up G1 (246 + j) ((nI 1, (G1 (246 + j)).2.1, (G1 (246 + j)).2.2.1 - 1, delR (G1 (246 + j)).2.2.2 sp))) := hC2
                      generalize hG2 : va_up G1 (246 + j) ((nI 1, (G1 (246 + j)).2.1, (G1 (246 + j)).2.2.1 - 1, delR (G1 (246 + j)).2.2.2 sp)) = G2 at hC2
                      have hG2j := ups hG2
                      have hv2 := wt_take (hW1 _ (by omega)) (by rw [hG1j]) (show sp < (G1 (246 + j)).2.2.1 by rw [hG1j]; dsimp only; omega)
                      have hW2 := upw hG2 hW1 hv2
                      have hU2 := up2 hU1 hG2
                      rw [hG1j] at hG2j
                      dsimp only at hG2j
                      refine x_top (nI y) (by rw [hG1j]; exact ins_at) ?_
                      refine lv_iload hx hb dL_isEdited_375 (lv_at hl 2 rfl) ?_
                      refine lv_icmp_ne (tgt := 412) hx hb dL_isEdited_377 (by decide) (fun h => absurd rfl h) (fun _ => ?_)
                      refine lv_aload_n hx hb dL_isEdited_380 rfl (lv_at hl 9 rfl) ?_
                      refine lv_iconst (v := (-1)) hx hb dL_isEdited_381 (by decide) ?_
                      refine lv_iload_n hx hb dL_isEdited_382 rfl (lv_at hl 11 rfl) ?_
                      refine xc_sje (va_runS (As := [.ref x, .int ((-1)), .int (nI j)]) (rest := []) ⟨hx, hb, hml, hown, hts⟩ (c_L_told l hst Ax x lv kp fL2 fK2 o ld b k FZ2 G2 hC2 ((-1)) (nI j) (246 + j) (AT_l (by omega)) hld hold) (va_cwS 3 hts gL_isEdited_L_told rfl rfl rfl (by decide +kernel) ⟨(Nat.le_of_ble_eq_true rfl), (Nat.le_of_ble_eq_true rfl)⟩) ⟨XPx_blind, XPx_pre hE hT hPc⟩ rfl rfl hl.1 rfl (lv_room (Nat.le_of_ble_eq_true rfl)) dL_isEdited_383 ⟨by first | exact Nat.le_of_ble_eq_true rfl | (show _ + _ ≤ _; omega), by first | exact Nat.le_of_ble_eq_true rfl | (show _ + _ ≤ _; omega)⟩) ?_
                      refine x_topl (tlL (G (246 + j)) 12) (by rw [hG2j]; exact tlL_same (ins_del hpk.1 (by omega)) 12) ?_
                      refine lv_aload_n hx hb dL_isEdited_386 rfl (lv_at hl 10 rfl) ?_
                      refine lv_iload_n hx hb dL_isEdited_387 rfl (lv_at hl 11 rfl) ?_
                      refine va_lald hx hb hK hP 0 2 rfl rfl (xin (by omega) (by omega)) dL_isEdited_388 ?_
                      refine x_topl (tlL (G (246 + j)) 12) (by rw [nI_clamp (by omega)]; exact hL j (by omega)) ?_
                      refine W.lcmp hx hb dL_isEdited_389 ?_
                      refine x_top (nI 0) (lg_self _) ?_
                      refine lv_if_ne (tgt := 412) hx hb dL_isEdited_390 (by decide) (fun h => absurd h (by decide)) (fun _ => ?_)
                      refine lv_aload_n hx hb dL_isEdited_393 rfl (lv_at hl 9 rfl) ?_
                      refine lv_iconst (v := nI 3) hx hb dL_isEdited_394 (by decide) ?_
                      refine lv_iload_n hx hb dL_isEdited_395 rfl (lv_at hl 11 rfl) ?_
                      refine lv_iload hx hb dL_isEdited_396 (lv_at hl 3 rfl) ?_
                      refine lv_iload hx hb dL_isEdited_398 (lv_at hl 2 rfl) ?_
                      have hP : va_P D vwCl ([(la, .inl (cJ, 6, .inr (.inl fl)))] ++ (CW cT x lv kp fL2 fK2 o ld b k FZ2)) H := hP
                      have hD : va_D A ([(la, .inl (cJ, 6, .inr (.inl fl)))] ++ (CW cT x lv kp fL2 fK2 o ld b k FZ2)) := hD
                      have hDc : va_D (fun _ => True) (CW cT x lv kp fL2 fK2 o ld b k FZ2) := (xD_sub (List.sublist_append_right _ _) hD).weaken (fun _ _ _ _ => trivial)
                      have hFc := xfree (wc := (CW cT x lv kp fL2 fK2 o ld b k FZ2)) hD hS hA (fun _ h => List.mem_append_right _ h)
                      refine xcw (vx_runSX (As := [.ref x, .int (nI 3), .int (nI j), .int (nI sp), .int (nI y)]) (rest := []) ⟨hx, hb, hml, hown, hts⟩ (g_put l hst Ax x lv kp fL2 fK2 o ld b k FZ2 G2 hC2 (j := j) (sp := sp) (y := y) (by omega) ⟨by rw [hG2j], by rw [hG2j]; dsimp only; omega⟩ (by rw [hG2j]; dsimp only; omega) hy (H).size) (vx_cwSW 5 hts gL_isEdited_L_act rfl rfl rfl (by decide +kernel) ⟨(Nat.le_of_ble_eq_true rfl), (Nat.le_of_ble_eq_true rfl)⟩) ⟨XPl_blind, XPl_pre hE hT hN ⟨rfl, hPc, hDc⟩⟩ rfl rfl hl.1 rfl (lv_room (Nat.le_of_ble_eq_true rfl)) dL_isEdited_400 ⟨by first | exact Nat.le_of_ble_eq_true rfl | (show _ + _ ≤ _; omega), by first | exact Nat.le_of_ble_eq_true rfl | (show _ + _ ≤ _; omega)⟩) hS (fun q9 _ h => hFc q9 h) hFc (fun _ _ _ _ _ hp9 _ _ _ _ _ _ => False.elim hp9) (fun r9 u t9 H1 locs ht9 hvm9 hw9 hB9 hzc hkc hS => ?_)
                      obtain ⟨hr9, hu9⟩ := hw9
                      subst hr9 hu9
                      obtain ⟨fL3, fK3, FZ3, hP1, hD1, hC3⟩ := hB9
                      rw [ht9] at hP1
                      have hP1 : va_P D vwCl (CW cT x lv kp fL3 fK3 o ld b k FZ3) H1 := hP1
                      have hD1 : va_D (va_A (CW cT x lv kp fL2 fK2 o ld b k FZ2) (H).size) (CW cT x lv kp fL3 fK3 o ld b k FZ3) := hD1
                      obtain ⟨hP, hD⟩ := xjoin (wr := [(la, .inl (cJ, 6, .inr (.inl fl)))]) (wc := (CW cT x lv kp fL2 fK2 o ld b k FZ2)) (w1 := (CW cT x lv kp fL3 fK3 o ld b k FZ3)) hP hD hkc hFc hP1 hD1
                      have hPc := hP1
                      clear hP1 hD1 hzc hkc hFc hvm9 ht9
                      generalize H1 = H at hP hS hPc ⊢
                      have hT := hT0.kept (fun a h1 h2 => hS.2.1 a h1 (fun z => h2 (hAx a z)))
                      have hP : va_P D vwCl ((la, .inl (cJ, 6, .inr (.inl fl))) :: (x, .inr (1, [.ref lv, .ref kp, .int (nI o), .int (nI ld), .int (nI b), .int (nI k)])) :: (lv, .inl (cT, 6, .inr (.inr (.inr (.inr fL3))))) :: (kp, .inl (cT, 246, .inr (.inr (.inr (.inr fK3))))) :: FZ3) H := hP
                      have hD : va_D A ((la, .inl (cJ, 6, .inr (.inl fl))) :: (x, .inr (1, [.ref lv, .ref kp, .int (nI o), .int (nI ld), .int (nI b), .int (nI k)])) :: (lv, .inl (cT, 6, .inr (.inr (.inr (.inr fL3))))) :: (kp, .inl (cT, 246, .inr (.inr (.inr (.inr fK3))))) :: FZ3) := hD
                      have hC3 : CA cI FZ3 fL3 fK3 (va_up G2 (246 + j) ((nI 1, (G2 (246 + j)).2.1, (G2 (246 + j)).2.2.1 + 1, insR (G2 (246 + j)).2.2.2 sp (nI y)))) := hC3
                      generalize hG3 : va_up G2 (246 + j) ((nI 1, (G2 (246 + j)).2.1, (G2 (246 + j)).2.2.1 + 1, insR (G2 (246 + j)).2.2.2 sp (nI y))) = G3 at hC3
                      have hG3j := ups hG3
                      have hv3 := wt_put (hW2 _ (by omega)) (by rw [hG2j]) (show (G2 (246 + j)).2.2.1 < 12 by rw [hG2j]; dsimp only; omega) (show sp ≤ (G2 (246 + j)).2.2.1 by rw [hG2j]; dsimp only; omega) hy
                      have hW3 := upw hG3 hW2 hv3
                      have hU3 := up2 hU2 hG3
                      refine x_top (nI ((G (246 + j)).2.2.1 + 1)) (by rw [hG2j]; dsimp only; congr 1) ?_
                      refine lv_iload hx hb dL_isEdited_403 (lv_at hl 1 rfl) ?_
                      refine lv_icmp_ne (tgt := 412) hx hb dL_isEdited_405 (by decide) (fun h => absurd rfl h) (fun _ => ?_)
                      refine lv_iconst (v := nI 1) hx hb dL_isEdited_408 (by decide) ?_
                      refine lv_goto (tgt := 413) hx hb dL_isEdited_409 (by decide) ?_
                      refine lv_istore (lv' := [(9, .int (nI 1)), (13, .int (nI y)), (12, .int (nI (((G (246 + j)).2.2.1) + 1))), (11, .int (nI y)), (10, .int (nI sp)), (8, .int ((if kk = 0 then -1 else num (G (246 + j)) (w % 12)))), (7, .int (nI ((G (246 + j)).2.2.1))), (6, .int (nI rr)), (5, .int (nI kk)), (0, .ref x), (1, .ref la), (2, .int (nI j)), (3, .int (nI hw)), (4, .int (nI w))]) hx hb dL_isEdited_413 hl (by decide) rfl (fun ls hl => ?_)
                      refine lv_goto (tgt := 622) hx hb dL_isEdited_415 (by decide) ?_
                      refine lv_iload hx hb dL_isEdited_622 (lv_at hl 0 rfl) ?_
                      refine lv_if_eq (tgt := 640) hx hb dL_isEdited_624 (by decide) (fun h => absurd h (by decide)) (fun _ => ?_)
                      refine lv_aload_n hx hb dL_isEdited_627 rfl (lv_at hl 9 rfl) ?_
                      refine lv_aload_n hx hb dL_isEdited_628 rfl (lv_at hl 10 rfl) ?_
                      refine lv_iload_n hx hb dL_isEdited_629 rfl (lv_at hl 11 rfl) ?_
                      have hPo : va_P D vwCl ((la, .inl (cJ, 6, .inr (.inl fl))) :: (CW cT x lv kp fL3 fK3 o ld b k FZ3)) H := xP_sub (fun _ h => h) hP
                      refine xc_si2 (va_runS (As := [.ref x, .ref la, .int (nI j)]) (rest := []) ⟨hx, hb, hml, hown, hts⟩ (c_L_isOnly l hst Ax x lv kp fL3 fK3 o ld b k FZ3 G3 hC3 la fl (nI j) (fun i hi hne => by have hij : i ≠ j := fun h => hne (by rw [h]); rw [upn hG3 (by omega), upn hG2 (by omega), upn hG1 (by omega), hL i hi]) hld hold) (va_cwS 3 hts gL_isEdited_L_isOnly rfl rfl rfl (by decide +kernel) ⟨(Nat.le_of_ble_eq_true rfl), (Nat.le_of_ble_eq_true rfl)⟩) ⟨XPx_blind, XPx_pre hE hT hPo⟩ rfl rfl hl.1 rfl (lv_room (Nat.le_of_ble_eq_true rfl)) dL_isEdited_630 ⟨by first | exact Nat.le_of_ble_eq_true rfl | (show _ + _ ≤ _; omega), by first | exact Nat.le_of_ble_eq_true rfl | (show _ + _ ≤ _; omega)⟩) ?_
                      refine lv_if_eq (tgt := 640) hx hb dL_isEdited_633 (by decide) (fun h => absurd h (by decide)) (fun _ => ?_)
                      refine lv_iconst (v := nI 1) hx hb dL_isEdited_636 (by decide) ?_
                      refine lv_goto (tgt := 641) hx hb dL_isEdited_637 (by decide) ?_
                      refine W.widen (k := 32) (n := 160) (Nat.le_of_ble_eq_true rfl) (Nat.le_of_ble_eq_true rfl) ?_
                      exact W.zret hx hb hr (xnb _ (by omega)) (fun t9 ht9 hW9 => ⟨⟨_, _, rfl, ⟨rfl, hv3⟩, fL3, fK3, FZ3, by rw [ht9]; exact hP, hD, by rw [hU3]; exact hC3⟩, hS.F ht9⟩) hS.2.2 dL_isEdited_641
                  · have c294 : ((G (246 + j)).2.2.1) = 12 := (xeq (by omega) (by omega)).mp c294
                    omega
              · have hnk : ¬ (kk = 1 ∧ (G (246 + j)).2.2.1 < 12) := fun h => hpk ⟨by rw [ek, h.1], h.2⟩
                have hDc : va_D (fun _ => True) (CW cT x lv kp fL fK o ld b k FZ) := (xD_sub (List.sublist_append_right [(la, .inl (cJ, 6, .inr (.inl fl)))] _) hD).weaken (fun _ _ _ _ => trivial)
                refine xcri (vx_runSX (As := [.ref x, .int (nI 3), .int (nI j), .int (nI sp), .int (nI y)]) (rest := []) ⟨hx, hb, hml, hown, hts⟩ (a_put_S l hst Ax x lv kp fL fK o ld b k FZ G hC (j := j) (by omega) (nI sp) (nI y) hpk) (vx_cwSW 5 hts gL_isEdited_L_act rfl rfl rfl (by decide +kernel) ⟨(Nat.le_of_ble_eq_true rfl), (Nat.le_of_ble_eq_true rfl)⟩) ⟨XPl_blind, XPl_pre hE hT hN ⟨hPc, hDc⟩⟩ rfl rfl hl.1 rfl (lv_room (Nat.le_of_ble_eq_true rfl)) dL_isEdited_279 ⟨by first | exact Nat.le_of_ble_eq_true rfl | (show _ + _ ≤ _; omega), by first | exact Nat.le_of_ble_eq_true rfl | (show _ + _ ≤ _; omega)⟩) (fun r9 H1 hr9 hz9 hk9 => ?_)
                subst hr9
                have hP := xkept hP hk9
                have hPc := xkept hPc hk9
                have hS := xS_kept hS hz9 hk9
                clear hz9 hk9
                generalize H1 = H at hP hPc hS ⊢
                have hT := hT0.kept (fun a h1 h2 => hS.2.1 a h1 (fun z => h2 (hAx a z)))
                refine lv_istore (lv' := [(12, .int ((-1163))), (11, .int (nI y)), (10, .int (nI sp)), (9, .int (nI 1)), (8, .int ((if kk = 0 then -1 else num (G (246 + j)) (w % 12)))), (7, .int (nI ((G (246 + j)).2.2.1))), (6, .int (nI rr)), (5, .int (nI kk)), (0, .ref x), (1, .ref la), (2, .int (nI j)), (3, .int (nI hw)), (4, .int (nI w))]) hx hb dL_isEdited_282 hl (by decide) rfl (fun ls hl => ?_)
                refine lv_iload hx hb dL_isEdited_284 (lv_at hl 7 rfl) ?_
                refine lv_iconst (v := nI 1) hx hb dL_isEdited_286 (by decide) ?_
                refine lv_icmp_ne (tgt := 297) hx hb dL_isEdited_287 (by decide) (fun c287 => ?_) (fun c287 => ?_)
                · have c287 : ¬ kk = 1 := fun h => c287 ((xeq (by omega) (by omega)).mpr h)
                  refine lv_iload hx hb dL_isEdited_297 (lv_at hl 0 rfl) ?_
                  refine lv_sipush (v := (-1163)) hx hb dL_isEdited_299 (by decide) ?_
                  refine lv_icmp_ne (tgt := 318) hx hb dL_isEdited_302 (by decide) (fun h => absurd h (by decide)) (fun _ => ?_)
                  refine lv_aload_n hx hb dL_isEdited_305 rfl (lv_at hl 8 rfl) ?_
                  refine lv_aload_n hx hb dL_isEdited_306 rfl (lv_at hl 9 rfl) ?_
                  refine lv_iconst (v := (-1)) hx hb dL_isEdited_307 (by decide) ?_
                  have hPo : va_P D vwCl ((la, .inl (cJ, 6, .inr (.inl fl))) :: (CW cT x lv kp fL fK o ld b k FZ)) H := xP_sub (fun _ h => h) hP
                  refine xc_si2 (va_runS (As := [.ref x, .ref la, .int ((-1))]) (rest := []) ⟨hx, hb, hml, hown, hts⟩ (c_L_isOnly l hst Ax x lv kp fL fK o ld b k FZ G hC la fl ((-1)) (fun i hi _ => hL i hi) hld hold) (va_cwS 3 hts gL_isEdited_L_isOnly rfl rfl rfl (by decide +kernel) ⟨(Nat.le_of_ble_eq_true rfl), (Nat.le_of_ble_eq_true rfl)⟩) ⟨XPx_blind, XPx_pre hE hT hPo⟩ rfl rfl hl.1 rfl (lv_room (Nat.le_of_ble_eq_true rfl)) dL_isEdited_308 ⟨by first | exact Nat.le_of_ble_eq_true rfl | (show _ + _ ≤ _; omega), by first | exact Nat.le_of_ble_eq_true rfl | (show _ + _ ≤ _; omega)⟩) ?_
                  refine lv_if_eq (tgt := 318) hx hb dL_isEdited_311 (by decide) (fun h => absurd h (by decide)) (fun _ => ?_)
                  refine lv_iconst (v := nI 1) hx hb dL_isEdited_314 (by decide) ?_
                  refine lv_goto (tgt := 319) hx hb dL_isEdited_315 (by decide) ?_
                  refine W.widen (k := 32) (n := 160) (Nat.le_of_ble_eq_true rfl) (Nat.le_of_ble_eq_true rfl) ?_
                  exact W.zret hx hb hr (xnb _ (by omega)) (fun t9 ht9 hW9 => ⟨⟨_, (G (246 + j)), rfl, ⟨rfl, hWG _ (by omega)⟩, fL, fK, FZ, by rw [ht9]; exact hP, hD, by rw [va_up_id]; exact hC⟩, hS.F ht9⟩) hS.2.2 dL_isEdited_319
                · have c287 : kk = 1 := (xeq (by omega) (by omega)).mp c287
                  refine lv_iload hx hb dL_isEdited_290 (lv_at hl 5 rfl) ?_
                  refine lv_bipush (v := nI 12) hx hb dL_isEdited_292 (by decide) ?_
                  refine lv_icmp_ne (tgt := 320) hx hb dL_isEdited_294 (by decide) (fun c294 => ?_) (fun c294 => ?_)
                  · have c294 : ¬ ((G (246 + j)).2.2.1) = 12 := fun h => c294 ((xeq (by omega) (by omega)).mpr h)
                    omega
                  · have c294 : ((G (246 + j)).2.2.1) = 12 := (xeq (by omega) (by omega)).mp c294
                    refine lv_iload hx hb dL_isEdited_297 (lv_at hl 0 rfl) ?_
                    refine lv_sipush (v := (-1163)) hx hb dL_isEdited_299 (by decide) ?_
                    refine lv_icmp_ne (tgt := 318) hx hb dL_isEdited_302 (by decide) (fun h => absurd h (by decide)) (fun _ => ?_)
                    refine lv_aload_n hx hb dL_isEdited_305 rfl (lv_at hl 8 rfl) ?_
                    refine lv_aload_n hx hb dL_isEdited_306 rfl (lv_at hl 9 rfl) ?_
                    refine lv_iconst (v := (-1)) hx hb dL_isEdited_307 (by decide) ?_
                    have hPo : va_P D vwCl ((la, .inl (cJ, 6, .inr (.inl fl))) :: (CW cT x lv kp fL fK o ld b k FZ)) H := xP_sub (fun _ h => h) hP
                    refine xc_si2 (va_runS (As := [.ref x, .ref la, .int ((-1))]) (rest := []) ⟨hx, hb, hml, hown, hts⟩ (c_L_isOnly l hst Ax x lv kp fL fK o ld b k FZ G hC la fl ((-1)) (fun i hi _ => hL i hi) hld hold) (va_cwS 3 hts gL_isEdited_L_isOnly rfl rfl rfl (by decide +kernel) ⟨(Nat.le_of_ble_eq_true rfl), (Nat.le_of_ble_eq_true rfl)⟩) ⟨XPx_blind, XPx_pre hE hT hPo⟩ rfl rfl hl.1 rfl (lv_room (Nat.le_of_ble_eq_true rfl)) dL_isEdited_308 ⟨by first | exact Nat.le_of_ble_eq_true rfl | (show _ + _ ≤ _; omega), by first | exact Nat.le_of_ble_eq_true rfl | (show _ + _ ≤ _; omega)⟩) ?_
                    refine lv_if_eq (tgt := 318) hx hb dL_isEdited_311 (by decide) (fun h => absurd h (by decide)) (fun _ => ?_)
                    refine lv_iconst (v := nI 1) hx hb dL_isEdited_314 (by decide) ?_
                    refine lv_goto (tgt := 319) hx hb dL_isEdited_315 (by decide) ?_
                    refine W.widen (k := 32) (n := 160) (Nat.le_of_ble_eq_true rfl) (Nat.le_of_ble_eq_true rfl) ?_
                    exact W.zret hx hb hr (xnb _ (by omega)) (fun t9 ht9 hW9 => ⟨⟨_, (G (246 + j)), rfl, ⟨rfl, hWG _ (by omega)⟩, fL, fK, FZ, by rw [ht9]; exact hP, hD, by rw [va_up_id]; exact hC⟩, hS.F ht9⟩) hS.2.2 dL_isEdited_319
            · refine lv_if_ne (tgt := 268) hx hb dL_isEdited_260 (by decide) (fun c260 => ?_) (fun c260 => ?_)
              · have c260 : ¬ nI (w % 5) = nI 0 := c260
                have c260 : ¬ (w % 5) = 0 := fun h => c260 ((xeq (by omega) (by omega)).mpr h)
                refine lv_iconst (v := nI 3) hx hb dL_isEdited_268 (by decide) ?_
                refine x_top (nI ((if w % 5 = 0 then 10 else 3))) (by rw [if_neg c260]) ?_
                exact J
              · have c260 : nI (w % 5) = nI 0 := c260
                have c260 : (w % 5) = 0 := (xeq (by omega) (by omega)).mp c260
                refine lv_bipush (v := nI 10) hx hb dL_isEdited_263 (by decide) ?_
                refine lv_goto (tgt := 269) hx hb dL_isEdited_265 (by decide) ?_
                refine x_top (nI ((if w % 5 = 0 then 10 else 3))) (by rw [if_pos c260]) ?_
                exact J
        · have c183 : hw = 3 := (xeq (by omega) (by omega)).mp c183
          refine lv_aload_n hx hb dL_isEdited_186 rfl (lv_at hl 5 rfl) ?_
          refine lv_iconst (v := nI 2) hx hb dL_isEdited_187 (by decide) ?_
          refine lv_iload_n hx hb dL_isEdited_188 rfl (lv_at hl 7 rfl) ?_
          refine lv_iconst (v := nI 0) hx hb dL_isEdited_189 (by decide) ?_
          refine lv_iconst (v := nI 0) hx hb dL_isEdited_190 (by decide) ?_
          have hP : va_P D vwCl ([(la, .inl (cJ, 6, .inr (.inl fl)))] ++ (CW cT x lv kp fL fK o ld b k FZ)) s.heap := hP
          have hD : va_D A ([(la, .inl (cJ, 6, .inr (.inl fl)))] ++ (CW cT x lv kp fL fK o ld b k FZ)) := hD
          have hDc : va_D (fun _ => True) (CW cT x lv kp fL fK o ld b k FZ) := (xD_sub (List.sublist_append_right _ _) hD).weaken (fun _ _ _ _ => trivial)
          have hFc := xfree (wc := (CW cT x lv kp fL fK o ld b k FZ)) hD hS hA (fun _ h => List.mem_append_right _ h)
          refine xcw (vx_runSX (As := [.ref x, .int (nI 2), .int (nI j), .int (nI 0), .int (nI 0)]) (rest := []) ⟨hx, hb, hml, hown, hts⟩ (g_remove l hst Ax x lv kp fL fK o ld b k FZ G hC (j := j) (by omega) (nI 0) (nI 0) (s.heap).size) (vx_cwSW 5 hts gL_isEdited_L_act rfl rfl rfl (by decide +kernel) ⟨(Nat.le_of_ble_eq_true rfl), (Nat.le_of_ble_eq_true rfl)⟩) ⟨XPl_blind, XPl_pre hE hT hN ⟨rfl, hPc, hDc⟩⟩ rfl rfl hl.1 rfl (lv_room (Nat.le_of_ble_eq_true rfl)) dL_isEdited_191 ⟨by first | exact Nat.le_of_ble_eq_true rfl | (show _ + _ ≤ _; omega), by first | exact Nat.le_of_ble_eq_true rfl | (show _ + _ ≤ _; omega)⟩) hS (fun q9 _ h => hFc q9 h) hFc (fun _ _ _ _ _ hp9 _ _ _ _ _ _ => False.elim hp9) (fun r9 u t9 H1 locs ht9 hvm9 hw9 hB9 hzc hkc hS => ?_)
          obtain ⟨hr9, hu9⟩ := hw9
          subst hr9 hu9
          obtain ⟨fL1, fK1, FZ1, hP1, hD1, hC1⟩ := hB9
          rw [ht9] at hP1
          have hP1 : va_P D vwCl (CW cT x lv kp fL1 fK1 o ld b k FZ1) H1 := hP1
          have hD1 : va_D (va_A (CW cT x lv kp fL fK o ld b k FZ) (s.heap).size) (CW cT x lv kp fL1 fK1 o ld b k FZ1) := hD1
          obtain ⟨hP, hD⟩ := xjoin (wr := [(la, .inl (cJ, 6, .inr (.inl fl)))]) (wc := (CW cT x lv kp fL fK o ld b k FZ)) (w1 := (CW cT x lv kp fL1 fK1 o ld b k FZ1)) hP hD hkc hFc hP1 hD1
          have hPc := hP1
          clear hP1 hD1 hzc hkc hFc hvm9 ht9
          generalize H1 = H at hP hS hPc ⊢
          have hT := hT0.kept (fun a h1 h2 => hS.2.1 a h1 (fun z => h2 (hAx a z)))
          have hP : va_P D vwCl ((la, .inl (cJ, 6, .inr (.inl fl))) :: (x, .inr (1, [.ref lv, .ref kp, .int (nI o), .int (nI ld), .int (nI b), .int (nI k)])) :: (lv, .inl (cT, 6, .inr (.inr (.inr (.inr fL1))))) :: (kp, .inl (cT, 246, .inr (.inr (.inr (.inr fK1))))) :: FZ1) H := hP
          have hD : va_D A ((la, .inl (cJ, 6, .inr (.inl fl))) :: (x, .inr (1, [.ref lv, .ref kp, .int (nI o), .int (nI ld), .int (nI b), .int (nI k)])) :: (lv, .inl (cT, 6, .inr (.inr (.inr (.inr fL1))))) :: (kp, .inl (cT, 246, .inr (.inr (.inr (.inr fK1))))) :: FZ1) := hD
          have hC1 : CA cI FZ1 fL1 fK1 (va_up G (246 + j) ((nI 0, nI 0, 0, fun _ => 0))) := hC1
          generalize hG1 : va_up G (246 + j) ((nI 0, nI 0, 0, fun _ => 0)) = G1 at hC1
          have hG1j := ups hG1
          have hv1 := wt_empty
          have hW1 := upw hG1 hWG hv1
          have hU1 := hG1
          refine x_top (nI kk) ek ?_
          refine lv_iload hx hb dL_isEdited_194 (lv_at hl 4 rfl) ?_
          refine lv_icmp_ne (tgt := 230) hx hb dL_isEdited_196 (by decide) (fun h => absurd rfl h) (fun _ => ?_)
          refine lv_aload_n hx hb dL_isEdited_199 rfl (lv_at hl 5 rfl) ?_
          refine lv_iconst (v := (-1)) hx hb dL_isEdited_200 (by decide) ?_
          refine lv_iload_n hx hb dL_isEdited_201 rfl (lv_at hl 7 rfl) ?_
          refine xcr (vx_runV (As := [.int ((-1)), .int (nI j)]) (rest := []) ⟨hx, hb, hml, hown, hts⟩ (c_X1_kindAt l hst Ax x lv kp fL1 fK1 o ld b k FZ1 G1 hC1 ((-1)) (nI j) hld hold) (cwV 2 hts gL_isEdited_X1_kindAt rfl rfl rfl (by decide +kernel) ⟨(Nat.le_of_ble_eq_true rfl), (Nat.le_of_ble_eq_true rfl)⟩) ⟨XPx_blind, va_recv hK hPc (ci := 1) (q0 := 0) rfl rfl, XPx_pre hE hT hPc⟩ rfl rfl hl.1 rfl (lv_room (Nat.le_of_ble_eq_true rfl)) dL_isEdited_202 ⟨by first | exact Nat.le_of_ble_eq_true rfl | (show _ + _ ≤ _; omega), by first | exact Nat.le_of_ble_eq_true rfl | (show _ + _ ≤ _; omega)⟩) (rq_no (AT_l (by omega))) (rq_k hld (AT_l (by omega))) ?_
          refine x_top (nI 0) (by rw [hG1j]) ?_
          refine lv_if_ne (tgt := 230) hx hb dL_isEdited_205 (by decide) (fun h => absurd h (by decide)) (fun _ => ?_)
          refine lv_aload_n hx hb dL_isEdited_208 rfl (lv_at hl 5 rfl) ?_
          refine lv_iconst (v := (-1)) hx hb dL_isEdited_209 (by decide) ?_
          refine lv_iload_n hx hb dL_isEdited_210 rfl (lv_at hl 7 rfl) ?_
          refine xcr (vx_runV (As := [.int ((-1)), .int (nI j)]) (rest := []) ⟨hx, hb, hml, hown, hts⟩ (c_X1_rightsAt l hst Ax x lv kp fL1 fK1 o ld b k FZ1 G1 hC1 ((-1)) (nI j) hld hold) (cwV 2 hts gL_isEdited_X1_rightsAt rfl rfl rfl (by decide +kernel) ⟨(Nat.le_of_ble_eq_true rfl), (Nat.le_of_ble_eq_true rfl)⟩) ⟨XPx_blind, va_recv hK hPc (ci := 1) (q0 := 0) rfl rfl, XPx_pre hE hT hPc⟩ rfl rfl hl.1 rfl (lv_room (Nat.le_of_ble_eq_true rfl)) dL_isEdited_211 ⟨by first | exact Nat.le_of_ble_eq_true rfl | (show _ + _ ≤ _; omega), by first | exact Nat.le_of_ble_eq_true rfl | (show _ + _ ≤ _; omega)⟩) (rq_no (AT_l (by omega))) (rq_r hld (AT_l (by omega))) ?_
          refine x_top (nI 0) (by rw [hG1j]) ?_
          refine lv_if_ne (tgt := 230) hx hb dL_isEdited_214 (by decide) (fun h => absurd h (by decide)) (fun _ => ?_)
          refine lv_aload_n hx hb dL_isEdited_217 rfl (lv_at hl 5 rfl) ?_
          refine lv_iconst (v := (-1)) hx hb dL_isEdited_218 (by decide) ?_
          refine lv_iload_n hx hb dL_isEdited_219 rfl (lv_at hl 7 rfl) ?_
          refine xc_si2 (va_runS (As := [.ref x, .int ((-1)), .int (nI j)]) (rest := []) ⟨hx, hb, hml, hown, hts⟩ (c_L_length l hst Ax x lv kp fL1 fK1 o ld b k FZ1 G1 hC1 ((-1)) (nI j) (246 + j) (AT_l (by omega)) (hW1 _ (by omega)) hld hold) (va_cwS 3 hts gL_isEdited_L_length rfl rfl rfl (by decide +kernel) ⟨(Nat.le_of_ble_eq_true rfl), (Nat.le_of_ble_eq_true rfl)⟩) ⟨XPx_blind, XPx_pre hE hT hPc⟩ rfl rfl hl.1 rfl (lv_room (Nat.le_of_ble_eq_true rfl)) dL_isEdited_220 ⟨by first | exact Nat.le_of_ble_eq_true rfl | (show _ + _ ≤ _; omega), by first | exact Nat.le_of_ble_eq_true rfl | (show _ + _ ≤ _; omega)⟩) ?_
          refine x_top (nI 0) (by rw [hG1j]) ?_
          refine lv_if_ne (tgt := 230) hx hb dL_isEdited_223 (by decide) (fun h => absurd h (by decide)) (fun _ => ?_)
          refine lv_iconst (v := nI 1) hx hb dL_isEdited_226 (by decide) ?_
          refine lv_goto (tgt := 231) hx hb dL_isEdited_227 (by decide) ?_
          refine lv_istore (lv' := [(9, .int (nI 1)), (8, .int ((if kk = 0 then -1 else num (G (246 + j)) (w % 12)))), (7, .int (nI ((G (246 + j)).2.2.1))), (6, .int (nI rr)), (5, .int (nI kk)), (0, .ref x), (1, .ref la), (2, .int (nI j)), (3, .int (nI hw)), (4, .int (nI w))]) hx hb dL_isEdited_231 hl (by decide) rfl (fun ls hl => ?_)
          refine lv_goto (tgt := 622) hx hb dL_isEdited_233 (by decide) ?_
          refine lv_iload hx hb dL_isEdited_622 (lv_at hl 0 rfl) ?_
          refine lv_if_eq (tgt := 640) hx hb dL_isEdited_624 (by decide) (fun h => absurd h (by decide)) (fun _ => ?_)
          refine lv_aload_n hx hb dL_isEdited_627 rfl (lv_at hl 5 rfl) ?_
          refine lv_aload_n hx hb dL_isEdited_628 rfl (lv_at hl 6 rfl) ?_
          refine lv_iload_n hx hb dL_isEdited_629 rfl (lv_at hl 7 rfl) ?_
          have hPo : va_P D vwCl ((la, .inl (cJ, 6, .inr (.inl fl))) :: (CW cT x lv kp fL1 fK1 o ld b k FZ1)) H := xP_sub (fun _ h => h) hP
          refine xc_si2 (va_runS (As := [.ref x, .ref la, .int (nI j)]) (rest := []) ⟨hx, hb, hml, hown, hts⟩ (c_L_isOnly l hst Ax x lv kp fL1 fK1 o ld b k FZ1 G1 hC1 la fl (nI j) (fun i hi hne => by have hij : i ≠ j := fun h => hne (by rw [h]); rw [upn hG1 (by omega), hL i hi]) hld hold) (va_cwS 3 hts gL_isEdited_L_isOnly rfl rfl rfl (by decide +kernel) ⟨(Nat.le_of_ble_eq_true rfl), (Nat.le_of_ble_eq_true rfl)⟩) ⟨XPx_blind, XPx_pre hE hT hPo⟩ rfl rfl hl.1 rfl (lv_room (Nat.le_of_ble_eq_true rfl)) dL_isEdited_630 ⟨by first | exact Nat.le_of_ble_eq_true rfl | (show _ + _ ≤ _; omega), by first | exact Nat.le_of_ble_eq_true rfl | (show _ + _ ≤ _; omega)⟩) ?_
          refine lv_if_eq (tgt := 640) hx hb dL_isEdited_633 (by decide) (fun h => absurd h (by decide)) (fun _ => ?_)
          refine lv_iconst (v := nI 1) hx hb dL_isEdited_636 (by decide) ?_
          refine lv_goto (tgt := 641) hx hb dL_isEdited_637 (by decide) ?_
          refine W.widen (k := 32) (n := 160) (Nat.le_of_ble_eq_true rfl) (Nat.le_of_ble_eq_true rfl) ?_
          exact W.zret hx hb hr (xnb _ (by omega)) (fun t9 ht9 hW9 => ⟨⟨_, _, rfl, ⟨rfl, hv1⟩, fL1, fK1, FZ1, by rw [ht9]; exact hP, hD, by rw [hU1]; exact hC1⟩, hS.F ht9⟩) hS.2.2 dL_isEdited_641
      · have c107 : hw = 2 := (xeq (by omega) (by omega)).mp c107
        refine lv_aload_n hx hb dL_isEdited_110 rfl (lv_at hl 5 rfl) ?_
        refine lv_iconst (v := nI 1) hx hb dL_isEdited_111 (by decide) ?_
        refine lv_iload_n hx hb dL_isEdited_112 rfl (lv_at hl 7 rfl) ?_
        refine lv_iload hx hb dL_isEdited_113 (lv_at hl 9 rfl) ?_
        refine lv_bipush (v := nI 6) hx hb dL_isEdited_115 (by decide) ?_
        refine lv_irem hx hb dL_isEdited_117 (by decide) ?_
        refine x_top (nI (w % 6)) (pk_rem (by omega) (by omega) (by omega)) ?_
        refine lv_iconst (v := nI 0) hx hb dL_isEdited_118 (by decide) ?_
        have hP : va_P D vwCl ([(la, .inl (cJ, 6, .inr (.inl fl)))] ++ (CW cT x lv kp fL fK o ld b k FZ)) s.heap := hP
        have hD : va_D A ([(la, .inl (cJ, 6, .inr (.inl fl)))] ++ (CW cT x lv kp fL fK o ld b k FZ)) := hD
        have hDc : va_D (fun _ => True) (CW cT x lv kp fL fK o ld b k FZ) := (xD_sub (List.sublist_append_right _ _) hD).weaken (fun _ _ _ _ => trivial)
        have hFc := xfree (wc := (CW cT x lv kp fL fK o ld b k FZ)) hD hS hA (fun _ h => List.mem_append_right _ h)
        refine xcw (vx_runSX (As := [.ref x, .int (nI 1), .int (nI j), .int (nI (w % 6)), .int (nI 0)]) (rest := []) ⟨hx, hb, hml, hown, hts⟩ (g_makeLink l hst Ax x lv kp fL fK o ld b k FZ G hC (j := j) (t := w % 6) (by omega) (by omega) (nI 0) (s.heap).size) (vx_cwSW 5 hts gL_isEdited_L_act rfl rfl rfl (by decide +kernel) ⟨(Nat.le_of_ble_eq_true rfl), (Nat.le_of_ble_eq_true rfl)⟩) ⟨XPl_blind, XPl_pre hE hT hN ⟨rfl, hPc, hDc⟩⟩ rfl rfl hl.1 rfl (lv_room (Nat.le_of_ble_eq_true rfl)) dL_isEdited_119 ⟨by first | exact Nat.le_of_ble_eq_true rfl | (show _ + _ ≤ _; omega), by first | exact Nat.le_of_ble_eq_true rfl | (show _ + _ ≤ _; omega)⟩) hS (fun q9 _ h => hFc q9 h) hFc (fun _ _ _ _ _ hp9 _ _ _ _ _ _ => False.elim hp9) (fun r9 u t9 H1 locs ht9 hvm9 hw9 hB9 hzc hkc hS => ?_)
        obtain ⟨hr9, hu9⟩ := hw9
        subst hr9 hu9
        obtain ⟨fL1, fK1, FZ1, hP1, hD1, hC1⟩ := hB9
        rw [ht9] at hP1
        have hP1 : va_P D vwCl (CW cT x lv kp fL1 fK1 o ld b k FZ1) H1 := hP1
        have hD1 : va_D (va_A (CW cT x lv kp fL fK o ld b k FZ) (s.heap).size) (CW cT x lv kp fL1 fK1 o ld b k FZ1) := hD1
        obtain ⟨hP, hD⟩ := xjoin (wr := [(la, .inl (cJ, 6, .inr (.inl fl)))]) (wc := (CW cT x lv kp fL fK o ld b k FZ)) (w1 := (CW cT x lv kp fL1 fK1 o ld b k FZ1)) hP hD hkc hFc hP1 hD1
        have hPc := hP1
        clear hP1 hD1 hzc hkc hFc hvm9 ht9
        generalize H1 = H at hP hS hPc ⊢
        have hT := hT0.kept (fun a h1 h2 => hS.2.1 a h1 (fun z => h2 (hAx a z)))
        have hP : va_P D vwCl ((la, .inl (cJ, 6, .inr (.inl fl))) :: (x, .inr (1, [.ref lv, .ref kp, .int (nI o), .int (nI ld), .int (nI b), .int (nI k)])) :: (lv, .inl (cT, 6, .inr (.inr (.inr (.inr fL1))))) :: (kp, .inl (cT, 246, .inr (.inr (.inr (.inr fK1))))) :: FZ1) H := hP
        have hD : va_D A ((la, .inl (cJ, 6, .inr (.inl fl))) :: (x, .inr (1, [.ref lv, .ref kp, .int (nI o), .int (nI ld), .int (nI b), .int (nI k)])) :: (lv, .inl (cT, 6, .inr (.inr (.inr (.inr fL1))))) :: (kp, .inl (cT, 246, .inr (.inr (.inr (.inr fK1))))) :: FZ1) := hD
        have hC1 : CA cI FZ1 fL1 fK1 (va_up G (246 + j) ((nI 2, nI 0, 1, fun _ => nI (w % 6)))) := hC1
        generalize hG1 : va_up G (246 + j) ((nI 2, nI 0, 1, fun _ => nI (w % 6))) = G1 at hC1
        have hG1j := ups hG1
        have hv1 := wt_link (Nat.mod_lt w (show 0 < 6 by decide))
        have hW1 := upw hG1 hWG hv1
        have hU1 := hG1
        refine x_top (nI kk) ek ?_
        refine lv_iload hx hb dL_isEdited_122 (lv_at hl 4 rfl) ?_
        refine lv_icmp_ne (tgt := 175) hx hb dL_isEdited_124 (by decide) (fun h => absurd rfl h) (fun _ => ?_)
        refine lv_aload_n hx hb dL_isEdited_127 rfl (lv_at hl 5 rfl) ?_
        refine lv_iconst (v := (-1)) hx hb dL_isEdited_128 (by decide) ?_
        refine lv_iload_n hx hb dL_isEdited_129 rfl (lv_at hl 7 rfl) ?_
        refine xcr (vx_runV (As := [.int ((-1)), .int (nI j)]) (rest := []) ⟨hx, hb, hml, hown, hts⟩ (c_X1_kindAt l hst Ax x lv kp fL1 fK1 o ld b k FZ1 G1 hC1 ((-1)) (nI j) hld hold) (cwV 2 hts gL_isEdited_X1_kindAt rfl rfl rfl (by decide +kernel) ⟨(Nat.le_of_ble_eq_true rfl), (Nat.le_of_ble_eq_true rfl)⟩) ⟨XPx_blind, va_recv hK hPc (ci := 1) (q0 := 0) rfl rfl, XPx_pre hE hT hPc⟩ rfl rfl hl.1 rfl (lv_room (Nat.le_of_ble_eq_true rfl)) dL_isEdited_130 ⟨by first | exact Nat.le_of_ble_eq_true rfl | (show _ + _ ≤ _; omega), by first | exact Nat.le_of_ble_eq_true rfl | (show _ + _ ≤ _; omega)⟩) (rq_no (AT_l (by omega))) (rq_k hld (AT_l (by omega))) ?_
        refine x_top (nI 2) (by rw [hG1j]) ?_
        refine lv_iconst (v := nI 2) hx hb dL_isEdited_133 (by decide) ?_
        refine lv_icmp_ne (tgt := 175) hx hb dL_isEdited_134 (by decide) (fun h => absurd h (by decide)) (fun _ => ?_)
        refine lv_aload_n hx hb dL_isEdited_137 rfl (lv_at hl 5 rfl) ?_
        refine lv_iconst (v := (-1)) hx hb dL_isEdited_138 (by decide) ?_
        refine lv_iload_n hx hb dL_isEdited_139 rfl (lv_at hl 7 rfl) ?_
        refine lv_iconst (v := nI 0) hx hb dL_isEdited_140 (by decide) ?_
        refine xcr (vx_runV (As := [.int ((-1)), .int (nI j), .int (nI 0)]) (rest := []) ⟨hx, hb, hml, hown, hts⟩ (c_X1_numberAt l hst Ax x lv kp fL1 fK1 o ld b k FZ1 G1 hC1 ((-1)) (nI j) (nI 0) hld hold) (cwV 3 hts gL_isEdited_X1_numberAt rfl rfl rfl (by decide +kernel) ⟨(Nat.le_of_ble_eq_true rfl), (Nat.le_of_ble_eq_true rfl)⟩) ⟨XPx_blind, va_recv hK hPc (ci := 1) (q0 := 0) rfl rfl, XPx_pre hE hT hPc⟩ rfl rfl hl.1 rfl (lv_room (Nat.le_of_ble_eq_true rfl)) dL_isEdited_141 ⟨by first | exact Nat.le_of_ble_eq_true rfl | (show _ + _ ≤ _; omega), by first | exact Nat.le_of_ble_eq_true rfl | (show _ + _ ≤ _; omega)⟩) (rq_nn (AT_l (by omega)) (by omega)) (rq_n hld (AT_l (by omega)) (by omega)) ?_
        refine x_top (nI (w % 6)) (by rw [hG1j]; rfl) ?_
        refine lv_iload hx hb dL_isEdited_144 (lv_at hl 9 rfl) ?_
        refine lv_bipush (v := nI 6) hx hb dL_isEdited_146 (by decide) ?_
        refine lv_irem hx hb dL_isEdited_148 (by decide) ?_
        refine x_top (nI (w % 6)) (pk_rem (by omega) (by omega) (by omega)) ?_
        refine lv_icmp_ne (tgt := 175) hx hb dL_isEdited_149 (by decide) (fun h => absurd rfl h) (fun _ => ?_)
        refine lv_aload_n hx hb dL_isEdited_152 rfl (lv_at hl 5 rfl) ?_
        refine lv_iconst (v := (-1)) hx hb dL_isEdited_153 (by decide) ?_
        refine lv_iload_n hx hb dL_isEdited_154 rfl (lv_at hl 7 rfl) ?_
        refine xc_si2 (va_runS (As := [.ref x, .int ((-1)), .int (nI j)]) (rest := []) ⟨hx, hb, hml, hown, hts⟩ (c_L_length l hst Ax x lv kp fL1 fK1 o ld b k FZ1 G1 hC1 ((-1)) (nI j) (246 + j) (AT_l (by omega)) (hW1 _ (by omega)) hld hold) (va_cwS 3 hts gL_isEdited_L_length rfl rfl rfl (by decide +kernel) ⟨(Nat.le_of_ble_eq_true rfl), (Nat.le_of_ble_eq_true rfl)⟩) ⟨XPx_blind, XPx_pre hE hT hPc⟩ rfl rfl hl.1 rfl (lv_room (Nat.le_of_ble_eq_true rfl)) dL_isEdited_155 ⟨by first | exact Nat.le_of_ble_eq_true rfl | (show _ + _ ≤ _; omega), by first | exact Nat.le_of_ble_eq_true rfl | (show _ + _ ≤ _; omega)⟩) ?_
        refine x_top (nI 1) (by rw [hG1j]) ?_
        refine lv_iconst (v := nI 1) hx hb dL_isEdited_158 (by decide) ?_
        refine lv_icmp_ne (tgt := 175) hx hb dL_isEdited_159 (by decide) (fun h => absurd h (by decide)) (fun _ => ?_)
        refine lv_aload_n hx hb dL_isEdited_162 rfl (lv_at hl 5 rfl) ?_
        refine lv_iconst (v := (-1)) hx hb dL_isEdited_163 (by decide) ?_
        refine lv_iload_n hx hb dL_isEdited_164 rfl (lv_at hl 7 rfl) ?_
        refine xcr (vx_runV (As := [.int ((-1)), .int (nI j)]) (rest := []) ⟨hx, hb, hml, hown, hts⟩ (c_X1_rightsAt l hst Ax x lv kp fL1 fK1 o ld b k FZ1 G1 hC1 ((-1)) (nI j) hld hold) (cwV 2 hts gL_isEdited_X1_rightsAt rfl rfl rfl (by decide +kernel) ⟨(Nat.le_of_ble_eq_true rfl), (Nat.le_of_ble_eq_true rfl)⟩) ⟨XPx_blind, va_recv hK hPc (ci := 1) (q0 := 0) rfl rfl, XPx_pre hE hT hPc⟩ rfl rfl hl.1 rfl (lv_room (Nat.le_of_ble_eq_true rfl)) dL_isEdited_165 ⟨by first | exact Nat.le_of_ble_eq_true rfl | (show _ + _ ≤ _; omega), by first | exact Nat.le_of_ble_eq_true rfl | (show _ + _ ≤ _; omega)⟩) (rq_no (AT_l (by omega))) (rq_r hld (AT_l (by omega))) ?_
        refine x_top (nI 0) (by rw [hG1j]) ?_
        refine lv_if_ne (tgt := 175) hx hb dL_isEdited_168 (by decide) (fun h => absurd h (by decide)) (fun _ => ?_)
        refine lv_iconst (v := nI 1) hx hb dL_isEdited_171 (by decide) ?_
        refine lv_goto (tgt := 176) hx hb dL_isEdited_172 (by decide) ?_
        refine lv_istore (lv' := [(9, .int (nI 1)), (8, .int ((if kk = 0 then -1 else num (G (246 + j)) (w % 12)))), (7, .int (nI ((G (246 + j)).2.2.1))), (6, .int (nI rr)), (5, .int (nI kk)), (0, .ref x), (1, .ref la), (2, .int (nI j)), (3, .int (nI hw)), (4, .int (nI w))]) hx hb dL_isEdited_176 hl (by decide) rfl (fun ls hl => ?_)
        refine lv_goto (tgt := 622) hx hb dL_isEdited_178 (by decide) ?_
        refine lv_iload hx hb dL_isEdited_622 (lv_at hl 0 rfl) ?_
        refine lv_if_eq (tgt := 640) hx hb dL_isEdited_624 (by decide) (fun h => absurd h (by decide)) (fun _ => ?_)
        refine lv_aload_n hx hb dL_isEdited_627 rfl (lv_at hl 5 rfl) ?_
        refine lv_aload_n hx hb dL_isEdited_628 rfl (lv_at hl 6 rfl) ?_
        refine lv_iload_n hx hb dL_isEdited_629 rfl (lv_at hl 7 rfl) ?_
        have hPo : va_P D vwCl ((la, .inl (cJ, 6, .inr (.inl fl))) :: (CW cT x lv kp fL1 fK1 o ld b k FZ1)) H := xP_sub (fun _ h => h) hP
        refine xc_si2 (va_runS (As := [.ref x, .ref la, .int (nI j)]) (rest := []) ⟨hx, hb, hml, hown, hts⟩ (c_L_isOnly l hst Ax x lv kp fL1 fK1 o ld b k FZ1 G1 hC1 la fl (nI j) (fun i hi hne => by have hij : i ≠ j := fun h => hne (by rw [h]); rw [upn hG1 (by omega), hL i hi]) hld hold) (va_cwS 3 hts gL_isEdited_L_isOnly rfl rfl rfl (by decide +kernel) ⟨(Nat.le_of_ble_eq_true rfl), (Nat.le_of_ble_eq_true rfl)⟩) ⟨XPx_blind, XPx_pre hE hT hPo⟩ rfl rfl hl.1 rfl (lv_room (Nat.le_of_ble_eq_true rfl)) dL_isEdited_630 ⟨by first | exact Nat.le_of_ble_eq_true rfl | (show _ + _ ≤ _; omega), by first | exact Nat.le_of_ble_eq_true rfl | (show _ + _ ≤ _; omega)⟩) ?_
        refine lv_if_eq (tgt := 640) hx hb dL_isEdited_633 (by decide) (fun h => absurd h (by decide)) (fun _ => ?_)
        refine lv_iconst (v := nI 1) hx hb dL_isEdited_636 (by decide) ?_
        refine lv_goto (tgt := 641) hx hb dL_isEdited_637 (by decide) ?_
        refine W.widen (k := 32) (n := 160) (Nat.le_of_ble_eq_true rfl) (Nat.le_of_ble_eq_true rfl) ?_
        exact W.zret hx hb hr (xnb _ (by omega)) (fun t9 ht9 hW9 => ⟨⟨_, _, rfl, ⟨rfl, hv1⟩, fL1, fK1, FZ1, by rw [ht9]; exact hP, hD, by rw [hU1]; exact hC1⟩, hS.F ht9⟩) hS.2.2 dL_isEdited_641
    · have c51 : ¬ 2 ≤ hw := fun h => c51 ((xle (by omega) (by omega)).mpr h)
      refine lv_aload_n hx hb dL_isEdited_54 rfl (lv_at hl 5 rfl) ?_
      refine lv_iconst (v := nI 0) hx hb dL_isEdited_55 (by decide) ?_
      refine lv_iload_n hx hb dL_isEdited_56 rfl (lv_at hl 7 rfl) ?_
      refine lv_iconst (v := nI 0) hx hb dL_isEdited_57 (by decide) ?_
      refine lv_iconst (v := nI 0) hx hb dL_isEdited_58 (by decide) ?_
      have hP : va_P D vwCl ([(la, .inl (cJ, 6, .inr (.inl fl)))] ++ (CW cT x lv kp fL fK o ld b k FZ)) s.heap := hP
      have hD : va_D A ([(la, .inl (cJ, 6, .inr (.inl fl)))] ++ (CW cT x lv kp fL fK o ld b k FZ)) := hD
      have hDc : va_D (fun _ => True) (CW cT x lv kp fL fK o ld b k FZ) := (xD_sub (List.sublist_append_right _ _) hD).weaken (fun _ _ _ _ => trivial)
      have hFc := xfree (wc := (CW cT x lv kp fL fK o ld b k FZ)) hD hS hA (fun _ h => List.mem_append_right _ h)
      refine xcw (vx_runSX (As := [.ref x, .int (nI 0), .int (nI j), .int (nI 0), .int (nI 0)]) (rest := []) ⟨hx, hb, hml, hown, hts⟩ (g_makeFile l hst Ax x lv kp fL fK o ld b k FZ G hC (j := j) (by omega) (nI 0) (nI 0) (s.heap).size) (vx_cwSW 5 hts gL_isEdited_L_act rfl rfl rfl (by decide +kernel) ⟨(Nat.le_of_ble_eq_true rfl), (Nat.le_of_ble_eq_true rfl)⟩) ⟨XPl_blind, XPl_pre hE hT hN ⟨rfl, hPc, hDc⟩⟩ rfl rfl hl.1 rfl (lv_room (Nat.le_of_ble_eq_true rfl)) dL_isEdited_59 ⟨by first | exact Nat.le_of_ble_eq_true rfl | (show _ + _ ≤ _; omega), by first | exact Nat.le_of_ble_eq_true rfl | (show _ + _ ≤ _; omega)⟩) hS (fun q9 _ h => hFc q9 h) hFc (fun _ _ _ _ _ hp9 _ _ _ _ _ _ => False.elim hp9) (fun r9 u t9 H1 locs ht9 hvm9 hw9 hB9 hzc hkc hS => ?_)
      obtain ⟨hr9, hu9⟩ := hw9
      subst hr9 hu9
      obtain ⟨fL1, fK1, FZ1, hP1, hD1, hC1⟩ := hB9
      rw [ht9] at hP1
      have hP1 : va_P D vwCl (CW cT x lv kp fL1 fK1 o ld b k FZ1) H1 := hP1
      have hD1 : va_D (va_A (CW cT x lv kp fL fK o ld b k FZ) (s.heap).size) (CW cT x lv kp fL1 fK1 o ld b k FZ1) := hD1
      obtain ⟨hP, hD⟩ := xjoin (wr := [(la, .inl (cJ, 6, .inr (.inl fl)))]) (wc := (CW cT x lv kp fL fK o ld b k FZ)) (w1 := (CW cT x lv kp fL1 fK1 o ld b k FZ1)) hP hD hkc hFc hP1 hD1
      have hPc := hP1
      clear hP1 hD1 hzc hkc hFc hvm9 ht9
      generalize H1 = H at hP hS hPc ⊢
      have hT := hT0.kept (fun a h1 h2 => hS.2.1 a h1 (fun z => h2 (hAx a z)))
      have hP : va_P D vwCl ((la, .inl (cJ, 6, .inr (.inl fl))) :: (x, .inr (1, [.ref lv, .ref kp, .int (nI o), .int (nI ld), .int (nI b), .int (nI k)])) :: (lv, .inl (cT, 6, .inr (.inr (.inr (.inr fL1))))) :: (kp, .inl (cT, 246, .inr (.inr (.inr (.inr fK1))))) :: FZ1) H := hP
      have hD : va_D A ((la, .inl (cJ, 6, .inr (.inl fl))) :: (x, .inr (1, [.ref lv, .ref kp, .int (nI o), .int (nI ld), .int (nI b), .int (nI k)])) :: (lv, .inl (cT, 6, .inr (.inr (.inr (.inr fL1))))) :: (kp, .inl (cT, 246, .inr (.inr (.inr (.inr fK1))))) :: FZ1) := hD
      have hC1 : CA cI FZ1 fL1 fK1 (va_up G (246 + j) ((nI 1, nI 0, 0, fun _ => 0))) := hC1
      generalize hG1 : va_up G (246 + j) ((nI 1, nI 0, 0, fun _ => 0)) = G1 at hC1
      have hG1j := ups hG1
      have hv1 := wt_file
      have hW1 := upw hG1 hWG hv1
      have hU1 := hG1
      refine x_top (nI kk) ek ?_
      refine lv_iload hx hb dL_isEdited_62 (lv_at hl 4 rfl) ?_
      refine lv_icmp_ne (tgt := 99) hx hb dL_isEdited_64 (by decide) (fun h => absurd rfl h) (fun _ => ?_)
      refine lv_aload_n hx hb dL_isEdited_67 rfl (lv_at hl 5 rfl) ?_
      refine lv_iconst (v := (-1)) hx hb dL_isEdited_68 (by decide) ?_
      refine lv_iload_n hx hb dL_isEdited_69 rfl (lv_at hl 7 rfl) ?_
      refine xcr (vx_runV (As := [.int ((-1)), .int (nI j)]) (rest := []) ⟨hx, hb, hml, hown, hts⟩ (c_X1_kindAt l hst Ax x lv kp fL1 fK1 o ld b k FZ1 G1 hC1 ((-1)) (nI j) hld hold) (cwV 2 hts gL_isEdited_X1_kindAt rfl rfl rfl (by decide +kernel) ⟨(Nat.le_of_ble_eq_true rfl), (Nat.le_of_ble_eq_true rfl)⟩) ⟨XPx_blind, va_recv hK hPc (ci := 1) (q0 := 0) rfl rfl, XPx_pre hE hT hPc⟩ rfl rfl hl.1 rfl (lv_room (Nat.le_of_ble_eq_true rfl)) dL_isEdited_70 ⟨by first | exact Nat.le_of_ble_eq_true rfl | (show _ + _ ≤ _; omega), by first | exact Nat.le_of_ble_eq_true rfl | (show _ + _ ≤ _; omega)⟩) (rq_no (AT_l (by omega))) (rq_k hld (AT_l (by omega))) ?_
      refine x_top (nI 1) (by rw [hG1j]) ?_
      refine lv_iconst (v := nI 1) hx hb dL_isEdited_73 (by decide) ?_
      refine lv_icmp_ne (tgt := 99) hx hb dL_isEdited_74 (by decide) (fun h => absurd h (by decide)) (fun _ => ?_)
      refine lv_aload_n hx hb dL_isEdited_77 rfl (lv_at hl 5 rfl) ?_
      refine lv_iconst (v := (-1)) hx hb dL_isEdited_78 (by decide) ?_
      refine lv_iload_n hx hb dL_isEdited_79 rfl (lv_at hl 7 rfl) ?_
      refine xc_si2 (va_runS (As := [.ref x, .int ((-1)), .int (nI j)]) (rest := []) ⟨hx, hb, hml, hown, hts⟩ (c_L_length l hst Ax x lv kp fL1 fK1 o ld b k FZ1 G1 hC1 ((-1)) (nI j) (246 + j) (AT_l (by omega)) (hW1 _ (by omega)) hld hold) (va_cwS 3 hts gL_isEdited_L_length rfl rfl rfl (by decide +kernel) ⟨(Nat.le_of_ble_eq_true rfl), (Nat.le_of_ble_eq_true rfl)⟩) ⟨XPx_blind, XPx_pre hE hT hPc⟩ rfl rfl hl.1 rfl (lv_room (Nat.le_of_ble_eq_true rfl)) dL_isEdited_80 ⟨by first | exact Nat.le_of_ble_eq_true rfl | (show _ + _ ≤ _; omega), by first | exact Nat.le_of_ble_eq_true rfl | (show _ + _ ≤ _; omega)⟩) ?_
      refine x_top (nI 0) (by rw [hG1j]) ?_
      refine lv_if_ne (tgt := 99) hx hb dL_isEdited_83 (by decide) (fun h => absurd h (by decide)) (fun _ => ?_)
      refine lv_aload_n hx hb dL_isEdited_86 rfl (lv_at hl 5 rfl) ?_
      refine lv_iconst (v := (-1)) hx hb dL_isEdited_87 (by decide) ?_
      refine lv_iload_n hx hb dL_isEdited_88 rfl (lv_at hl 7 rfl) ?_
      refine xcr (vx_runV (As := [.int ((-1)), .int (nI j)]) (rest := []) ⟨hx, hb, hml, hown, hts⟩ (c_X1_rightsAt l hst Ax x lv kp fL1 fK1 o ld b k FZ1 G1 hC1 ((-1)) (nI j) hld hold) (cwV 2 hts gL_isEdited_X1_rightsAt rfl rfl rfl (by decide +kernel) ⟨(Nat.le_of_ble_eq_true rfl), (Nat.le_of_ble_eq_true rfl)⟩) ⟨XPx_blind, va_recv hK hPc (ci := 1) (q0 := 0) rfl rfl, XPx_pre hE hT hPc⟩ rfl rfl hl.1 rfl (lv_room (Nat.le_of_ble_eq_true rfl)) dL_isEdited_89 ⟨by first | exact Nat.le_of_ble_eq_true rfl | (show _ + _ ≤ _; omega), by first | exact Nat.le_of_ble_eq_true rfl | (show _ + _ ≤ _; omega)⟩) (rq_no (AT_l (by omega))) (rq_r hld (AT_l (by omega))) ?_
      refine x_top (nI 0) (by rw [hG1j]) ?_
      refine lv_if_ne (tgt := 99) hx hb dL_isEdited_92 (by decide) (fun h => absurd h (by decide)) (fun _ => ?_)
      refine lv_iconst (v := nI 1) hx hb dL_isEdited_95 (by decide) ?_
      refine lv_goto (tgt := 100) hx hb dL_isEdited_96 (by decide) ?_
      refine lv_istore (lv' := [(9, .int (nI 1)), (8, .int ((if kk = 0 then -1 else num (G (246 + j)) (w % 12)))), (7, .int (nI ((G (246 + j)).2.2.1))), (6, .int (nI rr)), (5, .int (nI kk)), (0, .ref x), (1, .ref la), (2, .int (nI j)), (3, .int (nI hw)), (4, .int (nI w))]) hx hb dL_isEdited_100 hl (by decide) rfl (fun ls hl => ?_)
      refine lv_goto (tgt := 622) hx hb dL_isEdited_102 (by decide) ?_
      refine lv_iload hx hb dL_isEdited_622 (lv_at hl 0 rfl) ?_
      refine lv_if_eq (tgt := 640) hx hb dL_isEdited_624 (by decide) (fun h => absurd h (by decide)) (fun _ => ?_)
      refine lv_aload_n hx hb dL_isEdited_627 rfl (lv_at hl 5 rfl) ?_
      refine lv_aload_n hx hb dL_isEdited_628 rfl (lv_at hl 6 rfl) ?_
      refine lv_iload_n hx hb dL_isEdited_629 rfl (lv_at hl 7 rfl) ?_
      have hPo : va_P D vwCl ((la, .inl (cJ, 6, .inr (.inl fl))) :: (CW cT x lv kp fL1 fK1 o ld b k FZ1)) H := xP_sub (fun _ h => h) hP
      refine xc_si2 (va_runS (As := [.ref x, .ref la, .int (nI j)]) (rest := []) ⟨hx, hb, hml, hown, hts⟩ (c_L_isOnly l hst Ax x lv kp fL1 fK1 o ld b k FZ1 G1 hC1 la fl (nI j) (fun i hi hne => by have hij : i ≠ j := fun h => hne (by rw [h]); rw [upn hG1 (by omega), hL i hi]) hld hold) (va_cwS 3 hts gL_isEdited_L_isOnly rfl rfl rfl (by decide +kernel) ⟨(Nat.le_of_ble_eq_true rfl), (Nat.le_of_ble_eq_true rfl)⟩) ⟨XPx_blind, XPx_pre hE hT hPo⟩ rfl rfl hl.1 rfl (lv_room (Nat.le_of_ble_eq_true rfl)) dL_isEdited_630 ⟨by first | exact Nat.le_of_ble_eq_true rfl | (show _ + _ ≤ _; omega), by first | exact Nat.le_of_ble_eq_true rfl | (show _ + _ ≤ _; omega)⟩) ?_
      refine lv_if_eq (tgt := 640) hx hb dL_isEdited_633 (by decide) (fun h => absurd h (by decide)) (fun _ => ?_)
      refine lv_iconst (v := nI 1) hx hb dL_isEdited_636 (by decide) ?_
      refine lv_goto (tgt := 641) hx hb dL_isEdited_637 (by decide) ?_
      refine W.widen (k := 32) (n := 160) (Nat.le_of_ble_eq_true rfl) (Nat.le_of_ble_eq_true rfl) ?_
      exact W.zret hx hb hr (xnb _ (by omega)) (fun t9 ht9 hW9 => ⟨⟨_, _, rfl, ⟨rfl, hv1⟩, fL1, fK1, FZ1, by rw [ht9]; exact hP, hD, by rw [hU1]; exact hC1⟩, hS.F ht9⟩) hS.2.2 dL_isEdited_641
  · refine lv_if_ne (tgt := 33) hx hb dL_isEdited_26 (by decide) (fun c26 => ?_) (fun c26 => ?_)
    · have c26 : ¬ nI kk = nI 0 := c26
      have c26 : ¬ kk = 0 := fun h => c26 ((xeq (by omega) (by omega)).mpr h)
      refine lv_aload_n hx hb dL_isEdited_33 rfl (lv_at hl 3 rfl) ?_
      refine lv_iconst (v := (-1)) hx hb dL_isEdited_34 (by decide) ?_
      refine lv_iload_n hx hb dL_isEdited_35 rfl (lv_at hl 5 rfl) ?_
      refine lv_iload hx hb dL_isEdited_36 (lv_at hl 7 rfl) ?_
      refine lv_bipush (v := nI 12) hx hb dL_isEdited_38 (by decide) ?_
      refine lv_irem hx hb dL_isEdited_40 (by decide) ?_
      refine x_top (nI (w % 12)) (pk_rem (by omega) (by omega) (by omega)) ?_
      refine xcr (vx_runV (As := [.int ((-1)), .int (nI j), .int (nI (w % 12))]) (rest := []) ⟨hx, hb, hml, hown, hts⟩ (c_X1_numberAt l hst Ax x lv kp fL fK o ld b k FZ G hC ((-1)) (nI j) (nI (w % 12)) hld hold) (cwV 3 hts gL_isEdited_X1_numberAt rfl rfl rfl (by decide +kernel) ⟨(Nat.le_of_ble_eq_true rfl), (Nat.le_of_ble_eq_true rfl)⟩) ⟨XPx_blind, va_recv hK hPc (ci := 1) (q0 := 0) rfl rfl, XPx_pre hE hT hPc⟩ rfl rfl hl.1 rfl (lv_room (Nat.le_of_ble_eq_true rfl)) dL_isEdited_41 ⟨by first | exact Nat.le_of_ble_eq_true rfl | (show _ + _ ≤ _; omega), by first | exact Nat.le_of_ble_eq_true rfl | (show _ + _ ≤ _; omega)⟩) (rq_nn (AT_l (by omega)) (by omega)) (rq_n hld (AT_l (by omega)) (by omega)) ?_
      refine x_top ((if kk = 0 then -1 else num (G (246 + j)) (w % 12))) (by rw [if_neg c26]) ?_
      exact J
    · have c26 : nI kk = nI 0 := c26
      have c26 : kk = 0 := (xeq (by omega) (by omega)).mp c26
      refine lv_iconst (v := (-1)) hx hb dL_isEdited_29 (by decide) ?_
      refine lv_goto (tgt := 44) hx hb dL_isEdited_30 (by decide) ?_
      refine x_top ((if kk = 0 then -1 else num (G (246 + j)) (w % 12))) (by rw [if_pos c26]) ?_
      exact J
