/-! the law's start: the classes, the two objects, the long's row -/
theorem x_intArr {s : State} {args : Array Value} {ty : FieldType} (hty : ∀ C, ty ≠ .object C) (h : (Cond.arrayClass ty).before args s = true) : ∃ cA : ClassId, ArrOfT s cA ty ∧ va_RA s cA ty := by
  obtain ⟨cA, kA, comp, h1, h2, h3⟩ := Cond.arrayClass_spec (show (Cond.arrayClass ty).holds args s none s [] = true from h)
  refine ⟨cA, fun n z => ⟨fun k h => (by cases h), kA, h2, comp, h3⟩, ?_⟩
  cases ty with
  | object C => exact absurd rfl (hty C)
  | _ => exact h1
theorem x_objArr {s : State} {args : Array Value} {C : String} (h : (Cond.arrayOver (.object C)).before args s = true) : ∃ cA : ClassId, ArrOfT s cA (.object C) ∧ va_RA s cA (.object C) := by
  obtain ⟨comp, cA, kA, h1, h2, h3, h4, h5⟩ := Cond.arrayOver_spec (show (Cond.arrayOver (.object C)).holds args s none s [] = true from h)
  exact ⟨cA, fun n z => ⟨fun k h => (by cases h), kA, h3, comp, h4⟩, kA, comp, h3, h4, h1, h5⟩
theorem x_K {s : State} {args : Array Value} (hts : ∀ w ∈ wsL_law, w.before args s = true) (hO : (Cond.arrayOver (.object "BackMirror$Thing")).before args s = true) : ∃ (D : va_G) (cI cT cJ : ClassId), va_K D vwCl (TY cI cT cJ) s := by
  obtain ⟨c0, i0, k0⟩ := u_known (C := RX0) (T := TX0) (N := 3) hts inlX0 (hts (.instantiable RX0 3) (by decide +kernel))
  obtain ⟨c1, i1, k1⟩ := u_known (C := RX1) (T := TX1) (N := 6) hts inlX1 (hts (.instantiable RX1 6) (by decide +kernel))
  obtain ⟨cI, hI⟩ := x_intArr (ty := .int) (fun C h => by cases h) (hts (.arrayClass .int) (by decide +kernel))
  obtain ⟨cJ, hJ⟩ := x_intArr (ty := .long) (fun C h => by cases h) (hts (.arrayClass .long) (by decide +kernel))
  obtain ⟨cT, hT⟩ := x_objArr hO
  refine ⟨(fun q => match q with | 0 => c0 | _ => c1, fun q => match q with | 0 => i0 | _ => i1), cI, cT, cJ, fun q r hq => ?_, fun q r hq => ?_⟩
  · match q, hq with
    | 0, hq => cases hq; exact k0
    | 1, hq => cases hq; exact k1
    | q + 2, hq => simp at hq
  · match q, hq with
    | 0, hq => cases hq; exact hI
    | 1, hq => cases hq; exact hT
    | 2, hq => cases hq; exact hJ
    | q + 3, hq => simp at hq
theorem x_str {s : State} {args : Array Value} {own tx : String} {k cur : Nat} (hcur : s.vm.findClass own = some cur) (h : (Cond.stringRef own k tx).before args s = true) : ∃ sa, vk_R own k tx sa s := by
  obtain ⟨-, -, -, a, -, -, -, -, -, h2⟩ := Cond.stringRef_spec hcur (show (Cond.stringRef own k tx).holds args s none s [] = true from h)
  have h3 : (Term.string own k).eval args s none [] s = some (.ref a) := h2
  exact ⟨a, vk_R.of h h3⟩
set_option maxRecDepth 100000 in
theorem x_strW : ∀ q ∈ XSTR, Cond.stringRef RX1 q.1 q.2 ∈ lw_tbl := by decide +kernel
set_option maxRecDepth 100000 in
theorem x_casW : ∀ X ∈ [nIO, nIS, nIA], Cond.castable X X ∈ lw_tbl := by decide +kernel
set_option maxRecDepth 100000 in
theorem x_decW : ∀ Y ∈ nUP2, Cond.declares (Bundle.initS Y) ∈ lw_tbl := by decide +kernel
set_option maxRecDepth 100000 in
theorem x_nstW : Cond.methodLinkNest RX0 20 yX1_isSameRow RX1 ∈ lw_tbl := by decide +kernel
set_option maxRecDepth 100000 in
theorem x_ovrW : Cond.arrayOver (.object "BackMirror$Thing") ∈ lw_tbl := by decide +kernel
set_option maxRecDepth 100000 in
theorem x_layW : Cond.laysStatic Bundle.tN "UNASSIGNED_STACK" Bundle.steD ∈ lw_tbl ∧ Cond.laysStatic Bundle.tN "SUPPRESSED_SENTINEL" Bundle.listD ∈ lw_tbl ∧ Cond.initialized Bundle.tN ∈ lw_tbl := by decide +kernel
set_option maxRecDepth 100000 in
theorem x_refW : Cond.isRef (.static Bundle.tN "UNASSIGNED_STACK" Bundle.steD) ∈ flatC (Jvm.Cond.and given_1 narrow_1) ∧ Cond.isRef (.static Bundle.tN "SUPPRESSED_SENTINEL" Bundle.listD) ∈ flatC (Jvm.Cond.and given_1 narrow_1) := by decide +kernel
set_option maxRecDepth 100000 in
theorem x_ncW : Cond.not (.castable nIS nIO) ∈ flatC (Jvm.Cond.and given_1 narrow_1) ∧ Cond.not (.castable nIA nIO) ∈ flatC (Jvm.Cond.and given_1 narrow_1) ∧ Cond.not (.castable nIA nIS) ∈ flatC (Jvm.Cond.and given_1 narrow_1) ∧ Cond.not (.castable nIS nIA) ∈ flatC (Jvm.Cond.and given_1 narrow_1) := by decide +kernel

theorem x_va_P_nil {D : va_G} {H : Heap} : va_P D vwCl [] H := fun k q h => by simp at h
theorem x_va_D_nil {A : Nat → Prop} : va_D A [] := ⟨fun i j p q h => by simp at h, fun k q h => by simp at h⟩
set_option maxHeartbeats 4000000 in
set_option maxRecDepth 100000 in
theorem law_begin {p : Program} {l : Launch} {e : Env} {s : State} {m : MethodId} {below : List Frame} {meth : Method} {c : Code} {D : va_G} {cI cT cJ : ClassId} {sb Ls : Nat} {xs : Nat → Int32} (hr : meth.sig.returnType = ret) (hlocks : meth.locks = false) (hX0 : LCX p l s m c D cI cT cJ (fun q : Nat => s.heap.size ≤ q) sb Ls xs) : W p l e room_1 s m #[Value.ref sb] below meth c s.heap [] 0 0 (lw_Z below #[Value.ref sb] s) (entryFrame m ([Value.ref sb] : List Value).toArray 14) := by
  have hX1 := hX0
  obtain ⟨hx, hb, hml, hown, hts, hX, hbl, hL9, hst, hE, hT0, hN, hA, hbA⟩ := hX1
  have hK := hE.1
  generalize hAe : (fun q : Nat => s.heap.size ≤ q) = A at hX0 hT0 hA hbA
  have hAq : ∀ q, A q → s.heap.size ≤ q := fun q h => by rw [← hAe] at h; exact h
  have hAx : ∀ q, A q → A q := fun _ h => h
  have hS : va_S A s.heap s.heap [] := va_S.rf
  have hP : va_P D vwCl [] s.heap := x_va_P_nil
  have hD : va_D A [] := x_va_D_nil
  have hl := lv_entry ([.ref sb]) (n := 14) (Nat.le_of_ble_eq_true rfl)
  rw [lg_entry_eq]
  generalize (lg_sl ([.ref sb]) ++ List.replicate (14 - (lg_sl ([.ref sb])).length) Slot.unset).toArray = ls at hl ⊢
  have hl : lv_has ls 14 [(0, .ref sb)] := hl
  refine va_new (ci := 1) (fs := [.null, .null, .int 0, .int 0, .int 0, .int 0]) (C := RX1) (T := TX1) (N := 6) hx hb hts inlX1 tyX1 tyX1_ok hown (hts (.classLink RL 10 RX1) (by decide +kernel)) (hts (.instantiable RX1 6) (by decide +kernel)) (hts (.initialized RX1) (by decide +kernel)) hK hP hD hS hA rfl (by intro j hj; match j, hj with | 0, _ => rfl | 1, _ => rfl | 2, _ => rfl | 3, _ => rfl | 4, _ => rfl | 5, _ => rfl) (Nat.le_of_ble_eq_true rfl) (Nat.le_of_ble_eq_true rfl) dL_law_0 (fun x H hP hD hS => ?_)
  have hP : va_P D vwCl [(x, .inr (1, [.null, .null, .int 0, .int 0, .int 0, .int 0]))] H := hP
  have hD : va_D A [(x, .inr (1, [.null, .null, .int 0, .int 0, .int 0, .int 0]))] := hD
  refine lv_dup hx hb dL_law_3 rfl ?_
  have hFc := xfree (wc := [(x, .inr (1, [.null, .null, .int 0, .int 0, .int 0, .int 0]))]) hD hS hA (fun _ h => h)
  refine va_callv (va_runI (As := []) (rest := [.ref x]) ⟨hx, hb, hml, hown, hts⟩ (c_X1_init l x H.size) (cwI 0 hts gL_law_X1_init rfl rfl rfl (hts (.initialized RX1) (by decide +kernel)) (hts (.methodLink RL 119 yX1_init) (by decide +kernel)) (hts (.instanceMethod yX1_init) (by decide +kernel)) rfl (by decide +kernel) ⟨(Nat.le_of_ble_eq_true rfl), (Nat.le_of_ble_eq_true rfl)⟩) ⟨XP_blind, XP_pre hE ⟨rfl, hP, hD.weaken (fun _ _ _ _ => trivial)⟩⟩ rfl rfl hl.1 rfl (lv_room (Nat.le_of_ble_eq_true rfl)) dL_law_4 ⟨Nat.le_of_ble_eq_true rfl, Nat.le_of_ble_eq_true rfl⟩) hS (fun q9 _ h => hFc q9 h) hFc (fun u t9 H1 locs ht9 hvm9 hw9 hB9 hzc hkc hS => ?_)
  obtain ⟨lv, kp⟩ := u
  obtain ⟨fL, fK, FZ, hP1, hD1, hC⟩ := hB9
  rw [ht9] at hP1
  obtain ⟨hP, hD⟩ := xjoin (wr := []) (wc := [(x, .inr (1, [.null, .null, .int 0, .int 0, .int 0, .int 0]))]) hP hD hkc hFc hP1 hD1
  generalize H1 = H at hP hS ⊢
  have hP : va_P D vwCl (CW cT x lv kp fL fK 0 0 0 0 FZ) H := hP
  have hD : va_D A (CW cT x lv kp fL fK 0 0 0 0 FZ) := hD
  have hC : CA cI FZ fL fK G0 := hC
  refine lv_astore_n (lv' := [(1, .ref x), (0, .ref sb)]) hx hb dL_law_7 rfl hl (by decide) rfl (fun ls hl => ?_)
  refine lv_bipush (v := nI 60) hx hb dL_law_8 (by decide) ?_
  refine va_newa (atype := .long) (a0 := (60, .inr (.inl (fun _ => 0)))) hx hb (hts (.arrayClass .long) (by decide +kernel)) rfl hK hP hD hS hA (fun _ => rfl) (xlt0 (by omega)) (nI_clamp (by omega)) (Nat.le_of_ble_eq_true rfl) (Nat.le_of_ble_eq_true rfl) (Nat.le_of_ble_eq_true rfl) dL_law_10 (fun ta cA9 H hK9 hP hD hS => ?_)
  have hc9 := xcI hK9 hK 3 2 rfl rfl
  rw [hc9] at hP hD
  clear hK9 hc9
  refine lv_astore_n (lv' := [(2, .ref ta), (1, .ref x), (0, .ref sb)]) hx hb dL_law_12 rfl hl (by decide) rfl (fun ls hl => ?_)
  refine lv_bipush (v := nI 6) hx hb dL_law_13 (by decide) ?_
  refine va_newa (atype := .long) (a0 := (6, .inr (.inl (fun _ => 0)))) hx hb (hts (.arrayClass .long) (by decide +kernel)) rfl hK hP hD hS hA (fun _ => rfl) (xlt0 (by omega)) (nI_clamp (by omega)) (Nat.le_of_ble_eq_true rfl) (Nat.le_of_ble_eq_true rfl) (Nat.le_of_ble_eq_true rfl) dL_law_15 (fun la cA9 H hK9 hP hD hS => ?_)
  have hc9 := xcI hK9 hK 3 2 rfl rfl
  rw [hc9] at hP hD
  clear hK9 hc9
  refine lv_astore_n (lv' := [(3, .ref la), (2, .ref ta), (1, .ref x), (0, .ref sb)]) hx hb dL_law_17 rfl hl (by decide) rfl (fun ls hl => ?_)
  refine lv_iconst (v := nI 3) hx hb dL_law_18 (by decide) ?_
  refine va_newa (atype := .int) (a0 := (3, .inl (fun _ => 0))) hx hb (hts (.arrayClass .int) (by decide +kernel)) rfl hK hP hD hS hA (fun _ => rfl) (xlt0 (by omega)) (nI_clamp (by omega)) (Nat.le_of_ble_eq_true rfl) (Nat.le_of_ble_eq_true rfl) (Nat.le_of_ble_eq_true rfl) dL_law_19 (fun ma cA9 H hK9 hP hD hS => ?_)
  have hc9 := xcI hK9 hK 3 0 rfl rfl
  rw [hc9] at hP hD
  clear hK9 hc9
  refine lv_astore (lv' := [(4, .ref ma), (3, .ref la), (2, .ref ta), (1, .ref x), (0, .ref sb)]) hx hb dL_law_21 hl (by decide) rfl (fun ls hl => ?_)
  have hP := xP_perm (pm_w (CW cT x lv kp fL fK 0 0 0 0 FZ) _ _ _) hP
  have hD := xD_perm (pm_w (CW cT x lv kp fL fK 0 0 0 0 FZ) _ _ _) hD
  have hld : 0 ≤ 40 := by decide
  have hold : 0 ≤ 0 := Nat.le_refl 0
  have hbb : 0 ≤ 1 := by decide
  have hl9 : 0 ≤ 0 + 9 := by decide
  have hWG := WFG.g0
  have hm0 : upd (fun _ => 0) 2 (-1) 0 = nI 0 := pk_un (by decide)
  have hm1 : upd (fun _ => 0) 2 (-1) 1 = nI 0 := pk_un (by decide)
  have hP : va_P D vwCl ((ta, .inl (cJ, 60, .inr (.inl (fun _ => 0)))) :: (la, .inl (cJ, 6, .inr (.inl (fun _ => 0)))) :: (ma, .inl (cI, 3, .inl (fun _ => 0))) :: (x, .inr (1, [.ref lv, .ref kp, .int (nI 0), .int (nI 0), .int (nI 0), .int (nI 0)])) :: (lv, .inl (cT, 6, .inr (.inr (.inr (.inr fL))))) :: (kp, .inl (cT, 246, .inr (.inr (.inr (.inr fK))))) :: FZ) H := hP
  have hD : va_D A ((ta, .inl (cJ, 60, .inr (.inl (fun _ => 0)))) :: (la, .inl (cJ, 6, .inr (.inl (fun _ => 0)))) :: (ma, .inl (cI, 3, .inl (fun _ => 0))) :: (x, .inr (1, [.ref lv, .ref kp, .int (nI 0), .int (nI 0), .int (nI 0), .int (nI 0)])) :: (lv, .inl (cT, 6, .inr (.inr (.inr (.inr fL))))) :: (kp, .inl (cT, 246, .inr (.inr (.inr (.inr fK))))) :: FZ) := hD
  have hT := hT0.kept (fun a h1 h2 => hS.2.1 a h1 (fun z => h2 (hAx a z)))
  have hPc : va_P D vwCl (CW cT x lv kp fL fK 0 0 0 0 FZ) H := xP_sub (fun _ h => m3c h) hP
  refine lv_aload hx hb dL_law_23 (lv_at hl 0 rfl) ?_
  refine lv_iconst (v := nI 2) hx hb dL_law_25 (by decide) ?_
  refine lv_iconst (v := (-1)) hx hb dL_law_26 (by decide) ?_
  refine va_iast hx hb hK hP hD hS 2 0 rfl rfl (xin (by omega) (by omega)) dL_law_27 (fun H locs hP hD hS => ?_)
  rw [nI_clamp (show 2 < 2 ^ 31 by omega)] at hP hD
  have hP : va_P D vwCl ((ta, .inl (cJ, 60, .inr (.inl (fun _ => 0)))) :: (la, .inl (cJ, 6, .inr (.inl (fun _ => 0)))) :: (ma, .inl (cI, 3, .inl (upd (fun _ => 0) 2 ((-1))))) :: (x, .inr (1, [.ref lv, .ref kp, .int (nI 0), .int (nI 0), .int (nI 0), .int (nI 0)])) :: (lv, .inl (cT, 6, .inr (.inr (.inr (.inr fL))))) :: (kp, .inl (cT, 246, .inr (.inr (.inr (.inr fK))))) :: FZ) H := hP
  have hD : va_D A ((ta, .inl (cJ, 60, .inr (.inl (fun _ => 0)))) :: (la, .inl (cJ, 6, .inr (.inl (fun _ => 0)))) :: (ma, .inl (cI, 3, .inl (upd (fun _ => 0) 2 ((-1))))) :: (x, .inr (1, [.ref lv, .ref kp, .int (nI 0), .int (nI 0), .int (nI 0), .int (nI 0)])) :: (lv, .inl (cT, 6, .inr (.inr (.inr (.inr fL))))) :: (kp, .inl (cT, 246, .inr (.inr (.inr (.inr fK))))) :: FZ) := hD
  have hT := hT0.kept (fun a h1 h2 => hS.2.1 a h1 (fun z => h2 (hAx a z)))
  have hPc : va_P D vwCl (CW cT x lv kp fL fK 0 0 0 0 FZ) H := xP_sub (fun _ h => m3c h) hP
  refine lv_aload_n hx hb dL_law_28 rfl (lv_at hl 3 rfl) ?_
  refine lv_aload_n hx hb dL_law_29 rfl (lv_at hl 1 rfl) ?_
  have hP := xP_perm pm_t hP
  have hD := xD_perm pm_t hD
  have hP : va_P D vwCl ([(ta, .inl (cJ, 60, .inr (.inl (fun _ => 0)))), (ma, .inl (cI, 3, .inl (upd (fun _ => 0) 2 ((-1)))))] ++ ((la, .inl (cJ, 6, .inr (.inl (fun _ => 0)))) :: (CW cT x lv kp fL fK 0 0 0 0 FZ))) H := hP
  have hD : va_D A ([(ta, .inl (cJ, 60, .inr (.inl (fun _ => 0)))), (ma, .inl (cI, 3, .inl (upd (fun _ => 0) 2 ((-1)))))] ++ ((la, .inl (cJ, 6, .inr (.inl (fun _ => 0)))) :: (CW cT x lv kp fL fK 0 0 0 0 FZ))) := hD
  have hPw : va_P D vwCl ((la, .inl (cJ, 6, .inr (.inl (fun _ => 0)))) :: (CW cT x lv kp fL fK 0 0 0 0 FZ)) H := xP_sub (fun _ h => List.mem_append_right _ h) hP
  have hDw : va_D (fun _ => True) ((la, .inl (cJ, 6, .inr (.inl (fun _ => 0)))) :: (CW cT x lv kp fL fK 0 0 0 0 FZ)) := (xD_sub (List.sublist_append_right _ _) hD).weaken (fun _ _ _ _ => trivial)
  have hFc := xfree (wc := ((la, .inl (cJ, 6, .inr (.inl (fun _ => 0)))) :: (CW cT x lv kp fL fK 0 0 0 0 FZ))) hD hS hA (fun _ h => List.mem_append_right _ h)
  refine va_callv (va_runS (As := [.ref x, .ref la]) (rest := []) ⟨hx, hb, hml, hown, hts⟩ (c_L_takes l hst A x lv kp fL fK 0 0 0 0 FZ G0 hC la (fun _ => 0) hld hold H.size) (va_cwS 2 hts gL_law_L_takes rfl rfl rfl (by decide +kernel) ⟨(Nat.le_of_ble_eq_true rfl), (Nat.le_of_ble_eq_true rfl)⟩) ⟨XPx_blind, XPx_pre hE hT ⟨rfl, hPw, hDw, hFc⟩⟩ rfl rfl hl.1 rfl (lv_room (Nat.le_of_ble_eq_true rfl)) dL_law_30 ⟨by show (_ : Nat) ≤ 864847; omega, by show (_ : Nat) ≤ 6506927; omega⟩) hS (fun q9 _ h => hFc q9 h) hFc (fun fl t9 H1 locs ht9 hvm9 hL hB9 hzc hkc hS => ?_)
  obtain ⟨hP1, hD1⟩ := hB9
  rw [ht9] at hP1
  have hP1 : va_P D vwCl ((la, .inl (cJ, 6, .inr (.inl fl))) :: (CW cT x lv kp fL fK 0 0 0 0 FZ)) H1 := hP1
  have hD1 : va_D (va_A ((la, .inl (cJ, 6, .inr (.inl (fun _ => 0)))) :: (CW cT x lv kp fL fK 0 0 0 0 FZ)) H.size) ((la, .inl (cJ, 6, .inr (.inl fl))) :: (CW cT x lv kp fL fK 0 0 0 0 FZ)) := hD1
  obtain ⟨hP, hD⟩ := xjoin (wr := [(ta, .inl (cJ, 60, .inr (.inl (fun _ => 0)))), (ma, .inl (cI, 3, .inl (upd (fun _ => 0) 2 ((-1)))))]) (wc := ((la, .inl (cJ, 6, .inr (.inl (fun _ => 0)))) :: (CW cT x lv kp fL fK 0 0 0 0 FZ))) (w1 := ((la, .inl (cJ, 6, .inr (.inl fl))) :: (CW cT x lv kp fL fK 0 0 0 0 FZ))) hP hD hkc hFc hP1 hD1
  have hP := xP_perm pm_t.symm hP
  have hD := xD_perm pm_t.symm hD
  clear hP1 hD1 hzc hkc hFc hvm9 ht9
  generalize H1 = H at hP hS ⊢
  have hP : va_P D vwCl ((ta, .inl (cJ, 60, .inr (.inl (fun _ => 0)))) :: (la, .inl (cJ, 6, .inr (.inl fl))) :: (ma, .inl (cI, 3, .inl (upd (fun _ => 0) 2 ((-1))))) :: (x, .inr (1, [.ref lv, .ref kp, .int (nI 0), .int (nI 0), .int (nI 0), .int (nI 0)])) :: (lv, .inl (cT, 6, .inr (.inr (.inr (.inr fL))))) :: (kp, .inl (cT, 246, .inr (.inr (.inr (.inr fK))))) :: FZ) H := hP
  have hD : va_D A ((ta, .inl (cJ, 60, .inr (.inl (fun _ => 0)))) :: (la, .inl (cJ, 6, .inr (.inl fl))) :: (ma, .inl (cI, 3, .inl (upd (fun _ => 0) 2 ((-1))))) :: (x, .inr (1, [.ref lv, .ref kp, .int (nI 0), .int (nI 0), .int (nI 0), .int (nI 0)])) :: (lv, .inl (cT, 6, .inr (.inr (.inr (.inr fL))))) :: (kp, .inl (cT, 246, .inr (.inr (.inr (.inr fK))))) :: FZ) := hD
  have hT := hT0.kept (fun a h1 h2 => hS.2.1 a h1 (fun z => h2 (hAx a z)))
  have hPc : va_P D vwCl (CW cT x lv kp fL fK 0 0 0 0 FZ) H := xP_sub (fun _ h => m3c h) hP
  refine lv_iconst (v := nI 0) hx hb dL_law_33 (by decide) ?_
  refine lv_istore (lv' := [(5, .int (nI 0)), (4, .ref ma), (3, .ref la), (2, .ref ta), (1, .ref x), (0, .ref sb)]) hx hb dL_law_34 hl (by decide) rfl (fun ls hl => ?_)
  refine x_loop (fun n H locs ls => ∃ (i9 : Nat) (ft2 : Nat → Int64), (i9 ≤ 6) ∧ (6 < i9 + n) ∧ (∀ q, q < i9 → ft2 q = tlL (G0 (246 + q)) 12) ∧ va_P D vwCl ((ta, .inl (cJ, 60, .inr (.inl ft2))) :: (la, .inl (cJ, 6, .inr (.inl fl))) :: (ma, .inl (cI, 3, .inl (upd (fun _ => 0) 2 ((-1))))) :: (x, .inr (1, [.ref lv, .ref kp, .int (nI 0), .int (nI 0), .int (nI 0), .int (nI 0)])) :: (lv, .inl (cT, 6, .inr (.inr (.inr (.inr fL))))) :: (kp, .inl (cT, 246, .inr (.inr (.inr (.inr fK))))) :: FZ) H ∧ va_D A ((ta, .inl (cJ, 60, .inr (.inl ft2))) :: (la, .inl (cJ, 6, .inr (.inl fl))) :: (ma, .inl (cI, 3, .inl (upd (fun _ => 0) 2 ((-1))))) :: (x, .inr (1, [.ref lv, .ref kp, .int (nI 0), .int (nI 0), .int (nI 0), .int (nI 0)])) :: (lv, .inl (cT, 6, .inr (.inr (.inr (.inr fL))))) :: (kp, .inl (cT, 246, .inr (.inr (.inr (.inr fK))))) :: FZ) ∧ va_S A s.heap H locs ∧ lv_has ls 14 [(5, .int (nI i9)), (4, .ref ma), (3, .ref la), (2, .ref ta), (1, .ref x), (0, .ref sb)]) (7) ⟨0, fun _ => 0, by omega, by omega, fun q hq => absurd hq (Nat.not_lt_zero q), hP, hD, hS, lv_sub hl [0, 1, 2, 3, 4, 5] rfl⟩ (fun H locs ls h => by obtain ⟨i9, ft2, hi9, hn9, h1, -⟩ := h; omega) (fun n H locs ls h ih => ?_)
  obtain ⟨i9, ft2, hi9, hn9, h1, hP, hD, hS, hl⟩ := h
  have hT := hT0.kept (fun a h1 h2 => hS.2.1 a h1 (fun z => h2 (hAx a z)))
  have hPc : va_P D vwCl (CW cT x lv kp fL fK 0 0 0 0 FZ) H := xP_sub (fun _ h => m3c h) hP
  refine lv_iload hx hb dL_law_36 (lv_at hl 0 rfl) ?_
  refine lv_bipush (v := nI 6) hx hb dL_law_38 (by decide) ?_
  refine lv_icmp_ge (tgt := 57) hx hb dL_law_40 (by decide) (fun c40 => ?_) (fun c40 => ?_)
  · have c40 : 6 ≤ i9 := (xle (by omega) (by omega)).mp c40
    refine lv_aload_n hx hb dL_law_57 rfl (lv_at hl 4 rfl) ?_
    refine lv_aload hx hb dL_law_58 (lv_at hl 1 rfl) ?_
    refine lv_iconst (v := nI 0) hx hb dL_law_60 (by decide) ?_
    have hPr : va_P D vwCl ((ma, .inl (cI, 3, .inl (upd (fun _ => 0) 2 ((-1))))) :: (CW cT x lv kp fL fK 0 0 0 0 FZ)) H := xP_sub (fun _ h => List.mem_cons_of_mem _ (List.mem_cons_of_mem _ h)) hP
    have hDr : va_D (fun _ => True) ((ma, .inl (cI, 3, .inl (upd (fun _ => 0) 2 ((-1))))) :: (CW cT x lv kp fL fK 0 0 0 0 FZ)) := (xD_sub ((List.Sublist.refl _).cons _ |>.cons _) hD).weaken (fun _ _ _ _ => trivial)
    refine xcrv (va_runS (As := [.ref x, .ref ma, .int (nI 0)]) (rest := []) ⟨hx, hb, hml, hown, hts⟩ (c_L_isRefused l hst A x lv kp fL fK 0 0 0 0 FZ G0 hC ma 0 (upd (fun _ => 0) 2 ((-1))) (by omega) hWG hm0 hm1 hbb hl9 hld hold) (va_cwS 3 hts gL_law_L_isRefused rfl rfl rfl (by decide +kernel) ⟨(Nat.le_of_ble_eq_true rfl), (Nat.le_of_ble_eq_true rfl)⟩) ⟨XPl_blind, XPl_pre hE hT hN ⟨hPr, hDr⟩⟩ rfl rfl hl.1 rfl (lv_room (Nat.le_of_ble_eq_true rfl)) dL_law_61 ⟨by show (_ : Nat) ≤ 864847; omega, by show (_ : Nat) ≤ 6506927; omega⟩) (fun r9 H1 hr9 hz9 hk9 => ?_)
    subst hr9
    have hP := xkept hP hk9
    have hS := xS_kept hS hz9 hk9
    clear hz9 hk9 hPr
    generalize H1 = H at hP hS ⊢
    have hP : va_P D vwCl ((ta, .inl (cJ, 60, .inr (.inl ft2))) :: (la, .inl (cJ, 6, .inr (.inl fl))) :: (ma, .inl (cI, 3, .inl (upd (fun _ => 0) 2 ((-1))))) :: (x, .inr (1, [.ref lv, .ref kp, .int (nI 0), .int (nI 0), .int (nI 0), .int (nI 0)])) :: (lv, .inl (cT, 6, .inr (.inr (.inr (.inr fL))))) :: (kp, .inl (cT, 246, .inr (.inr (.inr (.inr fK))))) :: FZ) H := hP
    have hD : va_D A ((ta, .inl (cJ, 60, .inr (.inl ft2))) :: (la, .inl (cJ, 6, .inr (.inl fl))) :: (ma, .inl (cI, 3, .inl (upd (fun _ => 0) 2 ((-1))))) :: (x, .inr (1, [.ref lv, .ref kp, .int (nI 0), .int (nI 0), .int (nI 0), .int (nI 0)])) :: (lv, .inl (cT, 6, .inr (.inr (.inr (.inr fL))))) :: (kp, .inl (cT, 246, .inr (.inr (.inr (.inr fK))))) :: FZ) := hD
    have hT := hT0.kept (fun a h1 h2 => hS.2.1 a h1 (fun z => h2 (hAx a z)))
    have hPc : va_P D vwCl (CW cT x lv kp fL fK 0 0 0 0 FZ) H := xP_sub (fun _ h => m3c h) hP
    refine lv_if_eq (tgt := 88) hx hb dL_law_64 (by decide) (fun h => absurd h (by decide)) (fun _ => ?_)
    refine lv_aload_n hx hb dL_law_67 rfl (lv_at hl 4 rfl) ?_
    refine lv_aload hx hb dL_law_68 (lv_at hl 1 rfl) ?_
    refine lv_iconst (v := nI 1) hx hb dL_law_70 (by decide) ?_
    have hPr : va_P D vwCl ((ma, .inl (cI, 3, .inl (upd (fun _ => 0) 2 ((-1))))) :: (CW cT x lv kp fL fK 0 0 0 0 FZ)) H := xP_sub (fun _ h => List.mem_cons_of_mem _ (List.mem_cons_of_mem _ h)) hP
    have hDr : va_D (fun _ => True) ((ma, .inl (cI, 3, .inl (upd (fun _ => 0) 2 ((-1))))) :: (CW cT x lv kp fL fK 0 0 0 0 FZ)) := (xD_sub ((List.Sublist.refl _).cons _ |>.cons _) hD).weaken (fun _ _ _ _ => trivial)
    refine xcrv (va_runS (As := [.ref x, .ref ma, .int (nI 1)]) (rest := []) ⟨hx, hb, hml, hown, hts⟩ (c_L_isRefused l hst A x lv kp fL fK 0 0 0 0 FZ G0 hC ma 1 (upd (fun _ => 0) 2 ((-1))) (by omega) hWG hm0 hm1 hbb hl9 hld hold) (va_cwS 3 hts gL_law_L_isRefused rfl rfl rfl (by decide +kernel) ⟨(Nat.le_of_ble_eq_true rfl), (Nat.le_of_ble_eq_true rfl)⟩) ⟨XPl_blind, XPl_pre hE hT hN ⟨hPr, hDr⟩⟩ rfl rfl hl.1 rfl (lv_room (Nat.le_of_ble_eq_true rfl)) dL_law_71 ⟨by show (_ : Nat) ≤ 864847; omega, by show (_ : Nat) ≤ 6506927; omega⟩) (fun r9 H1 hr9 hz9 hk9 => ?_)
    subst hr9
    have hP := xkept hP hk9
    have hS := xS_kept hS hz9 hk9
    clear hz9 hk9 hPr
    generalize H1 = H at hP hS ⊢
    have hP : va_P D vwCl ((ta, .inl (cJ, 60, .inr (.inl ft2))) :: (la, .inl (cJ, 6, .inr (.inl fl))) :: (ma, .inl (cI, 3, .inl (upd (fun _ => 0) 2 ((-1))))) :: (x, .inr (1, [.ref lv, .ref kp, .int (nI 0), .int (nI 0), .int (nI 0), .int (nI 0)])) :: (lv, .inl (cT, 6, .inr (.inr (.inr (.inr fL))))) :: (kp, .inl (cT, 246, .inr (.inr (.inr (.inr fK))))) :: FZ) H := hP
    have hD : va_D A ((ta, .inl (cJ, 60, .inr (.inl ft2))) :: (la, .inl (cJ, 6, .inr (.inl fl))) :: (ma, .inl (cI, 3, .inl (upd (fun _ => 0) 2 ((-1))))) :: (x, .inr (1, [.ref lv, .ref kp, .int (nI 0), .int (nI 0), .int (nI 0), .int (nI 0)])) :: (lv, .inl (cT, 6, .inr (.inr (.inr (.inr fL))))) :: (kp, .inl (cT, 246, .inr (.inr (.inr (.inr fK))))) :: FZ) := hD
    have hT := hT0.kept (fun a h1 h2 => hS.2.1 a h1 (fun z => h2 (hAx a z)))
    have hPc : va_P D vwCl (CW cT x lv kp fL fK 0 0 0 0 FZ) H := xP_sub (fun _ h => m3c h) hP
    refine lv_if_eq (tgt := 88) hx hb dL_law_74 (by decide) (fun h => absurd h (by decide)) (fun _ => ?_)
    refine lv_aload_n hx hb dL_law_77 rfl (lv_at hl 4 rfl) ?_
    have hP : va_P D vwCl ([(ta, .inl (cJ, 60, .inr (.inl ft2))), (la, .inl (cJ, 6, .inr (.inl fl))), (ma, .inl (cI, 3, .inl (upd (fun _ => 0) 2 ((-1)))))] ++ (CW cT x lv kp fL fK 0 0 0 0 FZ)) H := hP
    have hD : va_D A ([(ta, .inl (cJ, 60, .inr (.inl ft2))), (la, .inl (cJ, 6, .inr (.inl fl))), (ma, .inl (cI, 3, .inl (upd (fun _ => 0) 2 ((-1)))))] ++ (CW cT x lv kp fL fK 0 0 0 0 FZ)) := hD
    have hPw : va_P D vwCl (CW cT x lv kp fL fK 0 0 0 0 FZ) H := xP_sub (fun _ h => List.mem_append_right _ h) hP
    have hDw : va_D (fun _ => True) (CW cT x lv kp fL fK 0 0 0 0 FZ) := (xD_sub (List.sublist_append_right _ _) hD).weaken (fun _ _ _ _ => trivial)
    have hFc := xfree (wc := (CW cT x lv kp fL fK 0 0 0 0 FZ)) hD hS hA (fun _ h => List.mem_append_right _ h)
    refine va_calli (va_runV (As := []) (rest := []) ⟨hx, hb, hml, hown, hts⟩ (c_X1_mend l x lv kp fL fK 0 0 0 0 FZ H.size) (cwV 0 hts gL_law_X1_mend rfl rfl rfl (by decide +kernel) ⟨(Nat.le_of_ble_eq_true rfl), (Nat.le_of_ble_eq_true rfl)⟩) ⟨XP_blind, va_recv hK hPw (ci := 1) (q0 := 0) rfl rfl, XP_pre hE ⟨rfl, hPw, hDw⟩⟩ rfl rfl hl.1 rfl (lv_room (Nat.le_of_ble_eq_true rfl)) dL_law_78 ⟨by show (_ : Nat) ≤ 864847; omega, by show (_ : Nat) ≤ 6506927; omega⟩) hS (fun q9 _ h => hFc q9 h) hFc (fun r9 u9 t9 H1 locs ht9 hvm9 hw9 hB9 hzc hkc hS => ?_)
    subst hw9
    obtain ⟨hP1, hD1⟩ := hB9
    rw [ht9] at hP1
    have hP1 : va_P D vwCl (CW cT x lv kp fL fK 0 0 0 0 FZ) H1 := hP1
    have hD1 : va_D (va_A (CW cT x lv kp fL fK 0 0 0 0 FZ) H.size) (CW cT x lv kp fL fK 0 0 0 0 FZ) := hD1
    obtain ⟨hP, hD⟩ := xjoin (wr := [(ta, .inl (cJ, 60, .inr (.inl ft2))), (la, .inl (cJ, 6, .inr (.inl fl))), (ma, .inl (cI, 3, .inl (upd (fun _ => 0) 2 ((-1)))))]) (wc := (CW cT x lv kp fL fK 0 0 0 0 FZ)) (w1 := (CW cT x lv kp fL fK 0 0 0 0 FZ)) hP hD hkc hFc hP1 hD1
    clear hP1 hD1 hzc hkc hFc hvm9 ht9
    generalize H1 = H at hP hS ⊢
    have hP : va_P D vwCl ((ta, .inl (cJ, 60, .inr (.inl ft2))) :: (la, .inl (cJ, 6, .inr (.inl fl))) :: (ma, .inl (cI, 3, .inl (upd (fun _ => 0) 2 ((-1))))) :: (x, .inr (1, [.ref lv, .ref kp, .int (nI 0), .int (nI 0), .int (nI 0), .int (nI 0)])) :: (lv, .inl (cT, 6, .inr (.inr (.inr (.inr fL))))) :: (kp, .inl (cT, 246, .inr (.inr (.inr (.inr fK))))) :: FZ) H := hP
    have hD : va_D A ((ta, .inl (cJ, 60, .inr (.inl ft2))) :: (la, .inl (cJ, 6, .inr (.inl fl))) :: (ma, .inl (cI, 3, .inl (upd (fun _ => 0) 2 ((-1))))) :: (x, .inr (1, [.ref lv, .ref kp, .int (nI 0), .int (nI 0), .int (nI 0), .int (nI 0)])) :: (lv, .inl (cT, 6, .inr (.inr (.inr (.inr fL))))) :: (kp, .inl (cT, 246, .inr (.inr (.inr (.inr fK))))) :: FZ) := hD
    have hT := hT0.kept (fun a h1 h2 => hS.2.1 a h1 (fun z => h2 (hAx a z)))
    have hPc : va_P D vwCl (CW cT x lv kp fL fK 0 0 0 0 FZ) H := xP_sub (fun _ h => m3c h) hP
    refine lv_if_ne (tgt := 88) hx hb dL_law_81 (by decide) (fun h => absurd h (by decide)) (fun _ => ?_)
    refine lv_iconst (v := nI 1) hx hb dL_law_84 (by decide) ?_
    refine lv_goto (tgt := 89) hx hb dL_law_85 (by decide) ?_
    refine lv_istore (lv' := [(5, .int (nI 1)), (4, .ref ma), (3, .ref la), (2, .ref ta), (1, .ref x), (0, .ref sb)]) hx hb dL_law_89 hl (by decide) rfl (fun ls hl => ?_)
    refine lv_iconst (v := nI 0) hx hb dL_law_91 (by decide) ?_
    refine lv_istore (lv' := [(6, .int (nI 0)), (5, .int (nI 1)), (4, .ref ma), (3, .ref la), (2, .ref ta), (1, .ref x), (0, .ref sb)]) hx hb dL_law_92 hl (by decide) rfl (fun ls hl => ?_)
    refine W.widen (k := 4000 + 700 * (91 - 91)) (n := 20000 + 4000 * (91 - 91)) (Nat.le_of_ble_eq_true rfl) (Nat.le_of_ble_eq_true rfl) ?_
    exact law_loop hr hlocks hX0 hAq (u0 := (G0, 0, 0, 0, 0)) ⟨ft2, fl, _, fL, fK, FZ, hP, hD, hC, INV.g0 (fun q hq => h1 q (by omega)), hS⟩ (lv_sub hl [0, 1, 6, 5, 4, 3, 2] rfl)
  · have c40 : ¬ 6 ≤ i9 := fun h => c40 ((xle (by omega) (by omega)).mpr h)
    refine lv_aload_n hx hb dL_law_43 rfl (lv_at hl 3 rfl) ?_
    refine lv_iload hx hb dL_law_44 (lv_at hl 0 rfl) ?_
    refine lv_aload_n hx hb dL_law_46 rfl (lv_at hl 2 rfl) ?_
    refine lv_iload hx hb dL_law_47 (lv_at hl 0 rfl) ?_
    refine va_lald hx hb hK hP 1 2 rfl rfl (xin (by omega) (by omega)) dL_law_49 ?_
    refine x_topl (tlL (G0 (246 + i9)) 12) (by rw [nI_clamp (by omega)]; exact hL i9 (by omega)) ?_
    refine va_last hx hb hK hP hD hS 0 2 rfl rfl (xin (by omega) (by omega)) dL_law_50 (fun H locs hP hD hS => ?_)
    rw [nI_clamp (show i9 < 2 ^ 31 by omega)] at hP hD
    have hP : va_P D vwCl ((ta, .inl (cJ, 60, .inr (.inl (vp_updL ft2 i9 (tlL (G0 (246 + i9)) 12))))) :: (la, .inl (cJ, 6, .inr (.inl fl))) :: (ma, .inl (cI, 3, .inl (upd (fun _ => 0) 2 ((-1))))) :: (x, .inr (1, [.ref lv, .ref kp, .int (nI 0), .int (nI 0), .int (nI 0), .int (nI 0)])) :: (lv, .inl (cT, 6, .inr (.inr (.inr (.inr fL))))) :: (kp, .inl (cT, 246, .inr (.inr (.inr (.inr fK))))) :: FZ) H := hP
    have hD : va_D A ((ta, .inl (cJ, 60, .inr (.inl (vp_updL ft2 i9 (tlL (G0 (246 + i9)) 12))))) :: (la, .inl (cJ, 6, .inr (.inl fl))) :: (ma, .inl (cI, 3, .inl (upd (fun _ => 0) 2 ((-1))))) :: (x, .inr (1, [.ref lv, .ref kp, .int (nI 0), .int (nI 0), .int (nI 0), .int (nI 0)])) :: (lv, .inl (cT, 6, .inr (.inr (.inr (.inr fL))))) :: (kp, .inl (cT, 246, .inr (.inr (.inr (.inr fK))))) :: FZ) := hD
    have hT := hT0.kept (fun a h1 h2 => hS.2.1 a h1 (fun z => h2 (hAx a z)))
    have hPc : va_P D vwCl (CW cT x lv kp fL fK 0 0 0 0 FZ) H := xP_sub (fun _ h => m3c h) hP
    refine lv_iinc (v := nI (i9 + 1)) (lv' := [(5, .int (nI (i9 + 1))), (4, .ref ma), (3, .ref la), (2, .ref ta), (1, .ref x), (0, .ref sb)]) hx hb dL_law_51 hl (k := 0) rfl (xinc _ 1 _ (by decide)) (by decide) rfl (fun ls hl => ?_)
    refine lv_goto (tgt := 36) hx hb dL_law_54 (by decide) ?_
    exact ih _ _ _ ⟨i9 + 1, _, by omega, by omega, takes_st h1, hP, hD, hS, lv_sub hl [0, 1, 2, 3, 4, 5] rfl⟩

set_option maxHeartbeats 4000000 in
set_option maxRecDepth 100000 in
/-- YOUR PART: from the entry, for every script of at most 260 ints, the law comes to its end with true ('hflags': the launch's flags, for a law that throws: no stack traces) -/
theorem whole_start {p : Program} {e : Env} {s : State} {m : MethodId} {below : List Frame} {meth : Method} {c : Code} (l : Launch) (hflags : l.flags = flags0) {b L : Nat} {xs : Nat → Int32} (hL : L ≤ 260) (C0 : lw_At p s m meth c b L xs) : W p l e room_1 s m #[Value.ref b] below meth c s.heap [] 0 0 (lw_Z below #[Value.ref b] s) (entryFrame m ([Value.ref b] : List Value).toArray 14) := by
  obtain ⟨hx, hb, hr, hml, hownL, htsT, hX, hbl, hlocks, hgv⟩ := C0
  have hown : s.vm.findClass RL = some m.cls := hownL
  have hts : ∀ w ∈ wsL_law, w.before #[Value.ref b] s = true := fun w h => htsT w (wsL_law_in w h)
  have hs := flat_of_before _ hgv
  have hst : l.stackTraces = false := by
    unfold Launch.stackTraces
    rw [hflags]
    decide
  obtain ⟨D, cI, cT, cJ, hK⟩ := x_K hts (htsT _ x_ovrW)
  have hE : XE D cI cT cJ s := ⟨hK, va_Nw.of rfl (htsT _ x_nstW), htsT _ x_ovrW⟩
  have hcur : s.vm.findClass RX1 = some (D.1 1) := (hK.1 1 _ rfl).2.1
  have hT0 : XT (fun q : Nat => s.heap.size ≤ q) s s.heap := ⟨fun q hq => x_str hcur (htsT _ (x_strW q hq)), fun X hX => va_Nw.of rfl (htsT _ (x_casW X hX)), fun Y hY => va_Nw.of rfl (htsT _ (x_decW Y hY)),
    vx_Zqof (htsT _ x_layW.1) (htsT _ x_layW.2.2) (hs _ x_refW.1) (fun a h1 h2 => absurd h1 (Nat.not_lt.mpr h2)), vx_Zqof (htsT _ x_layW.2.1) (htsT _ x_layW.2.2) (hs _ x_refW.2) (fun a h1 h2 => absurd h1 (Nat.not_lt.mpr h2))⟩
  have hN : XN s := ⟨va_Nc.of (hs _ x_ncW.1), va_Nc.of (hs _ x_ncW.2.1), va_Nc.of (hs _ x_ncW.2.2.1), va_Nc.of (hs _ x_ncW.2.2.2)⟩
  have hX0 : LCX p l s m c D cI cT cJ (fun q : Nat => s.heap.size ≤ q) b L xs := ⟨hx, hb, hml, hown, hts, hX, hbl, hL, hst, hE, hT0, hN, fun _ h => h, Nat.not_le.mpr hbl⟩
  exact law_begin hr hlocks hX0
