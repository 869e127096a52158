/-! the constructor -/
def G0 : Nat → Tv := fun _ => (nI 0, nI 0, 0, fun _ => 0)

theorem iw_X1init_X0 : ∀ w ∈ u_ws RX0 TX0 3, w ∈ wsX1_init := by decide +kernel
theorem iw_X1init_X1 : ∀ w ∈ u_ws RX1 TX1 6, w ∈ wsX1_init := by decide +kernel
set_option maxHeartbeats 4000000 in
set_option maxRecDepth 100000 in
theorem c_X1_init (l : Launch) {D : va_G} {cI cT cJ : ClassId} (x sz : Nat) : Met l yX1_init wsX1_init (rmD 4 8 300) (XP D cI cT cJ [.ref x] (fun H => H.size = sz ∧ va_P D vwCl [(x, .inr (1, [.null, .null, .int 0, .int 0, .int 0, .int 0]))] H ∧ va_D (fun _ => True) [(x, .inr (1, [.null, .null, .int 0, .int 0, .int 0, .int 0]))])) (va_Qv (S := Nat × Nat) (fun _ => True) (fun u t => CB D cI cT x u.1 u.2 (va_A [(x, .inr (1, [.null, .null, .int 0, .int 0, .int 0, .int 0]))] sz) (G0, 0, 0, 0, 0) t.heap) (va_A [(x, .inr (1, [.null, .null, .int 0, .int 0, .int 0, .int 0]))] sz)) 8 300 (va_A [(x, .inr (1, [.null, .null, .int 0, .int 0, .int 0, .int 0]))] sz) := by
  refine Met.ofW (cc := cX1_init) (maxL := 3) (ret := none) (by decide) rfl ?_
  intro p e s m args below meth c s₁ B hml hv
  obtain ⟨rfl, ⟨hsz, hP, hD0⟩, hE⟩ := hv
  have hx := B.exec
  have hb := B.bytes
  have hr := B.returns
  have hts := atoms_spec (ws := wsX1_init) B.pre
  have hown : s.vm.findClass RX1 = some m.cls := findClass_of_methodNamed B.named
  have hlocks := B.notSynchronized
  have hin : meth.name = "<init>" := (name_of_methodNamed B.named B.method).1
  have hl := lv_entry ([.ref x]) (n := 3) (Nat.le_of_ble_eq_true rfl)
  rw [lg_entry_eq]
  generalize (lg_sl ([.ref x]) ++ List.replicate (3 - (lg_sl ([.ref x])).length) Slot.unset).toArray = ls at hl ⊢
  have hl : lv_has ls 3 [(0, .ref x)] := hl
  have hK := hE.1
  subst hsz
  have hD := hD0.self (sz := s.heap.size)
  generalize hAe : va_A ([(x, .inr (1, [.null, .null, .int 0, .int 0, .int 0, .int 0]))]) s.heap.size = A at hD ⊢
  have hA : ∀ q : Nat, s.heap.size ≤ q → A q := fun q h => by rw [← hAe]; exact Or.inr h
  have hS : va_S A s.heap s.heap [] := va_S.rf
  refine lv_aload_n hx hb dX1_init_0 rfl (lv_at hl 0 rfl) ?_
  refine W.objInit hx hb hown (hts (.methodLink RX1 1 objectInit) (by decide +kernel)) (hts (.instanceMethod objectInit) (by decide +kernel)) (hts (.code objectInit ⟨#[0xb1]⟩ 1 none) (by decide +kernel)) rfl (by rw [hml]; exact hl.1) rfl dX1_init_1 (Nat.le_of_ble_eq_true rfl) (Nat.le_of_ble_eq_true rfl) ?_
  refine W.eq (g2 := F0 m 4 ls []) rfl ?_
  refine va_new (ci := 0) (fs := [.int 0, .int 0, .null]) (C := RX0) (T := TX0) (N := 3) hx hb hts iw_X1init_X0 tyX0 tyX0_ok hown (hts (.classLink RX1 7 RX0) (by decide +kernel)) (hts (.instantiable RX0 3) (by decide +kernel)) (hts (.initialized RX0) (by decide +kernel)) hK hP hD hS hA rfl (by intro j hj; match j, hj with | 0, _ => rfl | 1, _ => rfl | 2, _ => rfl) (by first | exact Nat.le_of_ble_eq_true rfl | (show _ ≤ 8; omega)) (by first | exact Nat.le_of_ble_eq_true rfl | (show _ ≤ 300; omega)) dX1_init_4 (fun q4 H hP hD hS => ?_)
  have hP : va_P D vwCl [(x, .inr (1, [.null, .null, .int 0, .int 0, .int 0, .int 0])), (q4, .inr (0, [.int 0, .int 0, .null]))] H := hP
  have hD : va_D A [(x, .inr (1, [.null, .null, .int 0, .int 0, .int 0, .int 0])), (q4, .inr (0, [.int 0, .int 0, .null]))] := hD
  refine lv_dup hx hb dX1_init_7 rfl ?_
  refine lv_iconst (v := nI 0) hx hb dX1_init_8 (by decide) ?_
  refine lv_iconst (v := nI 0) hx hb dX1_init_9 (by decide) ?_
  refine lv_iconst (v := nI 0) hx hb dX1_init_10 (by decide) ?_
  refine va_newa (atype := .int) (a0 := (0, .inl (fun _ => 0))) hx hb (hts (.arrayClass .int) (by decide +kernel)) rfl hK hP hD hS hA (fun _ => rfl) (xlt0 (by omega)) (nI_clamp (by omega)) (by show _ * 4 ≤ _; omega) (by first | exact Nat.le_of_ble_eq_true rfl | (show _ + _ ≤ 8; omega)) (by first | exact Nat.le_of_ble_eq_true rfl | (show _ + _ ≤ 300; omega)) dX1_init_11 (fun q11 cA9 H hK9 hP hD hS => ?_)
  have hc9 := xcI hK9 hK 3 0 rfl rfl
  rw [hc9] at hP hD
  clear hK9 hc9
  have hP : va_P D vwCl [(x, .inr (1, [.null, .null, .int 0, .int 0, .int 0, .int 0])), (q4, .inr (0, [.int 0, .int 0, .null])), (q11, .inl (cI, 0, .inl (fun _ => 0)))] H := hP
  have hD : va_D A [(x, .inr (1, [.null, .null, .int 0, .int 0, .int 0, .int 0])), (q4, .inr (0, [.int 0, .int 0, .null])), (q11, .inl (cI, 0, .inl (fun _ => 0)))] := hD
  have hP := xP_perm (List.Perm.cons _ (List.Perm.swap _ _ _)) hP
  have hD := xD_perm (List.Perm.cons _ (List.Perm.swap _ _ _)) hD
  have hP : va_P D vwCl ([(x, .inr (1, [.null, .null, .int 0, .int 0, .int 0, .int 0])), (q11, .inl (cI, 0, .inl (fun _ => 0)))] ++ [(q4, .inr (0, [.int 0, .int 0, .null]))]) H := hP
  have hD : va_D A ([(x, .inr (1, [.null, .null, .int 0, .int 0, .int 0, .int 0])), (q11, .inl (cI, 0, .inl (fun _ => 0)))] ++ [(q4, .inr (0, [.int 0, .int 0, .null]))]) := hD
  have hFc := xfree (wc := [(q4, .inr (0, [.int 0, .int 0, .null]))]) hD hS hA (fun _ h => List.mem_append_right _ h)
  have hPc := xP_sub (w2 := [(q4, .inr (0, [.int 0, .int 0, .null]))]) (fun _ h => List.mem_append_right _ h) hP
  have hDc : va_D (fun _ => True) [(q4, .inr (0, [.int 0, .int 0, .null]))] := (xD_sub (List.sublist_append_right _ _) hD).weaken (fun _ _ _ _ => trivial)
  refine va_callv (va_runI (As := [.int (nI 0), .int (nI 0), .ref q11]) (rest := [.ref q4]) ⟨hx, hb, hml, hown, hts⟩ (c_X0_init l q4 q11 H.size (nI 0) (nI 0)) (cwI 3 hts gX1_init_X0_init rfl rfl rfl (hts (.initialized RX0) (by decide +kernel)) (hts (.methodLink RX1 11 yX0_init) (by decide +kernel)) (hts (.instanceMethod yX0_init) (by decide +kernel)) rfl (by decide +kernel) ⟨(Nat.le_of_ble_eq_true rfl), (Nat.le_of_ble_eq_true rfl)⟩) ⟨XP_blind, XP_pre hE ⟨rfl, hPc, hDc⟩⟩ rfl rfl hl.1 rfl (lv_room (Nat.le_of_ble_eq_true rfl)) dX1_init_13 ⟨by first | exact Nat.le_of_ble_eq_true rfl | (show _ + _ ≤ _; omega), by first | exact Nat.le_of_ble_eq_true rfl | (show _ + _ ≤ _; omega)⟩) hS (fun q9 _ h => hFc q9 h) hFc (fun u t9 H1 locs ht9 hvm9 hw9 hB9 hzc hkc hS => ?_)
  obtain ⟨hP1, hD1⟩ := hB9
  rw [ht9] at hP1
  obtain ⟨hP, hD⟩ := xjoin (wr := [(x, .inr (1, [.null, .null, .int 0, .int 0, .int 0, .int 0])), (q11, .inl (cI, 0, .inl (fun _ => 0)))]) (wc := [(q4, .inr (0, [.int 0, .int 0, .null]))]) (w1 := [(q4, .inr (0, [.int (nI 0), .int (nI 0), .ref q11]))]) hP hD hkc hFc hP1 hD1
  generalize H1 = H at hP hS ⊢
  have hP : va_P D vwCl [(x, .inr (1, [.null, .null, .int 0, .int 0, .int 0, .int 0])), (q11, .inl (cI, 0, .inl (fun _ => 0))), (q4, .inr (0, [.int (nI 0), .int (nI 0), .ref q11]))] H := hP
  have hD : va_D A [(x, .inr (1, [.null, .null, .int 0, .int 0, .int 0, .int 0])), (q11, .inl (cI, 0, .inl (fun _ => 0))), (q4, .inr (0, [.int (nI 0), .int (nI 0), .ref q11]))] := hD
  refine lv_astore_n (lv' := [(1, .ref q4), (0, .ref x)]) hx hb dX1_init_16 rfl hl (by decide) rfl (fun ls hl => ?_)
  refine lv_aload_n hx hb dX1_init_17 rfl (lv_at hl 1 rfl) ?_
  refine lv_bipush (v := nI 6) hx hb dX1_init_18 (by decide) ?_
  refine va_newq (C := "BackMirror$Thing") hx hb hown (hts (.classLink RX1 7 RX0) (by decide +kernel)) hE.2.2 hK hP hD hS hA (xlt0 (by omega)) (nI_clamp (by omega)) (by show _ * 4 ≤ _; omega) (by first | exact Nat.le_of_ble_eq_true rfl | (show _ + _ ≤ 8; omega)) (by first | exact Nat.le_of_ble_eq_true rfl | (show _ + _ ≤ 300; omega)) dX1_init_20 (fun lv cA9 H hK9 hP hD hS => ?_)
  have hc9 := xcI hK9 hK 3 1 rfl rfl
  rw [hc9] at hP hD
  clear hK9 hc9
  have hP : va_P D vwCl [(x, .inr (1, [.null, .null, .int 0, .int 0, .int 0, .int 0])), (q11, .inl (cI, 0, .inl (fun _ => 0))), (q4, .inr (0, [.int (nI 0), .int (nI 0), .ref q11])), (lv, .inl (cT, 6, .inr (.inr (.inr (.inr (fun _ => none))))))] H := hP
  have hD : va_D A [(x, .inr (1, [.null, .null, .int 0, .int 0, .int 0, .int 0])), (q11, .inl (cI, 0, .inl (fun _ => 0))), (q4, .inr (0, [.int (nI 0), .int (nI 0), .ref q11])), (lv, .inl (cT, 6, .inr (.inr (.inr (.inr (fun _ => none))))))] := hD
  refine va_putF (ci := 1) (v := .ref lv) (ty := .array (.object "BackMirror$Thing")) (C := RX1) (T := TX1) (N := 6) hx hb hts iw_X1init_X1 tyX1 tyX1_ok nmX1 hown hK hP hD hS 0 rfl rfl 0 (by decide) (hts (.fieldLink RX1 14 "BackMirror" "live" "[LBackMirror$Thing;") (by decide +kernel)) (fun _ h9 => h9) rfl hin rfl (by decide +kernel) rfl rfl (Nat.le_of_ble_eq_true rfl) dX1_init_23 (fun H locs hP hD hS => ?_)
  have hP : va_P D vwCl [(x, .inr (1, [.ref lv, .null, .int 0, .int 0, .int 0, .int 0])), (q11, .inl (cI, 0, .inl (fun _ => 0))), (q4, .inr (0, [.int (nI 0), .int (nI 0), .ref q11])), (lv, .inl (cT, 6, .inr (.inr (.inr (.inr (fun _ => none))))))] H := hP
  have hD : va_D A [(x, .inr (1, [.ref lv, .null, .int 0, .int 0, .int 0, .int 0])), (q11, .inl (cI, 0, .inl (fun _ => 0))), (q4, .inr (0, [.int (nI 0), .int (nI 0), .ref q11])), (lv, .inl (cT, 6, .inr (.inr (.inr (.inr (fun _ => none))))))] := hD
  refine lv_iconst (v := nI 0) hx hb dX1_init_26 (by decide) ?_
  refine lv_istore_n (lv' := [(2, .int (nI 0)), (1, .ref q4), (0, .ref x)]) hx hb dX1_init_27 rfl hl (by decide) rfl (fun ls hl => ?_)
  refine x_loop (fun n H locs ls => ∃ (i j : Nat) (fL : Nat → Option Nat), (j + 1 = n) ∧ (6 ≤ i + j) ∧ (i ≤ 6) ∧ (∀ z, z < i → fL z = some q4) ∧ va_P D vwCl [(x, .inr (1, [.ref lv, .null, .int 0, .int 0, .int 0, .int 0])), (q11, .inl (cI, 0, .inl (fun _ => 0))), (q4, .inr (0, [.int (nI 0), .int (nI 0), .ref q11])), (lv, .inl (cT, 6, .inr (.inr (.inr (.inr fL)))))] H ∧ va_D A [(x, .inr (1, [.ref lv, .null, .int 0, .int 0, .int 0, .int 0])), (q11, .inl (cI, 0, .inl (fun _ => 0))), (q4, .inr (0, [.int (nI 0), .int (nI 0), .ref q11])), (lv, .inl (cT, 6, .inr (.inr (.inr (.inr fL)))))] ∧ va_S A s.heap H locs ∧ lv_has ls 3 [(2, .int (nI i)), (1, .ref q4), (0, .ref x)]) (6 + 1) ⟨0, 6, fun _ => none, rfl, by omega, by omega, fun z hz => absurd hz (Nat.not_lt_zero z), hP, hD, hS, lv_sub hl [0, 1, 2] rfl⟩ (fun H locs ls h => by obtain ⟨i, j, fL, hk, h1, h2, hfL, -⟩ := h; omega) (fun n H locs ls h ih => ?_)
  obtain ⟨i, j, fL, hk, h1, h2, hfL, hP, hD, hS, hl⟩ := h
  refine lv_iload_n hx hb dX1_init_28 rfl (lv_at hl 0 rfl) ?_
  refine lv_aload_n hx hb dX1_init_29 rfl (lv_at hl 2 rfl) ?_
  refine va_get (ci := 1) (v := .ref lv) (C := RX1) (T := TX1) (N := 6) hx hb hts iw_X1init_X1 hown hK hP 0 rfl rfl 0 (by decide) (hts (.fieldLink RX1 14 "BackMirror" "live" "[LBackMirror$Thing;") (by decide +kernel)) (fun _ h9 => h9) rfl dX1_init_30 ?_
  refine va_alen hx hb hK hP 3 1 rfl rfl (v := nI 6) rfl dX1_init_33 ?_
  refine lv_icmp_ge (tgt := 50) hx hb dX1_init_34 (by decide) (fun c34 => ?_) (fun c34 => ?_)
  · have c34 : 6 ≤ i := (xle (by omega) (by omega)).mp c34
    refine lv_aload_n hx hb dX1_init_50 rfl (lv_at hl 2 rfl) ?_
    refine lv_sipush (v := nI 246) hx hb dX1_init_51 (by decide) ?_
    refine va_newq (C := "BackMirror$Thing") hx hb hown (hts (.classLink RX1 7 RX0) (by decide +kernel)) hE.2.2 hK hP hD hS hA (xlt0 (by omega)) (nI_clamp (by omega)) (by show _ * 4 ≤ _; omega) (by first | exact Nat.le_of_ble_eq_true rfl | (show _ + _ ≤ 8; omega)) (by first | exact Nat.le_of_ble_eq_true rfl | (show _ + _ ≤ 300; omega)) dX1_init_54 (fun kp cA9 H hK9 hP hD hS => ?_)
    have hc9 := xcI hK9 hK 3 1 rfl rfl
    rw [hc9] at hP hD
    clear hK9 hc9
    have hP : va_P D vwCl [(x, .inr (1, [.ref lv, .null, .int 0, .int 0, .int 0, .int 0])), (q11, .inl (cI, 0, .inl (fun _ => 0))), (q4, .inr (0, [.int (nI 0), .int (nI 0), .ref q11])), (lv, .inl (cT, 6, .inr (.inr (.inr (.inr fL))))), (kp, .inl (cT, 246, .inr (.inr (.inr (.inr (fun _ => none))))))] H := hP
    have hD : va_D A [(x, .inr (1, [.ref lv, .null, .int 0, .int 0, .int 0, .int 0])), (q11, .inl (cI, 0, .inl (fun _ => 0))), (q4, .inr (0, [.int (nI 0), .int (nI 0), .ref q11])), (lv, .inl (cT, 6, .inr (.inr (.inr (.inr fL))))), (kp, .inl (cT, 246, .inr (.inr (.inr (.inr (fun _ => none))))))] := hD
    refine va_putF (ci := 1) (v := .ref kp) (ty := .array (.object "BackMirror$Thing")) (C := RX1) (T := TX1) (N := 6) hx hb hts iw_X1init_X1 tyX1 tyX1_ok nmX1 hown hK hP hD hS 0 rfl rfl 1 (by decide) (hts (.fieldLink RX1 18 "BackMirror" "kept" "[LBackMirror$Thing;") (by decide +kernel)) (fun _ h9 => h9) rfl hin rfl (by decide +kernel) rfl rfl (Nat.le_of_ble_eq_true rfl) dX1_init_57 (fun H locs hP hD hS => ?_)
    have hP : va_P D vwCl [(x, .inr (1, [.ref lv, .ref kp, .int 0, .int 0, .int 0, .int 0])), (q11, .inl (cI, 0, .inl (fun _ => 0))), (q4, .inr (0, [.int (nI 0), .int (nI 0), .ref q11])), (lv, .inl (cT, 6, .inr (.inr (.inr (.inr fL))))), (kp, .inl (cT, 246, .inr (.inr (.inr (.inr (fun _ => none))))))] H := hP
    have hD : va_D A [(x, .inr (1, [.ref lv, .ref kp, .int 0, .int 0, .int 0, .int 0])), (q11, .inl (cI, 0, .inl (fun _ => 0))), (q4, .inr (0, [.int (nI 0), .int (nI 0), .ref q11])), (lv, .inl (cT, 6, .inr (.inr (.inr (.inr fL))))), (kp, .inl (cT, 246, .inr (.inr (.inr (.inr (fun _ => none))))))] := hD
    refine lv_iconst (v := nI 0) hx hb dX1_init_60 (by decide) ?_
    refine lv_istore_n (lv' := [(2, .int (nI 0)), (1, .ref q4), (0, .ref x)]) hx hb dX1_init_61 rfl hl (by decide) rfl (fun ls hl => ?_)
    refine x_loop (fun n H locs ls => ∃ (i j : Nat) (fK : Nat → Option Nat), (j + 1 = n) ∧ (246 ≤ i + j) ∧ (i ≤ 246) ∧ (∀ z, z < i → fK z = some q4) ∧ va_P D vwCl [(x, .inr (1, [.ref lv, .ref kp, .int 0, .int 0, .int 0, .int 0])), (q11, .inl (cI, 0, .inl (fun _ => 0))), (q4, .inr (0, [.int (nI 0), .int (nI 0), .ref q11])), (lv, .inl (cT, 6, .inr (.inr (.inr (.inr fL))))), (kp, .inl (cT, 246, .inr (.inr (.inr (.inr fK)))))] H ∧ va_D A [(x, .inr (1, [.ref lv, .ref kp, .int 0, .int 0, .int 0, .int 0])), (q11, .inl (cI, 0, .inl (fun _ => 0))), (q4, .inr (0, [.int (nI 0), .int (nI 0), .ref q11])), (lv, .inl (cT, 6, .inr (.inr (.inr (.inr fL))))), (kp, .inl (cT, 246, .inr (.inr (.inr (.inr fK)))))] ∧ va_S A s.heap H locs ∧ lv_has ls 3 [(2, .int (nI i)), (1, .ref q4), (0, .ref x)]) (246 + 1) ⟨0, 246, fun _ => none, rfl, by omega, by omega, fun z hz => absurd hz (Nat.not_lt_zero z), hP, hD, hS, lv_sub hl [0, 1, 2] rfl⟩ (fun H locs ls h => by obtain ⟨i, j, fK, hk, h1, h2, hfK, -⟩ := h; omega) (fun n H locs ls h ih => ?_)
    obtain ⟨i, j, fK, hk, h1, h2, hfK, hP, hD, hS, hl⟩ := h
    refine lv_iload_n hx hb dX1_init_62 rfl (lv_at hl 0 rfl) ?_
    refine lv_aload_n hx hb dX1_init_63 rfl (lv_at hl 2 rfl) ?_
    refine va_get (ci := 1) (v := .ref kp) (C := RX1) (T := TX1) (N := 6) hx hb hts iw_X1init_X1 hown hK hP 0 rfl rfl 1 (by decide) (hts (.fieldLink RX1 18 "BackMirror" "kept" "[LBackMirror$Thing;") (by decide +kernel)) (fun _ h9 => h9) rfl dX1_init_64 ?_
    refine va_alen hx hb hK hP 4 1 rfl rfl (v := nI 246) rfl dX1_init_67 ?_
    refine lv_icmp_ge (tgt := 84) hx hb dX1_init_68 (by decide) (fun c68 => ?_) (fun c68 => ?_)
    · have c68 : 246 ≤ i := (xle (by omega) (by omega)).mp c68
      refine lv_aload_n hx hb dX1_init_84 rfl (lv_at hl 2 rfl) ?_
      refine lv_iconst (v := nI 0) hx hb dX1_init_85 (by decide) ?_
      refine va_put (ci := 1) (v := .int (nI 0)) (ty := .int) (C := RX1) (T := TX1) (N := 6) hx hb hts iw_X1init_X1 tyX1 tyX1_ok nmX1 hown hK hP hD hS 0 rfl rfl 2 (by decide) (hts (.fieldLink RX1 21 "BackMirror" "oldestDate" "I") (by decide +kernel)) (fun _ h9 => h9) rfl (by decide +kernel) rfl rfl (Nat.le_of_ble_eq_true rfl) dX1_init_86 (fun H locs hP hD hS => ?_)
      have hP : va_P D vwCl [(x, .inr (1, [.ref lv, .ref kp, .int (nI 0), .int 0, .int 0, .int 0])), (q11, .inl (cI, 0, .inl (fun _ => 0))), (q4, .inr (0, [.int (nI 0), .int (nI 0), .ref q11])), (lv, .inl (cT, 6, .inr (.inr (.inr (.inr fL))))), (kp, .inl (cT, 246, .inr (.inr (.inr (.inr fK)))))] H := hP
      have hD : va_D A [(x, .inr (1, [.ref lv, .ref kp, .int (nI 0), .int 0, .int 0, .int 0])), (q11, .inl (cI, 0, .inl (fun _ => 0))), (q4, .inr (0, [.int (nI 0), .int (nI 0), .ref q11])), (lv, .inl (cT, 6, .inr (.inr (.inr (.inr fL))))), (kp, .inl (cT, 246, .inr (.inr (.inr (.inr fK)))))] := hD
      refine lv_aload_n hx hb dX1_init_89 rfl (lv_at hl 2 rfl) ?_
      refine lv_iconst (v := nI 0) hx hb dX1_init_90 (by decide) ?_
      refine va_put (ci := 1) (v := .int (nI 0)) (ty := .int) (C := RX1) (T := TX1) (N := 6) hx hb hts iw_X1init_X1 tyX1 tyX1_ok nmX1 hown hK hP hD hS 0 rfl rfl 3 (by decide) (hts (.fieldLink RX1 25 "BackMirror" "lastDate" "I") (by decide +kernel)) (fun _ h9 => h9) rfl (by decide +kernel) rfl rfl (Nat.le_of_ble_eq_true rfl) dX1_init_91 (fun H locs hP hD hS => ?_)
      have hP : va_P D vwCl [(x, .inr (1, [.ref lv, .ref kp, .int (nI 0), .int (nI 0), .int 0, .int 0])), (q11, .inl (cI, 0, .inl (fun _ => 0))), (q4, .inr (0, [.int (nI 0), .int (nI 0), .ref q11])), (lv, .inl (cT, 6, .inr (.inr (.inr (.inr fL))))), (kp, .inl (cT, 246, .inr (.inr (.inr (.inr fK)))))] H := hP
      have hD : va_D A [(x, .inr (1, [.ref lv, .ref kp, .int (nI 0), .int (nI 0), .int 0, .int 0])), (q11, .inl (cI, 0, .inl (fun _ => 0))), (q4, .inr (0, [.int (nI 0), .int (nI 0), .ref q11])), (lv, .inl (cT, 6, .inr (.inr (.inr (.inr fL))))), (kp, .inl (cT, 246, .inr (.inr (.inr (.inr fK)))))] := hD
      refine lv_aload_n hx hb dX1_init_94 rfl (lv_at hl 2 rfl) ?_
      refine lv_iconst (v := nI 0) hx hb dX1_init_95 (by decide) ?_
      refine va_put (ci := 1) (v := .int (nI 0)) (ty := .boolean) (C := RX1) (T := TX1) (N := 6) hx hb hts iw_X1init_X1 tyX1 tyX1_ok nmX1 hown hK hP hD hS 0 rfl rfl 4 (by decide) (hts (.fieldLink RX1 28 "BackMirror" "broken" "Z") (by decide +kernel)) (fun _ h9 => h9) rfl (by decide +kernel) (by decide) rfl (Nat.le_of_ble_eq_true rfl) dX1_init_96 (fun H locs hP hD hS => ?_)
      have hP : va_P D vwCl [(x, .inr (1, [.ref lv, .ref kp, .int (nI 0), .int (nI 0), .int (nI 0), .int 0])), (q11, .inl (cI, 0, .inl (fun _ => 0))), (q4, .inr (0, [.int (nI 0), .int (nI 0), .ref q11])), (lv, .inl (cT, 6, .inr (.inr (.inr (.inr fL))))), (kp, .inl (cT, 246, .inr (.inr (.inr (.inr fK)))))] H := hP
      have hD : va_D A [(x, .inr (1, [.ref lv, .ref kp, .int (nI 0), .int (nI 0), .int (nI 0), .int 0])), (q11, .inl (cI, 0, .inl (fun _ => 0))), (q4, .inr (0, [.int (nI 0), .int (nI 0), .ref q11])), (lv, .inl (cT, 6, .inr (.inr (.inr (.inr fL))))), (kp, .inl (cT, 246, .inr (.inr (.inr (.inr fK)))))] := hD
      refine lv_aload_n hx hb dX1_init_99 rfl (lv_at hl 2 rfl) ?_
      refine lv_iconst (v := nI 0) hx hb dX1_init_100 (by decide) ?_
      refine va_put (ci := 1) (v := .int (nI 0)) (ty := .int) (C := RX1) (T := TX1) (N := 6) hx hb hts iw_X1init_X1 tyX1 tyX1_ok nmX1 hown hK hP hD hS 0 rfl rfl 5 (by decide) (hts (.fieldLink RX1 32 "BackMirror" "brokenSteps" "I") (by decide +kernel)) (fun _ h9 => h9) rfl (by decide +kernel) rfl rfl (Nat.le_of_ble_eq_true rfl) dX1_init_101 (fun H locs hP hD hS => ?_)
      have hP : va_P D vwCl [(x, .inr (1, [.ref lv, .ref kp, .int (nI 0), .int (nI 0), .int (nI 0), .int (nI 0)])), (q11, .inl (cI, 0, .inl (fun _ => 0))), (q4, .inr (0, [.int (nI 0), .int (nI 0), .ref q11])), (lv, .inl (cT, 6, .inr (.inr (.inr (.inr fL))))), (kp, .inl (cT, 246, .inr (.inr (.inr (.inr fK)))))] H := hP
      have hD : va_D A [(x, .inr (1, [.ref lv, .ref kp, .int (nI 0), .int (nI 0), .int (nI 0), .int (nI 0)])), (q11, .inl (cI, 0, .inl (fun _ => 0))), (q4, .inr (0, [.int (nI 0), .int (nI 0), .ref q11])), (lv, .inl (cT, 6, .inr (.inr (.inr (.inr fL))))), (kp, .inl (cT, 246, .inr (.inr (.inr (.inr fK)))))] := hD
      refine W.widen (k := 8) (n := 300) (by first | exact Nat.le_of_ble_eq_true rfl | (show _ ≤ 8; omega)) (by first | exact Nat.le_of_ble_eq_true rfl | (show _ ≤ 300; omega)) ?_
      have hpm : ([(x, .inr (1, [.ref lv, .ref kp, .int (nI 0), .int (nI 0), .int (nI 0), .int (nI 0)])), (q11, .inl (cI, 0, .inl (fun _ => 0))), (q4, .inr (0, [.int (nI 0), .int (nI 0), .ref q11])), (lv, .inl (cT, 6, .inr (.inr (.inr (.inr fL))))), (kp, .inl (cT, 246, .inr (.inr (.inr (.inr fK)))))] : va_W).Perm [(x, .inr (1, [.ref lv, .ref kp, .int (nI 0), .int (nI 0), .int (nI 0), .int (nI 0)])), (lv, .inl (cT, 6, .inr (.inr (.inr (.inr fL))))), (kp, .inl (cT, 246, .inr (.inr (.inr (.inr fK))))), (q11, .inl (cI, 0, .inl (fun _ => 0))), (q4, .inr (0, [.int (nI 0), .int (nI 0), .ref q11]))] := (List.perm_append_comm (l₁ := [_, _]) (l₂ := [_, _])).cons _
      have hP := xP_perm hpm hP
      have hD := xD_perm hpm hD
      have hT0 : TH cI [(q11, .inl (cI, 0, .inl (fun _ => 0))), (q4, .inr (0, [.int (nI 0), .int (nI 0), .ref q11]))] q4 (nI 0, nI 0, 0, fun _ => 0) := ⟨Nat.le_of_ble_eq_true rfl, _, _, List.mem_cons_of_mem _ (List.mem_singleton.mpr rfl), List.mem_cons_self, fun _ h => absurd h (Nat.not_lt_zero _)⟩
      exact W.vret hx hb hr (fun t9 ht9 hW9 => ⟨⟨(lv, kp), rfl, trivial, fL, fK, _, by rw [ht9]; exact hP, hD, fun i9 hi9 => ⟨q4, hfK i9 (by omega), hT0⟩, fun i9 hi9 => ⟨q4, hfL i9 (by omega), hT0⟩⟩, hS.F ht9⟩) hS.2.2 dX1_init_104
    · have c68 : ¬ 246 ≤ i := fun h => c68 ((xle (by omega) (by omega)).mpr h)
      refine lv_aload_n hx hb dX1_init_71 rfl (lv_at hl 2 rfl) ?_
      refine va_get (ci := 1) (v := .ref kp) (C := RX1) (T := TX1) (N := 6) hx hb hts iw_X1init_X1 hown hK hP 0 rfl rfl 1 (by decide) (hts (.fieldLink RX1 18 "BackMirror" "kept" "[LBackMirror$Thing;") (by decide +kernel)) (fun _ h9 => h9) rfl dX1_init_72 ?_
      refine lv_iload_n hx hb dX1_init_75 rfl (lv_at hl 0 rfl) ?_
      refine lv_aload_n hx hb dX1_init_76 rfl (lv_at hl 1 rfl) ?_
      refine va_astq (r := (RX0, TX0, 3)) hx hb hK hP hD hS 4 1 2 0 rfl rfl rfl rfl (xin (by omega) (by omega)) dX1_init_77 (fun H locs hP hD hS => ?_)
      rw [nI_clamp (show i < 2 ^ 31 by omega)] at hP hD
      have hP : va_P D vwCl [(x, .inr (1, [.ref lv, .ref kp, .int 0, .int 0, .int 0, .int 0])), (q11, .inl (cI, 0, .inl (fun _ => 0))), (q4, .inr (0, [.int (nI 0), .int (nI 0), .ref q11])), (lv, .inl (cT, 6, .inr (.inr (.inr (.inr fL))))), (kp, .inl (cT, 246, .inr (.inr (.inr (.inr (va_up fK i (some q4)))))))] H := hP
      have hD : va_D A [(x, .inr (1, [.ref lv, .ref kp, .int 0, .int 0, .int 0, .int 0])), (q11, .inl (cI, 0, .inl (fun _ => 0))), (q4, .inr (0, [.int (nI 0), .int (nI 0), .ref q11])), (lv, .inl (cT, 6, .inr (.inr (.inr (.inr fL))))), (kp, .inl (cT, 246, .inr (.inr (.inr (.inr (va_up fK i (some q4)))))))] := hD
      refine lv_iinc (v := nI (i + 1)) (lv' := [(2, .int (nI (i + 1))), (1, .ref q4), (0, .ref x)]) hx hb dX1_init_78 hl (k := 0) rfl (xinc _ 1 _ (by decide)) (by decide) rfl (fun ls hl => ?_)
      refine lv_goto (tgt := 62) hx hb dX1_init_81 (by decide) ?_
      exact ih _ _ _ ⟨i + 1, j - 1, (va_up fK i (some q4)), by omega, by omega, by omega, fun z hz => by by_cases e : z = i; exact e ▸ va_up_s; exact (va_up_n e).trans (hfK z (by omega)), hP, hD, hS, lv_sub hl [0, 1, 2] rfl⟩
  · have c34 : ¬ 6 ≤ i := fun h => c34 ((xle (by omega) (by omega)).mpr h)
    refine lv_aload_n hx hb dX1_init_37 rfl (lv_at hl 2 rfl) ?_
    refine va_get (ci := 1) (v := .ref lv) (C := RX1) (T := TX1) (N := 6) hx hb hts iw_X1init_X1 hown hK hP 0 rfl rfl 0 (by decide) (hts (.fieldLink RX1 14 "BackMirror" "live" "[LBackMirror$Thing;") (by decide +kernel)) (fun _ h9 => h9) rfl dX1_init_38 ?_
    refine lv_iload_n hx hb dX1_init_41 rfl (lv_at hl 0 rfl) ?_
    refine lv_aload_n hx hb dX1_init_42 rfl (lv_at hl 1 rfl) ?_
    refine va_astq (r := (RX0, TX0, 3)) hx hb hK hP hD hS 3 1 2 0 rfl rfl rfl rfl (xin (by omega) (by omega)) dX1_init_43 (fun H locs hP hD hS => ?_)
    rw [nI_clamp (show i < 2 ^ 31 by omega)] at hP hD
    have hP : va_P D vwCl [(x, .inr (1, [.ref lv, .null, .int 0, .int 0, .int 0, .int 0])), (q11, .inl (cI, 0, .inl (fun _ => 0))), (q4, .inr (0, [.int (nI 0), .int (nI 0), .ref q11])), (lv, .inl (cT, 6, .inr (.inr (.inr (.inr (va_up fL i (some q4)))))))] H := hP
    have hD : va_D A [(x, .inr (1, [.ref lv, .null, .int 0, .int 0, .int 0, .int 0])), (q11, .inl (cI, 0, .inl (fun _ => 0))), (q4, .inr (0, [.int (nI 0), .int (nI 0), .ref q11])), (lv, .inl (cT, 6, .inr (.inr (.inr (.inr (va_up fL i (some q4)))))))] := hD
    refine lv_iinc (v := nI (i + 1)) (lv' := [(2, .int (nI (i + 1))), (1, .ref q4), (0, .ref x)]) hx hb dX1_init_44 hl (k := 0) rfl (xinc _ 1 _ (by decide)) (by decide) rfl (fun ls hl => ?_)
    refine lv_goto (tgt := 28) hx hb dX1_init_47 (by decide) ?_
    exact ih _ _ _ ⟨i + 1, j - 1, (va_up fL i (some q4)), by omega, by omega, by omega, fun z hz => by by_cases e : z = i; exact e ▸ va_up_s; exact (va_up_n e).trans (hfL z (by omega)), hP, hD, hS, lv_sub hl [0, 1, 2] rfl⟩
