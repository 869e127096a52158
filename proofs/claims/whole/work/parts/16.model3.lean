/-! the reference: what the law calls, by what its arguments are -/
theorem in_f {v : Int32} {a b : Nat} (ha : a < 2 ^ 31) (hb : b < 2 ^ 31) (h : ¬ ∃ j, a ≤ j ∧ j ≤ b ∧ v = nI j) : ¬ (nI a ≤ v ∧ v ≤ nI b) := fun c => h (in_of hb ha c)
theorem in_f0 {v : Int32} {b : Nat} (hb : b < 2 ^ 31) (h : ¬ ∃ j, j ≤ b ∧ v = nI j) : ¬ (nI 0 ≤ v ∧ v ≤ nI b) := fun c => h ((in_of hb (by omega) c).elim fun j hj => ⟨j, hj.2.1, hj.2.2⟩)
theorem in_of0 {v : Int32} {b : Nat} (hb : b < 2 ^ 31) (c : decide (nI 0 ≤ v ∧ v ≤ nI b) = true) : ∃ j, j ≤ b ∧ v = nI j := (in_of hb (by omega) (of_decide_eq_true c)).elim fun j hj => ⟨j, hj.2.1, hj.2.2⟩
/-- a spot of a row of n numbers, n may be 0 -/
theorem in_ofS {v : Int32} {n : Nat} (hn : n ≤ 12) (c : decide (nI 0 ≤ v ∧ v ≤ nI n - nI 1) = true) : ∃ j, j < n ∧ v = nI j := by
  have c := of_decide_eq_true c
  cases n with
  | zero => exact absurd (Int32.le_trans c.1 c.2) (by decide)
  | succ n =>
    rw [xsub (by omega)] at c
    obtain ⟨j, -, h2, h3⟩ := in_of (by omega) (by omega) c
    exact ⟨j, by omega, h3⟩

set_option maxHeartbeats 4000000 in
set_option maxRecDepth 100000 in
theorem c_X2_makeFile_g (l : Launch) {D : va_G} {cI cT cJ : ClassId} (m0 a1 a2 a3 a4 : Nat) (K R L N : Nat → Int32) (ld o b k t : Nat) (G : Nat → Tv) (hM : MA G K R L N) (j : Nat) (hj : j < 6) (sz : Nat) : Met l yX2_makeFile wsX2_makeFile (rmD 5 0 0) (XP D cI cT cJ [.ref m0, .int (nI j)] (fun H => H.size = sz ∧ va_P D vwCl (MWs cI m0 a1 a2 a3 a4 K R L N ld o b k t) H ∧ va_D (fun _ => True) (MWs cI m0 a1 a2 a3 a4 K R L N ld o b k t))) (va_Qi (S := Unit) (fun r _ => r = (G (246 + j)).1) (fun _ t9 => MB D cI m0 a1 a2 a3 a4 (va_A (MWs cI m0 a1 a2 a3 a4 K R L N ld o b k t) sz) (va_up G (246 + j) (nI 1, nI 0, 0, fun _ => 0), o, ld, b, k) 0 t9.heap) (va_A (MWs cI m0 a1 a2 a3 a4 K R L N ld o b k t) sz)) 0 0 (va_A (MWs cI m0 a1 a2 a3 a4 K R L N ld o b k t) sz) := by
  refine Met.ofW (cc := cX2_makeFile) (maxL := 2) (ret := (some .int)) (by decide) rfl ?_
  intro p e s m args below meth c s₁ B hml hv
  obtain ⟨rfl, ⟨hsz, hP, hD0⟩, hE⟩ := hv
  have hx := B.exec
  have hb := B.bytes
  have hr := B.returns
  have hts := atoms_spec (ws := wsX2_makeFile) B.pre
  have hown : s.vm.findClass RX2 = some m.cls := findClass_of_methodNamed B.named
  have hlocks := B.notSynchronized
  have hl := lv_entry ([.ref m0, .int (nI j)]) (n := 2) (Nat.le_of_ble_eq_true rfl)
  rw [lg_entry_eq]
  generalize (lg_sl ([.ref m0, .int (nI j)]) ++ List.replicate (2 - (lg_sl ([.ref m0, .int (nI j)])).length) Slot.unset).toArray = ls at hl ⊢
  have hl : lv_has ls 2 [(0, .ref m0), (1, .int (nI j))] := hl
  have hK := hE.1
  subst hsz
  have hD := hD0.self (sz := s.heap.size)
  generalize hAe : va_A ((MWs cI m0 a1 a2 a3 a4 K R L N ld o b k t)) s.heap.size = A at hD ⊢
  have hA : ∀ q : Nat, s.heap.size ≤ q → A q := fun q h => by rw [← hAe]; exact Or.inr h
  have hS : va_S A s.heap s.heap [] := va_S.rf
  refine lv_aload_n hx hb dX2_makeFile_0 rfl (lv_at hl 0 rfl) ?_
  refine lv_iload_n hx hb dX2_makeFile_1 rfl (lv_at hl 1 rfl) ?_
  refine xc_sie (va_runS (As := [.int (nI j)]) (rest := [.ref m0]) ⟨hx, hb, hml, hown, hts⟩ (c_X2_isPlace l (nI j)) (va_cwS 1 hts gX2_makeFile_X2_isPlace rfl rfl rfl (by decide +kernel) ⟨(Nat.le_of_ble_eq_true rfl), (Nat.le_of_ble_eq_true rfl)⟩) ⟨XP_blind, XP_pre hE trivial⟩ rfl rfl hl.1 rfl (lv_room (Nat.le_of_ble_eq_true rfl)) dX2_makeFile_2 ⟨Nat.le_of_ble_eq_true rfl, Nat.le_of_ble_eq_true rfl⟩) ?_
  refine x_top (nI 1) (by rw [decide_eq_true (pl_t hj)]; rfl) ?_
  refine lv_if_eq (tgt := 12) hx hb dX2_makeFile_5 (by decide) (fun h => absurd h (by decide)) (fun _ => ?_)
  refine lv_iconst (v := nI 0) hx hb dX2_makeFile_8 (by decide) ?_
  refine lv_goto (tgt := 13) hx hb dX2_makeFile_9 (by decide) ?_
  have hP : va_P D vwCl ([] ++ (MWs cI m0 a1 a2 a3 a4 K R L N ld o b k t)) s.heap := hP
  have hD : va_D A ([] ++ (MWs cI m0 a1 a2 a3 a4 K R L N ld o b k t)) := hD
  have hFc := xfree (wc := (MWs cI m0 a1 a2 a3 a4 K R L N ld o b k t)) hD hS hA (fun _ h => List.mem_append_right _ h)
  have hPc := xP_sub (w2 := (MWs cI m0 a1 a2 a3 a4 K R L N ld o b k t)) (fun _ h => List.mem_append_right _ h) hP
  have hDc : va_D (fun _ => True) (MWs cI m0 a1 a2 a3 a4 K R L N ld o b k t) := (xD_sub (List.sublist_append_right _ _) hD).weaken (fun _ _ _ _ => trivial)
  refine va_calli (va_runV (As := [.int (nI 0)]) (rest := []) ⟨hx, hb, hml, hown, hts⟩ (c_X2_goes l m0 a1 a2 a3 a4 K R L N ld o b k t 0 (by omega) s.heap.size) (cwV 1 hts gX2_makeFile_X2_goes rfl rfl rfl (by decide +kernel) ⟨(Nat.le_of_ble_eq_true rfl), (Nat.le_of_ble_eq_true rfl)⟩) ⟨XP_blind, va_recv hK hP (ci := 2) (q0 := 0) rfl rfl, XP_pre hE ⟨rfl, hPc, hDc⟩⟩ rfl rfl hl.1 rfl (lv_room (Nat.le_of_ble_eq_true rfl)) dX2_makeFile_13 ⟨by first | exact Nat.le_of_ble_eq_true rfl | (show _ + _ ≤ _; omega), by first | exact Nat.le_of_ble_eq_true rfl | (show _ + _ ≤ _; omega)⟩) hS (fun q9 _ h => hFc q9 h) hFc (fun r9 u t9 H1 locs ht9 hvm9 hw9 hB9 hzc hkc hS => ?_)
  obtain ⟨hP1, hD1⟩ := hB9
  rw [ht9] at hP1
  obtain ⟨hP, hD⟩ := xjoin (wr := []) (wc := (MWs cI m0 a1 a2 a3 a4 K R L N ld o b k t)) (w1 := (MWs cI m0 a1 a2 a3 a4 K R L N ld o b k 0)) hP hD hkc hFc hP1 hD1
  generalize H1 = H at hP hS ⊢
  subst hw9
  have hP : va_P D vwCl [(m0, .inr (2, [.ref a1, .ref a2, .ref a3, .ref a4, .int (nI ld), .int (nI o), .int (nI b), .int (nI k), .int (nI 0)])), (a1, .inl (cI, 252, .inl K)), (a2, .inl (cI, 252, .inl R)), (a3, .inl (cI, 252, .inl L)), (a4, .inl (cI, 3024, .inl N))] H := hP
  have hD : va_D A [(m0, .inr (2, [.ref a1, .ref a2, .ref a3, .ref a4, .int (nI ld), .int (nI o), .int (nI b), .int (nI k), .int (nI 0)])), (a1, .inl (cI, 252, .inl K)), (a2, .inl (cI, 252, .inl R)), (a3, .inl (cI, 252, .inl L)), (a4, .inl (cI, 3024, .inl N))] := hD
  refine x_top (nI 1) rfl ?_
  refine lv_if_eq (tgt := 28) hx hb dX2_makeFile_16 (by decide) (fun h => absurd h (by decide)) (fun _ => ?_)
  refine lv_aload_n hx hb dX2_makeFile_19 rfl (lv_at hl 0 rfl) ?_
  refine lv_iload_n hx hb dX2_makeFile_20 rfl (lv_at hl 1 rfl) ?_
  refine lv_iconst (v := nI 1) hx hb dX2_makeFile_21 (by decide) ?_
  have hP : va_P D vwCl ([] ++ (MWs cI m0 a1 a2 a3 a4 K R L N ld o b k 0)) H := hP
  have hD : va_D A ([] ++ (MWs cI m0 a1 a2 a3 a4 K R L N ld o b k 0)) := hD
  have hFc := xfree (wc := (MWs cI m0 a1 a2 a3 a4 K R L N ld o b k 0)) hD hS hA (fun _ h => List.mem_append_right _ h)
  have hPc := xP_sub (w2 := (MWs cI m0 a1 a2 a3 a4 K R L N ld o b k 0)) (fun _ h => List.mem_append_right _ h) hP
  have hDc : va_D (fun _ => True) (MWs cI m0 a1 a2 a3 a4 K R L N ld o b k 0) := (xD_sub (List.sublist_append_right _ _) hD).weaken (fun _ _ _ _ => trivial)
  refine va_calli (va_runV (As := [.int (nI j), .int (nI 1)]) (rest := []) ⟨hx, hb, hml, hown, hts⟩ (c_X2_becomes l m0 a1 a2 a3 a4 K R L N ld o b k 0 G hM j 1 hj H.size) (cwV 2 hts gX2_makeFile_X2_becomes rfl rfl rfl (by decide +kernel) ⟨(Nat.le_of_ble_eq_true rfl), (Nat.le_of_ble_eq_true rfl)⟩) ⟨XP_blind, va_recv hK hP (ci := 2) (q0 := 0) rfl rfl, XP_pre hE ⟨rfl, hPc, hDc⟩⟩ rfl rfl hl.1 rfl (lv_room (Nat.le_of_ble_eq_true rfl)) dX2_makeFile_22 ⟨by first | exact Nat.le_of_ble_eq_true rfl | (show _ + _ ≤ _; omega), by first | exact Nat.le_of_ble_eq_true rfl | (show _ + _ ≤ _; omega)⟩) hS (fun q9 _ h => hFc q9 h) hFc (fun r9 u t9 H1 locs ht9 hvm9 hw9 hB9 hzc hkc hS => ?_)
  obtain ⟨hP1, hD1⟩ := hB9
  rw [ht9] at hP1
  obtain ⟨hP, hD⟩ := xjoin (wr := []) (wc := (MWs cI m0 a1 a2 a3 a4 K R L N ld o b k 0)) (w1 := (MWs cI m0 a1 a2 a3 a4 (upd K (246 + j) (nI 1)) (upd R (246 + j) (nI 0)) (upd L (246 + j) (nI 0)) N ld o b k 0)) hP hD hkc hFc hP1 hD1
  generalize H1 = H at hP hS ⊢
  subst hw9
  have hP : va_P D vwCl [(m0, .inr (2, [.ref a1, .ref a2, .ref a3, .ref a4, .int (nI ld), .int (nI o), .int (nI b), .int (nI k), .int (nI 0)])), (a1, .inl (cI, 252, .inl (upd K (246 + j) (nI 1)))), (a2, .inl (cI, 252, .inl (upd R (246 + j) (nI 0)))), (a3, .inl (cI, 252, .inl (upd L (246 + j) (nI 0)))), (a4, .inl (cI, 3024, .inl N))] H := hP
  have hD : va_D A [(m0, .inr (2, [.ref a1, .ref a2, .ref a3, .ref a4, .int (nI ld), .int (nI o), .int (nI b), .int (nI k), .int (nI 0)])), (a1, .inl (cI, 252, .inl (upd K (246 + j) (nI 1)))), (a2, .inl (cI, 252, .inl (upd R (246 + j) (nI 0)))), (a3, .inl (cI, 252, .inl (upd L (246 + j) (nI 0)))), (a4, .inl (cI, 3024, .inl N))] := hD
  refine lv_goto (tgt := 29) hx hb dX2_makeFile_25 (by decide) ?_
  exact W.iret hx hb hr (fun t9 ht9 hW9 => ⟨⟨_, (), rfl, rfl, _, _, _, _, by rw [ht9]; exact hP, hD, MA.set hM (Nat.le_of_ble_eq_true rfl) (pk_us) (fun z h => pk_un h) (pk_us) (fun z h => pk_un h) (pk_us) (fun z h => pk_un h) (fun _ h => absurd h (Nat.not_lt_zero _)) (fun _ _ => rfl)⟩, hS.F ht9⟩) hS.2.2 dX2_makeFile_29

set_option maxHeartbeats 4000000 in
set_option maxRecDepth 100000 in
theorem c_X2_makeFile_b (l : Launch) {D : va_G} {cI cT cJ : ClassId} (m0 a1 a2 a3 a4 : Nat) (K R L N : Nat → Int32) (ld o b k t : Nat) (G : Nat → Tv) (hM : MA G K R L N) (v : Int32) (hv : ¬ Pl v) (sz : Nat) : Met l yX2_makeFile wsX2_makeFile (rmD 5 0 0) (XP D cI cT cJ [.ref m0, .int v] (fun H => H.size = sz ∧ va_P D vwCl (MWs cI m0 a1 a2 a3 a4 K R L N ld o b k t) H ∧ va_D (fun _ => True) (MWs cI m0 a1 a2 a3 a4 K R L N ld o b k t))) (va_Qi (S := Unit) (fun r _ => True) (fun _ t9 => MB D cI m0 a1 a2 a3 a4 (va_A (MWs cI m0 a1 a2 a3 a4 K R L N ld o b k t) sz) (G, o, ld, b, k) 1 t9.heap) (va_A (MWs cI m0 a1 a2 a3 a4 K R L N ld o b k t) sz)) 0 0 (va_A (MWs cI m0 a1 a2 a3 a4 K R L N ld o b k t) sz) := by
  refine Met.ofW (cc := cX2_makeFile) (maxL := 2) (ret := (some .int)) (by decide) rfl ?_
  intro p e s m args below meth c s₁ B hml hv
  obtain ⟨rfl, ⟨hsz, hP, hD0⟩, hE⟩ := hv
  have hx := B.exec
  have hb := B.bytes
  have hr := B.returns
  have hts := atoms_spec (ws := wsX2_makeFile) B.pre
  have hown : s.vm.findClass RX2 = some m.cls := findClass_of_methodNamed B.named
  have hlocks := B.notSynchronized
  have hl := lv_entry ([.ref m0, .int v]) (n := 2) (Nat.le_of_ble_eq_true rfl)
  rw [lg_entry_eq]
  generalize (lg_sl ([.ref m0, .int v]) ++ List.replicate (2 - (lg_sl ([.ref m0, .int v])).length) Slot.unset).toArray = ls at hl ⊢
  have hl : lv_has ls 2 [(0, .ref m0), (1, .int v)] := hl
  have hK := hE.1
  subst hsz
  have hD := hD0.self (sz := s.heap.size)
  generalize hAe : va_A ((MWs cI m0 a1 a2 a3 a4 K R L N ld o b k t)) s.heap.size = A at hD ⊢
  have hA : ∀ q : Nat, s.heap.size ≤ q → A q := fun q h => by rw [← hAe]; exact Or.inr h
  have hS : va_S A s.heap s.heap [] := va_S.rf
  refine lv_aload_n hx hb dX2_makeFile_0 rfl (lv_at hl 0 rfl) ?_
  refine lv_iload_n hx hb dX2_makeFile_1 rfl (lv_at hl 1 rfl) ?_
  refine xc_sie (va_runS (As := [.int v]) (rest := [.ref m0]) ⟨hx, hb, hml, hown, hts⟩ (c_X2_isPlace l v) (va_cwS 1 hts gX2_makeFile_X2_isPlace rfl rfl rfl (by decide +kernel) ⟨(Nat.le_of_ble_eq_true rfl), (Nat.le_of_ble_eq_true rfl)⟩) ⟨XP_blind, XP_pre hE trivial⟩ rfl rfl hl.1 rfl (lv_room (Nat.le_of_ble_eq_true rfl)) dX2_makeFile_2 ⟨Nat.le_of_ble_eq_true rfl, Nat.le_of_ble_eq_true rfl⟩) ?_
  refine x_top (nI 0) (by rw [decide_eq_false (pl_f hv)]; rfl) ?_
  refine lv_if_eq (tgt := 12) hx hb dX2_makeFile_5 (by decide) (fun _ => ?_) (fun h => absurd h (by decide))
  refine lv_iconst (v := nI 1) hx hb dX2_makeFile_12 (by decide) ?_
  have hP : va_P D vwCl ([] ++ (MWs cI m0 a1 a2 a3 a4 K R L N ld o b k t)) s.heap := hP
  have hD : va_D A ([] ++ (MWs cI m0 a1 a2 a3 a4 K R L N ld o b k t)) := hD
  have hFc := xfree (wc := (MWs cI m0 a1 a2 a3 a4 K R L N ld o b k t)) hD hS hA (fun _ h => List.mem_append_right _ h)
  have hPc := xP_sub (w2 := (MWs cI m0 a1 a2 a3 a4 K R L N ld o b k t)) (fun _ h => List.mem_append_right _ h) hP
  have hDc : va_D (fun _ => True) (MWs cI m0 a1 a2 a3 a4 K R L N ld o b k t) := (xD_sub (List.sublist_append_right _ _) hD).weaken (fun _ _ _ _ => trivial)
  refine va_calli (va_runV (As := [.int (nI 1)]) (rest := []) ⟨hx, hb, hml, hown, hts⟩ (c_X2_goes l m0 a1 a2 a3 a4 K R L N ld o b k t 1 (by omega) s.heap.size) (cwV 1 hts gX2_makeFile_X2_goes rfl rfl rfl (by decide +kernel) ⟨(Nat.le_of_ble_eq_true rfl), (Nat.le_of_ble_eq_true rfl)⟩) ⟨XP_blind, va_recv hK hP (ci := 2) (q0 := 0) rfl rfl, XP_pre hE ⟨rfl, hPc, hDc⟩⟩ rfl rfl hl.1 rfl (lv_room (Nat.le_of_ble_eq_true rfl)) dX2_makeFile_13 ⟨by first | exact Nat.le_of_ble_eq_true rfl | (show _ + _ ≤ _; omega), by first | exact Nat.le_of_ble_eq_true rfl | (show _ + _ ≤ _; omega)⟩) hS (fun q9 _ h => hFc q9 h) hFc (fun r9 u t9 H1 locs ht9 hvm9 hw9 hB9 hzc hkc hS => ?_)
  obtain ⟨hP1, hD1⟩ := hB9
  rw [ht9] at hP1
  obtain ⟨hP, hD⟩ := xjoin (wr := []) (wc := (MWs cI m0 a1 a2 a3 a4 K R L N ld o b k t)) (w1 := (MWs cI m0 a1 a2 a3 a4 K R L N ld o b k 1)) hP hD hkc hFc hP1 hD1
  generalize H1 = H at hP hS ⊢
  subst hw9
  have hP : va_P D vwCl [(m0, .inr (2, [.ref a1, .ref a2, .ref a3, .ref a4, .int (nI ld), .int (nI o), .int (nI b), .int (nI k), .int (nI 1)])), (a1, .inl (cI, 252, .inl K)), (a2, .inl (cI, 252, .inl R)), (a3, .inl (cI, 252, .inl L)), (a4, .inl (cI, 3024, .inl N))] H := hP
  have hD : va_D A [(m0, .inr (2, [.ref a1, .ref a2, .ref a3, .ref a4, .int (nI ld), .int (nI o), .int (nI b), .int (nI k), .int (nI 1)])), (a1, .inl (cI, 252, .inl K)), (a2, .inl (cI, 252, .inl R)), (a3, .inl (cI, 252, .inl L)), (a4, .inl (cI, 3024, .inl N))] := hD
  refine x_top (nI 0) rfl ?_
  refine lv_if_eq (tgt := 28) hx hb dX2_makeFile_16 (by decide) (fun _ => ?_) (fun h => absurd h (by decide))
  refine lv_iconst (v := nI 0) hx hb dX2_makeFile_28 (by decide) ?_
  exact W.iret hx hb hr (fun t9 ht9 hW9 => ⟨⟨_, (), rfl, trivial, _, _, _, _, by rw [ht9]; exact hP, hD, hM⟩, hS.F ht9⟩) hS.2.2 dX2_makeFile_29

set_option maxHeartbeats 4000000 in
set_option maxRecDepth 100000 in
theorem c_X2_remove_g (l : Launch) {D : va_G} {cI cT cJ : ClassId} (m0 a1 a2 a3 a4 : Nat) (K R L N : Nat → Int32) (ld o b k t : Nat) (G : Nat → Tv) (hM : MA G K R L N) (j : Nat) (hj : j < 6) (sz : Nat) : Met l yX2_remove wsX2_remove (rmD 5 0 0) (XP D cI cT cJ [.ref m0, .int (nI j)] (fun H => H.size = sz ∧ va_P D vwCl (MWs cI m0 a1 a2 a3 a4 K R L N ld o b k t) H ∧ va_D (fun _ => True) (MWs cI m0 a1 a2 a3 a4 K R L N ld o b k t))) (va_Qi (S := Unit) (fun r _ => r = (G (246 + j)).1) (fun _ t9 => MB D cI m0 a1 a2 a3 a4 (va_A (MWs cI m0 a1 a2 a3 a4 K R L N ld o b k t) sz) (va_up G (246 + j) (nI 0, nI 0, 0, fun _ => 0), o, ld, b, k) 0 t9.heap) (va_A (MWs cI m0 a1 a2 a3 a4 K R L N ld o b k t) sz)) 0 0 (va_A (MWs cI m0 a1 a2 a3 a4 K R L N ld o b k t) sz) := by
  refine Met.ofW (cc := cX2_remove) (maxL := 2) (ret := (some .int)) (by decide) rfl ?_
  intro p e s m args below meth c s₁ B hml hv
  obtain ⟨rfl, ⟨hsz, hP, hD0⟩, hE⟩ := hv
  have hx := B.exec
  have hb := B.bytes
  have hr := B.returns
  have hts := atoms_spec (ws := wsX2_remove) B.pre
  have hown : s.vm.findClass RX2 = some m.cls := findClass_of_methodNamed B.named
  have hlocks := B.notSynchronized
  have hl := lv_entry ([.ref m0, .int (nI j)]) (n := 2) (Nat.le_of_ble_eq_true rfl)
  rw [lg_entry_eq]
  generalize (lg_sl ([.ref m0, .int (nI j)]) ++ List.replicate (2 - (lg_sl ([.ref m0, .int (nI j)])).length) Slot.unset).toArray = ls at hl ⊢
  have hl : lv_has ls 2 [(0, .ref m0), (1, .int (nI j))] := hl
  have hK := hE.1
  subst hsz
  have hD := hD0.self (sz := s.heap.size)
  generalize hAe : va_A ((MWs cI m0 a1 a2 a3 a4 K R L N ld o b k t)) s.heap.size = A at hD ⊢
  have hA : ∀ q : Nat, s.heap.size ≤ q → A q := fun q h => by rw [← hAe]; exact Or.inr h
  have hS : va_S A s.heap s.heap [] := va_S.rf
  refine lv_aload_n hx hb dX2_remove_0 rfl (lv_at hl 0 rfl) ?_
  refine lv_iload_n hx hb dX2_remove_1 rfl (lv_at hl 1 rfl) ?_
  refine xc_sie (va_runS (As := [.int (nI j)]) (rest := [.ref m0]) ⟨hx, hb, hml, hown, hts⟩ (c_X2_isPlace l (nI j)) (va_cwS 1 hts gX2_remove_X2_isPlace rfl rfl rfl (by decide +kernel) ⟨(Nat.le_of_ble_eq_true rfl), (Nat.le_of_ble_eq_true rfl)⟩) ⟨XP_blind, XP_pre hE trivial⟩ rfl rfl hl.1 rfl (lv_room (Nat.le_of_ble_eq_true rfl)) dX2_remove_2 ⟨Nat.le_of_ble_eq_true rfl, Nat.le_of_ble_eq_true rfl⟩) ?_
  refine x_top (nI 1) (by rw [decide_eq_true (pl_t hj)]; rfl) ?_
  refine lv_if_eq (tgt := 12) hx hb dX2_remove_5 (by decide) (fun h => absurd h (by decide)) (fun _ => ?_)
  refine lv_iconst (v := nI 0) hx hb dX2_remove_8 (by decide) ?_
  refine lv_goto (tgt := 13) hx hb dX2_remove_9 (by decide) ?_
  have hP : va_P D vwCl ([] ++ (MWs cI m0 a1 a2 a3 a4 K R L N ld o b k t)) s.heap := hP
  have hD : va_D A ([] ++ (MWs cI m0 a1 a2 a3 a4 K R L N ld o b k t)) := hD
  have hFc := xfree (wc := (MWs cI m0 a1 a2 a3 a4 K R L N ld o b k t)) hD hS hA (fun _ h => List.mem_append_right _ h)
  have hPc := xP_sub (w2 := (MWs cI m0 a1 a2 a3 a4 K R L N ld o b k t)) (fun _ h => List.mem_append_right _ h) hP
  have hDc : va_D (fun _ => True) (MWs cI m0 a1 a2 a3 a4 K R L N ld o b k t) := (xD_sub (List.sublist_append_right _ _) hD).weaken (fun _ _ _ _ => trivial)
  refine va_calli (va_runV (As := [.int (nI 0)]) (rest := []) ⟨hx, hb, hml, hown, hts⟩ (c_X2_goes l m0 a1 a2 a3 a4 K R L N ld o b k t 0 (by omega) s.heap.size) (cwV 1 hts gX2_remove_X2_goes rfl rfl rfl (by decide +kernel) ⟨(Nat.le_of_ble_eq_true rfl), (Nat.le_of_ble_eq_true rfl)⟩) ⟨XP_blind, va_recv hK hP (ci := 2) (q0 := 0) rfl rfl, XP_pre hE ⟨rfl, hPc, hDc⟩⟩ rfl rfl hl.1 rfl (lv_room (Nat.le_of_ble_eq_true rfl)) dX2_remove_13 ⟨by first | exact Nat.le_of_ble_eq_true rfl | (show _ + _ ≤ _; omega), by first | exact Nat.le_of_ble_eq_true rfl | (show _ + _ ≤ _; omega)⟩) hS (fun q9 _ h => hFc q9 h) hFc (fun r9 u t9 H1 locs ht9 hvm9 hw9 hB9 hzc hkc hS => ?_)
  obtain ⟨hP1, hD1⟩ := hB9
  rw [ht9] at hP1
  obtain ⟨hP, hD⟩ := xjoin (wr := []) (wc := (MWs cI m0 a1 a2 a3 a4 K R L N ld o b k t)) (w1 := (MWs cI m0 a1 a2 a3 a4 K R L N ld o b k 0)) hP hD hkc hFc hP1 hD1
  generalize H1 = H at hP hS ⊢
  subst hw9
  have hP : va_P D vwCl [(m0, .inr (2, [.ref a1, .ref a2, .ref a3, .ref a4, .int (nI ld), .int (nI o), .int (nI b), .int (nI k), .int (nI 0)])), (a1, .inl (cI, 252, .inl K)), (a2, .inl (cI, 252, .inl R)), (a3, .inl (cI, 252, .inl L)), (a4, .inl (cI, 3024, .inl N))] H := hP
  have hD : va_D A [(m0, .inr (2, [.ref a1, .ref a2, .ref a3, .ref a4, .int (nI ld), .int (nI o), .int (nI b), .int (nI k), .int (nI 0)])), (a1, .inl (cI, 252, .inl K)), (a2, .inl (cI, 252, .inl R)), (a3, .inl (cI, 252, .inl L)), (a4, .inl (cI, 3024, .inl N))] := hD
  refine x_top (nI 1) rfl ?_
  refine lv_if_eq (tgt := 28) hx hb dX2_remove_16 (by decide) (fun h => absurd h (by decide)) (fun _ => ?_)
  refine lv_aload_n hx hb dX2_remove_19 rfl (lv_at hl 0 rfl) ?_
  refine lv_iload_n hx hb dX2_remove_20 rfl (lv_at hl 1 rfl) ?_
  refine lv_iconst (v := nI 0) hx hb dX2_remove_21 (by decide) ?_
  have hP : va_P D vwCl ([] ++ (MWs cI m0 a1 a2 a3 a4 K R L N ld o b k 0)) H := hP
  have hD : va_D A ([] ++ (MWs cI m0 a1 a2 a3 a4 K R L N ld o b k 0)) := hD
  have hFc := xfree (wc := (MWs cI m0 a1 a2 a3 a4 K R L N ld o b k 0)) hD hS hA (fun _ h => List.mem_append_right _ h)
  have hPc := xP_sub (w2 := (MWs cI m0 a1 a2 a3 a4 K R L N ld o b k 0)) (fun _ h => List.mem_append_right _ h) hP
  have hDc : va_D (fun _ => True) (MWs cI m0 a1 a2 a3 a4 K R L N ld o b k 0) := (xD_sub (List.sublist_append_right _ _) hD).weaken (fun _ _ _ _ => trivial)
  refine va_calli (va_runV (As := [.int (nI j), .int (nI 0)]) (rest := []) ⟨hx, hb, hml, hown, hts⟩ (c_X2_becomes l m0 a1 a2 a3 a4 K R L N ld o b k 0 G hM j 0 hj H.size) (cwV 2 hts gX2_remove_X2_becomes rfl rfl rfl (by decide +kernel) ⟨(Nat.le_of_ble_eq_true rfl), (Nat.le_of_ble_eq_true rfl)⟩) ⟨XP_blind, va_recv hK hP (ci := 2) (q0 := 0) rfl rfl, XP_pre hE ⟨rfl, hPc, hDc⟩⟩ rfl rfl hl.1 rfl (lv_room (Nat.le_of_ble_eq_true rfl)) dX2_remove_22 ⟨by first | exact Nat.le_of_ble_eq_true rfl | (show _ + _ ≤ _; omega), by first | exact Nat.le_of_ble_eq_true rfl | (show _ + _ ≤ _; omega)⟩) hS (fun q9 _ h => hFc q9 h) hFc (fun r9 u t9 H1 locs ht9 hvm9 hw9 hB9 hzc hkc hS => ?_)
  obtain ⟨hP1, hD1⟩ := hB9
  rw [ht9] at hP1
  obtain ⟨hP, hD⟩ := xjoin (wr := []) (wc := (MWs cI m0 a1 a2 a3 a4 K R L N ld o b k 0)) (w1 := (MWs cI m0 a1 a2 a3 a4 (upd K (246 + j) (nI 0)) (upd R (246 + j) (nI 0)) (upd L (246 + j) (nI 0)) N ld o b k 0)) hP hD hkc hFc hP1 hD1
  generalize H1 = H at hP hS ⊢
  subst hw9
  have hP : va_P D vwCl [(m0, .inr (2, [.ref a1, .ref a2, .ref a3, .ref a4, .int (nI ld), .int (nI o), .int (nI b), .int (nI k), .int (nI 0)])), (a1, .inl (cI, 252, .inl (upd K (246 + j) (nI 0)))), (a2, .inl (cI, 252, .inl (upd R (246 + j) (nI 0)))), (a3, .inl (cI, 252, .inl (upd L (246 + j) (nI 0)))), (a4, .inl (cI, 3024, .inl N))] H := hP
  have hD : va_D A [(m0, .inr (2, [.ref a1, .ref a2, .ref a3, .ref a4, .int (nI ld), .int (nI o), .int (nI b), .int (nI k), .int (nI 0)])), (a1, .inl (cI, 252, .inl (upd K (246 + j) (nI 0)))), (a2, .inl (cI, 252, .inl (upd R (246 + j) (nI 0)))), (a3, .inl (cI, 252, .inl (upd L (246 + j) (nI 0)))), (a4, .inl (cI, 3024, .inl N))] := hD
  refine lv_goto (tgt := 29) hx hb dX2_remove_25 (by decide) ?_
  exact W.iret hx hb hr (fun t9 ht9 hW9 => ⟨⟨_, (), rfl, rfl, _, _, _, _, by rw [ht9]; exact hP, hD, MA.set hM (Nat.le_of_ble_eq_true rfl) (pk_us) (fun z h => pk_un h) (pk_us) (fun z h => pk_un h) (pk_us) (fun z h => pk_un h) (fun _ h => absurd h (Nat.not_lt_zero _)) (fun _ _ => rfl)⟩, hS.F ht9⟩) hS.2.2 dX2_remove_29

set_option maxHeartbeats 4000000 in
set_option maxRecDepth 100000 in
theorem c_X2_remove_b (l : Launch) {D : va_G} {cI cT cJ : ClassId} (m0 a1 a2 a3 a4 : Nat) (K R L N : Nat → Int32) (ld o b k t : Nat) (G : Nat → Tv) (hM : MA G K R L N) (v : Int32) (hv : ¬ Pl v) (sz : Nat) : Met l yX2_remove wsX2_remove (rmD 5 0 0) (XP D cI cT cJ [.ref m0, .int v] (fun H => H.size = sz ∧ va_P D vwCl (MWs cI m0 a1 a2 a3 a4 K R L N ld o b k t) H ∧ va_D (fun _ => True) (MWs cI m0 a1 a2 a3 a4 K R L N ld o b k t))) (va_Qi (S := Unit) (fun r _ => True) (fun _ t9 => MB D cI m0 a1 a2 a3 a4 (va_A (MWs cI m0 a1 a2 a3 a4 K R L N ld o b k t) sz) (G, o, ld, b, k) 1 t9.heap) (va_A (MWs cI m0 a1 a2 a3 a4 K R L N ld o b k t) sz)) 0 0 (va_A (MWs cI m0 a1 a2 a3 a4 K R L N ld o b k t) sz) := by
  refine Met.ofW (cc := cX2_remove) (maxL := 2) (ret := (some .int)) (by decide) rfl ?_
  intro p e s m args below meth c s₁ B hml hv
  obtain ⟨rfl, ⟨hsz, hP, hD0⟩, hE⟩ := hv
  have hx := B.exec
  have hb := B.bytes
  have hr := B.returns
  have hts := atoms_spec (ws := wsX2_remove) B.pre
  have hown : s.vm.findClass RX2 = some m.cls := findClass_of_methodNamed B.named
  have hlocks := B.notSynchronized
  have hl := lv_entry ([.ref m0, .int v]) (n := 2) (Nat.le_of_ble_eq_true rfl)
  rw [lg_entry_eq]
  generalize (lg_sl ([.ref m0, .int v]) ++ List.replicate (2 - (lg_sl ([.ref m0, .int v])).length) Slot.unset).toArray = ls at hl ⊢
  have hl : lv_has ls 2 [(0, .ref m0), (1, .int v)] := hl
  have hK := hE.1
  subst hsz
  have hD := hD0.self (sz := s.heap.size)
  generalize hAe : va_A ((MWs cI m0 a1 a2 a3 a4 K R L N ld o b k t)) s.heap.size = A at hD ⊢
  have hA : ∀ q : Nat, s.heap.size ≤ q → A q := fun q h => by rw [← hAe]; exact Or.inr h
  have hS : va_S A s.heap s.heap [] := va_S.rf
  refine lv_aload_n hx hb dX2_remove_0 rfl (lv_at hl 0 rfl) ?_
  refine lv_iload_n hx hb dX2_remove_1 rfl (lv_at hl 1 rfl) ?_
  refine xc_sie (va_runS (As := [.int v]) (rest := [.ref m0]) ⟨hx, hb, hml, hown, hts⟩ (c_X2_isPlace l v) (va_cwS 1 hts gX2_remove_X2_isPlace rfl rfl rfl (by decide +kernel) ⟨(Nat.le_of_ble_eq_true rfl), (Nat.le_of_ble_eq_true rfl)⟩) ⟨XP_blind, XP_pre hE trivial⟩ rfl rfl hl.1 rfl (lv_room (Nat.le_of_ble_eq_true rfl)) dX2_remove_2 ⟨Nat.le_of_ble_eq_true rfl, Nat.le_of_ble_eq_true rfl⟩) ?_
  refine x_top (nI 0) (by rw [decide_eq_false (pl_f hv)]; rfl) ?_
  refine lv_if_eq (tgt := 12) hx hb dX2_remove_5 (by decide) (fun _ => ?_) (fun h => absurd h (by decide))
  refine lv_iconst (v := nI 1) hx hb dX2_remove_12 (by decide) ?_
  have hP : va_P D vwCl ([] ++ (MWs cI m0 a1 a2 a3 a4 K R L N ld o b k t)) s.heap := hP
  have hD : va_D A ([] ++ (MWs cI m0 a1 a2 a3 a4 K R L N ld o b k t)) := hD
  have hFc := xfree (wc := (MWs cI m0 a1 a2 a3 a4 K R L N ld o b k t)) hD hS hA (fun _ h => List.mem_append_right _ h)
  have hPc := xP_sub (w2 := (MWs cI m0 a1 a2 a3 a4 K R L N ld o b k t)) (fun _ h => List.mem_append_right _ h) hP
  have hDc : va_D (fun _ => True) (MWs cI m0 a1 a2 a3 a4 K R L N ld o b k t) := (xD_sub (List.sublist_append_right _ _) hD).weaken (fun _ _ _ _ => trivial)
  refine va_calli (va_runV (As := [.int (nI 1)]) (rest := []) ⟨hx, hb, hml, hown, hts⟩ (c_X2_goes l m0 a1 a2 a3 a4 K R L N ld o b k t 1 (by omega) s.heap.size) (cwV 1 hts gX2_remove_X2_goes rfl rfl rfl (by decide +kernel) ⟨(Nat.le_of_ble_eq_true rfl), (Nat.le_of_ble_eq_true rfl)⟩) ⟨XP_blind, va_recv hK hP (ci := 2) (q0 := 0) rfl rfl, XP_pre hE ⟨rfl, hPc, hDc⟩⟩ rfl rfl hl.1 rfl (lv_room (Nat.le_of_ble_eq_true rfl)) dX2_remove_13 ⟨by first | exact Nat.le_of_ble_eq_true rfl | (show _ + _ ≤ _; omega), by first | exact Nat.le_of_ble_eq_true rfl | (show _ + _ ≤ _; omega)⟩) hS (fun q9 _ h => hFc q9 h) hFc (fun r9 u t9 H1 locs ht9 hvm9 hw9 hB9 hzc hkc hS => ?_)
  obtain ⟨hP1, hD1⟩ := hB9
  rw [ht9] at hP1
  obtain ⟨hP, hD⟩ := xjoin (wr := []) (wc := (MWs cI m0 a1 a2 a3 a4 K R L N ld o b k t)) (w1 := (MWs cI m0 a1 a2 a3 a4 K R L N ld o b k 1)) hP hD hkc hFc hP1 hD1
  generalize H1 = H at hP hS ⊢
  subst hw9
  have hP : va_P D vwCl [(m0, .inr (2, [.ref a1, .ref a2, .ref a3, .ref a4, .int (nI ld), .int (nI o), .int (nI b), .int (nI k), .int (nI 1)])), (a1, .inl (cI, 252, .inl K)), (a2, .inl (cI, 252, .inl R)), (a3, .inl (cI, 252, .inl L)), (a4, .inl (cI, 3024, .inl N))] H := hP
  have hD : va_D A [(m0, .inr (2, [.ref a1, .ref a2, .ref a3, .ref a4, .int (nI ld), .int (nI o), .int (nI b), .int (nI k), .int (nI 1)])), (a1, .inl (cI, 252, .inl K)), (a2, .inl (cI, 252, .inl R)), (a3, .inl (cI, 252, .inl L)), (a4, .inl (cI, 3024, .inl N))] := hD
  refine x_top (nI 0) rfl ?_
  refine lv_if_eq (tgt := 28) hx hb dX2_remove_16 (by decide) (fun _ => ?_) (fun h => absurd h (by decide))
  refine lv_iconst (v := nI 0) hx hb dX2_remove_28 (by decide) ?_
  exact W.iret hx hb hr (fun t9 ht9 hW9 => ⟨⟨_, (), rfl, trivial, _, _, _, _, by rw [ht9]; exact hP, hD, hM⟩, hS.F ht9⟩) hS.2.2 dX2_remove_29

theorem iw_X2makeLink_X2 : ∀ w ∈ u_ws RX2 TX2 9, w ∈ wsX2_makeLink := by decide +kernel
set_option maxHeartbeats 4000000 in
set_option maxRecDepth 100000 in
theorem c_X2_makeLink_g (l : Launch) {D : va_G} {cI cT cJ : ClassId} (m0 a1 a2 a3 a4 : Nat) (K R L N : Nat → Int32) (ld o b k t : Nat) (G : Nat → Tv) (hM : MA G K R L N) (j w : Nat) (hj : j < 6) (hw : w < 6) (sz : Nat) : Met l yX2_makeLink wsX2_makeLink (rmD 5 0 0) (XP D cI cT cJ [.ref m0, .int (nI j), .int (nI w)] (fun H => H.size = sz ∧ va_P D vwCl (MWs cI m0 a1 a2 a3 a4 K R L N ld o b k t) H ∧ va_D (fun _ => True) (MWs cI m0 a1 a2 a3 a4 K R L N ld o b k t))) (va_Qi (S := Unit) (fun r _ => r = (G (246 + j)).1) (fun _ t9 => MB D cI m0 a1 a2 a3 a4 (va_A (MWs cI m0 a1 a2 a3 a4 K R L N ld o b k t) sz) (va_up G (246 + j) (nI 2, nI 0, 1, fun _ => nI w), o, ld, b, k) 0 t9.heap) (va_A (MWs cI m0 a1 a2 a3 a4 K R L N ld o b k t) sz)) 0 0 (va_A (MWs cI m0 a1 a2 a3 a4 K R L N ld o b k t) sz) := by
  refine Met.ofW (cc := cX2_makeLink) (maxL := 4) (ret := (some .int)) (by decide) rfl ?_
  intro p e s m args below meth c s₁ B hml hv
  obtain ⟨rfl, ⟨hsz, hP, hD0⟩, hE⟩ := hv
  have hx := B.exec
  have hb := B.bytes
  have hr := B.returns
  have hts := atoms_spec (ws := wsX2_makeLink) B.pre
  have hown : s.vm.findClass RX2 = some m.cls := findClass_of_methodNamed B.named
  have hlocks := B.notSynchronized
  have hl := lv_entry ([.ref m0, .int (nI j), .int (nI w)]) (n := 4) (Nat.le_of_ble_eq_true rfl)
  rw [lg_entry_eq]
  generalize (lg_sl ([.ref m0, .int (nI j), .int (nI w)]) ++ List.replicate (4 - (lg_sl ([.ref m0, .int (nI j), .int (nI w)])).length) Slot.unset).toArray = ls at hl ⊢
  have hl : lv_has ls 4 [(0, .ref m0), (1, .int (nI j)), (2, .int (nI w))] := hl
  have hK := hE.1
  subst hsz
  have hD := hD0.self (sz := s.heap.size)
  generalize hAe : va_A ((MWs cI m0 a1 a2 a3 a4 K R L N ld o b k t)) s.heap.size = A at hD ⊢
  have hA : ∀ q : Nat, s.heap.size ≤ q → A q := fun q h => by rw [← hAe]; exact Or.inr h
  have hS : va_S A s.heap s.heap [] := va_S.rf
  refine lv_aload_n hx hb dX2_makeLink_0 rfl (lv_at hl 0 rfl) ?_
  refine lv_iload_n hx hb dX2_makeLink_1 rfl (lv_at hl 1 rfl) ?_
  refine xc_sie (va_runS (As := [.int (nI j)]) (rest := [.ref m0]) ⟨hx, hb, hml, hown, hts⟩ (c_X2_isPlace l (nI j)) (va_cwS 1 hts gX2_makeLink_X2_isPlace rfl rfl rfl (by decide +kernel) ⟨(Nat.le_of_ble_eq_true rfl), (Nat.le_of_ble_eq_true rfl)⟩) ⟨XP_blind, XP_pre hE trivial⟩ rfl rfl hl.1 rfl (lv_room (Nat.le_of_ble_eq_true rfl)) dX2_makeLink_2 ⟨Nat.le_of_ble_eq_true rfl, Nat.le_of_ble_eq_true rfl⟩) ?_
  refine x_top (nI 1) (by rw [decide_eq_true (pl_t hj)]; rfl) ?_
  refine lv_if_eq (tgt := 19) hx hb dX2_makeLink_5 (by decide) (fun h => absurd h (by decide)) (fun _ => ?_)
  refine lv_iload_n hx hb dX2_makeLink_8 rfl (lv_at hl 2 rfl) ?_
  refine xc_sie (va_runS (As := [.int (nI w)]) (rest := [.ref m0]) ⟨hx, hb, hml, hown, hts⟩ (c_X2_isPlace l (nI w)) (va_cwS 1 hts gX2_makeLink_X2_isPlace rfl rfl rfl (by decide +kernel) ⟨(Nat.le_of_ble_eq_true rfl), (Nat.le_of_ble_eq_true rfl)⟩) ⟨XP_blind, XP_pre hE trivial⟩ rfl rfl hl.1 rfl (lv_room (Nat.le_of_ble_eq_true rfl)) dX2_makeLink_9 ⟨Nat.le_of_ble_eq_true rfl, Nat.le_of_ble_eq_true rfl⟩) ?_
  refine x_top (nI 1) (by rw [decide_eq_true (pl_t hw)]; rfl) ?_
  refine lv_if_eq (tgt := 19) hx hb dX2_makeLink_12 (by decide) (fun h => absurd h (by decide)) (fun _ => ?_)
  refine lv_iconst (v := nI 0) hx hb dX2_makeLink_15 (by decide) ?_
  refine lv_goto (tgt := 20) hx hb dX2_makeLink_16 (by decide) ?_
  have hP : va_P D vwCl ([] ++ (MWs cI m0 a1 a2 a3 a4 K R L N ld o b k t)) s.heap := hP
  have hD : va_D A ([] ++ (MWs cI m0 a1 a2 a3 a4 K R L N ld o b k t)) := hD
  have hFc := xfree (wc := (MWs cI m0 a1 a2 a3 a4 K R L N ld o b k t)) hD hS hA (fun _ h => List.mem_append_right _ h)
  have hPc := xP_sub (w2 := (MWs cI m0 a1 a2 a3 a4 K R L N ld o b k t)) (fun _ h => List.mem_append_right _ h) hP
  have hDc : va_D (fun _ => True) (MWs cI m0 a1 a2 a3 a4 K R L N ld o b k t) := (xD_sub (List.sublist_append_right _ _) hD).weaken (fun _ _ _ _ => trivial)
  refine va_calli (va_runV (As := [.int (nI 0)]) (rest := []) ⟨hx, hb, hml, hown, hts⟩ (c_X2_goes l m0 a1 a2 a3 a4 K R L N ld o b k t 0 (by omega) s.heap.size) (cwV 1 hts gX2_makeLink_X2_goes rfl rfl rfl (by decide +kernel) ⟨(Nat.le_of_ble_eq_true rfl), (Nat.le_of_ble_eq_true rfl)⟩) ⟨XP_blind, va_recv hK hP (ci := 2) (q0 := 0) rfl rfl, XP_pre hE ⟨rfl, hPc, hDc⟩⟩ rfl rfl hl.1 rfl (lv_room (Nat.le_of_ble_eq_true rfl)) dX2_makeLink_20 ⟨by first | exact Nat.le_of_ble_eq_true rfl | (show _ + _ ≤ _; omega), by first | exact Nat.le_of_ble_eq_true rfl | (show _ + _ ≤ _; omega)⟩) hS (fun q9 _ h => hFc q9 h) hFc (fun r9 u t9 H1 locs ht9 hvm9 hw9 hB9 hzc hkc hS => ?_)
  obtain ⟨hP1, hD1⟩ := hB9
  rw [ht9] at hP1
  obtain ⟨hP, hD⟩ := xjoin (wr := []) (wc := (MWs cI m0 a1 a2 a3 a4 K R L N ld o b k t)) (w1 := (MWs cI m0 a1 a2 a3 a4 K R L N ld o b k 0)) hP hD hkc hFc hP1 hD1
  generalize H1 = H at hP hS ⊢
  subst hw9
  have hP : va_P D vwCl [(m0, .inr (2, [.ref a1, .ref a2, .ref a3, .ref a4, .int (nI ld), .int (nI o), .int (nI b), .int (nI k), .int (nI 0)])), (a1, .inl (cI, 252, .inl K)), (a2, .inl (cI, 252, .inl R)), (a3, .inl (cI, 252, .inl L)), (a4, .inl (cI, 3024, .inl N))] H := hP
  have hD : va_D A [(m0, .inr (2, [.ref a1, .ref a2, .ref a3, .ref a4, .int (nI ld), .int (nI o), .int (nI b), .int (nI k), .int (nI 0)])), (a1, .inl (cI, 252, .inl K)), (a2, .inl (cI, 252, .inl R)), (a3, .inl (cI, 252, .inl L)), (a4, .inl (cI, 3024, .inl N))] := hD
  refine x_top (nI 1) rfl ?_
  refine lv_if_ne (tgt := 28) hx hb dX2_makeLink_23 (by decide) (fun _ => ?_) (fun h => absurd h (by decide))
  refine lv_aload_n hx hb dX2_makeLink_28 rfl (lv_at hl 0 rfl) ?_
  refine lv_iload_n hx hb dX2_makeLink_29 rfl (lv_at hl 1 rfl) ?_
  refine lv_iconst (v := nI 2) hx hb dX2_makeLink_30 (by decide) ?_
  have hP : va_P D vwCl ([] ++ (MWs cI m0 a1 a2 a3 a4 K R L N ld o b k 0)) H := hP
  have hD : va_D A ([] ++ (MWs cI m0 a1 a2 a3 a4 K R L N ld o b k 0)) := hD
  have hFc := xfree (wc := (MWs cI m0 a1 a2 a3 a4 K R L N ld o b k 0)) hD hS hA (fun _ h => List.mem_append_right _ h)
  have hPc := xP_sub (w2 := (MWs cI m0 a1 a2 a3 a4 K R L N ld o b k 0)) (fun _ h => List.mem_append_right _ h) hP
  have hDc : va_D (fun _ => True) (MWs cI m0 a1 a2 a3 a4 K R L N ld o b k 0) := (xD_sub (List.sublist_append_right _ _) hD).weaken (fun _ _ _ _ => trivial)
  refine va_calli (va_runV (As := [.int (nI j), .int (nI 2)]) (rest := []) ⟨hx, hb, hml, hown, hts⟩ (c_X2_becomes l m0 a1 a2 a3 a4 K R L N ld o b k 0 G hM j 2 hj H.size) (cwV 2 hts gX2_makeLink_X2_becomes rfl rfl rfl (by decide +kernel) ⟨(Nat.le_of_ble_eq_true rfl), (Nat.le_of_ble_eq_true rfl)⟩) ⟨XP_blind, va_recv hK hP (ci := 2) (q0 := 0) rfl rfl, XP_pre hE ⟨rfl, hPc, hDc⟩⟩ rfl rfl hl.1 rfl (lv_room (Nat.le_of_ble_eq_true rfl)) dX2_makeLink_31 ⟨by first | exact Nat.le_of_ble_eq_true rfl | (show _ + _ ≤ _; omega), by first | exact Nat.le_of_ble_eq_true rfl | (show _ + _ ≤ _; omega)⟩) hS (fun q9 _ h => hFc q9 h) hFc (fun r9 u t9 H1 locs ht9 hvm9 hw9 hB9 hzc hkc hS => ?_)
  obtain ⟨hP1, hD1⟩ := hB9
  rw [ht9] at hP1
  obtain ⟨hP, hD⟩ := xjoin (wr := []) (wc := (MWs cI m0 a1 a2 a3 a4 K R L N ld o b k 0)) (w1 := (MWs cI m0 a1 a2 a3 a4 (upd K (246 + j) (nI 2)) (upd R (246 + j) (nI 0)) (upd L (246 + j) (nI 0)) N ld o b k 0)) hP hD hkc hFc hP1 hD1
  generalize H1 = H at hP hS ⊢
  subst hw9
  have hP : va_P D vwCl [(m0, .inr (2, [.ref a1, .ref a2, .ref a3, .ref a4, .int (nI ld), .int (nI o), .int (nI b), .int (nI k), .int (nI 0)])), (a1, .inl (cI, 252, .inl (upd K (246 + j) (nI 2)))), (a2, .inl (cI, 252, .inl (upd R (246 + j) (nI 0)))), (a3, .inl (cI, 252, .inl (upd L (246 + j) (nI 0)))), (a4, .inl (cI, 3024, .inl N))] H := hP
  have hD : va_D A [(m0, .inr (2, [.ref a1, .ref a2, .ref a3, .ref a4, .int (nI ld), .int (nI o), .int (nI b), .int (nI k), .int (nI 0)])), (a1, .inl (cI, 252, .inl (upd K (246 + j) (nI 2)))), (a2, .inl (cI, 252, .inl (upd R (246 + j) (nI 0)))), (a3, .inl (cI, 252, .inl (upd L (246 + j) (nI 0)))), (a4, .inl (cI, 3024, .inl N))] := hD
  refine lv_istore_n (lv' := [(3, .int ((G (246 + j)).1)), (0, .ref m0), (1, .int (nI j)), (2, .int (nI w))]) hx hb dX2_makeLink_34 rfl hl (by decide) rfl (fun ls hl => ?_)
  refine lv_aload_n hx hb dX2_makeLink_35 rfl (lv_at hl 1 rfl) ?_
  refine va_get (ci := 2) (v := .ref a3) (C := RX2) (T := TX2) (N := 9) hx hb hts iw_X2makeLink_X2 hown hK hP 0 rfl rfl 2 (by decide) (hts (.fieldLink RX2 16 "BackMirrorModel" "lengths" "[I") (by decide +kernel)) (fun _ h9 => h9) rfl dX2_makeLink_36 ?_
  refine lv_iload_n hx hb dX2_makeLink_39 rfl (lv_at hl 2 rfl) ?_
  refine xc_sie (va_runS (As := [.int (nI j)]) (rest := [.ref a3]) ⟨hx, hb, hml, hown, hts⟩ (c_X2_live l j) (va_cwS 1 hts gX2_makeLink_X2_live rfl rfl rfl (by decide +kernel) ⟨(Nat.le_of_ble_eq_true rfl), (Nat.le_of_ble_eq_true rfl)⟩) ⟨XP_blind, XP_pre hE trivial⟩ rfl rfl hl.1 rfl (lv_room (Nat.le_of_ble_eq_true rfl)) dX2_makeLink_40 ⟨Nat.le_of_ble_eq_true rfl, Nat.le_of_ble_eq_true rfl⟩) ?_
  refine lv_iconst (v := nI 1) hx hb dX2_makeLink_43 (by decide) ?_
  refine va_iast hx hb hK hP hD hS 3 0 rfl rfl (xin (by omega) (by omega)) dX2_makeLink_44 (fun H locs hP hD hS => ?_)
  rw [nI_clamp (show 246 + j < 2 ^ 31 by omega)] at hP hD
  have hP : va_P D vwCl [(m0, .inr (2, [.ref a1, .ref a2, .ref a3, .ref a4, .int (nI ld), .int (nI o), .int (nI b), .int (nI k), .int (nI 0)])), (a1, .inl (cI, 252, .inl (upd K (246 + j) (nI 2)))), (a2, .inl (cI, 252, .inl (upd R (246 + j) (nI 0)))), (a3, .inl (cI, 252, .inl (upd (upd L (246 + j) (nI 0)) (246 + j) (nI 1)))), (a4, .inl (cI, 3024, .inl N))] H := hP
  have hD : va_D A [(m0, .inr (2, [.ref a1, .ref a2, .ref a3, .ref a4, .int (nI ld), .int (nI o), .int (nI b), .int (nI k), .int (nI 0)])), (a1, .inl (cI, 252, .inl (upd K (246 + j) (nI 2)))), (a2, .inl (cI, 252, .inl (upd R (246 + j) (nI 0)))), (a3, .inl (cI, 252, .inl (upd (upd L (246 + j) (nI 0)) (246 + j) (nI 1)))), (a4, .inl (cI, 3024, .inl N))] := hD
  refine lv_aload_n hx hb dX2_makeLink_45 rfl (lv_at hl 1 rfl) ?_
  refine va_get (ci := 2) (v := .ref a4) (C := RX2) (T := TX2) (N := 9) hx hb hts iw_X2makeLink_X2 hown hK hP 0 rfl rfl 3 (by decide) (hts (.fieldLink RX2 19 "BackMirrorModel" "numbers" "[I") (by decide +kernel)) (fun _ h9 => h9) rfl dX2_makeLink_46 ?_
  refine lv_bipush (v := nI 12) hx hb dX2_makeLink_49 (by decide) ?_
  refine lv_iload_n hx hb dX2_makeLink_51 rfl (lv_at hl 2 rfl) ?_
  refine xc_sie (va_runS (As := [.int (nI j)]) (rest := [.int (nI 12), .ref a4]) ⟨hx, hb, hml, hown, hts⟩ (c_X2_live l j) (va_cwS 1 hts gX2_makeLink_X2_live rfl rfl rfl (by decide +kernel) ⟨(Nat.le_of_ble_eq_true rfl), (Nat.le_of_ble_eq_true rfl)⟩) ⟨XP_blind, XP_pre hE trivial⟩ rfl rfl hl.1 rfl (lv_room (Nat.le_of_ble_eq_true rfl)) dX2_makeLink_52 ⟨Nat.le_of_ble_eq_true rfl, Nat.le_of_ble_eq_true rfl⟩) ?_
  refine lv_imul hx hb dX2_makeLink_55 ?_
  refine x_top (nI (12 * (246 + j))) (pk_mul _ _) ?_
  refine lv_iload_n hx hb dX2_makeLink_56 rfl (lv_at hl 3 rfl) ?_
  refine va_iast hx hb hK hP hD hS 4 0 rfl rfl (xin (by omega) (by omega)) dX2_makeLink_57 (fun H locs hP hD hS => ?_)
  rw [nI_clamp (show 12 * (246 + j) < 2 ^ 31 by omega)] at hP hD
  have hP : va_P D vwCl [(m0, .inr (2, [.ref a1, .ref a2, .ref a3, .ref a4, .int (nI ld), .int (nI o), .int (nI b), .int (nI k), .int (nI 0)])), (a1, .inl (cI, 252, .inl (upd K (246 + j) (nI 2)))), (a2, .inl (cI, 252, .inl (upd R (246 + j) (nI 0)))), (a3, .inl (cI, 252, .inl (upd (upd L (246 + j) (nI 0)) (246 + j) (nI 1)))), (a4, .inl (cI, 3024, .inl (upd N (12 * (246 + j)) (nI w))))] H := hP
  have hD : va_D A [(m0, .inr (2, [.ref a1, .ref a2, .ref a3, .ref a4, .int (nI ld), .int (nI o), .int (nI b), .int (nI k), .int (nI 0)])), (a1, .inl (cI, 252, .inl (upd K (246 + j) (nI 2)))), (a2, .inl (cI, 252, .inl (upd R (246 + j) (nI 0)))), (a3, .inl (cI, 252, .inl (upd (upd L (246 + j) (nI 0)) (246 + j) (nI 1)))), (a4, .inl (cI, 3024, .inl (upd N (12 * (246 + j)) (nI w))))] := hD
  refine lv_iload_n hx hb dX2_makeLink_58 rfl (lv_at hl 0 rfl) ?_
  exact W.iret hx hb hr (fun t9 ht9 hW9 => ⟨⟨_, (), rfl, rfl, _, _, _, _, by rw [ht9]; exact hP, hD, MA.set hM (Nat.le_of_ble_eq_true rfl) (pk_us) (fun z h => pk_un h) (pk_us) (fun z h => pk_un h) (pk_us) (fun z h => (pk_un h).trans (pk_un h)) (fun z hz => by rw [Nat.lt_one_iff.mp hz]; exact pk_us) (fun z hz => pk_un (by omega))⟩, hS.F ht9⟩) hS.2.2 dX2_makeLink_59

set_option maxHeartbeats 4000000 in
set_option maxRecDepth 100000 in
theorem c_X2_makeLink_b (l : Launch) {D : va_G} {cI cT cJ : ClassId} (m0 a1 a2 a3 a4 : Nat) (K R L N : Nat → Int32) (ld o b k t : Nat) (G : Nat → Tv) (hM : MA G K R L N) (v w : Int32) (hv : ¬ (Pl v ∧ Pl w)) (sz : Nat) : Met l yX2_makeLink wsX2_makeLink (rmD 5 0 0) (XP D cI cT cJ [.ref m0, .int v, .int w] (fun H => H.size = sz ∧ va_P D vwCl (MWs cI m0 a1 a2 a3 a4 K R L N ld o b k t) H ∧ va_D (fun _ => True) (MWs cI m0 a1 a2 a3 a4 K R L N ld o b k t))) (va_Qi (S := Unit) (fun r _ => True) (fun _ t9 => MB D cI m0 a1 a2 a3 a4 (va_A (MWs cI m0 a1 a2 a3 a4 K R L N ld o b k t) sz) (G, o, ld, b, k) 1 t9.heap) (va_A (MWs cI m0 a1 a2 a3 a4 K R L N ld o b k t) sz)) 0 0 (va_A (MWs cI m0 a1 a2 a3 a4 K R L N ld o b k t) sz) := by
  refine Met.ofW (cc := cX2_makeLink) (maxL := 4) (ret := (some .int)) (by decide) rfl ?_
  intro p e s m args below meth c s₁ B hml hv
  obtain ⟨rfl, ⟨hsz, hP, hD0⟩, hE⟩ := hv
  have hx := B.exec
  have hb := B.bytes
  have hr := B.returns
  have hts := atoms_spec (ws := wsX2_makeLink) B.pre
  have hown : s.vm.findClass RX2 = some m.cls := findClass_of_methodNamed B.named
  have hlocks := B.notSynchronized
  have hl := lv_entry ([.ref m0, .int v, .int w]) (n := 4) (Nat.le_of_ble_eq_true rfl)
  rw [lg_entry_eq]
  generalize (lg_sl ([.ref m0, .int v, .int w]) ++ List.replicate (4 - (lg_sl ([.ref m0, .int v, .int w])).length) Slot.unset).toArray = ls at hl ⊢
  have hl : lv_has ls 4 [(0, .ref m0), (1, .int v), (2, .int w)] := hl
  have hK := hE.1
  subst hsz
  have hD := hD0.self (sz := s.heap.size)
  generalize hAe : va_A ((MWs cI m0 a1 a2 a3 a4 K R L N ld o b k t)) s.heap.size = A at hD ⊢
  have hA : ∀ q : Nat, s.heap.size ≤ q → A q := fun q h => by rw [← hAe]; exact Or.inr h
  have hS : va_S A s.heap s.heap [] := va_S.rf
  refine lv_aload_n hx hb dX2_makeLink_0 rfl (lv_at hl 0 rfl) ?_
  refine lv_iload_n hx hb dX2_makeLink_1 rfl (lv_at hl 1 rfl) ?_
  refine xc_sie (va_runS (As := [.int v]) (rest := [.ref m0]) ⟨hx, hb, hml, hown, hts⟩ (c_X2_isPlace l v) (va_cwS 1 hts gX2_makeLink_X2_isPlace rfl rfl rfl (by decide +kernel) ⟨(Nat.le_of_ble_eq_true rfl), (Nat.le_of_ble_eq_true rfl)⟩) ⟨XP_blind, XP_pre hE trivial⟩ rfl rfl hl.1 rfl (lv_room (Nat.le_of_ble_eq_true rfl)) dX2_makeLink_2 ⟨Nat.le_of_ble_eq_true rfl, Nat.le_of_ble_eq_true rfl⟩) ?_
  refine lv_if_eq (tgt := 19) hx hb dX2_makeLink_5 (by decide) (fun c5 => ?_) (fun c5 => ?_)
  · have c5 : (decide (nI 0 ≤ v ∧ v ≤ nI 5)) = false := bN_f c5
    refine lv_iconst (v := nI 1) hx hb dX2_makeLink_19 (by decide) ?_
    have hP : va_P D vwCl ([] ++ (MWs cI m0 a1 a2 a3 a4 K R L N ld o b k t)) s.heap := hP
    have hD : va_D A ([] ++ (MWs cI m0 a1 a2 a3 a4 K R L N ld o b k t)) := hD
    have hFc := xfree (wc := (MWs cI m0 a1 a2 a3 a4 K R L N ld o b k t)) hD hS hA (fun _ h => List.mem_append_right _ h)
    have hPc := xP_sub (w2 := (MWs cI m0 a1 a2 a3 a4 K R L N ld o b k t)) (fun _ h => List.mem_append_right _ h) hP
    have hDc : va_D (fun _ => True) (MWs cI m0 a1 a2 a3 a4 K R L N ld o b k t) := (xD_sub (List.sublist_append_right _ _) hD).weaken (fun _ _ _ _ => trivial)
    refine va_calli (va_runV (As := [.int (nI 1)]) (rest := []) ⟨hx, hb, hml, hown, hts⟩ (c_X2_goes l m0 a1 a2 a3 a4 K R L N ld o b k t 1 (by omega) s.heap.size) (cwV 1 hts gX2_makeLink_X2_goes rfl rfl rfl (by decide +kernel) ⟨(Nat.le_of_ble_eq_true rfl), (Nat.le_of_ble_eq_true rfl)⟩) ⟨XP_blind, va_recv hK hP (ci := 2) (q0 := 0) rfl rfl, XP_pre hE ⟨rfl, hPc, hDc⟩⟩ rfl rfl hl.1 rfl (lv_room (Nat.le_of_ble_eq_true rfl)) dX2_makeLink_20 ⟨by first | exact Nat.le_of_ble_eq_true rfl | (show _ + _ ≤ _; omega), by first | exact Nat.le_of_ble_eq_true rfl | (show _ + _ ≤ _; omega)⟩) hS (fun q9 _ h => hFc q9 h) hFc (fun r9 u t9 H1 locs ht9 hvm9 hw9 hB9 hzc hkc hS => ?_)
    obtain ⟨hP1, hD1⟩ := hB9
    rw [ht9] at hP1
    obtain ⟨hP, hD⟩ := xjoin (wr := []) (wc := (MWs cI m0 a1 a2 a3 a4 K R L N ld o b k t)) (w1 := (MWs cI m0 a1 a2 a3 a4 K R L N ld o b k 1)) hP hD hkc hFc hP1 hD1
    generalize H1 = H at hP hS ⊢
    subst hw9
    have hP : va_P D vwCl [(m0, .inr (2, [.ref a1, .ref a2, .ref a3, .ref a4, .int (nI ld), .int (nI o), .int (nI b), .int (nI k), .int (nI 1)])), (a1, .inl (cI, 252, .inl K)), (a2, .inl (cI, 252, .inl R)), (a3, .inl (cI, 252, .inl L)), (a4, .inl (cI, 3024, .inl N))] H := hP
    have hD : va_D A [(m0, .inr (2, [.ref a1, .ref a2, .ref a3, .ref a4, .int (nI ld), .int (nI o), .int (nI b), .int (nI k), .int (nI 1)])), (a1, .inl (cI, 252, .inl K)), (a2, .inl (cI, 252, .inl R)), (a3, .inl (cI, 252, .inl L)), (a4, .inl (cI, 3024, .inl N))] := hD
    refine x_top (nI 0) rfl ?_
    refine lv_if_ne (tgt := 28) hx hb dX2_makeLink_23 (by decide) (fun h => absurd h (by decide)) (fun _ => ?_)
    refine lv_iconst (v := nI 0) hx hb dX2_makeLink_26 (by decide) ?_
    exact W.iret hx hb hr (fun t9 ht9 hW9 => ⟨⟨_, (), rfl, trivial, _, _, _, _, by rw [ht9]; exact hP, hD, hM⟩, hS.F ht9⟩) hS.2.2 dX2_makeLink_27
  · have c5 : (decide (nI 0 ≤ v ∧ v ≤ nI 5)) = true := bN_t c5
    refine lv_iload_n hx hb dX2_makeLink_8 rfl (lv_at hl 2 rfl) ?_
    refine xc_sie (va_runS (As := [.int w]) (rest := [.ref m0]) ⟨hx, hb, hml, hown, hts⟩ (c_X2_isPlace l w) (va_cwS 1 hts gX2_makeLink_X2_isPlace rfl rfl rfl (by decide +kernel) ⟨(Nat.le_of_ble_eq_true rfl), (Nat.le_of_ble_eq_true rfl)⟩) ⟨XP_blind, XP_pre hE trivial⟩ rfl rfl hl.1 rfl (lv_room (Nat.le_of_ble_eq_true rfl)) dX2_makeLink_9 ⟨Nat.le_of_ble_eq_true rfl, Nat.le_of_ble_eq_true rfl⟩) ?_
    refine lv_if_eq (tgt := 19) hx hb dX2_makeLink_12 (by decide) (fun c12 => ?_) (fun c12 => ?_)
    · have c12 : (decide (nI 0 ≤ w ∧ w ≤ nI 5)) = false := bN_f c12
      refine lv_iconst (v := nI 1) hx hb dX2_makeLink_19 (by decide) ?_
      have hP : va_P D vwCl ([] ++ (MWs cI m0 a1 a2 a3 a4 K R L N ld o b k t)) s.heap := hP
      have hD : va_D A ([] ++ (MWs cI m0 a1 a2 a3 a4 K R L N ld o b k t)) := hD
      have hFc := xfree (wc := (MWs cI m0 a1 a2 a3 a4 K R L N ld o b k t)) hD hS hA (fun _ h => List.mem_append_right _ h)
      have hPc := xP_sub (w2 := (MWs cI m0 a1 a2 a3 a4 K R L N ld o b k t)) (fun _ h => List.mem_append_right _ h) hP
      have hDc : va_D (fun _ => True) (MWs cI m0 a1 a2 a3 a4 K R L N ld o b k t) := (xD_sub (List.sublist_append_right _ _) hD).weaken (fun _ _ _ _ => trivial)
      refine va_calli (va_runV (As := [.int (nI 1)]) (rest := []) ⟨hx, hb, hml, hown, hts⟩ (c_X2_goes l m0 a1 a2 a3 a4 K R L N ld o b k t 1 (by omega) s.heap.size) (cwV 1 hts gX2_makeLink_X2_goes rfl rfl rfl (by decide +kernel) ⟨(Nat.le_of_ble_eq_true rfl), (Nat.le_of_ble_eq_true rfl)⟩) ⟨XP_blind, va_recv hK hP (ci := 2) (q0 := 0) rfl rfl, XP_pre hE ⟨rfl, hPc, hDc⟩⟩ rfl rfl hl.1 rfl (lv_room (Nat.le_of_ble_eq_true rfl)) dX2_makeLink_20 ⟨by first | exact Nat.le_of_ble_eq_true rfl | (show _ + _ ≤ _; omega), by first | exact Nat.le_of_ble_eq_true rfl | (show _ + _ ≤ _; omega)⟩) hS (fun q9 _ h => hFc q9 h) hFc (fun r9 u t9 H1 locs ht9 hvm9 hw9 hB9 hzc hkc hS => ?_)
      obtain ⟨hP1, hD1⟩ := hB9
      rw [ht9] at hP1
      obtain ⟨hP, hD⟩ := xjoin (wr := []) (wc := (MWs cI m0 a1 a2 a3 a4 K R L N ld o b k t)) (w1 := (MWs cI m0 a1 a2 a3 a4 K R L N ld o b k 1)) hP hD hkc hFc hP1 hD1
      generalize H1 = H at hP hS ⊢
      subst hw9
      have hP : va_P D vwCl [(m0, .inr (2, [.ref a1, .ref a2, .ref a3, .ref a4, .int (nI ld), .int (nI o), .int (nI b), .int (nI k), .int (nI 1)])), (a1, .inl (cI, 252, .inl K)), (a2, .inl (cI, 252, .inl R)), (a3, .inl (cI, 252, .inl L)), (a4, .inl (cI, 3024, .inl N))] H := hP
      have hD : va_D A [(m0, .inr (2, [.ref a1, .ref a2, .ref a3, .ref a4, .int (nI ld), .int (nI o), .int (nI b), .int (nI k), .int (nI 1)])), (a1, .inl (cI, 252, .inl K)), (a2, .inl (cI, 252, .inl R)), (a3, .inl (cI, 252, .inl L)), (a4, .inl (cI, 3024, .inl N))] := hD
      refine x_top (nI 0) rfl ?_
      refine lv_if_ne (tgt := 28) hx hb dX2_makeLink_23 (by decide) (fun h => absurd h (by decide)) (fun _ => ?_)
      refine lv_iconst (v := nI 0) hx hb dX2_makeLink_26 (by decide) ?_
      exact W.iret hx hb hr (fun t9 ht9 hW9 => ⟨⟨_, (), rfl, trivial, _, _, _, _, by rw [ht9]; exact hP, hD, hM⟩, hS.F ht9⟩) hS.2.2 dX2_makeLink_27
    · have c12 : (decide (nI 0 ≤ w ∧ w ≤ nI 5)) = true := bN_t c12
      exact absurd ⟨pl_of c5, pl_of c12⟩ hv

theorem iw_X2put_X2 : ∀ w ∈ u_ws RX2 TX2 9, w ∈ wsX2_put := by decide +kernel
set_option maxHeartbeats 4000000 in
set_option maxRecDepth 100000 in
theorem c_X2_put_g (l : Launch) {D : va_G} {cI cT cJ : ClassId} (m0 a1 a2 a3 a4 : Nat) (K R L N : Nat → Int32) (ld o b k t : Nat) (G : Nat → Tv) (hM : MA G K R L N) (j sp y : Nat) (hj : j < 6) (hPK : PutK (G (246 + j))) (hsp : sp ≤ (G (246 + j)).2.2.1) (hy : y ≤ 9) (sz : Nat) : Met l yX2_put wsX2_put (rmD 5 0 0) (XP D cI cT cJ [.ref m0, .int (nI j), .int (nI sp), .int (nI y)] (fun H => H.size = sz ∧ va_P D vwCl (MWs cI m0 a1 a2 a3 a4 K R L N ld o b k t) H ∧ va_D (fun _ => True) (MWs cI m0 a1 a2 a3 a4 K R L N ld o b k t))) (va_Qi (S := Unit) (fun r _ => r = nI ((G (246 + j)).2.2.1 + 1)) (fun _ t9 => MB D cI m0 a1 a2 a3 a4 (va_A (MWs cI m0 a1 a2 a3 a4 K R L N ld o b k t) sz) (va_up G (246 + j) (nI 1, (G (246 + j)).2.1, (G (246 + j)).2.2.1 + 1, insR (G (246 + j)).2.2.2 sp (nI y)), o, ld, b, k) 0 t9.heap) (va_A (MWs cI m0 a1 a2 a3 a4 K R L N ld o b k t) sz)) 0 0 (va_A (MWs cI m0 a1 a2 a3 a4 K R L N ld o b k t) sz) := by
  refine Met.ofW (cc := cX2_put) (maxL := 6) (ret := (some .int)) (by decide) rfl ?_
  intro p e s m args below meth c s₁ B hml hv
  obtain ⟨rfl, ⟨hsz, hP, hD0⟩, hE⟩ := hv
  have hx := B.exec
  have hb := B.bytes
  have hr := B.returns
  have hts := atoms_spec (ws := wsX2_put) B.pre
  have hown : s.vm.findClass RX2 = some m.cls := findClass_of_methodNamed B.named
  have hlocks := B.notSynchronized
  have hl := lv_entry ([.ref m0, .int (nI j), .int (nI sp), .int (nI y)]) (n := 6) (Nat.le_of_ble_eq_true rfl)
  rw [lg_entry_eq]
  generalize (lg_sl ([.ref m0, .int (nI j), .int (nI sp), .int (nI y)]) ++ List.replicate (6 - (lg_sl ([.ref m0, .int (nI j), .int (nI sp), .int (nI y)])).length) Slot.unset).toArray = ls at hl ⊢
  have hl : lv_has ls 6 [(0, .ref m0), (1, .int (nI j)), (2, .int (nI sp)), (3, .int (nI y))] := hl
  have hK := hE.1
  subst hsz
  have hD := hD0.self (sz := s.heap.size)
  generalize hAe : va_A ((MWs cI m0 a1 a2 a3 a4 K R L N ld o b k t)) s.heap.size = A at hD ⊢
  have hA : ∀ q : Nat, s.heap.size ≤ q → A q := fun q h => by rw [← hAe]; exact Or.inr h
  have hS : va_S A s.heap s.heap [] := va_S.rf
  refine lv_aload_n hx hb dX2_put_0 rfl (lv_at hl 0 rfl) ?_
  refine lv_iload_n hx hb dX2_put_1 rfl (lv_at hl 1 rfl) ?_
  refine xc_sie (va_runS (As := [.int (nI j)]) (rest := [.ref m0]) ⟨hx, hb, hml, hown, hts⟩ (c_X2_isPlace l (nI j)) (va_cwS 1 hts gX2_put_X2_isPlace rfl rfl rfl (by decide +kernel) ⟨(Nat.le_of_ble_eq_true rfl), (Nat.le_of_ble_eq_true rfl)⟩) ⟨XP_blind, XP_pre hE trivial⟩ rfl rfl hl.1 rfl (lv_room (Nat.le_of_ble_eq_true rfl)) dX2_put_2 ⟨Nat.le_of_ble_eq_true rfl, Nat.le_of_ble_eq_true rfl⟩) ?_
  refine x_top (nI 1) (by rw [decide_eq_true (pl_t hj)]; rfl) ?_
  refine lv_if_eq (tgt := 12) hx hb dX2_put_5 (by decide) (fun h => absurd h (by decide)) (fun _ => ?_)
  refine lv_iconst (v := nI 0) hx hb dX2_put_8 (by decide) ?_
  refine lv_goto (tgt := 13) hx hb dX2_put_9 (by decide) ?_
  have hP : va_P D vwCl ([] ++ (MWs cI m0 a1 a2 a3 a4 K R L N ld o b k t)) s.heap := hP
  have hD : va_D A ([] ++ (MWs cI m0 a1 a2 a3 a4 K R L N ld o b k t)) := hD
  have hFc := xfree (wc := (MWs cI m0 a1 a2 a3 a4 K R L N ld o b k t)) hD hS hA (fun _ h => List.mem_append_right _ h)
  have hPc := xP_sub (w2 := (MWs cI m0 a1 a2 a3 a4 K R L N ld o b k t)) (fun _ h => List.mem_append_right _ h) hP
  have hDc : va_D (fun _ => True) (MWs cI m0 a1 a2 a3 a4 K R L N ld o b k t) := (xD_sub (List.sublist_append_right _ _) hD).weaken (fun _ _ _ _ => trivial)
  refine va_calli (va_runV (As := [.int (nI 0)]) (rest := []) ⟨hx, hb, hml, hown, hts⟩ (c_X2_goes l m0 a1 a2 a3 a4 K R L N ld o b k t 0 (by omega) s.heap.size) (cwV 1 hts gX2_put_X2_goes rfl rfl rfl (by decide +kernel) ⟨(Nat.le_of_ble_eq_true rfl), (Nat.le_of_ble_eq_true rfl)⟩) ⟨XP_blind, va_recv hK hP (ci := 2) (q0 := 0) rfl rfl, XP_pre hE ⟨rfl, hPc, hDc⟩⟩ rfl rfl hl.1 rfl (lv_room (Nat.le_of_ble_eq_true rfl)) dX2_put_13 ⟨by first | exact Nat.le_of_ble_eq_true rfl | (show _ + _ ≤ _; omega), by first | exact Nat.le_of_ble_eq_true rfl | (show _ + _ ≤ _; omega)⟩) hS (fun q9 _ h => hFc q9 h) hFc (fun r9 u t9 H1 locs ht9 hvm9 hw9 hB9 hzc hkc hS => ?_)
  obtain ⟨hP1, hD1⟩ := hB9
  rw [ht9] at hP1
  obtain ⟨hP, hD⟩ := xjoin (wr := []) (wc := (MWs cI m0 a1 a2 a3 a4 K R L N ld o b k t)) (w1 := (MWs cI m0 a1 a2 a3 a4 K R L N ld o b k 0)) hP hD hkc hFc hP1 hD1
  generalize H1 = H at hP hS ⊢
  subst hw9
  have hP : va_P D vwCl [(m0, .inr (2, [.ref a1, .ref a2, .ref a3, .ref a4, .int (nI ld), .int (nI o), .int (nI b), .int (nI k), .int (nI 0)])), (a1, .inl (cI, 252, .inl K)), (a2, .inl (cI, 252, .inl R)), (a3, .inl (cI, 252, .inl L)), (a4, .inl (cI, 3024, .inl N))] H := hP
  have hD : va_D A [(m0, .inr (2, [.ref a1, .ref a2, .ref a3, .ref a4, .int (nI ld), .int (nI o), .int (nI b), .int (nI k), .int (nI 0)])), (a1, .inl (cI, 252, .inl K)), (a2, .inl (cI, 252, .inl R)), (a3, .inl (cI, 252, .inl L)), (a4, .inl (cI, 3024, .inl N))] := hD
  refine x_top (nI 1) rfl ?_
  refine lv_if_ne (tgt := 21) hx hb dX2_put_16 (by decide) (fun _ => ?_) (fun h => absurd h (by decide))
  refine lv_iload_n hx hb dX2_put_21 rfl (lv_at hl 1 rfl) ?_
  refine xc_sie (va_runS (As := [.int (nI j)]) (rest := []) ⟨hx, hb, hml, hown, hts⟩ (c_X2_live l j) (va_cwS 1 hts gX2_put_X2_live rfl rfl rfl (by decide +kernel) ⟨(Nat.le_of_ble_eq_true rfl), (Nat.le_of_ble_eq_true rfl)⟩) ⟨XP_blind, XP_pre hE trivial⟩ rfl rfl hl.1 rfl (lv_room (Nat.le_of_ble_eq_true rfl)) dX2_put_22 ⟨Nat.le_of_ble_eq_true rfl, Nat.le_of_ble_eq_true rfl⟩) ?_
  refine lv_istore (lv' := [(4, .int (nI (246 + j))), (0, .ref m0), (1, .int (nI j)), (2, .int (nI sp)), (3, .int (nI y))]) hx hb dX2_put_25 hl (by decide) rfl (fun ls hl => ?_)
  refine lv_aload_n hx hb dX2_put_27 rfl (lv_at hl 1 rfl) ?_
  refine lv_aload_n hx hb dX2_put_28 rfl (lv_at hl 1 rfl) ?_
  refine va_get (ci := 2) (v := .ref a1) (C := RX2) (T := TX2) (N := 9) hx hb hts iw_X2put_X2 hown hK hP 0 rfl rfl 0 (by decide) (hts (.fieldLink RX2 7 "BackMirrorModel" "kinds" "[I") (by decide +kernel)) (fun _ h9 => h9) rfl dX2_put_29 ?_
  refine lv_iload hx hb dX2_put_32 (lv_at hl 0 rfl) ?_
  refine va_iald hx hb hK hP 1 0 rfl rfl (xin (by omega) (by omega)) dX2_put_34 ?_
  refine x_top (K (246 + j)) (by rw [nI_clamp (by omega)]) ?_
  refine x_top ((G (246 + j)).1) ((hM (246 + j) (by omega)).1) ?_
  refine lv_iconst (v := nI 1) hx hb dX2_put_35 (by decide) ?_
  refine lv_icmp_ne (tgt := 51) hx hb dX2_put_36 (by decide) (fun c36 => ?_) (fun c36 => ?_)
  · exact absurd hPK.1 c36
  · refine lv_aload_n hx hb dX2_put_39 rfl (lv_at hl 1 rfl) ?_
    refine va_get (ci := 2) (v := .ref a3) (C := RX2) (T := TX2) (N := 9) hx hb hts iw_X2put_X2 hown hK hP 0 rfl rfl 2 (by decide) (hts (.fieldLink RX2 16 "BackMirrorModel" "lengths" "[I") (by decide +kernel)) (fun _ h9 => h9) rfl dX2_put_40 ?_
    refine lv_iload hx hb dX2_put_43 (lv_at hl 0 rfl) ?_
    refine va_iald hx hb hK hP 3 0 rfl rfl (xin (by omega) (by omega)) dX2_put_45 ?_
    refine x_top (L (246 + j)) (by rw [nI_clamp (by omega)]) ?_
    have hb45 := (hM (246 + j) (by omega)).2.2.2.1
    refine x_top (nI ((G (246 + j)).2.2.1)) ((hM (246 + j) (by omega)).2.2.1) ?_
    refine lv_bipush (v := nI 12) hx hb dX2_put_46 (by decide) ?_
    refine lv_icmp_ne (tgt := 55) hx hb dX2_put_48 (by decide) (fun c48 => ?_) (fun c48 => ?_)
    · have c48 : ¬ ((G (246 + j)).2.2.1) = 12 := fun h => c48 ((xeq (by omega) (by omega)).mpr h)
      refine lv_iload_n hx hb dX2_put_55 rfl (lv_at hl 3 rfl) ?_
      refine lv_iconst (v := nI 0) hx hb dX2_put_56 (by decide) ?_
      refine lv_aload_n hx hb dX2_put_57 rfl (lv_at hl 1 rfl) ?_
      refine va_get (ci := 2) (v := .ref a3) (C := RX2) (T := TX2) (N := 9) hx hb hts iw_X2put_X2 hown hK hP 0 rfl rfl 2 (by decide) (hts (.fieldLink RX2 16 "BackMirrorModel" "lengths" "[I") (by decide +kernel)) (fun _ h9 => h9) rfl dX2_put_58 ?_
      refine lv_iload hx hb dX2_put_61 (lv_at hl 0 rfl) ?_
      refine va_iald hx hb hK hP 3 0 rfl rfl (xin (by omega) (by omega)) dX2_put_63 ?_
      refine x_top (L (246 + j)) (by rw [nI_clamp (by omega)]) ?_
      have hb63 := (hM (246 + j) (by omega)).2.2.2.1
      refine x_top (nI ((G (246 + j)).2.2.1)) ((hM (246 + j) (by omega)).2.2.1) ?_
      refine xc_sie (va_runS (As := [.int (nI sp), .int (nI 0), .int (nI ((G (246 + j)).2.2.1))]) (rest := [.ref m0]) ⟨hx, hb, hml, hown, hts⟩ (c_X2_isIn l (nI sp) (nI 0) (nI ((G (246 + j)).2.2.1))) (va_cwS 3 hts gX2_put_X2_isIn rfl rfl rfl (by decide +kernel) ⟨(Nat.le_of_ble_eq_true rfl), (Nat.le_of_ble_eq_true rfl)⟩) ⟨XP_blind, XP_pre hE trivial⟩ rfl rfl hl.1 rfl (lv_room (Nat.le_of_ble_eq_true rfl)) dX2_put_64 ⟨Nat.le_of_ble_eq_true rfl, Nat.le_of_ble_eq_true rfl⟩) ?_
      refine x_top (nI 1) (by rw [decide_eq_true (in_t (Nat.zero_le _) hsp (by omega))]; rfl) ?_
      refine lv_if_eq (tgt := 84) hx hb dX2_put_67 (by decide) (fun h => absurd h (by decide)) (fun _ => ?_)
      refine lv_iload_n hx hb dX2_put_70 rfl (lv_at hl 4 rfl) ?_
      refine lv_iconst (v := nI 0) hx hb dX2_put_71 (by decide) ?_
      refine lv_bipush (v := nI 9) hx hb dX2_put_72 (by decide) ?_
      refine xc_sie (va_runS (As := [.int (nI y), .int (nI 0), .int (nI 9)]) (rest := [.ref m0]) ⟨hx, hb, hml, hown, hts⟩ (c_X2_isIn l (nI y) (nI 0) (nI 9)) (va_cwS 3 hts gX2_put_X2_isIn rfl rfl rfl (by decide +kernel) ⟨(Nat.le_of_ble_eq_true rfl), (Nat.le_of_ble_eq_true rfl)⟩) ⟨XP_blind, XP_pre hE trivial⟩ rfl rfl hl.1 rfl (lv_room (Nat.le_of_ble_eq_true rfl)) dX2_put_74 ⟨Nat.le_of_ble_eq_true rfl, Nat.le_of_ble_eq_true rfl⟩) ?_
      refine x_top (nI 1) (by rw [decide_eq_true (in_t (Nat.zero_le _) hy (by omega))]; rfl) ?_
      refine lv_if_eq (tgt := 84) hx hb dX2_put_77 (by decide) (fun h => absurd h (by decide)) (fun _ => ?_)
      refine lv_iconst (v := nI 0) hx hb dX2_put_80 (by decide) ?_
      refine lv_goto (tgt := 85) hx hb dX2_put_81 (by decide) ?_
      have hP : va_P D vwCl ([] ++ (MWs cI m0 a1 a2 a3 a4 K R L N ld o b k 0)) H := hP
      have hD : va_D A ([] ++ (MWs cI m0 a1 a2 a3 a4 K R L N ld o b k 0)) := hD
      have hFc := xfree (wc := (MWs cI m0 a1 a2 a3 a4 K R L N ld o b k 0)) hD hS hA (fun _ h => List.mem_append_right _ h)
      have hPc := xP_sub (w2 := (MWs cI m0 a1 a2 a3 a4 K R L N ld o b k 0)) (fun _ h => List.mem_append_right _ h) hP
      have hDc : va_D (fun _ => True) (MWs cI m0 a1 a2 a3 a4 K R L N ld o b k 0) := (xD_sub (List.sublist_append_right _ _) hD).weaken (fun _ _ _ _ => trivial)
      refine va_calli (va_runV (As := [.int (nI 0)]) (rest := []) ⟨hx, hb, hml, hown, hts⟩ (c_X2_goes l m0 a1 a2 a3 a4 K R L N ld o b k 0 0 (by omega) H.size) (cwV 1 hts gX2_put_X2_goes rfl rfl rfl (by decide +kernel) ⟨(Nat.le_of_ble_eq_true rfl), (Nat.le_of_ble_eq_true rfl)⟩) ⟨XP_blind, va_recv hK hP (ci := 2) (q0 := 0) rfl rfl, XP_pre hE ⟨rfl, hPc, hDc⟩⟩ rfl rfl hl.1 rfl (lv_room (Nat.le_of_ble_eq_true rfl)) dX2_put_85 ⟨by first | exact Nat.le_of_ble_eq_true rfl | (show _ + _ ≤ _; omega), by first | exact Nat.le_of_ble_eq_true rfl | (show _ + _ ≤ _; omega)⟩) hS (fun q9 _ h => hFc q9 h) hFc (fun r9 u t9 H1 locs ht9 hvm9 hw9 hB9 hzc hkc hS => ?_)
      obtain ⟨hP1, hD1⟩ := hB9
      rw [ht9] at hP1
      obtain ⟨hP, hD⟩ := xjoin (wr := []) (wc := (MWs cI m0 a1 a2 a3 a4 K R L N ld o b k 0)) (w1 := (MWs cI m0 a1 a2 a3 a4 K R L N ld o b k 0)) hP hD hkc hFc hP1 hD1
      generalize H1 = H at hP hS ⊢
      subst hw9
      have hP : va_P D vwCl [(m0, .inr (2, [.ref a1, .ref a2, .ref a3, .ref a4, .int (nI ld), .int (nI o), .int (nI b), .int (nI k), .int (nI 0)])), (a1, .inl (cI, 252, .inl K)), (a2, .inl (cI, 252, .inl R)), (a3, .inl (cI, 252, .inl L)), (a4, .inl (cI, 3024, .inl N))] H := hP
      have hD : va_D A [(m0, .inr (2, [.ref a1, .ref a2, .ref a3, .ref a4, .int (nI ld), .int (nI o), .int (nI b), .int (nI k), .int (nI 0)])), (a1, .inl (cI, 252, .inl K)), (a2, .inl (cI, 252, .inl R)), (a3, .inl (cI, 252, .inl L)), (a4, .inl (cI, 3024, .inl N))] := hD
      refine x_top (nI 1) rfl ?_
      refine lv_if_ne (tgt := 93) hx hb dX2_put_88 (by decide) (fun _ => ?_) (fun h => absurd h (by decide))
      refine lv_aload_n hx hb dX2_put_93 rfl (lv_at hl 1 rfl) ?_
      refine va_get (ci := 2) (v := .ref a3) (C := RX2) (T := TX2) (N := 9) hx hb hts iw_X2put_X2 hown hK hP 0 rfl rfl 2 (by decide) (hts (.fieldLink RX2 16 "BackMirrorModel" "lengths" "[I") (by decide +kernel)) (fun _ h9 => h9) rfl dX2_put_94 ?_
      refine lv_iload hx hb dX2_put_97 (lv_at hl 0 rfl) ?_
      refine va_iald hx hb hK hP 3 0 rfl rfl (xin (by omega) (by omega)) dX2_put_99 ?_
      refine x_top (L (246 + j)) (by rw [nI_clamp (by omega)]) ?_
      have hb99 := (hM (246 + j) (by omega)).2.2.2.1
      refine x_top (nI ((G (246 + j)).2.2.1)) ((hM (246 + j) (by omega)).2.2.1) ?_
      refine lv_istore (lv' := [(5, .int (nI ((G (246 + j)).2.2.1))), (4, .int (nI (246 + j))), (0, .ref m0), (1, .int (nI j)), (2, .int (nI sp)), (3, .int (nI y))]) hx hb dX2_put_100 hl (by decide) rfl (fun ls hl => ?_)
      refine x_loop (fun n H locs ls => ∃ (q i9 : Nat) (N' : Nat → Int32), (i9 + 1 = n) ∧ (q ≤ sp + i9) ∧ (sp ≤ q) ∧ (q ≤ (G (246 + j)).2.2.1) ∧ (∀ z, N' z = if 12 * (246 + j) + q < z ∧ z ≤ 12 * (246 + j) + (G (246 + j)).2.2.1 then N (z - 1) else N z) ∧ va_P D vwCl [(m0, .inr (2, [.ref a1, .ref a2, .ref a3, .ref a4, .int (nI ld), .int (nI o), .int (nI b), .int (nI k), .int (nI 0)])), (a1, .inl (cI, 252, .inl K)), (a2, .inl (cI, 252, .inl R)), (a3, .inl (cI, 252, .inl L)), (a4, .inl (cI, 3024, .inl N'))] H ∧ va_D A [(m0, .inr (2, [.ref a1, .ref a2, .ref a3, .ref a4, .int (nI ld), .int (nI o), .int (nI b), .int (nI k), .int (nI 0)])), (a1, .inl (cI, 252, .inl K)), (a2, .inl (cI, 252, .inl R)), (a3, .inl (cI, 252, .inl L)), (a4, .inl (cI, 3024, .inl N'))] ∧ va_S A s.heap H locs ∧ lv_has ls 6 [(5, .int (nI q)), (4, .int (nI (246 + j))), (0, .ref m0), (1, .int (nI j)), (2, .int (nI sp)), (3, .int (nI y))]) ((G (246 + j)).2.2.1 + 1) ⟨(G (246 + j)).2.2.1, (G (246 + j)).2.2.1, N, rfl, by omega, by omega, by omega, fun z => by rw [if_neg (by omega)], hP, hD, hS, lv_sub hl [0, 1, 2, 3, 4, 5] rfl⟩ (fun H locs ls h => by obtain ⟨q, i9, N', hk, h1, h2, h3, hv, -⟩ := h; omega) (fun n H locs ls h ih => ?_)
      obtain ⟨q, i9, N', hk, h1, h2, h3, hv, hP, hD, hS, hl⟩ := h
      refine lv_iload hx hb dX2_put_102 (lv_at hl 0 rfl) ?_
      refine lv_iload_n hx hb dX2_put_104 rfl (lv_at hl 4 rfl) ?_
      refine lv_icmp_le (tgt := 142) hx hb dX2_put_105 (by decide) (fun c105 => ?_) (fun c105 => ?_)
      · have c105 : q ≤ sp := (xle (by omega) (by omega)).mp c105
        have hqs : q = sp := by omega
        refine lv_aload_n hx hb dX2_put_142 rfl (lv_at hl 2 rfl) ?_
        refine va_get (ci := 2) (v := .ref a4) (C := RX2) (T := TX2) (N := 9) hx hb hts iw_X2put_X2 hown hK hP 0 rfl rfl 3 (by decide) (hts (.fieldLink RX2 19 "BackMirrorModel" "numbers" "[I") (by decide +kernel)) (fun _ h9 => h9) rfl dX2_put_143 ?_
        refine lv_bipush (v := nI 12) hx hb dX2_put_146 (by decide) ?_
        refine lv_iload hx hb dX2_put_148 (lv_at hl 1 rfl) ?_
        refine lv_imul hx hb dX2_put_150 ?_
        refine x_top (nI (12 * (246 + j))) (pk_mul _ _) ?_
        refine lv_iload_n hx hb dX2_put_151 rfl (lv_at hl 4 rfl) ?_
        refine lv_iadd hx hb dX2_put_152 ?_
        refine x_top (nI ((12 * (246 + j)) + sp)) (xadd (by omega)) ?_
        refine lv_iload_n hx hb dX2_put_153 rfl (lv_at hl 5 rfl) ?_
        refine va_iast hx hb hK hP hD hS 4 0 rfl rfl (xin (by omega) (by omega)) dX2_put_154 (fun H locs hP hD hS => ?_)
        rw [nI_clamp (show (12 * (246 + j)) + sp < 2 ^ 31 by omega)] at hP hD
        have hP : va_P D vwCl [(m0, .inr (2, [.ref a1, .ref a2, .ref a3, .ref a4, .int (nI ld), .int (nI o), .int (nI b), .int (nI k), .int (nI 0)])), (a1, .inl (cI, 252, .inl K)), (a2, .inl (cI, 252, .inl R)), (a3, .inl (cI, 252, .inl L)), (a4, .inl (cI, 3024, .inl (upd N' ((12 * (246 + j)) + sp) (nI y))))] H := hP
        have hD : va_D A [(m0, .inr (2, [.ref a1, .ref a2, .ref a3, .ref a4, .int (nI ld), .int (nI o), .int (nI b), .int (nI k), .int (nI 0)])), (a1, .inl (cI, 252, .inl K)), (a2, .inl (cI, 252, .inl R)), (a3, .inl (cI, 252, .inl L)), (a4, .inl (cI, 3024, .inl (upd N' ((12 * (246 + j)) + sp) (nI y))))] := hD
        refine lv_aload_n hx hb dX2_put_155 rfl (lv_at hl 2 rfl) ?_
        refine va_get (ci := 2) (v := .ref a3) (C := RX2) (T := TX2) (N := 9) hx hb hts iw_X2put_X2 hown hK hP 0 rfl rfl 2 (by decide) (hts (.fieldLink RX2 16 "BackMirrorModel" "lengths" "[I") (by decide +kernel)) (fun _ h9 => h9) rfl dX2_put_156 ?_
        refine lv_iload hx hb dX2_put_159 (lv_at hl 1 rfl) ?_
        refine lv_dup2_11 hx hb dX2_put_161 rfl rfl ?_
        refine va_iald hx hb hK hP 3 0 rfl rfl (xin (by omega) (by omega)) dX2_put_162 ?_
        refine x_top (L (246 + j)) (by rw [nI_clamp (by omega)]) ?_
        have hb162 := (hM (246 + j) (by omega)).2.2.2.1
        refine x_top (nI ((G (246 + j)).2.2.1)) ((hM (246 + j) (by omega)).2.2.1) ?_
        refine lv_iconst (v := nI 1) hx hb dX2_put_163 (by decide) ?_
        refine lv_iadd hx hb dX2_put_164 ?_
        refine x_top (nI (((G (246 + j)).2.2.1) + 1)) (xadd (by omega)) ?_
        refine va_iast hx hb hK hP hD hS 3 0 rfl rfl (xin (by omega) (by omega)) dX2_put_165 (fun H locs hP hD hS => ?_)
        rw [nI_clamp (show 246 + j < 2 ^ 31 by omega)] at hP hD
        have hP : va_P D vwCl [(m0, .inr (2, [.ref a1, .ref a2, .ref a3, .ref a4, .int (nI ld), .int (nI o), .int (nI b), .int (nI k), .int (nI 0)])), (a1, .inl (cI, 252, .inl K)), (a2, .inl (cI, 252, .inl R)), (a3, .inl (cI, 252, .inl (upd L (246 + j) (nI (((G (246 + j)).2.2.1) + 1))))), (a4, .inl (cI, 3024, .inl (upd N' ((12 * (246 + j)) + sp) (nI y))))] H := hP
        have hD : va_D A [(m0, .inr (2, [.ref a1, .ref a2, .ref a3, .ref a4, .int (nI ld), .int (nI o), .int (nI b), .int (nI k), .int (nI 0)])), (a1, .inl (cI, 252, .inl K)), (a2, .inl (cI, 252, .inl R)), (a3, .inl (cI, 252, .inl (upd L (246 + j) (nI (((G (246 + j)).2.2.1) + 1))))), (a4, .inl (cI, 3024, .inl (upd N' ((12 * (246 + j)) + sp) (nI y))))] := hD
        refine lv_aload_n hx hb dX2_put_166 rfl (lv_at hl 2 rfl) ?_
        refine va_get (ci := 2) (v := .ref a3) (C := RX2) (T := TX2) (N := 9) hx hb hts iw_X2put_X2 hown hK hP 0 rfl rfl 2 (by decide) (hts (.fieldLink RX2 16 "BackMirrorModel" "lengths" "[I") (by decide +kernel)) (fun _ h9 => h9) rfl dX2_put_167 ?_
        refine lv_iload hx hb dX2_put_170 (lv_at hl 1 rfl) ?_
        refine va_iald hx hb hK hP 3 0 rfl rfl (xin (by omega) (by omega)) dX2_put_172 ?_
        refine x_top ((upd L (246 + j) (nI (((G (246 + j)).2.2.1) + 1))) (246 + j)) (by rw [nI_clamp (by omega)]) ?_
        refine x_top (nI ((G (246 + j)).2.2.1 + 1)) (pk_us) ?_
        have hM1 := hM (246 + j) (by omega)
        have hn1 : ∀ z, z < (G (246 + j)).2.2.1 + 1 → (upd N' ((12 * (246 + j)) + sp) (nI y)) (12 * (246 + j) + z) = insR (G (246 + j)).2.2.2 sp (nI y) z := by
          intro z hz
          unfold insR
          by_cases e : z = sp
          · subst e; rw [pk_us, if_neg (by omega), if_pos rfl]
          · rw [pk_un (by omega), hv]; by_cases c : z < sp
            · rw [if_neg (by omega), if_pos c]; exact hM1.2.2.2.2 z (by omega)
            · rw [if_pos (by omega), if_neg c, if_neg e, show 12 * (246 + j) + z - 1 = 12 * (246 + j) + (z - 1) by omega]; exact hM1.2.2.2.2 (z - 1) (by omega)
        exact W.iret hx hb hr (fun t9 ht9 hW9 => ⟨⟨_, (), rfl, rfl, _, _, _, _, by rw [ht9]; exact hP, hD, MA.set hM (show (G (246 + j)).2.2.1 + 1 ≤ 12 from hPK.2) (hM1.1.trans hPK.1) (fun _ _ => rfl) (hM1.2.1) (fun _ _ => rfl) (pk_us) (fun z h => pk_un h) hn1 (fun z hz => by rw [pk_un (by omega), hv, if_neg (by omega)])⟩, hS.F ht9⟩) hS.2.2 dX2_put_173
      · have c105 : ¬ q ≤ sp := fun h => c105 ((xle (by omega) (by omega)).mpr h)
        obtain ⟨q1, rfl⟩ : ∃ z, q = z + 1 := ⟨q - 1, by omega⟩
        refine lv_aload_n hx hb dX2_put_108 rfl (lv_at hl 2 rfl) ?_
        refine va_get (ci := 2) (v := .ref a4) (C := RX2) (T := TX2) (N := 9) hx hb hts iw_X2put_X2 hown hK hP 0 rfl rfl 3 (by decide) (hts (.fieldLink RX2 19 "BackMirrorModel" "numbers" "[I") (by decide +kernel)) (fun _ h9 => h9) rfl dX2_put_109 ?_
        refine lv_bipush (v := nI 12) hx hb dX2_put_112 (by decide) ?_
        refine lv_iload hx hb dX2_put_114 (lv_at hl 1 rfl) ?_
        refine lv_imul hx hb dX2_put_116 ?_
        refine x_top (nI (12 * (246 + j))) (pk_mul _ _) ?_
        refine lv_iload hx hb dX2_put_117 (lv_at hl 0 rfl) ?_
        refine lv_iadd hx hb dX2_put_119 ?_
        refine x_top (nI ((12 * (246 + j)) + (q1 + 1))) (xadd (by omega)) ?_
        refine lv_aload_n hx hb dX2_put_120 rfl (lv_at hl 2 rfl) ?_
        refine va_get (ci := 2) (v := .ref a4) (C := RX2) (T := TX2) (N := 9) hx hb hts iw_X2put_X2 hown hK hP 0 rfl rfl 3 (by decide) (hts (.fieldLink RX2 19 "BackMirrorModel" "numbers" "[I") (by decide +kernel)) (fun _ h9 => h9) rfl dX2_put_121 ?_
        refine lv_bipush (v := nI 12) hx hb dX2_put_124 (by decide) ?_
        refine lv_iload hx hb dX2_put_126 (lv_at hl 1 rfl) ?_
        refine lv_imul hx hb dX2_put_128 ?_
        refine x_top (nI (12 * (246 + j))) (pk_mul _ _) ?_
        refine lv_iload hx hb dX2_put_129 (lv_at hl 0 rfl) ?_
        refine lv_iadd hx hb dX2_put_131 ?_
        refine x_top (nI ((12 * (246 + j)) + (q1 + 1))) (xadd (by omega)) ?_
        refine lv_iconst (v := nI 1) hx hb dX2_put_132 (by decide) ?_
        refine lv_isub hx hb dX2_put_133 ?_
        refine x_top (nI (((12 * (246 + j)) + (q1 + 1)) - 1)) (xsub (by omega)) ?_
        refine va_iald hx hb hK hP 4 0 rfl rfl (xin (by omega) (by omega)) dX2_put_134 ?_
        refine x_top (N' (((12 * (246 + j)) + (q1 + 1)) - 1)) (by rw [nI_clamp (by omega)]) ?_
        refine va_iast hx hb hK hP hD hS 4 0 rfl rfl (xin (by omega) (by omega)) dX2_put_135 (fun H locs hP hD hS => ?_)
        rw [nI_clamp (show (12 * (246 + j)) + (q1 + 1) < 2 ^ 31 by omega)] at hP hD
        have hP : va_P D vwCl [(m0, .inr (2, [.ref a1, .ref a2, .ref a3, .ref a4, .int (nI ld), .int (nI o), .int (nI b), .int (nI k), .int (nI 0)])), (a1, .inl (cI, 252, .inl K)), (a2, .inl (cI, 252, .inl R)), (a3, .inl (cI, 252, .inl L)), (a4, .inl (cI, 3024, .inl (upd N' ((12 * (246 + j)) + (q1 + 1)) (N' (((12 * (246 + j)) + (q1 + 1)) - 1)))))] H := hP
        have hD : va_D A [(m0, .inr (2, [.ref a1, .ref a2, .ref a3, .ref a4, .int (nI ld), .int (nI o), .int (nI b), .int (nI k), .int (nI 0)])), (a1, .inl (cI, 252, .inl K)), (a2, .inl (cI, 252, .inl R)), (a3, .inl (cI, 252, .inl L)), (a4, .inl (cI, 3024, .inl (upd N' ((12 * (246 + j)) + (q1 + 1)) (N' (((12 * (246 + j)) + (q1 + 1)) - 1)))))] := hD
        refine lv_iinc (v := nI q1) (lv' := [(5, .int (nI q1)), (4, .int (nI (246 + j))), (0, .ref m0), (1, .int (nI j)), (2, .int (nI sp)), (3, .int (nI y))]) hx hb dX2_put_136 hl (k := 0) rfl (xdec _ _ (by decide)) (by decide) rfl (fun ls hl => ?_)
        refine lv_goto (tgt := 102) hx hb dX2_put_139 (by decide) ?_
        have hv2 : ∀ z, (upd N' ((12 * (246 + j)) + (q1 + 1)) (N' (((12 * (246 + j)) + (q1 + 1)) - 1))) z = if 12 * (246 + j) + q1 < z ∧ z ≤ 12 * (246 + j) + (G (246 + j)).2.2.1 then N (z - 1) else N z := by
          intro z
          by_cases e : z = 12 * (246 + j) + (q1 + 1)
          · subst e; rw [pk_us, hv, if_neg (by omega), if_pos (by omega)]
          · rw [pk_un e, hv]; by_cases c : 12 * (246 + j) + (q1 + 1) < z ∧ z ≤ 12 * (246 + j) + (G (246 + j)).2.2.1
            · rw [if_pos c, if_pos (by omega)]
            · rw [if_neg c, if_neg (by omega)]
        exact ih _ _ _ ⟨q1, i9 - 1, (upd N' ((12 * (246 + j)) + (q1 + 1)) (N' (((12 * (246 + j)) + (q1 + 1)) - 1))), by omega, by omega, by omega, by omega, hv2, hP, hD, hS, lv_sub hl [0, 1, 2, 3, 4, 5] rfl⟩
    · have c48 : ((G (246 + j)).2.2.1) = 12 := (xeq (by omega) (by omega)).mp c48
      exact absurd hPK.2 (by omega)

set_option maxHeartbeats 4000000 in
set_option maxRecDepth 100000 in
theorem c_X2_put_b (l : Launch) {D : va_G} {cI cT cJ : ClassId} (m0 a1 a2 a3 a4 : Nat) (K R L N : Nat → Int32) (ld o b k t : Nat) (G : Nat → Tv) (hM : MA G K R L N) (v w z : Int32) (hv : ¬ Pl v) (sz : Nat) : Met l yX2_put wsX2_put (rmD 5 0 0) (XP D cI cT cJ [.ref m0, .int v, .int w, .int z] (fun H => H.size = sz ∧ va_P D vwCl (MWs cI m0 a1 a2 a3 a4 K R L N ld o b k t) H ∧ va_D (fun _ => True) (MWs cI m0 a1 a2 a3 a4 K R L N ld o b k t))) (va_Qi (S := Unit) (fun r _ => True) (fun _ t9 => MB D cI m0 a1 a2 a3 a4 (va_A (MWs cI m0 a1 a2 a3 a4 K R L N ld o b k t) sz) (G, o, ld, b, k) 1 t9.heap) (va_A (MWs cI m0 a1 a2 a3 a4 K R L N ld o b k t) sz)) 0 0 (va_A (MWs cI m0 a1 a2 a3 a4 K R L N ld o b k t) sz) := by
  refine Met.ofW (cc := cX2_put) (maxL := 6) (ret := (some .int)) (by decide) rfl ?_
  intro p e s m args below meth c s₁ B hml hv
  obtain ⟨rfl, ⟨hsz, hP, hD0⟩, hE⟩ := hv
  have hx := B.exec
  have hb := B.bytes
  have hr := B.returns
  have hts := atoms_spec (ws := wsX2_put) B.pre
  have hown : s.vm.findClass RX2 = some m.cls := findClass_of_methodNamed B.named
  have hlocks := B.notSynchronized
  have hl := lv_entry ([.ref m0, .int v, .int w, .int z]) (n := 6) (Nat.le_of_ble_eq_true rfl)
  rw [lg_entry_eq]
  generalize (lg_sl ([.ref m0, .int v, .int w, .int z]) ++ List.replicate (6 - (lg_sl ([.ref m0, .int v, .int w, .int z])).length) Slot.unset).toArray = ls at hl ⊢
  have hl : lv_has ls 6 [(0, .ref m0), (1, .int v), (2, .int w), (3, .int z)] := hl
  have hK := hE.1
  subst hsz
  have hD := hD0.self (sz := s.heap.size)
  generalize hAe : va_A ((MWs cI m0 a1 a2 a3 a4 K R L N ld o b k t)) s.heap.size = A at hD ⊢
  have hA : ∀ q : Nat, s.heap.size ≤ q → A q := fun q h => by rw [← hAe]; exact Or.inr h
  have hS : va_S A s.heap s.heap [] := va_S.rf
  refine lv_aload_n hx hb dX2_put_0 rfl (lv_at hl 0 rfl) ?_
  refine lv_iload_n hx hb dX2_put_1 rfl (lv_at hl 1 rfl) ?_
  refine xc_sie (va_runS (As := [.int v]) (rest := [.ref m0]) ⟨hx, hb, hml, hown, hts⟩ (c_X2_isPlace l v) (va_cwS 1 hts gX2_put_X2_isPlace rfl rfl rfl (by decide +kernel) ⟨(Nat.le_of_ble_eq_true rfl), (Nat.le_of_ble_eq_true rfl)⟩) ⟨XP_blind, XP_pre hE trivial⟩ rfl rfl hl.1 rfl (lv_room (Nat.le_of_ble_eq_true rfl)) dX2_put_2 ⟨Nat.le_of_ble_eq_true rfl, Nat.le_of_ble_eq_true rfl⟩) ?_
  refine x_top (nI 0) (by rw [decide_eq_false (pl_f hv)]; rfl) ?_
  refine lv_if_eq (tgt := 12) hx hb dX2_put_5 (by decide) (fun _ => ?_) (fun h => absurd h (by decide))
  refine lv_iconst (v := nI 1) hx hb dX2_put_12 (by decide) ?_
  have hP : va_P D vwCl ([] ++ (MWs cI m0 a1 a2 a3 a4 K R L N ld o b k t)) s.heap := hP
  have hD : va_D A ([] ++ (MWs cI m0 a1 a2 a3 a4 K R L N ld o b k t)) := hD
  have hFc := xfree (wc := (MWs cI m0 a1 a2 a3 a4 K R L N ld o b k t)) hD hS hA (fun _ h => List.mem_append_right _ h)
  have hPc := xP_sub (w2 := (MWs cI m0 a1 a2 a3 a4 K R L N ld o b k t)) (fun _ h => List.mem_append_right _ h) hP
  have hDc : va_D (fun _ => True) (MWs cI m0 a1 a2 a3 a4 K R L N ld o b k t) := (xD_sub (List.sublist_append_right _ _) hD).weaken (fun _ _ _ _ => trivial)
  refine va_calli (va_runV (As := [.int (nI 1)]) (rest := []) ⟨hx, hb, hml, hown, hts⟩ (c_X2_goes l m0 a1 a2 a3 a4 K R L N ld o b k t 1 (by omega) s.heap.size) (cwV 1 hts gX2_put_X2_goes rfl rfl rfl (by decide +kernel) ⟨(Nat.le_of_ble_eq_true rfl), (Nat.le_of_ble_eq_true rfl)⟩) ⟨XP_blind, va_recv hK hP (ci := 2) (q0 := 0) rfl rfl, XP_pre hE ⟨rfl, hPc, hDc⟩⟩ rfl rfl hl.1 rfl (lv_room (Nat.le_of_ble_eq_true rfl)) dX2_put_13 ⟨by first | exact Nat.le_of_ble_eq_true rfl | (show _ + _ ≤ _; omega), by first | exact Nat.le_of_ble_eq_true rfl | (show _ + _ ≤ _; omega)⟩) hS (fun q9 _ h => hFc q9 h) hFc (fun r9 u t9 H1 locs ht9 hvm9 hw9 hB9 hzc hkc hS => ?_)
  obtain ⟨hP1, hD1⟩ := hB9
  rw [ht9] at hP1
  obtain ⟨hP, hD⟩ := xjoin (wr := []) (wc := (MWs cI m0 a1 a2 a3 a4 K R L N ld o b k t)) (w1 := (MWs cI m0 a1 a2 a3 a4 K R L N ld o b k 1)) hP hD hkc hFc hP1 hD1
  generalize H1 = H at hP hS ⊢
  subst hw9
  have hP : va_P D vwCl [(m0, .inr (2, [.ref a1, .ref a2, .ref a3, .ref a4, .int (nI ld), .int (nI o), .int (nI b), .int (nI k), .int (nI 1)])), (a1, .inl (cI, 252, .inl K)), (a2, .inl (cI, 252, .inl R)), (a3, .inl (cI, 252, .inl L)), (a4, .inl (cI, 3024, .inl N))] H := hP
  have hD : va_D A [(m0, .inr (2, [.ref a1, .ref a2, .ref a3, .ref a4, .int (nI ld), .int (nI o), .int (nI b), .int (nI k), .int (nI 1)])), (a1, .inl (cI, 252, .inl K)), (a2, .inl (cI, 252, .inl R)), (a3, .inl (cI, 252, .inl L)), (a4, .inl (cI, 3024, .inl N))] := hD
  refine x_top (nI 0) rfl ?_
  refine lv_if_ne (tgt := 21) hx hb dX2_put_16 (by decide) (fun h => absurd h (by decide)) (fun _ => ?_)
  refine lv_iconst (v := nI 0) hx hb dX2_put_19 (by decide) ?_
  exact W.iret hx hb hr (fun t9 ht9 hW9 => ⟨⟨_, (), rfl, trivial, _, _, _, _, by rw [ht9]; exact hP, hD, hM⟩, hS.F ht9⟩) hS.2.2 dX2_put_20

set_option maxHeartbeats 4000000 in
set_option maxRecDepth 100000 in
theorem c_X2_put_c (l : Launch) {D : va_G} {cI cT cJ : ClassId} (m0 a1 a2 a3 a4 : Nat) (K R L N : Nat → Int32) (ld o b k t : Nat) (G : Nat → Tv) (hM : MA G K R L N) (j : Nat) (w z : Int32) (hj : j < 6) (hPK : ¬ PutK (G (246 + j))) (sz : Nat) : Met l yX2_put wsX2_put (rmD 5 0 0) (XP D cI cT cJ [.ref m0, .int (nI j), .int w, .int z] (fun H => H.size = sz ∧ va_P D vwCl (MWs cI m0 a1 a2 a3 a4 K R L N ld o b k t) H ∧ va_D (fun _ => True) (MWs cI m0 a1 a2 a3 a4 K R L N ld o b k t))) (va_Qi (S := Unit) (fun r _ => True) (fun _ t9 => MB D cI m0 a1 a2 a3 a4 (va_A (MWs cI m0 a1 a2 a3 a4 K R L N ld o b k t) sz) (G, o, ld, b, k) 2 t9.heap) (va_A (MWs cI m0 a1 a2 a3 a4 K R L N ld o b k t) sz)) 0 0 (va_A (MWs cI m0 a1 a2 a3 a4 K R L N ld o b k t) sz) := by
  refine Met.ofW (cc := cX2_put) (maxL := 6) (ret := (some .int)) (by decide) rfl ?_
  intro p e s m args below meth c s₁ B hml hv
  obtain ⟨rfl, ⟨hsz, hP, hD0⟩, hE⟩ := hv
  have hx := B.exec
  have hb := B.bytes
  have hr := B.returns
  have hts := atoms_spec (ws := wsX2_put) B.pre
  have hown : s.vm.findClass RX2 = some m.cls := findClass_of_methodNamed B.named
  have hlocks := B.notSynchronized
  have hl := lv_entry ([.ref m0, .int (nI j), .int w, .int z]) (n := 6) (Nat.le_of_ble_eq_true rfl)
  rw [lg_entry_eq]
  generalize (lg_sl ([.ref m0, .int (nI j), .int w, .int z]) ++ List.replicate (6 - (lg_sl ([.ref m0, .int (nI j), .int w, .int z])).length) Slot.unset).toArray = ls at hl ⊢
  have hl : lv_has ls 6 [(0, .ref m0), (1, .int (nI j)), (2, .int w), (3, .int z)] := hl
  have hK := hE.1
  subst hsz
  have hD := hD0.self (sz := s.heap.size)
  generalize hAe : va_A ((MWs cI m0 a1 a2 a3 a4 K R L N ld o b k t)) s.heap.size = A at hD ⊢
  have hA : ∀ q : Nat, s.heap.size ≤ q → A q := fun q h => by rw [← hAe]; exact Or.inr h
  have hS : va_S A s.heap s.heap [] := va_S.rf
  refine lv_aload_n hx hb dX2_put_0 rfl (lv_at hl 0 rfl) ?_
  refine lv_iload_n hx hb dX2_put_1 rfl (lv_at hl 1 rfl) ?_
  refine xc_sie (va_runS (As := [.int (nI j)]) (rest := [.ref m0]) ⟨hx, hb, hml, hown, hts⟩ (c_X2_isPlace l (nI j)) (va_cwS 1 hts gX2_put_X2_isPlace rfl rfl rfl (by decide +kernel) ⟨(Nat.le_of_ble_eq_true rfl), (Nat.le_of_ble_eq_true rfl)⟩) ⟨XP_blind, XP_pre hE trivial⟩ rfl rfl hl.1 rfl (lv_room (Nat.le_of_ble_eq_true rfl)) dX2_put_2 ⟨Nat.le_of_ble_eq_true rfl, Nat.le_of_ble_eq_true rfl⟩) ?_
  refine x_top (nI 1) (by rw [decide_eq_true (pl_t hj)]; rfl) ?_
  refine lv_if_eq (tgt := 12) hx hb dX2_put_5 (by decide) (fun h => absurd h (by decide)) (fun _ => ?_)
  refine lv_iconst (v := nI 0) hx hb dX2_put_8 (by decide) ?_
  refine lv_goto (tgt := 13) hx hb dX2_put_9 (by decide) ?_
  have hP : va_P D vwCl ([] ++ (MWs cI m0 a1 a2 a3 a4 K R L N ld o b k t)) s.heap := hP
  have hD : va_D A ([] ++ (MWs cI m0 a1 a2 a3 a4 K R L N ld o b k t)) := hD
  have hFc := xfree (wc := (MWs cI m0 a1 a2 a3 a4 K R L N ld o b k t)) hD hS hA (fun _ h => List.mem_append_right _ h)
  have hPc := xP_sub (w2 := (MWs cI m0 a1 a2 a3 a4 K R L N ld o b k t)) (fun _ h => List.mem_append_right _ h) hP
  have hDc : va_D (fun _ => True) (MWs cI m0 a1 a2 a3 a4 K R L N ld o b k t) := (xD_sub (List.sublist_append_right _ _) hD).weaken (fun _ _ _ _ => trivial)
  refine va_calli (va_runV (As := [.int (nI 0)]) (rest := []) ⟨hx, hb, hml, hown, hts⟩ (c_X2_goes l m0 a1 a2 a3 a4 K R L N ld o b k t 0 (by omega) s.heap.size) (cwV 1 hts gX2_put_X2_goes rfl rfl rfl (by decide +kernel) ⟨(Nat.le_of_ble_eq_true rfl), (Nat.le_of_ble_eq_true rfl)⟩) ⟨XP_blind, va_recv hK hP (ci := 2) (q0 := 0) rfl rfl, XP_pre hE ⟨rfl, hPc, hDc⟩⟩ rfl rfl hl.1 rfl (lv_room (Nat.le_of_ble_eq_true rfl)) dX2_put_13 ⟨by first | exact Nat.le_of_ble_eq_true rfl | (show _ + _ ≤ _; omega), by first | exact Nat.le_of_ble_eq_true rfl | (show _ + _ ≤ _; omega)⟩) hS (fun q9 _ h => hFc q9 h) hFc (fun r9 u t9 H1 locs ht9 hvm9 hw9 hB9 hzc hkc hS => ?_)
  obtain ⟨hP1, hD1⟩ := hB9
  rw [ht9] at hP1
  obtain ⟨hP, hD⟩ := xjoin (wr := []) (wc := (MWs cI m0 a1 a2 a3 a4 K R L N ld o b k t)) (w1 := (MWs cI m0 a1 a2 a3 a4 K R L N ld o b k 0)) hP hD hkc hFc hP1 hD1
  generalize H1 = H at hP hS ⊢
  subst hw9
  have hP : va_P D vwCl [(m0, .inr (2, [.ref a1, .ref a2, .ref a3, .ref a4, .int (nI ld), .int (nI o), .int (nI b), .int (nI k), .int (nI 0)])), (a1, .inl (cI, 252, .inl K)), (a2, .inl (cI, 252, .inl R)), (a3, .inl (cI, 252, .inl L)), (a4, .inl (cI, 3024, .inl N))] H := hP
  have hD : va_D A [(m0, .inr (2, [.ref a1, .ref a2, .ref a3, .ref a4, .int (nI ld), .int (nI o), .int (nI b), .int (nI k), .int (nI 0)])), (a1, .inl (cI, 252, .inl K)), (a2, .inl (cI, 252, .inl R)), (a3, .inl (cI, 252, .inl L)), (a4, .inl (cI, 3024, .inl N))] := hD
  refine x_top (nI 1) rfl ?_
  refine lv_if_ne (tgt := 21) hx hb dX2_put_16 (by decide) (fun _ => ?_) (fun h => absurd h (by decide))
  refine lv_iload_n hx hb dX2_put_21 rfl (lv_at hl 1 rfl) ?_
  refine xc_sie (va_runS (As := [.int (nI j)]) (rest := []) ⟨hx, hb, hml, hown, hts⟩ (c_X2_live l j) (va_cwS 1 hts gX2_put_X2_live rfl rfl rfl (by decide +kernel) ⟨(Nat.le_of_ble_eq_true rfl), (Nat.le_of_ble_eq_true rfl)⟩) ⟨XP_blind, XP_pre hE trivial⟩ rfl rfl hl.1 rfl (lv_room (Nat.le_of_ble_eq_true rfl)) dX2_put_22 ⟨Nat.le_of_ble_eq_true rfl, Nat.le_of_ble_eq_true rfl⟩) ?_
  refine lv_istore (lv' := [(4, .int (nI (246 + j))), (0, .ref m0), (1, .int (nI j)), (2, .int w), (3, .int z)]) hx hb dX2_put_25 hl (by decide) rfl (fun ls hl => ?_)
  refine lv_aload_n hx hb dX2_put_27 rfl (lv_at hl 1 rfl) ?_
  refine lv_aload_n hx hb dX2_put_28 rfl (lv_at hl 1 rfl) ?_
  refine va_get (ci := 2) (v := .ref a1) (C := RX2) (T := TX2) (N := 9) hx hb hts iw_X2put_X2 hown hK hP 0 rfl rfl 0 (by decide) (hts (.fieldLink RX2 7 "BackMirrorModel" "kinds" "[I") (by decide +kernel)) (fun _ h9 => h9) rfl dX2_put_29 ?_
  refine lv_iload hx hb dX2_put_32 (lv_at hl 0 rfl) ?_
  refine va_iald hx hb hK hP 1 0 rfl rfl (xin (by omega) (by omega)) dX2_put_34 ?_
  refine x_top (K (246 + j)) (by rw [nI_clamp (by omega)]) ?_
  refine x_top ((G (246 + j)).1) ((hM (246 + j) (by omega)).1) ?_
  refine lv_iconst (v := nI 1) hx hb dX2_put_35 (by decide) ?_
  refine lv_icmp_ne (tgt := 51) hx hb dX2_put_36 (by decide) (fun c36 => ?_) (fun c36 => ?_)
  · refine lv_iconst (v := nI 2) hx hb dX2_put_51 (by decide) ?_
    refine lv_goto (tgt := 85) hx hb dX2_put_52 (by decide) ?_
    have hP : va_P D vwCl ([] ++ (MWs cI m0 a1 a2 a3 a4 K R L N ld o b k 0)) H := hP
    have hD : va_D A ([] ++ (MWs cI m0 a1 a2 a3 a4 K R L N ld o b k 0)) := hD
    have hFc := xfree (wc := (MWs cI m0 a1 a2 a3 a4 K R L N ld o b k 0)) hD hS hA (fun _ h => List.mem_append_right _ h)
    have hPc := xP_sub (w2 := (MWs cI m0 a1 a2 a3 a4 K R L N ld o b k 0)) (fun _ h => List.mem_append_right _ h) hP
    have hDc : va_D (fun _ => True) (MWs cI m0 a1 a2 a3 a4 K R L N ld o b k 0) := (xD_sub (List.sublist_append_right _ _) hD).weaken (fun _ _ _ _ => trivial)
    refine va_calli (va_runV (As := [.int (nI 2)]) (rest := []) ⟨hx, hb, hml, hown, hts⟩ (c_X2_goes l m0 a1 a2 a3 a4 K R L N ld o b k 0 2 (by omega) H.size) (cwV 1 hts gX2_put_X2_goes rfl rfl rfl (by decide +kernel) ⟨(Nat.le_of_ble_eq_true rfl), (Nat.le_of_ble_eq_true rfl)⟩) ⟨XP_blind, va_recv hK hP (ci := 2) (q0 := 0) rfl rfl, XP_pre hE ⟨rfl, hPc, hDc⟩⟩ rfl rfl hl.1 rfl (lv_room (Nat.le_of_ble_eq_true rfl)) dX2_put_85 ⟨by first | exact Nat.le_of_ble_eq_true rfl | (show _ + _ ≤ _; omega), by first | exact Nat.le_of_ble_eq_true rfl | (show _ + _ ≤ _; omega)⟩) hS (fun q9 _ h => hFc q9 h) hFc (fun r9 u t9 H1 locs ht9 hvm9 hw9 hB9 hzc hkc hS => ?_)
    obtain ⟨hP1, hD1⟩ := hB9
    rw [ht9] at hP1
    obtain ⟨hP, hD⟩ := xjoin (wr := []) (wc := (MWs cI m0 a1 a2 a3 a4 K R L N ld o b k 0)) (w1 := (MWs cI m0 a1 a2 a3 a4 K R L N ld o b k 2)) hP hD hkc hFc hP1 hD1
    generalize H1 = H at hP hS ⊢
    subst hw9
    have hP : va_P D vwCl [(m0, .inr (2, [.ref a1, .ref a2, .ref a3, .ref a4, .int (nI ld), .int (nI o), .int (nI b), .int (nI k), .int (nI 2)])), (a1, .inl (cI, 252, .inl K)), (a2, .inl (cI, 252, .inl R)), (a3, .inl (cI, 252, .inl L)), (a4, .inl (cI, 3024, .inl N))] H := hP
    have hD : va_D A [(m0, .inr (2, [.ref a1, .ref a2, .ref a3, .ref a4, .int (nI ld), .int (nI o), .int (nI b), .int (nI k), .int (nI 2)])), (a1, .inl (cI, 252, .inl K)), (a2, .inl (cI, 252, .inl R)), (a3, .inl (cI, 252, .inl L)), (a4, .inl (cI, 3024, .inl N))] := hD
    refine x_top (nI 0) rfl ?_
    refine lv_if_ne (tgt := 93) hx hb dX2_put_88 (by decide) (fun h => absurd h (by decide)) (fun _ => ?_)
    refine lv_iconst (v := nI 0) hx hb dX2_put_91 (by decide) ?_
    exact W.iret hx hb hr (fun t9 ht9 hW9 => ⟨⟨_, (), rfl, trivial, _, _, _, _, by rw [ht9]; exact hP, hD, hM⟩, hS.F ht9⟩) hS.2.2 dX2_put_92
  · refine lv_aload_n hx hb dX2_put_39 rfl (lv_at hl 1 rfl) ?_
    refine va_get (ci := 2) (v := .ref a3) (C := RX2) (T := TX2) (N := 9) hx hb hts iw_X2put_X2 hown hK hP 0 rfl rfl 2 (by decide) (hts (.fieldLink RX2 16 "BackMirrorModel" "lengths" "[I") (by decide +kernel)) (fun _ h9 => h9) rfl dX2_put_40 ?_
    refine lv_iload hx hb dX2_put_43 (lv_at hl 0 rfl) ?_
    refine va_iald hx hb hK hP 3 0 rfl rfl (xin (by omega) (by omega)) dX2_put_45 ?_
    refine x_top (L (246 + j)) (by rw [nI_clamp (by omega)]) ?_
    have hb45 := (hM (246 + j) (by omega)).2.2.2.1
    refine x_top (nI ((G (246 + j)).2.2.1)) ((hM (246 + j) (by omega)).2.2.1) ?_
    refine lv_bipush (v := nI 12) hx hb dX2_put_46 (by decide) ?_
    refine lv_icmp_ne (tgt := 55) hx hb dX2_put_48 (by decide) (fun c48 => ?_) (fun c48 => ?_)
    · have c48 : ¬ ((G (246 + j)).2.2.1) = 12 := fun h => c48 ((xeq (by omega) (by omega)).mpr h)
      exact absurd ⟨c36, by omega⟩ hPK
    · have c48 : ((G (246 + j)).2.2.1) = 12 := (xeq (by omega) (by omega)).mp c48
      refine lv_iconst (v := nI 2) hx hb dX2_put_51 (by decide) ?_
      refine lv_goto (tgt := 85) hx hb dX2_put_52 (by decide) ?_
      have hP : va_P D vwCl ([] ++ (MWs cI m0 a1 a2 a3 a4 K R L N ld o b k 0)) H := hP
      have hD : va_D A ([] ++ (MWs cI m0 a1 a2 a3 a4 K R L N ld o b k 0)) := hD
      have hFc := xfree (wc := (MWs cI m0 a1 a2 a3 a4 K R L N ld o b k 0)) hD hS hA (fun _ h => List.mem_append_right _ h)
      have hPc := xP_sub (w2 := (MWs cI m0 a1 a2 a3 a4 K R L N ld o b k 0)) (fun _ h => List.mem_append_right _ h) hP
      have hDc : va_D (fun _ => True) (MWs cI m0 a1 a2 a3 a4 K R L N ld o b k 0) := (xD_sub (List.sublist_append_right _ _) hD).weaken (fun _ _ _ _ => trivial)
      refine va_calli (va_runV (As := [.int (nI 2)]) (rest := []) ⟨hx, hb, hml, hown, hts⟩ (c_X2_goes l m0 a1 a2 a3 a4 K R L N ld o b k 0 2 (by omega) H.size) (cwV 1 hts gX2_put_X2_goes rfl rfl rfl (by decide +kernel) ⟨(Nat.le_of_ble_eq_true rfl), (Nat.le_of_ble_eq_true rfl)⟩) ⟨XP_blind, va_recv hK hP (ci := 2) (q0 := 0) rfl rfl, XP_pre hE ⟨rfl, hPc, hDc⟩⟩ rfl rfl hl.1 rfl (lv_room (Nat.le_of_ble_eq_true rfl)) dX2_put_85 ⟨by first | exact Nat.le_of_ble_eq_true rfl | (show _ + _ ≤ _; omega), by first | exact Nat.le_of_ble_eq_true rfl | (show _ + _ ≤ _; omega)⟩) hS (fun q9 _ h => hFc q9 h) hFc (fun r9 u t9 H1 locs ht9 hvm9 hw9 hB9 hzc hkc hS => ?_)
      obtain ⟨hP1, hD1⟩ := hB9
      rw [ht9] at hP1
      obtain ⟨hP, hD⟩ := xjoin (wr := []) (wc := (MWs cI m0 a1 a2 a3 a4 K R L N ld o b k 0)) (w1 := (MWs cI m0 a1 a2 a3 a4 K R L N ld o b k 2)) hP hD hkc hFc hP1 hD1
      generalize H1 = H at hP hS ⊢
      subst hw9
      have hP : va_P D vwCl [(m0, .inr (2, [.ref a1, .ref a2, .ref a3, .ref a4, .int (nI ld), .int (nI o), .int (nI b), .int (nI k), .int (nI 2)])), (a1, .inl (cI, 252, .inl K)), (a2, .inl (cI, 252, .inl R)), (a3, .inl (cI, 252, .inl L)), (a4, .inl (cI, 3024, .inl N))] H := hP
      have hD : va_D A [(m0, .inr (2, [.ref a1, .ref a2, .ref a3, .ref a4, .int (nI ld), .int (nI o), .int (nI b), .int (nI k), .int (nI 2)])), (a1, .inl (cI, 252, .inl K)), (a2, .inl (cI, 252, .inl R)), (a3, .inl (cI, 252, .inl L)), (a4, .inl (cI, 3024, .inl N))] := hD
      refine x_top (nI 0) rfl ?_
      refine lv_if_ne (tgt := 93) hx hb dX2_put_88 (by decide) (fun h => absurd h (by decide)) (fun _ => ?_)
      refine lv_iconst (v := nI 0) hx hb dX2_put_91 (by decide) ?_
      exact W.iret hx hb hr (fun t9 ht9 hW9 => ⟨⟨_, (), rfl, trivial, _, _, _, _, by rw [ht9]; exact hP, hD, hM⟩, hS.F ht9⟩) hS.2.2 dX2_put_92

set_option maxHeartbeats 4000000 in
set_option maxRecDepth 100000 in
theorem c_X2_put_d (l : Launch) {D : va_G} {cI cT cJ : ClassId} (m0 a1 a2 a3 a4 : Nat) (K R L N : Nat → Int32) (ld o b k t : Nat) (G : Nat → Tv) (hM : MA G K R L N) (j : Nat) (w z : Int32) (hj : j < 6) (hPK : PutK (G (246 + j))) (hbad : ¬ ∃ sp y, sp ≤ (G (246 + j)).2.2.1 ∧ w = nI sp ∧ y ≤ 9 ∧ z = nI y) (sz : Nat) : Met l yX2_put wsX2_put (rmD 5 0 0) (XP D cI cT cJ [.ref m0, .int (nI j), .int w, .int z] (fun H => H.size = sz ∧ va_P D vwCl (MWs cI m0 a1 a2 a3 a4 K R L N ld o b k t) H ∧ va_D (fun _ => True) (MWs cI m0 a1 a2 a3 a4 K R L N ld o b k t))) (va_Qi (S := Unit) (fun r _ => True) (fun _ t9 => MB D cI m0 a1 a2 a3 a4 (va_A (MWs cI m0 a1 a2 a3 a4 K R L N ld o b k t) sz) (G, o, ld, b, k) 3 t9.heap) (va_A (MWs cI m0 a1 a2 a3 a4 K R L N ld o b k t) sz)) 0 0 (va_A (MWs cI m0 a1 a2 a3 a4 K R L N ld o b k t) sz) := by
  refine Met.ofW (cc := cX2_put) (maxL := 6) (ret := (some .int)) (by decide) rfl ?_
  intro p e s m args below meth c s₁ B hml hv
  obtain ⟨rfl, ⟨hsz, hP, hD0⟩, hE⟩ := hv
  have hx := B.exec
  have hb := B.bytes
  have hr := B.returns
  have hts := atoms_spec (ws := wsX2_put) B.pre
  have hown : s.vm.findClass RX2 = some m.cls := findClass_of_methodNamed B.named
  have hlocks := B.notSynchronized
  have hl := lv_entry ([.ref m0, .int (nI j), .int w, .int z]) (n := 6) (Nat.le_of_ble_eq_true rfl)
  rw [lg_entry_eq]
  generalize (lg_sl ([.ref m0, .int (nI j), .int w, .int z]) ++ List.replicate (6 - (lg_sl ([.ref m0, .int (nI j), .int w, .int z])).length) Slot.unset).toArray = ls at hl ⊢
  have hl : lv_has ls 6 [(0, .ref m0), (1, .int (nI j)), (2, .int w), (3, .int z)] := hl
  have hK := hE.1
  subst hsz
  have hD := hD0.self (sz := s.heap.size)
  generalize hAe : va_A ((MWs cI m0 a1 a2 a3 a4 K R L N ld o b k t)) s.heap.size = A at hD ⊢
  have hA : ∀ q : Nat, s.heap.size ≤ q → A q := fun q h => by rw [← hAe]; exact Or.inr h
  have hS : va_S A s.heap s.heap [] := va_S.rf
  refine lv_aload_n hx hb dX2_put_0 rfl (lv_at hl 0 rfl) ?_
  refine lv_iload_n hx hb dX2_put_1 rfl (lv_at hl 1 rfl) ?_
  refine xc_sie (va_runS (As := [.int (nI j)]) (rest := [.ref m0]) ⟨hx, hb, hml, hown, hts⟩ (c_X2_isPlace l (nI j)) (va_cwS 1 hts gX2_put_X2_isPlace rfl rfl rfl (by decide +kernel) ⟨(Nat.le_of_ble_eq_true rfl), (Nat.le_of_ble_eq_true rfl)⟩) ⟨XP_blind, XP_pre hE trivial⟩ rfl rfl hl.1 rfl (lv_room (Nat.le_of_ble_eq_true rfl)) dX2_put_2 ⟨Nat.le_of_ble_eq_true rfl, Nat.le_of_ble_eq_true rfl⟩) ?_
  refine x_top (nI 1) (by rw [decide_eq_true (pl_t hj)]; rfl) ?_
  refine lv_if_eq (tgt := 12) hx hb dX2_put_5 (by decide) (fun h => absurd h (by decide)) (fun _ => ?_)
  refine lv_iconst (v := nI 0) hx hb dX2_put_8 (by decide) ?_
  refine lv_goto (tgt := 13) hx hb dX2_put_9 (by decide) ?_
  have hP : va_P D vwCl ([] ++ (MWs cI m0 a1 a2 a3 a4 K R L N ld o b k t)) s.heap := hP
  have hD : va_D A ([] ++ (MWs cI m0 a1 a2 a3 a4 K R L N ld o b k t)) := hD
  have hFc := xfree (wc := (MWs cI m0 a1 a2 a3 a4 K R L N ld o b k t)) hD hS hA (fun _ h => List.mem_append_right _ h)
  have hPc := xP_sub (w2 := (MWs cI m0 a1 a2 a3 a4 K R L N ld o b k t)) (fun _ h => List.mem_append_right _ h) hP
  have hDc : va_D (fun _ => True) (MWs cI m0 a1 a2 a3 a4 K R L N ld o b k t) := (xD_sub (List.sublist_append_right _ _) hD).weaken (fun _ _ _ _ => trivial)
  refine va_calli (va_runV (As := [.int (nI 0)]) (rest := []) ⟨hx, hb, hml, hown, hts⟩ (c_X2_goes l m0 a1 a2 a3 a4 K R L N ld o b k t 0 (by omega) s.heap.size) (cwV 1 hts gX2_put_X2_goes rfl rfl rfl (by decide +kernel) ⟨(Nat.le_of_ble_eq_true rfl), (Nat.le_of_ble_eq_true rfl)⟩) ⟨XP_blind, va_recv hK hP (ci := 2) (q0 := 0) rfl rfl, XP_pre hE ⟨rfl, hPc, hDc⟩⟩ rfl rfl hl.1 rfl (lv_room (Nat.le_of_ble_eq_true rfl)) dX2_put_13 ⟨by first | exact Nat.le_of_ble_eq_true rfl | (show _ + _ ≤ _; omega), by first | exact Nat.le_of_ble_eq_true rfl | (show _ + _ ≤ _; omega)⟩) hS (fun q9 _ h => hFc q9 h) hFc (fun r9 u t9 H1 locs ht9 hvm9 hw9 hB9 hzc hkc hS => ?_)
  obtain ⟨hP1, hD1⟩ := hB9
  rw [ht9] at hP1
  obtain ⟨hP, hD⟩ := xjoin (wr := []) (wc := (MWs cI m0 a1 a2 a3 a4 K R L N ld o b k t)) (w1 := (MWs cI m0 a1 a2 a3 a4 K R L N ld o b k 0)) hP hD hkc hFc hP1 hD1
  generalize H1 = H at hP hS ⊢
  subst hw9
  have hP : va_P D vwCl [(m0, .inr (2, [.ref a1, .ref a2, .ref a3, .ref a4, .int (nI ld), .int (nI o), .int (nI b), .int (nI k), .int (nI 0)])), (a1, .inl (cI, 252, .inl K)), (a2, .inl (cI, 252, .inl R)), (a3, .inl (cI, 252, .inl L)), (a4, .inl (cI, 3024, .inl N))] H := hP
  have hD : va_D A [(m0, .inr (2, [.ref a1, .ref a2, .ref a3, .ref a4, .int (nI ld), .int (nI o), .int (nI b), .int (nI k), .int (nI 0)])), (a1, .inl (cI, 252, .inl K)), (a2, .inl (cI, 252, .inl R)), (a3, .inl (cI, 252, .inl L)), (a4, .inl (cI, 3024, .inl N))] := hD
  refine x_top (nI 1) rfl ?_
  refine lv_if_ne (tgt := 21) hx hb dX2_put_16 (by decide) (fun _ => ?_) (fun h => absurd h (by decide))
  refine lv_iload_n hx hb dX2_put_21 rfl (lv_at hl 1 rfl) ?_
  refine xc_sie (va_runS (As := [.int (nI j)]) (rest := []) ⟨hx, hb, hml, hown, hts⟩ (c_X2_live l j) (va_cwS 1 hts gX2_put_X2_live rfl rfl rfl (by decide +kernel) ⟨(Nat.le_of_ble_eq_true rfl), (Nat.le_of_ble_eq_true rfl)⟩) ⟨XP_blind, XP_pre hE trivial⟩ rfl rfl hl.1 rfl (lv_room (Nat.le_of_ble_eq_true rfl)) dX2_put_22 ⟨Nat.le_of_ble_eq_true rfl, Nat.le_of_ble_eq_true rfl⟩) ?_
  refine lv_istore (lv' := [(4, .int (nI (246 + j))), (0, .ref m0), (1, .int (nI j)), (2, .int w), (3, .int z)]) hx hb dX2_put_25 hl (by decide) rfl (fun ls hl => ?_)
  refine lv_aload_n hx hb dX2_put_27 rfl (lv_at hl 1 rfl) ?_
  refine lv_aload_n hx hb dX2_put_28 rfl (lv_at hl 1 rfl) ?_
  refine va_get (ci := 2) (v := .ref a1) (C := RX2) (T := TX2) (N := 9) hx hb hts iw_X2put_X2 hown hK hP 0 rfl rfl 0 (by decide) (hts (.fieldLink RX2 7 "BackMirrorModel" "kinds" "[I") (by decide +kernel)) (fun _ h9 => h9) rfl dX2_put_29 ?_
  refine lv_iload hx hb dX2_put_32 (lv_at hl 0 rfl) ?_
  refine va_iald hx hb hK hP 1 0 rfl rfl (xin (by omega) (by omega)) dX2_put_34 ?_
  refine x_top (K (246 + j)) (by rw [nI_clamp (by omega)]) ?_
  refine x_top ((G (246 + j)).1) ((hM (246 + j) (by omega)).1) ?_
  refine lv_iconst (v := nI 1) hx hb dX2_put_35 (by decide) ?_
  refine lv_icmp_ne (tgt := 51) hx hb dX2_put_36 (by decide) (fun c36 => ?_) (fun c36 => ?_)
  · exact absurd hPK.1 c36
  · refine lv_aload_n hx hb dX2_put_39 rfl (lv_at hl 1 rfl) ?_
    refine va_get (ci := 2) (v := .ref a3) (C := RX2) (T := TX2) (N := 9) hx hb hts iw_X2put_X2 hown hK hP 0 rfl rfl 2 (by decide) (hts (.fieldLink RX2 16 "BackMirrorModel" "lengths" "[I") (by decide +kernel)) (fun _ h9 => h9) rfl dX2_put_40 ?_
    refine lv_iload hx hb dX2_put_43 (lv_at hl 0 rfl) ?_
    refine va_iald hx hb hK hP 3 0 rfl rfl (xin (by omega) (by omega)) dX2_put_45 ?_
    refine x_top (L (246 + j)) (by rw [nI_clamp (by omega)]) ?_
    have hb45 := (hM (246 + j) (by omega)).2.2.2.1
    refine x_top (nI ((G (246 + j)).2.2.1)) ((hM (246 + j) (by omega)).2.2.1) ?_
    refine lv_bipush (v := nI 12) hx hb dX2_put_46 (by decide) ?_
    refine lv_icmp_ne (tgt := 55) hx hb dX2_put_48 (by decide) (fun c48 => ?_) (fun c48 => ?_)
    · have c48 : ¬ ((G (246 + j)).2.2.1) = 12 := fun h => c48 ((xeq (by omega) (by omega)).mpr h)
      refine lv_iload_n hx hb dX2_put_55 rfl (lv_at hl 3 rfl) ?_
      refine lv_iconst (v := nI 0) hx hb dX2_put_56 (by decide) ?_
      refine lv_aload_n hx hb dX2_put_57 rfl (lv_at hl 1 rfl) ?_
      refine va_get (ci := 2) (v := .ref a3) (C := RX2) (T := TX2) (N := 9) hx hb hts iw_X2put_X2 hown hK hP 0 rfl rfl 2 (by decide) (hts (.fieldLink RX2 16 "BackMirrorModel" "lengths" "[I") (by decide +kernel)) (fun _ h9 => h9) rfl dX2_put_58 ?_
      refine lv_iload hx hb dX2_put_61 (lv_at hl 0 rfl) ?_
      refine va_iald hx hb hK hP 3 0 rfl rfl (xin (by omega) (by omega)) dX2_put_63 ?_
      refine x_top (L (246 + j)) (by rw [nI_clamp (by omega)]) ?_
      have hb63 := (hM (246 + j) (by omega)).2.2.2.1
      refine x_top (nI ((G (246 + j)).2.2.1)) ((hM (246 + j) (by omega)).2.2.1) ?_
      refine xc_sie (va_runS (As := [.int w, .int (nI 0), .int (nI ((G (246 + j)).2.2.1))]) (rest := [.ref m0]) ⟨hx, hb, hml, hown, hts⟩ (c_X2_isIn l w (nI 0) (nI ((G (246 + j)).2.2.1))) (va_cwS 3 hts gX2_put_X2_isIn rfl rfl rfl (by decide +kernel) ⟨(Nat.le_of_ble_eq_true rfl), (Nat.le_of_ble_eq_true rfl)⟩) ⟨XP_blind, XP_pre hE trivial⟩ rfl rfl hl.1 rfl (lv_room (Nat.le_of_ble_eq_true rfl)) dX2_put_64 ⟨Nat.le_of_ble_eq_true rfl, Nat.le_of_ble_eq_true rfl⟩) ?_
      refine lv_if_eq (tgt := 84) hx hb dX2_put_67 (by decide) (fun c67 => ?_) (fun c67 => ?_)
      · have c67 : (decide (nI 0 ≤ w ∧ w ≤ nI ((G (246 + j)).2.2.1))) = false := bN_f c67
        refine lv_iconst (v := nI 3) hx hb dX2_put_84 (by decide) ?_
        have hP : va_P D vwCl ([] ++ (MWs cI m0 a1 a2 a3 a4 K R L N ld o b k 0)) H := hP
        have hD : va_D A ([] ++ (MWs cI m0 a1 a2 a3 a4 K R L N ld o b k 0)) := hD
        have hFc := xfree (wc := (MWs cI m0 a1 a2 a3 a4 K R L N ld o b k 0)) hD hS hA (fun _ h => List.mem_append_right _ h)
        have hPc := xP_sub (w2 := (MWs cI m0 a1 a2 a3 a4 K R L N ld o b k 0)) (fun _ h => List.mem_append_right _ h) hP
        have hDc : va_D (fun _ => True) (MWs cI m0 a1 a2 a3 a4 K R L N ld o b k 0) := (xD_sub (List.sublist_append_right _ _) hD).weaken (fun _ _ _ _ => trivial)
        refine va_calli (va_runV (As := [.int (nI 3)]) (rest := []) ⟨hx, hb, hml, hown, hts⟩ (c_X2_goes l m0 a1 a2 a3 a4 K R L N ld o b k 0 3 (by omega) H.size) (cwV 1 hts gX2_put_X2_goes rfl rfl rfl (by decide +kernel) ⟨(Nat.le_of_ble_eq_true rfl), (Nat.le_of_ble_eq_true rfl)⟩) ⟨XP_blind, va_recv hK hP (ci := 2) (q0 := 0) rfl rfl, XP_pre hE ⟨rfl, hPc, hDc⟩⟩ rfl rfl hl.1 rfl (lv_room (Nat.le_of_ble_eq_true rfl)) dX2_put_85 ⟨by first | exact Nat.le_of_ble_eq_true rfl | (show _ + _ ≤ _; omega), by first | exact Nat.le_of_ble_eq_true rfl | (show _ + _ ≤ _; omega)⟩) hS (fun q9 _ h => hFc q9 h) hFc (fun r9 u t9 H1 locs ht9 hvm9 hw9 hB9 hzc hkc hS => ?_)
        obtain ⟨hP1, hD1⟩ := hB9
        rw [ht9] at hP1
        obtain ⟨hP, hD⟩ := xjoin (wr := []) (wc := (MWs cI m0 a1 a2 a3 a4 K R L N ld o b k 0)) (w1 := (MWs cI m0 a1 a2 a3 a4 K R L N ld o b k 3)) hP hD hkc hFc hP1 hD1
        generalize H1 = H at hP hS ⊢
        subst hw9
        have hP : va_P D vwCl [(m0, .inr (2, [.ref a1, .ref a2, .ref a3, .ref a4, .int (nI ld), .int (nI o), .int (nI b), .int (nI k), .int (nI 3)])), (a1, .inl (cI, 252, .inl K)), (a2, .inl (cI, 252, .inl R)), (a3, .inl (cI, 252, .inl L)), (a4, .inl (cI, 3024, .inl N))] H := hP
        have hD : va_D A [(m0, .inr (2, [.ref a1, .ref a2, .ref a3, .ref a4, .int (nI ld), .int (nI o), .int (nI b), .int (nI k), .int (nI 3)])), (a1, .inl (cI, 252, .inl K)), (a2, .inl (cI, 252, .inl R)), (a3, .inl (cI, 252, .inl L)), (a4, .inl (cI, 3024, .inl N))] := hD
        refine x_top (nI 0) rfl ?_
        refine lv_if_ne (tgt := 93) hx hb dX2_put_88 (by decide) (fun h => absurd h (by decide)) (fun _ => ?_)
        refine lv_iconst (v := nI 0) hx hb dX2_put_91 (by decide) ?_
        exact W.iret hx hb hr (fun t9 ht9 hW9 => ⟨⟨_, (), rfl, trivial, _, _, _, _, by rw [ht9]; exact hP, hD, hM⟩, hS.F ht9⟩) hS.2.2 dX2_put_92
      · have c67 : (decide (nI 0 ≤ w ∧ w ≤ nI ((G (246 + j)).2.2.1))) = true := bN_t c67
        refine lv_iload_n hx hb dX2_put_70 rfl (lv_at hl 4 rfl) ?_
        refine lv_iconst (v := nI 0) hx hb dX2_put_71 (by decide) ?_
        refine lv_bipush (v := nI 9) hx hb dX2_put_72 (by decide) ?_
        refine xc_sie (va_runS (As := [.int z, .int (nI 0), .int (nI 9)]) (rest := [.ref m0]) ⟨hx, hb, hml, hown, hts⟩ (c_X2_isIn l z (nI 0) (nI 9)) (va_cwS 3 hts gX2_put_X2_isIn rfl rfl rfl (by decide +kernel) ⟨(Nat.le_of_ble_eq_true rfl), (Nat.le_of_ble_eq_true rfl)⟩) ⟨XP_blind, XP_pre hE trivial⟩ rfl rfl hl.1 rfl (lv_room (Nat.le_of_ble_eq_true rfl)) dX2_put_74 ⟨Nat.le_of_ble_eq_true rfl, Nat.le_of_ble_eq_true rfl⟩) ?_
        refine lv_if_eq (tgt := 84) hx hb dX2_put_77 (by decide) (fun c77 => ?_) (fun c77 => ?_)
        · have c77 : (decide (nI 0 ≤ z ∧ z ≤ nI 9)) = false := bN_f c77
          refine lv_iconst (v := nI 3) hx hb dX2_put_84 (by decide) ?_
          have hP : va_P D vwCl ([] ++ (MWs cI m0 a1 a2 a3 a4 K R L N ld o b k 0)) H := hP
          have hD : va_D A ([] ++ (MWs cI m0 a1 a2 a3 a4 K R L N ld o b k 0)) := hD
          have hFc := xfree (wc := (MWs cI m0 a1 a2 a3 a4 K R L N ld o b k 0)) hD hS hA (fun _ h => List.mem_append_right _ h)
          have hPc := xP_sub (w2 := (MWs cI m0 a1 a2 a3 a4 K R L N ld o b k 0)) (fun _ h => List.mem_append_right _ h) hP
          have hDc : va_D (fun _ => True) (MWs cI m0 a1 a2 a3 a4 K R L N ld o b k 0) := (xD_sub (List.sublist_append_right _ _) hD).weaken (fun _ _ _ _ => trivial)
          refine va_calli (va_runV (As := [.int (nI 3)]) (rest := []) ⟨hx, hb, hml, hown, hts⟩ (c_X2_goes l m0 a1 a2 a3 a4 K R L N ld o b k 0 3 (by omega) H.size) (cwV 1 hts gX2_put_X2_goes rfl rfl rfl (by decide +kernel) ⟨(Nat.le_of_ble_eq_true rfl), (Nat.le_of_ble_eq_true rfl)⟩) ⟨XP_blind, va_recv hK hP (ci := 2) (q0 := 0) rfl rfl, XP_pre hE ⟨rfl, hPc, hDc⟩⟩ rfl rfl hl.1 rfl (lv_room (Nat.le_of_ble_eq_true rfl)) dX2_put_85 ⟨by first | exact Nat.le_of_ble_eq_true rfl | (show _ + _ ≤ _; omega), by first | exact Nat.le_of_ble_eq_true rfl | (show _ + _ ≤ _; omega)⟩) hS (fun q9 _ h => hFc q9 h) hFc (fun r9 u t9 H1 locs ht9 hvm9 hw9 hB9 hzc hkc hS => ?_)
          obtain ⟨hP1, hD1⟩ := hB9
          rw [ht9] at hP1
          obtain ⟨hP, hD⟩ := xjoin (wr := []) (wc := (MWs cI m0 a1 a2 a3 a4 K R L N ld o b k 0)) (w1 := (MWs cI m0 a1 a2 a3 a4 K R L N ld o b k 3)) hP hD hkc hFc hP1 hD1
          generalize H1 = H at hP hS ⊢
          subst hw9
          have hP : va_P D vwCl [(m0, .inr (2, [.ref a1, .ref a2, .ref a3, .ref a4, .int (nI ld), .int (nI o), .int (nI b), .int (nI k), .int (nI 3)])), (a1, .inl (cI, 252, .inl K)), (a2, .inl (cI, 252, .inl R)), (a3, .inl (cI, 252, .inl L)), (a4, .inl (cI, 3024, .inl N))] H := hP
          have hD : va_D A [(m0, .inr (2, [.ref a1, .ref a2, .ref a3, .ref a4, .int (nI ld), .int (nI o), .int (nI b), .int (nI k), .int (nI 3)])), (a1, .inl (cI, 252, .inl K)), (a2, .inl (cI, 252, .inl R)), (a3, .inl (cI, 252, .inl L)), (a4, .inl (cI, 3024, .inl N))] := hD
          refine x_top (nI 0) rfl ?_
          refine lv_if_ne (tgt := 93) hx hb dX2_put_88 (by decide) (fun h => absurd h (by decide)) (fun _ => ?_)
          refine lv_iconst (v := nI 0) hx hb dX2_put_91 (by decide) ?_
          exact W.iret hx hb hr (fun t9 ht9 hW9 => ⟨⟨_, (), rfl, trivial, _, _, _, _, by rw [ht9]; exact hP, hD, hM⟩, hS.F ht9⟩) hS.2.2 dX2_put_92
        · have c77 : (decide (nI 0 ≤ z ∧ z ≤ nI 9)) = true := bN_t c77
          exact absurd (by obtain ⟨s9, h1, h2⟩ := in_of0 (by omega) c67; obtain ⟨y9, h3, h4⟩ := in_of0 (by omega) c77; exact ⟨s9, y9, h1, h2, h3, h4⟩) hbad
    · have c48 : ((G (246 + j)).2.2.1) = 12 := (xeq (by omega) (by omega)).mp c48
      exact absurd hPK.2 (by omega)

theorem iw_X2take_X2 : ∀ w ∈ u_ws RX2 TX2 9, w ∈ wsX2_take := by decide +kernel
set_option maxHeartbeats 4000000 in
set_option maxRecDepth 100000 in
theorem c_X2_take_g (l : Launch) {D : va_G} {cI cT cJ : ClassId} (m0 a1 a2 a3 a4 : Nat) (K R L N : Nat → Int32) (ld o b k t : Nat) (G : Nat → Tv) (hM : MA G K R L N) (j sp : Nat) (hj : j < 6) (hk1 : (G (246 + j)).1 = nI 1) (hsp : sp < (G (246 + j)).2.2.1) (sz : Nat) : Met l yX2_take wsX2_take (rmD 5 0 0) (XP D cI cT cJ [.ref m0, .int (nI j), .int (nI sp)] (fun H => H.size = sz ∧ va_P D vwCl (MWs cI m0 a1 a2 a3 a4 K R L N ld o b k t) H ∧ va_D (fun _ => True) (MWs cI m0 a1 a2 a3 a4 K R L N ld o b k t))) (va_Qi (S := Unit) (fun r _ => r = (G (246 + j)).2.2.2 sp) (fun _ t9 => MB D cI m0 a1 a2 a3 a4 (va_A (MWs cI m0 a1 a2 a3 a4 K R L N ld o b k t) sz) (va_up G (246 + j) (nI 1, (G (246 + j)).2.1, (G (246 + j)).2.2.1 - 1, delR (G (246 + j)).2.2.2 sp), o, ld, b, k) 0 t9.heap) (va_A (MWs cI m0 a1 a2 a3 a4 K R L N ld o b k t) sz)) 0 0 (va_A (MWs cI m0 a1 a2 a3 a4 K R L N ld o b k t) sz) := by
  refine Met.ofW (cc := cX2_take) (maxL := 6) (ret := (some .int)) (by decide) rfl ?_
  intro p e s m args below meth c s₁ B hml hv
  obtain ⟨rfl, ⟨hsz, hP, hD0⟩, hE⟩ := hv
  have hx := B.exec
  have hb := B.bytes
  have hr := B.returns
  have hts := atoms_spec (ws := wsX2_take) B.pre
  have hown : s.vm.findClass RX2 = some m.cls := findClass_of_methodNamed B.named
  have hlocks := B.notSynchronized
  have hl := lv_entry ([.ref m0, .int (nI j), .int (nI sp)]) (n := 6) (Nat.le_of_ble_eq_true rfl)
  rw [lg_entry_eq]
  generalize (lg_sl ([.ref m0, .int (nI j), .int (nI sp)]) ++ List.replicate (6 - (lg_sl ([.ref m0, .int (nI j), .int (nI sp)])).length) Slot.unset).toArray = ls at hl ⊢
  have hl : lv_has ls 6 [(0, .ref m0), (1, .int (nI j)), (2, .int (nI sp))] := hl
  have hK := hE.1
  subst hsz
  have hD := hD0.self (sz := s.heap.size)
  generalize hAe : va_A ((MWs cI m0 a1 a2 a3 a4 K R L N ld o b k t)) s.heap.size = A at hD ⊢
  have hA : ∀ q : Nat, s.heap.size ≤ q → A q := fun q h => by rw [← hAe]; exact Or.inr h
  have hS : va_S A s.heap s.heap [] := va_S.rf
  refine lv_aload_n hx hb dX2_take_0 rfl (lv_at hl 0 rfl) ?_
  refine lv_iload_n hx hb dX2_take_1 rfl (lv_at hl 1 rfl) ?_
  refine xc_sie (va_runS (As := [.int (nI j)]) (rest := [.ref m0]) ⟨hx, hb, hml, hown, hts⟩ (c_X2_isPlace l (nI j)) (va_cwS 1 hts gX2_take_X2_isPlace rfl rfl rfl (by decide +kernel) ⟨(Nat.le_of_ble_eq_true rfl), (Nat.le_of_ble_eq_true rfl)⟩) ⟨XP_blind, XP_pre hE trivial⟩ rfl rfl hl.1 rfl (lv_room (Nat.le_of_ble_eq_true rfl)) dX2_take_2 ⟨Nat.le_of_ble_eq_true rfl, Nat.le_of_ble_eq_true rfl⟩) ?_
  refine x_top (nI 1) (by rw [decide_eq_true (pl_t hj)]; rfl) ?_
  refine lv_if_eq (tgt := 12) hx hb dX2_take_5 (by decide) (fun h => absurd h (by decide)) (fun _ => ?_)
  refine lv_iconst (v := nI 0) hx hb dX2_take_8 (by decide) ?_
  refine lv_goto (tgt := 13) hx hb dX2_take_9 (by decide) ?_
  have hP : va_P D vwCl ([] ++ (MWs cI m0 a1 a2 a3 a4 K R L N ld o b k t)) s.heap := hP
  have hD : va_D A ([] ++ (MWs cI m0 a1 a2 a3 a4 K R L N ld o b k t)) := hD
  have hFc := xfree (wc := (MWs cI m0 a1 a2 a3 a4 K R L N ld o b k t)) hD hS hA (fun _ h => List.mem_append_right _ h)
  have hPc := xP_sub (w2 := (MWs cI m0 a1 a2 a3 a4 K R L N ld o b k t)) (fun _ h => List.mem_append_right _ h) hP
  have hDc : va_D (fun _ => True) (MWs cI m0 a1 a2 a3 a4 K R L N ld o b k t) := (xD_sub (List.sublist_append_right _ _) hD).weaken (fun _ _ _ _ => trivial)
  refine va_calli (va_runV (As := [.int (nI 0)]) (rest := []) ⟨hx, hb, hml, hown, hts⟩ (c_X2_goes l m0 a1 a2 a3 a4 K R L N ld o b k t 0 (by omega) s.heap.size) (cwV 1 hts gX2_take_X2_goes rfl rfl rfl (by decide +kernel) ⟨(Nat.le_of_ble_eq_true rfl), (Nat.le_of_ble_eq_true rfl)⟩) ⟨XP_blind, va_recv hK hP (ci := 2) (q0 := 0) rfl rfl, XP_pre hE ⟨rfl, hPc, hDc⟩⟩ rfl rfl hl.1 rfl (lv_room (Nat.le_of_ble_eq_true rfl)) dX2_take_13 ⟨by first | exact Nat.le_of_ble_eq_true rfl | (show _ + _ ≤ _; omega), by first | exact Nat.le_of_ble_eq_true rfl | (show _ + _ ≤ _; omega)⟩) hS (fun q9 _ h => hFc q9 h) hFc (fun r9 u t9 H1 locs ht9 hvm9 hw9 hB9 hzc hkc hS => ?_)
  obtain ⟨hP1, hD1⟩ := hB9
  rw [ht9] at hP1
  obtain ⟨hP, hD⟩ := xjoin (wr := []) (wc := (MWs cI m0 a1 a2 a3 a4 K R L N ld o b k t)) (w1 := (MWs cI m0 a1 a2 a3 a4 K R L N ld o b k 0)) hP hD hkc hFc hP1 hD1
  generalize H1 = H at hP hS ⊢
  subst hw9
  have hP : va_P D vwCl [(m0, .inr (2, [.ref a1, .ref a2, .ref a3, .ref a4, .int (nI ld), .int (nI o), .int (nI b), .int (nI k), .int (nI 0)])), (a1, .inl (cI, 252, .inl K)), (a2, .inl (cI, 252, .inl R)), (a3, .inl (cI, 252, .inl L)), (a4, .inl (cI, 3024, .inl N))] H := hP
  have hD : va_D A [(m0, .inr (2, [.ref a1, .ref a2, .ref a3, .ref a4, .int (nI ld), .int (nI o), .int (nI b), .int (nI k), .int (nI 0)])), (a1, .inl (cI, 252, .inl K)), (a2, .inl (cI, 252, .inl R)), (a3, .inl (cI, 252, .inl L)), (a4, .inl (cI, 3024, .inl N))] := hD
  refine x_top (nI 1) rfl ?_
  refine lv_if_ne (tgt := 21) hx hb dX2_take_16 (by decide) (fun _ => ?_) (fun h => absurd h (by decide))
  refine lv_iload_n hx hb dX2_take_21 rfl (lv_at hl 1 rfl) ?_
  refine xc_sie (va_runS (As := [.int (nI j)]) (rest := []) ⟨hx, hb, hml, hown, hts⟩ (c_X2_live l j) (va_cwS 1 hts gX2_take_X2_live rfl rfl rfl (by decide +kernel) ⟨(Nat.le_of_ble_eq_true rfl), (Nat.le_of_ble_eq_true rfl)⟩) ⟨XP_blind, XP_pre hE trivial⟩ rfl rfl hl.1 rfl (lv_room (Nat.le_of_ble_eq_true rfl)) dX2_take_22 ⟨Nat.le_of_ble_eq_true rfl, Nat.le_of_ble_eq_true rfl⟩) ?_
  refine lv_istore_n (lv' := [(3, .int (nI (246 + j))), (0, .ref m0), (1, .int (nI j)), (2, .int (nI sp))]) hx hb dX2_take_25 rfl hl (by decide) rfl (fun ls hl => ?_)
  refine lv_aload_n hx hb dX2_take_26 rfl (lv_at hl 1 rfl) ?_
  refine lv_aload_n hx hb dX2_take_27 rfl (lv_at hl 1 rfl) ?_
  refine va_get (ci := 2) (v := .ref a1) (C := RX2) (T := TX2) (N := 9) hx hb hts iw_X2take_X2 hown hK hP 0 rfl rfl 0 (by decide) (hts (.fieldLink RX2 7 "BackMirrorModel" "kinds" "[I") (by decide +kernel)) (fun _ h9 => h9) rfl dX2_take_28 ?_
  refine lv_iload_n hx hb dX2_take_31 rfl (lv_at hl 0 rfl) ?_
  refine va_iald hx hb hK hP 1 0 rfl rfl (xin (by omega) (by omega)) dX2_take_32 ?_
  refine x_top (K (246 + j)) (by rw [nI_clamp (by omega)]) ?_
  refine x_top ((G (246 + j)).1) ((hM (246 + j) (by omega)).1) ?_
  refine lv_iconst (v := nI 1) hx hb dX2_take_33 (by decide) ?_
  refine lv_icmp_eq (tgt := 41) hx hb dX2_take_34 (by decide) (fun c34 => ?_) (fun c34 => ?_)
  · refine lv_iload_n hx hb dX2_take_41 rfl (lv_at hl 3 rfl) ?_
    refine lv_iconst (v := nI 0) hx hb dX2_take_42 (by decide) ?_
    refine lv_aload_n hx hb dX2_take_43 rfl (lv_at hl 1 rfl) ?_
    refine va_get (ci := 2) (v := .ref a3) (C := RX2) (T := TX2) (N := 9) hx hb hts iw_X2take_X2 hown hK hP 0 rfl rfl 2 (by decide) (hts (.fieldLink RX2 16 "BackMirrorModel" "lengths" "[I") (by decide +kernel)) (fun _ h9 => h9) rfl dX2_take_44 ?_
    refine lv_iload_n hx hb dX2_take_47 rfl (lv_at hl 0 rfl) ?_
    refine va_iald hx hb hK hP 3 0 rfl rfl (xin (by omega) (by omega)) dX2_take_48 ?_
    refine x_top (L (246 + j)) (by rw [nI_clamp (by omega)]) ?_
    have hb48 := (hM (246 + j) (by omega)).2.2.2.1
    refine x_top (nI ((G (246 + j)).2.2.1)) ((hM (246 + j) (by omega)).2.2.1) ?_
    refine lv_iconst (v := nI 1) hx hb dX2_take_49 (by decide) ?_
    refine lv_isub hx hb dX2_take_50 ?_
    refine x_top (nI (((G (246 + j)).2.2.1) - 1)) (xsub (by omega)) ?_
    refine xc_sie (va_runS (As := [.int (nI sp), .int (nI 0), .int (nI (((G (246 + j)).2.2.1) - 1))]) (rest := [.ref m0]) ⟨hx, hb, hml, hown, hts⟩ (c_X2_isIn l (nI sp) (nI 0) (nI (((G (246 + j)).2.2.1) - 1))) (va_cwS 3 hts gX2_take_X2_isIn rfl rfl rfl (by decide +kernel) ⟨(Nat.le_of_ble_eq_true rfl), (Nat.le_of_ble_eq_true rfl)⟩) ⟨XP_blind, XP_pre hE trivial⟩ rfl rfl hl.1 rfl (lv_room (Nat.le_of_ble_eq_true rfl)) dX2_take_51 ⟨Nat.le_of_ble_eq_true rfl, Nat.le_of_ble_eq_true rfl⟩) ?_
    refine x_top (nI 1) (by rw [decide_eq_true (in_t (Nat.zero_le _) (by omega) (by omega))]; rfl) ?_
    refine lv_if_eq (tgt := 61) hx hb dX2_take_54 (by decide) (fun h => absurd h (by decide)) (fun _ => ?_)
    refine lv_iconst (v := nI 0) hx hb dX2_take_57 (by decide) ?_
    refine lv_goto (tgt := 62) hx hb dX2_take_58 (by decide) ?_
    have hP : va_P D vwCl ([] ++ (MWs cI m0 a1 a2 a3 a4 K R L N ld o b k 0)) H := hP
    have hD : va_D A ([] ++ (MWs cI m0 a1 a2 a3 a4 K R L N ld o b k 0)) := hD
    have hFc := xfree (wc := (MWs cI m0 a1 a2 a3 a4 K R L N ld o b k 0)) hD hS hA (fun _ h => List.mem_append_right _ h)
    have hPc := xP_sub (w2 := (MWs cI m0 a1 a2 a3 a4 K R L N ld o b k 0)) (fun _ h => List.mem_append_right _ h) hP
    have hDc : va_D (fun _ => True) (MWs cI m0 a1 a2 a3 a4 K R L N ld o b k 0) := (xD_sub (List.sublist_append_right _ _) hD).weaken (fun _ _ _ _ => trivial)
    refine va_calli (va_runV (As := [.int (nI 0)]) (rest := []) ⟨hx, hb, hml, hown, hts⟩ (c_X2_goes l m0 a1 a2 a3 a4 K R L N ld o b k 0 0 (by omega) H.size) (cwV 1 hts gX2_take_X2_goes rfl rfl rfl (by decide +kernel) ⟨(Nat.le_of_ble_eq_true rfl), (Nat.le_of_ble_eq_true rfl)⟩) ⟨XP_blind, va_recv hK hP (ci := 2) (q0 := 0) rfl rfl, XP_pre hE ⟨rfl, hPc, hDc⟩⟩ rfl rfl hl.1 rfl (lv_room (Nat.le_of_ble_eq_true rfl)) dX2_take_62 ⟨by first | exact Nat.le_of_ble_eq_true rfl | (show _ + _ ≤ _; omega), by first | exact Nat.le_of_ble_eq_true rfl | (show _ + _ ≤ _; omega)⟩) hS (fun q9 _ h => hFc q9 h) hFc (fun r9 u t9 H1 locs ht9 hvm9 hw9 hB9 hzc hkc hS => ?_)
    obtain ⟨hP1, hD1⟩ := hB9
    rw [ht9] at hP1
    obtain ⟨hP, hD⟩ := xjoin (wr := []) (wc := (MWs cI m0 a1 a2 a3 a4 K R L N ld o b k 0)) (w1 := (MWs cI m0 a1 a2 a3 a4 K R L N ld o b k 0)) hP hD hkc hFc hP1 hD1
    generalize H1 = H at hP hS ⊢
    subst hw9
    have hP : va_P D vwCl [(m0, .inr (2, [.ref a1, .ref a2, .ref a3, .ref a4, .int (nI ld), .int (nI o), .int (nI b), .int (nI k), .int (nI 0)])), (a1, .inl (cI, 252, .inl K)), (a2, .inl (cI, 252, .inl R)), (a3, .inl (cI, 252, .inl L)), (a4, .inl (cI, 3024, .inl N))] H := hP
    have hD : va_D A [(m0, .inr (2, [.ref a1, .ref a2, .ref a3, .ref a4, .int (nI ld), .int (nI o), .int (nI b), .int (nI k), .int (nI 0)])), (a1, .inl (cI, 252, .inl K)), (a2, .inl (cI, 252, .inl R)), (a3, .inl (cI, 252, .inl L)), (a4, .inl (cI, 3024, .inl N))] := hD
    refine x_top (nI 1) rfl ?_
    refine lv_if_ne (tgt := 70) hx hb dX2_take_65 (by decide) (fun _ => ?_) (fun h => absurd h (by decide))
    refine lv_aload_n hx hb dX2_take_70 rfl (lv_at hl 1 rfl) ?_
    refine va_get (ci := 2) (v := .ref a4) (C := RX2) (T := TX2) (N := 9) hx hb hts iw_X2take_X2 hown hK hP 0 rfl rfl 3 (by decide) (hts (.fieldLink RX2 19 "BackMirrorModel" "numbers" "[I") (by decide +kernel)) (fun _ h9 => h9) rfl dX2_take_71 ?_
    refine lv_bipush (v := nI 12) hx hb dX2_take_74 (by decide) ?_
    refine lv_iload_n hx hb dX2_take_76 rfl (lv_at hl 0 rfl) ?_
    refine lv_imul hx hb dX2_take_77 ?_
    refine x_top (nI (12 * (246 + j))) (pk_mul _ _) ?_
    refine lv_iload_n hx hb dX2_take_78 rfl (lv_at hl 3 rfl) ?_
    refine lv_iadd hx hb dX2_take_79 ?_
    refine x_top (nI ((12 * (246 + j)) + sp)) (xadd (by omega)) ?_
    refine va_iald hx hb hK hP 4 0 rfl rfl (xin (by omega) (by omega)) dX2_take_80 ?_
    refine x_top (N ((12 * (246 + j)) + sp)) (by rw [nI_clamp (by omega)]) ?_
    refine x_top ((G (246 + j)).2.2.2 sp) ((hM (246 + j) (by omega)).2.2.2.2 sp hsp) ?_
    refine lv_istore (lv' := [(4, .int ((G (246 + j)).2.2.2 sp)), (3, .int (nI (246 + j))), (0, .ref m0), (1, .int (nI j)), (2, .int (nI sp))]) hx hb dX2_take_81 hl (by decide) rfl (fun ls hl => ?_)
    refine lv_aload_n hx hb dX2_take_83 rfl (lv_at hl 2 rfl) ?_
    refine va_get (ci := 2) (v := .ref a3) (C := RX2) (T := TX2) (N := 9) hx hb hts iw_X2take_X2 hown hK hP 0 rfl rfl 2 (by decide) (hts (.fieldLink RX2 16 "BackMirrorModel" "lengths" "[I") (by decide +kernel)) (fun _ h9 => h9) rfl dX2_take_84 ?_
    refine lv_iload_n hx hb dX2_take_87 rfl (lv_at hl 1 rfl) ?_
    refine lv_dup2_11 hx hb dX2_take_88 rfl rfl ?_
    refine va_iald hx hb hK hP 3 0 rfl rfl (xin (by omega) (by omega)) dX2_take_89 ?_
    refine x_top (L (246 + j)) (by rw [nI_clamp (by omega)]) ?_
    have hb89 := (hM (246 + j) (by omega)).2.2.2.1
    refine x_top (nI ((G (246 + j)).2.2.1)) ((hM (246 + j) (by omega)).2.2.1) ?_
    refine lv_iconst (v := nI 1) hx hb dX2_take_90 (by decide) ?_
    refine lv_isub hx hb dX2_take_91 ?_
    refine x_top (nI (((G (246 + j)).2.2.1) - 1)) (xsub (by omega)) ?_
    refine va_iast hx hb hK hP hD hS 3 0 rfl rfl (xin (by omega) (by omega)) dX2_take_92 (fun H locs hP hD hS => ?_)
    rw [nI_clamp (show 246 + j < 2 ^ 31 by omega)] at hP hD
    have hP : va_P D vwCl [(m0, .inr (2, [.ref a1, .ref a2, .ref a3, .ref a4, .int (nI ld), .int (nI o), .int (nI b), .int (nI k), .int (nI 0)])), (a1, .inl (cI, 252, .inl K)), (a2, .inl (cI, 252, .inl R)), (a3, .inl (cI, 252, .inl (upd L (246 + j) (nI (((G (246 + j)).2.2.1) - 1))))), (a4, .inl (cI, 3024, .inl N))] H := hP
    have hD : va_D A [(m0, .inr (2, [.ref a1, .ref a2, .ref a3, .ref a4, .int (nI ld), .int (nI o), .int (nI b), .int (nI k), .int (nI 0)])), (a1, .inl (cI, 252, .inl K)), (a2, .inl (cI, 252, .inl R)), (a3, .inl (cI, 252, .inl (upd L (246 + j) (nI (((G (246 + j)).2.2.1) - 1))))), (a4, .inl (cI, 3024, .inl N))] := hD
    refine lv_iload_n hx hb dX2_take_93 rfl (lv_at hl 4 rfl) ?_
    refine lv_istore (lv' := [(5, .int (nI sp)), (4, .int ((G (246 + j)).2.2.2 sp)), (3, .int (nI (246 + j))), (0, .ref m0), (1, .int (nI j)), (2, .int (nI sp))]) hx hb dX2_take_94 hl (by decide) rfl (fun ls hl => ?_)
    refine x_loop (fun n H locs ls => ∃ (q i9 : Nat) (N' : Nat → Int32), (i9 + 1 = n) ∧ ((G (246 + j)).2.2.1 ≤ q + i9) ∧ (sp ≤ q) ∧ (q ≤ (G (246 + j)).2.2.1 - 1) ∧ (∀ z, N' z = if 12 * (246 + j) + sp ≤ z ∧ z < 12 * (246 + j) + q then N (z + 1) else N z) ∧ va_P D vwCl [(m0, .inr (2, [.ref a1, .ref a2, .ref a3, .ref a4, .int (nI ld), .int (nI o), .int (nI b), .int (nI k), .int (nI 0)])), (a1, .inl (cI, 252, .inl K)), (a2, .inl (cI, 252, .inl R)), (a3, .inl (cI, 252, .inl (upd L (246 + j) (nI (((G (246 + j)).2.2.1) - 1))))), (a4, .inl (cI, 3024, .inl N'))] H ∧ va_D A [(m0, .inr (2, [.ref a1, .ref a2, .ref a3, .ref a4, .int (nI ld), .int (nI o), .int (nI b), .int (nI k), .int (nI 0)])), (a1, .inl (cI, 252, .inl K)), (a2, .inl (cI, 252, .inl R)), (a3, .inl (cI, 252, .inl (upd L (246 + j) (nI (((G (246 + j)).2.2.1) - 1))))), (a4, .inl (cI, 3024, .inl N'))] ∧ va_S A s.heap H locs ∧ lv_has ls 6 [(5, .int (nI q)), (4, .int ((G (246 + j)).2.2.2 sp)), (3, .int (nI (246 + j))), (0, .ref m0), (1, .int (nI j)), (2, .int (nI sp))]) ((G (246 + j)).2.2.1 + 1) ⟨sp, (G (246 + j)).2.2.1, N, rfl, by omega, by omega, by omega, fun z => by rw [if_neg (by omega)], hP, hD, hS, lv_sub hl [0, 1, 2, 3, 4, 5] rfl⟩ (fun H locs ls h => by obtain ⟨q, i9, N', hk, h1, h2, h3, hv, -⟩ := h; omega) (fun n H locs ls h ih => ?_)
    obtain ⟨q, i9, N', hk, h1, h2, h3, hv, hP, hD, hS, hl⟩ := h
    refine lv_iload hx hb dX2_take_96 (lv_at hl 0 rfl) ?_
    refine lv_aload_n hx hb dX2_take_98 rfl (lv_at hl 3 rfl) ?_
    refine va_get (ci := 2) (v := .ref a3) (C := RX2) (T := TX2) (N := 9) hx hb hts iw_X2take_X2 hown hK hP 0 rfl rfl 2 (by decide) (hts (.fieldLink RX2 16 "BackMirrorModel" "lengths" "[I") (by decide +kernel)) (fun _ h9 => h9) rfl dX2_take_99 ?_
    refine lv_iload_n hx hb dX2_take_102 rfl (lv_at hl 2 rfl) ?_
    refine va_iald hx hb hK hP 3 0 rfl rfl (xin (by omega) (by omega)) dX2_take_103 ?_
    refine x_top ((upd L (246 + j) (nI (((G (246 + j)).2.2.1) - 1))) (246 + j)) (by rw [nI_clamp (by omega)]) ?_
    refine x_top (nI ((G (246 + j)).2.2.1 - 1)) (pk_us) ?_
    refine lv_icmp_ge (tgt := 139) hx hb dX2_take_104 (by decide) (fun c104 => ?_) (fun c104 => ?_)
    · have c104 : ((G (246 + j)).2.2.1 - 1) ≤ q := (xle (by omega) (by omega)).mp c104
      refine lv_iload hx hb dX2_take_139 (lv_at hl 1 rfl) ?_
      have hM1 := hM (246 + j) (by omega)
      have hn1 : ∀ z, z < (G (246 + j)).2.2.1 - 1 → (N') (12 * (246 + j) + z) = delR (G (246 + j)).2.2.2 sp z := by
        intro z hz
        unfold delR
        rw [hv]; by_cases c : z < sp
        · rw [if_neg (by omega), if_pos c]; exact hM1.2.2.2.2 z (by omega)
        · rw [if_pos (by omega), if_neg c]; exact hM1.2.2.2.2 (z + 1) (by omega)
      exact W.iret hx hb hr (fun t9 ht9 hW9 => ⟨⟨_, (), rfl, rfl, _, _, _, _, by rw [ht9]; exact hP, hD, MA.set hM (show (G (246 + j)).2.2.1 - 1 ≤ 12 by omega) (hM1.1.trans hk1) (fun _ _ => rfl) (hM1.2.1) (fun _ _ => rfl) (pk_us) (fun z h => pk_un h) hn1 (fun z hz => by rw [hv, if_neg (by omega)])⟩, hS.F ht9⟩) hS.2.2 dX2_take_141
    · have c104 : ¬ ((G (246 + j)).2.2.1 - 1) ≤ q := fun h => c104 ((xle (by omega) (by omega)).mpr h)
      refine lv_aload_n hx hb dX2_take_107 rfl (lv_at hl 3 rfl) ?_
      refine va_get (ci := 2) (v := .ref a4) (C := RX2) (T := TX2) (N := 9) hx hb hts iw_X2take_X2 hown hK hP 0 rfl rfl 3 (by decide) (hts (.fieldLink RX2 19 "BackMirrorModel" "numbers" "[I") (by decide +kernel)) (fun _ h9 => h9) rfl dX2_take_108 ?_
      refine lv_bipush (v := nI 12) hx hb dX2_take_111 (by decide) ?_
      refine lv_iload_n hx hb dX2_take_113 rfl (lv_at hl 2 rfl) ?_
      refine lv_imul hx hb dX2_take_114 ?_
      refine x_top (nI (12 * (246 + j))) (pk_mul _ _) ?_
      refine lv_iload hx hb dX2_take_115 (lv_at hl 0 rfl) ?_
      refine lv_iadd hx hb dX2_take_117 ?_
      refine x_top (nI ((12 * (246 + j)) + q)) (xadd (by omega)) ?_
      refine lv_aload_n hx hb dX2_take_118 rfl (lv_at hl 3 rfl) ?_
      refine va_get (ci := 2) (v := .ref a4) (C := RX2) (T := TX2) (N := 9) hx hb hts iw_X2take_X2 hown hK hP 0 rfl rfl 3 (by decide) (hts (.fieldLink RX2 19 "BackMirrorModel" "numbers" "[I") (by decide +kernel)) (fun _ h9 => h9) rfl dX2_take_119 ?_
      refine lv_bipush (v := nI 12) hx hb dX2_take_122 (by decide) ?_
      refine lv_iload_n hx hb dX2_take_124 rfl (lv_at hl 2 rfl) ?_
      refine lv_imul hx hb dX2_take_125 ?_
      refine x_top (nI (12 * (246 + j))) (pk_mul _ _) ?_
      refine lv_iload hx hb dX2_take_126 (lv_at hl 0 rfl) ?_
      refine lv_iadd hx hb dX2_take_128 ?_
      refine x_top (nI ((12 * (246 + j)) + q)) (xadd (by omega)) ?_
      refine lv_iconst (v := nI 1) hx hb dX2_take_129 (by decide) ?_
      refine lv_iadd hx hb dX2_take_130 ?_
      refine x_top (nI (((12 * (246 + j)) + q) + 1)) (xadd (by omega)) ?_
      refine va_iald hx hb hK hP 4 0 rfl rfl (xin (by omega) (by omega)) dX2_take_131 ?_
      refine x_top (N' (((12 * (246 + j)) + q) + 1)) (by rw [nI_clamp (by omega)]) ?_
      refine va_iast hx hb hK hP hD hS 4 0 rfl rfl (xin (by omega) (by omega)) dX2_take_132 (fun H locs hP hD hS => ?_)
      rw [nI_clamp (show (12 * (246 + j)) + q < 2 ^ 31 by omega)] at hP hD
      have hP : va_P D vwCl [(m0, .inr (2, [.ref a1, .ref a2, .ref a3, .ref a4, .int (nI ld), .int (nI o), .int (nI b), .int (nI k), .int (nI 0)])), (a1, .inl (cI, 252, .inl K)), (a2, .inl (cI, 252, .inl R)), (a3, .inl (cI, 252, .inl (upd L (246 + j) (nI (((G (246 + j)).2.2.1) - 1))))), (a4, .inl (cI, 3024, .inl (upd N' ((12 * (246 + j)) + q) (N' (((12 * (246 + j)) + q) + 1)))))] H := hP
      have hD : va_D A [(m0, .inr (2, [.ref a1, .ref a2, .ref a3, .ref a4, .int (nI ld), .int (nI o), .int (nI b), .int (nI k), .int (nI 0)])), (a1, .inl (cI, 252, .inl K)), (a2, .inl (cI, 252, .inl R)), (a3, .inl (cI, 252, .inl (upd L (246 + j) (nI (((G (246 + j)).2.2.1) - 1))))), (a4, .inl (cI, 3024, .inl (upd N' ((12 * (246 + j)) + q) (N' (((12 * (246 + j)) + q) + 1)))))] := hD
      refine lv_iinc (v := nI (q + 1)) (lv' := [(5, .int (nI (q + 1))), (4, .int ((G (246 + j)).2.2.2 sp)), (3, .int (nI (246 + j))), (0, .ref m0), (1, .int (nI j)), (2, .int (nI sp))]) hx hb dX2_take_133 hl (k := 0) rfl (xinc _ 1 _ (by decide)) (by decide) rfl (fun ls hl => ?_)
      refine lv_goto (tgt := 96) hx hb dX2_take_136 (by decide) ?_
      have hv2 : ∀ z, (upd N' ((12 * (246 + j)) + q) (N' (((12 * (246 + j)) + q) + 1))) z = if 12 * (246 + j) + sp ≤ z ∧ z < 12 * (246 + j) + (q + 1) then N (z + 1) else N z := by
        intro z
        by_cases e : z = 12 * (246 + j) + q
        · subst e; rw [pk_us, hv, if_neg (by omega), if_pos (by omega)]
        · rw [pk_un e, hv]; by_cases c : 12 * (246 + j) + sp ≤ z ∧ z < 12 * (246 + j) + q
          · rw [if_pos c, if_pos (by omega)]
          · rw [if_neg c, if_neg (by omega)]
      exact ih _ _ _ ⟨q + 1, i9 - 1, (upd N' ((12 * (246 + j)) + q) (N' (((12 * (246 + j)) + q) + 1))), by omega, by omega, by omega, by omega, hv2, hP, hD, hS, lv_sub hl [0, 1, 2, 3, 4, 5] rfl⟩
  · exact absurd hk1 c34

set_option maxHeartbeats 4000000 in
set_option maxRecDepth 100000 in
theorem c_X2_take_b (l : Launch) {D : va_G} {cI cT cJ : ClassId} (m0 a1 a2 a3 a4 : Nat) (K R L N : Nat → Int32) (ld o b k t : Nat) (G : Nat → Tv) (hM : MA G K R L N) (v w : Int32) (hv : ¬ Pl v) (sz : Nat) : Met l yX2_take wsX2_take (rmD 5 0 0) (XP D cI cT cJ [.ref m0, .int v, .int w] (fun H => H.size = sz ∧ va_P D vwCl (MWs cI m0 a1 a2 a3 a4 K R L N ld o b k t) H ∧ va_D (fun _ => True) (MWs cI m0 a1 a2 a3 a4 K R L N ld o b k t))) (va_Qi (S := Unit) (fun r _ => True) (fun _ t9 => MB D cI m0 a1 a2 a3 a4 (va_A (MWs cI m0 a1 a2 a3 a4 K R L N ld o b k t) sz) (G, o, ld, b, k) 1 t9.heap) (va_A (MWs cI m0 a1 a2 a3 a4 K R L N ld o b k t) sz)) 0 0 (va_A (MWs cI m0 a1 a2 a3 a4 K R L N ld o b k t) sz) := by
  refine Met.ofW (cc := cX2_take) (maxL := 6) (ret := (some .int)) (by decide) rfl ?_
  intro p e s m args below meth c s₁ B hml hv
  obtain ⟨rfl, ⟨hsz, hP, hD0⟩, hE⟩ := hv
  have hx := B.exec
  have hb := B.bytes
  have hr := B.returns
  have hts := atoms_spec (ws := wsX2_take) B.pre
  have hown : s.vm.findClass RX2 = some m.cls := findClass_of_methodNamed B.named
  have hlocks := B.notSynchronized
  have hl := lv_entry ([.ref m0, .int v, .int w]) (n := 6) (Nat.le_of_ble_eq_true rfl)
  rw [lg_entry_eq]
  generalize (lg_sl ([.ref m0, .int v, .int w]) ++ List.replicate (6 - (lg_sl ([.ref m0, .int v, .int w])).length) Slot.unset).toArray = ls at hl ⊢
  have hl : lv_has ls 6 [(0, .ref m0), (1, .int v), (2, .int w)] := hl
  have hK := hE.1
  subst hsz
  have hD := hD0.self (sz := s.heap.size)
  generalize hAe : va_A ((MWs cI m0 a1 a2 a3 a4 K R L N ld o b k t)) s.heap.size = A at hD ⊢
  have hA : ∀ q : Nat, s.heap.size ≤ q → A q := fun q h => by rw [← hAe]; exact Or.inr h
  have hS : va_S A s.heap s.heap [] := va_S.rf
  refine lv_aload_n hx hb dX2_take_0 rfl (lv_at hl 0 rfl) ?_
  refine lv_iload_n hx hb dX2_take_1 rfl (lv_at hl 1 rfl) ?_
  refine xc_sie (va_runS (As := [.int v]) (rest := [.ref m0]) ⟨hx, hb, hml, hown, hts⟩ (c_X2_isPlace l v) (va_cwS 1 hts gX2_take_X2_isPlace rfl rfl rfl (by decide +kernel) ⟨(Nat.le_of_ble_eq_true rfl), (Nat.le_of_ble_eq_true rfl)⟩) ⟨XP_blind, XP_pre hE trivial⟩ rfl rfl hl.1 rfl (lv_room (Nat.le_of_ble_eq_true rfl)) dX2_take_2 ⟨Nat.le_of_ble_eq_true rfl, Nat.le_of_ble_eq_true rfl⟩) ?_
  refine x_top (nI 0) (by rw [decide_eq_false (pl_f hv)]; rfl) ?_
  refine lv_if_eq (tgt := 12) hx hb dX2_take_5 (by decide) (fun _ => ?_) (fun h => absurd h (by decide))
  refine lv_iconst (v := nI 1) hx hb dX2_take_12 (by decide) ?_
  have hP : va_P D vwCl ([] ++ (MWs cI m0 a1 a2 a3 a4 K R L N ld o b k t)) s.heap := hP
  have hD : va_D A ([] ++ (MWs cI m0 a1 a2 a3 a4 K R L N ld o b k t)) := hD
  have hFc := xfree (wc := (MWs cI m0 a1 a2 a3 a4 K R L N ld o b k t)) hD hS hA (fun _ h => List.mem_append_right _ h)
  have hPc := xP_sub (w2 := (MWs cI m0 a1 a2 a3 a4 K R L N ld o b k t)) (fun _ h => List.mem_append_right _ h) hP
  have hDc : va_D (fun _ => True) (MWs cI m0 a1 a2 a3 a4 K R L N ld o b k t) := (xD_sub (List.sublist_append_right _ _) hD).weaken (fun _ _ _ _ => trivial)
  refine va_calli (va_runV (As := [.int (nI 1)]) (rest := []) ⟨hx, hb, hml, hown, hts⟩ (c_X2_goes l m0 a1 a2 a3 a4 K R L N ld o b k t 1 (by omega) s.heap.size) (cwV 1 hts gX2_take_X2_goes rfl rfl rfl (by decide +kernel) ⟨(Nat.le_of_ble_eq_true rfl), (Nat.le_of_ble_eq_true rfl)⟩) ⟨XP_blind, va_recv hK hP (ci := 2) (q0 := 0) rfl rfl, XP_pre hE ⟨rfl, hPc, hDc⟩⟩ rfl rfl hl.1 rfl (lv_room (Nat.le_of_ble_eq_true rfl)) dX2_take_13 ⟨by first | exact Nat.le_of_ble_eq_true rfl | (show _ + _ ≤ _; omega), by first | exact Nat.le_of_ble_eq_true rfl | (show _ + _ ≤ _; omega)⟩) hS (fun q9 _ h => hFc q9 h) hFc (fun r9 u t9 H1 locs ht9 hvm9 hw9 hB9 hzc hkc hS => ?_)
  obtain ⟨hP1, hD1⟩ := hB9
  rw [ht9] at hP1
  obtain ⟨hP, hD⟩ := xjoin (wr := []) (wc := (MWs cI m0 a1 a2 a3 a4 K R L N ld o b k t)) (w1 := (MWs cI m0 a1 a2 a3 a4 K R L N ld o b k 1)) hP hD hkc hFc hP1 hD1
  generalize H1 = H at hP hS ⊢
  subst hw9
  have hP : va_P D vwCl [(m0, .inr (2, [.ref a1, .ref a2, .ref a3, .ref a4, .int (nI ld), .int (nI o), .int (nI b), .int (nI k), .int (nI 1)])), (a1, .inl (cI, 252, .inl K)), (a2, .inl (cI, 252, .inl R)), (a3, .inl (cI, 252, .inl L)), (a4, .inl (cI, 3024, .inl N))] H := hP
  have hD : va_D A [(m0, .inr (2, [.ref a1, .ref a2, .ref a3, .ref a4, .int (nI ld), .int (nI o), .int (nI b), .int (nI k), .int (nI 1)])), (a1, .inl (cI, 252, .inl K)), (a2, .inl (cI, 252, .inl R)), (a3, .inl (cI, 252, .inl L)), (a4, .inl (cI, 3024, .inl N))] := hD
  refine x_top (nI 0) rfl ?_
  refine lv_if_ne (tgt := 21) hx hb dX2_take_16 (by decide) (fun h => absurd h (by decide)) (fun _ => ?_)
  refine lv_iconst (v := nI 0) hx hb dX2_take_19 (by decide) ?_
  exact W.iret hx hb hr (fun t9 ht9 hW9 => ⟨⟨_, (), rfl, trivial, _, _, _, _, by rw [ht9]; exact hP, hD, hM⟩, hS.F ht9⟩) hS.2.2 dX2_take_20

set_option maxHeartbeats 4000000 in
set_option maxRecDepth 100000 in
theorem c_X2_take_c (l : Launch) {D : va_G} {cI cT cJ : ClassId} (m0 a1 a2 a3 a4 : Nat) (K R L N : Nat → Int32) (ld o b k t : Nat) (G : Nat → Tv) (hM : MA G K R L N) (j : Nat) (w : Int32) (hj : j < 6) (hk1 : ¬ (G (246 + j)).1 = nI 1) (sz : Nat) : Met l yX2_take wsX2_take (rmD 5 0 0) (XP D cI cT cJ [.ref m0, .int (nI j), .int w] (fun H => H.size = sz ∧ va_P D vwCl (MWs cI m0 a1 a2 a3 a4 K R L N ld o b k t) H ∧ va_D (fun _ => True) (MWs cI m0 a1 a2 a3 a4 K R L N ld o b k t))) (va_Qi (S := Unit) (fun r _ => True) (fun _ t9 => MB D cI m0 a1 a2 a3 a4 (va_A (MWs cI m0 a1 a2 a3 a4 K R L N ld o b k t) sz) (G, o, ld, b, k) 2 t9.heap) (va_A (MWs cI m0 a1 a2 a3 a4 K R L N ld o b k t) sz)) 0 0 (va_A (MWs cI m0 a1 a2 a3 a4 K R L N ld o b k t) sz) := by
  refine Met.ofW (cc := cX2_take) (maxL := 6) (ret := (some .int)) (by decide) rfl ?_
  intro p e s m args below meth c s₁ B hml hv
  obtain ⟨rfl, ⟨hsz, hP, hD0⟩, hE⟩ := hv
  have hx := B.exec
  have hb := B.bytes
  have hr := B.returns
  have hts := atoms_spec (ws := wsX2_take) B.pre
  have hown : s.vm.findClass RX2 = some m.cls := findClass_of_methodNamed B.named
  have hlocks := B.notSynchronized
  have hl := lv_entry ([.ref m0, .int (nI j), .int w]) (n := 6) (Nat.le_of_ble_eq_true rfl)
  rw [lg_entry_eq]
  generalize (lg_sl ([.ref m0, .int (nI j), .int w]) ++ List.replicate (6 - (lg_sl ([.ref m0, .int (nI j), .int w])).length) Slot.unset).toArray = ls at hl ⊢
  have hl : lv_has ls 6 [(0, .ref m0), (1, .int (nI j)), (2, .int w)] := hl
  have hK := hE.1
  subst hsz
  have hD := hD0.self (sz := s.heap.size)
  generalize hAe : va_A ((MWs cI m0 a1 a2 a3 a4 K R L N ld o b k t)) s.heap.size = A at hD ⊢
  have hA : ∀ q : Nat, s.heap.size ≤ q → A q := fun q h => by rw [← hAe]; exact Or.inr h
  have hS : va_S A s.heap s.heap [] := va_S.rf
  refine lv_aload_n hx hb dX2_take_0 rfl (lv_at hl 0 rfl) ?_
  refine lv_iload_n hx hb dX2_take_1 rfl (lv_at hl 1 rfl) ?_
  refine xc_sie (va_runS (As := [.int (nI j)]) (rest := [.ref m0]) ⟨hx, hb, hml, hown, hts⟩ (c_X2_isPlace l (nI j)) (va_cwS 1 hts gX2_take_X2_isPlace rfl rfl rfl (by decide +kernel) ⟨(Nat.le_of_ble_eq_true rfl), (Nat.le_of_ble_eq_true rfl)⟩) ⟨XP_blind, XP_pre hE trivial⟩ rfl rfl hl.1 rfl (lv_room (Nat.le_of_ble_eq_true rfl)) dX2_take_2 ⟨Nat.le_of_ble_eq_true rfl, Nat.le_of_ble_eq_true rfl⟩) ?_
  refine x_top (nI 1) (by rw [decide_eq_true (pl_t hj)]; rfl) ?_
  refine lv_if_eq (tgt := 12) hx hb dX2_take_5 (by decide) (fun h => absurd h (by decide)) (fun _ => ?_)
  refine lv_iconst (v := nI 0) hx hb dX2_take_8 (by decide) ?_
  refine lv_goto (tgt := 13) hx hb dX2_take_9 (by decide) ?_
  have hP : va_P D vwCl ([] ++ (MWs cI m0 a1 a2 a3 a4 K R L N ld o b k t)) s.heap := hP
  have hD : va_D A ([] ++ (MWs cI m0 a1 a2 a3 a4 K R L N ld o b k t)) := hD
  have hFc := xfree (wc := (MWs cI m0 a1 a2 a3 a4 K R L N ld o b k t)) hD hS hA (fun _ h => List.mem_append_right _ h)
  have hPc := xP_sub (w2 := (MWs cI m0 a1 a2 a3 a4 K R L N ld o b k t)) (fun _ h => List.mem_append_right _ h) hP
  have hDc : va_D (fun _ => True) (MWs cI m0 a1 a2 a3 a4 K R L N ld o b k t) := (xD_sub (List.sublist_append_right _ _) hD).weaken (fun _ _ _ _ => trivial)
  refine va_calli (va_runV (As := [.int (nI 0)]) (rest := []) ⟨hx, hb, hml, hown, hts⟩ (c_X2_goes l m0 a1 a2 a3 a4 K R L N ld o b k t 0 (by omega) s.heap.size) (cwV 1 hts gX2_take_X2_goes rfl rfl rfl (by decide +kernel) ⟨(Nat.le_of_ble_eq_true rfl), (Nat.le_of_ble_eq_true rfl)⟩) ⟨XP_blind, va_recv hK hP (ci := 2) (q0 := 0) rfl rfl, XP_pre hE ⟨rfl, hPc, hDc⟩⟩ rfl rfl hl.1 rfl (lv_room (Nat.le_of_ble_eq_true rfl)) dX2_take_13 ⟨by first | exact Nat.le_of_ble_eq_true rfl | (show _ + _ ≤ _; omega), by first | exact Nat.le_of_ble_eq_true rfl | (show _ + _ ≤ _; omega)⟩) hS (fun q9 _ h => hFc q9 h) hFc (fun r9 u t9 H1 locs ht9 hvm9 hw9 hB9 hzc hkc hS => ?_)
  obtain ⟨hP1, hD1⟩ := hB9
  rw [ht9] at hP1
  obtain ⟨hP, hD⟩ := xjoin (wr := []) (wc := (MWs cI m0 a1 a2 a3 a4 K R L N ld o b k t)) (w1 := (MWs cI m0 a1 a2 a3 a4 K R L N ld o b k 0)) hP hD hkc hFc hP1 hD1
  generalize H1 = H at hP hS ⊢
  subst hw9
  have hP : va_P D vwCl [(m0, .inr (2, [.ref a1, .ref a2, .ref a3, .ref a4, .int (nI ld), .int (nI o), .int (nI b), .int (nI k), .int (nI 0)])), (a1, .inl (cI, 252, .inl K)), (a2, .inl (cI, 252, .inl R)), (a3, .inl (cI, 252, .inl L)), (a4, .inl (cI, 3024, .inl N))] H := hP
  have hD : va_D A [(m0, .inr (2, [.ref a1, .ref a2, .ref a3, .ref a4, .int (nI ld), .int (nI o), .int (nI b), .int (nI k), .int (nI 0)])), (a1, .inl (cI, 252, .inl K)), (a2, .inl (cI, 252, .inl R)), (a3, .inl (cI, 252, .inl L)), (a4, .inl (cI, 3024, .inl N))] := hD
  refine x_top (nI 1) rfl ?_
  refine lv_if_ne (tgt := 21) hx hb dX2_take_16 (by decide) (fun _ => ?_) (fun h => absurd h (by decide))
  refine lv_iload_n hx hb dX2_take_21 rfl (lv_at hl 1 rfl) ?_
  refine xc_sie (va_runS (As := [.int (nI j)]) (rest := []) ⟨hx, hb, hml, hown, hts⟩ (c_X2_live l j) (va_cwS 1 hts gX2_take_X2_live rfl rfl rfl (by decide +kernel) ⟨(Nat.le_of_ble_eq_true rfl), (Nat.le_of_ble_eq_true rfl)⟩) ⟨XP_blind, XP_pre hE trivial⟩ rfl rfl hl.1 rfl (lv_room (Nat.le_of_ble_eq_true rfl)) dX2_take_22 ⟨Nat.le_of_ble_eq_true rfl, Nat.le_of_ble_eq_true rfl⟩) ?_
  refine lv_istore_n (lv' := [(3, .int (nI (246 + j))), (0, .ref m0), (1, .int (nI j)), (2, .int w)]) hx hb dX2_take_25 rfl hl (by decide) rfl (fun ls hl => ?_)
  refine lv_aload_n hx hb dX2_take_26 rfl (lv_at hl 1 rfl) ?_
  refine lv_aload_n hx hb dX2_take_27 rfl (lv_at hl 1 rfl) ?_
  refine va_get (ci := 2) (v := .ref a1) (C := RX2) (T := TX2) (N := 9) hx hb hts iw_X2take_X2 hown hK hP 0 rfl rfl 0 (by decide) (hts (.fieldLink RX2 7 "BackMirrorModel" "kinds" "[I") (by decide +kernel)) (fun _ h9 => h9) rfl dX2_take_28 ?_
  refine lv_iload_n hx hb dX2_take_31 rfl (lv_at hl 0 rfl) ?_
  refine va_iald hx hb hK hP 1 0 rfl rfl (xin (by omega) (by omega)) dX2_take_32 ?_
  refine x_top (K (246 + j)) (by rw [nI_clamp (by omega)]) ?_
  refine x_top ((G (246 + j)).1) ((hM (246 + j) (by omega)).1) ?_
  refine lv_iconst (v := nI 1) hx hb dX2_take_33 (by decide) ?_
  refine lv_icmp_eq (tgt := 41) hx hb dX2_take_34 (by decide) (fun c34 => ?_) (fun c34 => ?_)
  · exact absurd c34 hk1
  · refine lv_iconst (v := nI 2) hx hb dX2_take_37 (by decide) ?_
    refine lv_goto (tgt := 62) hx hb dX2_take_38 (by decide) ?_
    have hP : va_P D vwCl ([] ++ (MWs cI m0 a1 a2 a3 a4 K R L N ld o b k 0)) H := hP
    have hD : va_D A ([] ++ (MWs cI m0 a1 a2 a3 a4 K R L N ld o b k 0)) := hD
    have hFc := xfree (wc := (MWs cI m0 a1 a2 a3 a4 K R L N ld o b k 0)) hD hS hA (fun _ h => List.mem_append_right _ h)
    have hPc := xP_sub (w2 := (MWs cI m0 a1 a2 a3 a4 K R L N ld o b k 0)) (fun _ h => List.mem_append_right _ h) hP
    have hDc : va_D (fun _ => True) (MWs cI m0 a1 a2 a3 a4 K R L N ld o b k 0) := (xD_sub (List.sublist_append_right _ _) hD).weaken (fun _ _ _ _ => trivial)
    refine va_calli (va_runV (As := [.int (nI 2)]) (rest := []) ⟨hx, hb, hml, hown, hts⟩ (c_X2_goes l m0 a1 a2 a3 a4 K R L N ld o b k 0 2 (by omega) H.size) (cwV 1 hts gX2_take_X2_goes rfl rfl rfl (by decide +kernel) ⟨(Nat.le_of_ble_eq_true rfl), (Nat.le_of_ble_eq_true rfl)⟩) ⟨XP_blind, va_recv hK hP (ci := 2) (q0 := 0) rfl rfl, XP_pre hE ⟨rfl, hPc, hDc⟩⟩ rfl rfl hl.1 rfl (lv_room (Nat.le_of_ble_eq_true rfl)) dX2_take_62 ⟨by first | exact Nat.le_of_ble_eq_true rfl | (show _ + _ ≤ _; omega), by first | exact Nat.le_of_ble_eq_true rfl | (show _ + _ ≤ _; omega)⟩) hS (fun q9 _ h => hFc q9 h) hFc (fun r9 u t9 H1 locs ht9 hvm9 hw9 hB9 hzc hkc hS => ?_)
    obtain ⟨hP1, hD1⟩ := hB9
    rw [ht9] at hP1
    obtain ⟨hP, hD⟩ := xjoin (wr := []) (wc := (MWs cI m0 a1 a2 a3 a4 K R L N ld o b k 0)) (w1 := (MWs cI m0 a1 a2 a3 a4 K R L N ld o b k 2)) hP hD hkc hFc hP1 hD1
    generalize H1 = H at hP hS ⊢
    subst hw9
    have hP : va_P D vwCl [(m0, .inr (2, [.ref a1, .ref a2, .ref a3, .ref a4, .int (nI ld), .int (nI o), .int (nI b), .int (nI k), .int (nI 2)])), (a1, .inl (cI, 252, .inl K)), (a2, .inl (cI, 252, .inl R)), (a3, .inl (cI, 252, .inl L)), (a4, .inl (cI, 3024, .inl N))] H := hP
    have hD : va_D A [(m0, .inr (2, [.ref a1, .ref a2, .ref a3, .ref a4, .int (nI ld), .int (nI o), .int (nI b), .int (nI k), .int (nI 2)])), (a1, .inl (cI, 252, .inl K)), (a2, .inl (cI, 252, .inl R)), (a3, .inl (cI, 252, .inl L)), (a4, .inl (cI, 3024, .inl N))] := hD
    refine x_top (nI 0) rfl ?_
    refine lv_if_ne (tgt := 70) hx hb dX2_take_65 (by decide) (fun h => absurd h (by decide)) (fun _ => ?_)
    refine lv_iconst (v := nI 0) hx hb dX2_take_68 (by decide) ?_
    exact W.iret hx hb hr (fun t9 ht9 hW9 => ⟨⟨_, (), rfl, trivial, _, _, _, _, by rw [ht9]; exact hP, hD, hM⟩, hS.F ht9⟩) hS.2.2 dX2_take_69

set_option maxHeartbeats 4000000 in
set_option maxRecDepth 100000 in
theorem c_X2_take_d (l : Launch) {D : va_G} {cI cT cJ : ClassId} (m0 a1 a2 a3 a4 : Nat) (K R L N : Nat → Int32) (ld o b k t : Nat) (G : Nat → Tv) (hM : MA G K R L N) (j : Nat) (w : Int32) (hj : j < 6) (hk1 : (G (246 + j)).1 = nI 1) (hbad : ¬ ∃ sp, sp < (G (246 + j)).2.2.1 ∧ w = nI sp) (sz : Nat) : Met l yX2_take wsX2_take (rmD 5 0 0) (XP D cI cT cJ [.ref m0, .int (nI j), .int w] (fun H => H.size = sz ∧ va_P D vwCl (MWs cI m0 a1 a2 a3 a4 K R L N ld o b k t) H ∧ va_D (fun _ => True) (MWs cI m0 a1 a2 a3 a4 K R L N ld o b k t))) (va_Qi (S := Unit) (fun r _ => True) (fun _ t9 => MB D cI m0 a1 a2 a3 a4 (va_A (MWs cI m0 a1 a2 a3 a4 K R L N ld o b k t) sz) (G, o, ld, b, k) 3 t9.heap) (va_A (MWs cI m0 a1 a2 a3 a4 K R L N ld o b k t) sz)) 0 0 (va_A (MWs cI m0 a1 a2 a3 a4 K R L N ld o b k t) sz) := by
  refine Met.ofW (cc := cX2_take) (maxL := 6) (ret := (some .int)) (by decide) rfl ?_
  intro p e s m args below meth c s₁ B hml hv
  obtain ⟨rfl, ⟨hsz, hP, hD0⟩, hE⟩ := hv
  have hx := B.exec
  have hb := B.bytes
  have hr := B.returns
  have hts := atoms_spec (ws := wsX2_take) B.pre
  have hown : s.vm.findClass RX2 = some m.cls := findClass_of_methodNamed B.named
  have hlocks := B.notSynchronized
  have hl := lv_entry ([.ref m0, .int (nI j), .int w]) (n := 6) (Nat.le_of_ble_eq_true rfl)
  rw [lg_entry_eq]
  generalize (lg_sl ([.ref m0, .int (nI j), .int w]) ++ List.replicate (6 - (lg_sl ([.ref m0, .int (nI j), .int w])).length) Slot.unset).toArray = ls at hl ⊢
  have hl : lv_has ls 6 [(0, .ref m0), (1, .int (nI j)), (2, .int w)] := hl
  have hK := hE.1
  subst hsz
  have hD := hD0.self (sz := s.heap.size)
  generalize hAe : va_A ((MWs cI m0 a1 a2 a3 a4 K R L N ld o b k t)) s.heap.size = A at hD ⊢
  have hA : ∀ q : Nat, s.heap.size ≤ q → A q := fun q h => by rw [← hAe]; exact Or.inr h
  have hS : va_S A s.heap s.heap [] := va_S.rf
  refine lv_aload_n hx hb dX2_take_0 rfl (lv_at hl 0 rfl) ?_
  refine lv_iload_n hx hb dX2_take_1 rfl (lv_at hl 1 rfl) ?_
  refine xc_sie (va_runS (As := [.int (nI j)]) (rest := [.ref m0]) ⟨hx, hb, hml, hown, hts⟩ (c_X2_isPlace l (nI j)) (va_cwS 1 hts gX2_take_X2_isPlace rfl rfl rfl (by decide +kernel) ⟨(Nat.le_of_ble_eq_true rfl), (Nat.le_of_ble_eq_true rfl)⟩) ⟨XP_blind, XP_pre hE trivial⟩ rfl rfl hl.1 rfl (lv_room (Nat.le_of_ble_eq_true rfl)) dX2_take_2 ⟨Nat.le_of_ble_eq_true rfl, Nat.le_of_ble_eq_true rfl⟩) ?_
  refine x_top (nI 1) (by rw [decide_eq_true (pl_t hj)]; rfl) ?_
  refine lv_if_eq (tgt := 12) hx hb dX2_take_5 (by decide) (fun h => absurd h (by decide)) (fun _ => ?_)
  refine lv_iconst (v := nI 0) hx hb dX2_take_8 (by decide) ?_
  refine lv_goto (tgt := 13) hx hb dX2_take_9 (by decide) ?_
  have hP : va_P D vwCl ([] ++ (MWs cI m0 a1 a2 a3 a4 K R L N ld o b k t)) s.heap := hP
  have hD : va_D A ([] ++ (MWs cI m0 a1 a2 a3 a4 K R L N ld o b k t)) := hD
  have hFc := xfree (wc := (MWs cI m0 a1 a2 a3 a4 K R L N ld o b k t)) hD hS hA (fun _ h => List.mem_append_right _ h)
  have hPc := xP_sub (w2 := (MWs cI m0 a1 a2 a3 a4 K R L N ld o b k t)) (fun _ h => List.mem_append_right _ h) hP
  have hDc : va_D (fun _ => True) (MWs cI m0 a1 a2 a3 a4 K R L N ld o b k t) := (xD_sub (List.sublist_append_right _ _) hD).weaken (fun _ _ _ _ => trivial)
  refine va_calli (va_runV (As := [.int (nI 0)]) (rest := []) ⟨hx, hb, hml, hown, hts⟩ (c_X2_goes l m0 a1 a2 a3 a4 K R L N ld o b k t 0 (by omega) s.heap.size) (cwV 1 hts gX2_take_X2_goes rfl rfl rfl (by decide +kernel) ⟨(Nat.le_of_ble_eq_true rfl), (Nat.le_of_ble_eq_true rfl)⟩) ⟨XP_blind, va_recv hK hP (ci := 2) (q0 := 0) rfl rfl, XP_pre hE ⟨rfl, hPc, hDc⟩⟩ rfl rfl hl.1 rfl (lv_room (Nat.le_of_ble_eq_true rfl)) dX2_take_13 ⟨by first | exact Nat.le_of_ble_eq_true rfl | (show _ + _ ≤ _; omega), by first | exact Nat.le_of_ble_eq_true rfl | (show _ + _ ≤ _; omega)⟩) hS (fun q9 _ h => hFc q9 h) hFc (fun r9 u t9 H1 locs ht9 hvm9 hw9 hB9 hzc hkc hS => ?_)
  obtain ⟨hP1, hD1⟩ := hB9
  rw [ht9] at hP1
  obtain ⟨hP, hD⟩ := xjoin (wr := []) (wc := (MWs cI m0 a1 a2 a3 a4 K R L N ld o b k t)) (w1 := (MWs cI m0 a1 a2 a3 a4 K R L N ld o b k 0)) hP hD hkc hFc hP1 hD1
  generalize H1 = H at hP hS ⊢
  subst hw9
  have hP : va_P D vwCl [(m0, .inr (2, [.ref a1, .ref a2, .ref a3, .ref a4, .int (nI ld), .int (nI o), .int (nI b), .int (nI k), .int (nI 0)])), (a1, .inl (cI, 252, .inl K)), (a2, .inl (cI, 252, .inl R)), (a3, .inl (cI, 252, .inl L)), (a4, .inl (cI, 3024, .inl N))] H := hP
  have hD : va_D A [(m0, .inr (2, [.ref a1, .ref a2, .ref a3, .ref a4, .int (nI ld), .int (nI o), .int (nI b), .int (nI k), .int (nI 0)])), (a1, .inl (cI, 252, .inl K)), (a2, .inl (cI, 252, .inl R)), (a3, .inl (cI, 252, .inl L)), (a4, .inl (cI, 3024, .inl N))] := hD
  refine x_top (nI 1) rfl ?_
  refine lv_if_ne (tgt := 21) hx hb dX2_take_16 (by decide) (fun _ => ?_) (fun h => absurd h (by decide))
  refine lv_iload_n hx hb dX2_take_21 rfl (lv_at hl 1 rfl) ?_
  refine xc_sie (va_runS (As := [.int (nI j)]) (rest := []) ⟨hx, hb, hml, hown, hts⟩ (c_X2_live l j) (va_cwS 1 hts gX2_take_X2_live rfl rfl rfl (by decide +kernel) ⟨(Nat.le_of_ble_eq_true rfl), (Nat.le_of_ble_eq_true rfl)⟩) ⟨XP_blind, XP_pre hE trivial⟩ rfl rfl hl.1 rfl (lv_room (Nat.le_of_ble_eq_true rfl)) dX2_take_22 ⟨Nat.le_of_ble_eq_true rfl, Nat.le_of_ble_eq_true rfl⟩) ?_
  refine lv_istore_n (lv' := [(3, .int (nI (246 + j))), (0, .ref m0), (1, .int (nI j)), (2, .int w)]) hx hb dX2_take_25 rfl hl (by decide) rfl (fun ls hl => ?_)
  refine lv_aload_n hx hb dX2_take_26 rfl (lv_at hl 1 rfl) ?_
  refine lv_aload_n hx hb dX2_take_27 rfl (lv_at hl 1 rfl) ?_
  refine va_get (ci := 2) (v := .ref a1) (C := RX2) (T := TX2) (N := 9) hx hb hts iw_X2take_X2 hown hK hP 0 rfl rfl 0 (by decide) (hts (.fieldLink RX2 7 "BackMirrorModel" "kinds" "[I") (by decide +kernel)) (fun _ h9 => h9) rfl dX2_take_28 ?_
  refine lv_iload_n hx hb dX2_take_31 rfl (lv_at hl 0 rfl) ?_
  refine va_iald hx hb hK hP 1 0 rfl rfl (xin (by omega) (by omega)) dX2_take_32 ?_
  refine x_top (K (246 + j)) (by rw [nI_clamp (by omega)]) ?_
  refine x_top ((G (246 + j)).1) ((hM (246 + j) (by omega)).1) ?_
  refine lv_iconst (v := nI 1) hx hb dX2_take_33 (by decide) ?_
  refine lv_icmp_eq (tgt := 41) hx hb dX2_take_34 (by decide) (fun c34 => ?_) (fun c34 => ?_)
  · refine lv_iload_n hx hb dX2_take_41 rfl (lv_at hl 3 rfl) ?_
    refine lv_iconst (v := nI 0) hx hb dX2_take_42 (by decide) ?_
    refine lv_aload_n hx hb dX2_take_43 rfl (lv_at hl 1 rfl) ?_
    refine va_get (ci := 2) (v := .ref a3) (C := RX2) (T := TX2) (N := 9) hx hb hts iw_X2take_X2 hown hK hP 0 rfl rfl 2 (by decide) (hts (.fieldLink RX2 16 "BackMirrorModel" "lengths" "[I") (by decide +kernel)) (fun _ h9 => h9) rfl dX2_take_44 ?_
    refine lv_iload_n hx hb dX2_take_47 rfl (lv_at hl 0 rfl) ?_
    refine va_iald hx hb hK hP 3 0 rfl rfl (xin (by omega) (by omega)) dX2_take_48 ?_
    refine x_top (L (246 + j)) (by rw [nI_clamp (by omega)]) ?_
    have hb48 := (hM (246 + j) (by omega)).2.2.2.1
    refine x_top (nI ((G (246 + j)).2.2.1)) ((hM (246 + j) (by omega)).2.2.1) ?_
    refine lv_iconst (v := nI 1) hx hb dX2_take_49 (by decide) ?_
    refine lv_isub hx hb dX2_take_50 ?_
    refine x_top (nI (G (246 + j)).2.2.1 - nI 1) (rfl) ?_
    refine xc_sie (va_runS (As := [.int w, .int (nI 0), .int (nI (G (246 + j)).2.2.1 - nI 1)]) (rest := [.ref m0]) ⟨hx, hb, hml, hown, hts⟩ (c_X2_isIn l w (nI 0) (nI (G (246 + j)).2.2.1 - nI 1)) (va_cwS 3 hts gX2_take_X2_isIn rfl rfl rfl (by decide +kernel) ⟨(Nat.le_of_ble_eq_true rfl), (Nat.le_of_ble_eq_true rfl)⟩) ⟨XP_blind, XP_pre hE trivial⟩ rfl rfl hl.1 rfl (lv_room (Nat.le_of_ble_eq_true rfl)) dX2_take_51 ⟨Nat.le_of_ble_eq_true rfl, Nat.le_of_ble_eq_true rfl⟩) ?_
    refine lv_if_eq (tgt := 61) hx hb dX2_take_54 (by decide) (fun c54 => ?_) (fun c54 => ?_)
    · have c54 : (decide (nI 0 ≤ w ∧ w ≤ nI (G (246 + j)).2.2.1 - nI 1)) = false := bN_f c54
      refine lv_iconst (v := nI 3) hx hb dX2_take_61 (by decide) ?_
      have hP : va_P D vwCl ([] ++ (MWs cI m0 a1 a2 a3 a4 K R L N ld o b k 0)) H := hP
      have hD : va_D A ([] ++ (MWs cI m0 a1 a2 a3 a4 K R L N ld o b k 0)) := hD
      have hFc := xfree (wc := (MWs cI m0 a1 a2 a3 a4 K R L N ld o b k 0)) hD hS hA (fun _ h => List.mem_append_right _ h)
      have hPc := xP_sub (w2 := (MWs cI m0 a1 a2 a3 a4 K R L N ld o b k 0)) (fun _ h => List.mem_append_right _ h) hP
      have hDc : va_D (fun _ => True) (MWs cI m0 a1 a2 a3 a4 K R L N ld o b k 0) := (xD_sub (List.sublist_append_right _ _) hD).weaken (fun _ _ _ _ => trivial)
      refine va_calli (va_runV (As := [.int (nI 3)]) (rest := []) ⟨hx, hb, hml, hown, hts⟩ (c_X2_goes l m0 a1 a2 a3 a4 K R L N ld o b k 0 3 (by omega) H.size) (cwV 1 hts gX2_take_X2_goes rfl rfl rfl (by decide +kernel) ⟨(Nat.le_of_ble_eq_true rfl), (Nat.le_of_ble_eq_true rfl)⟩) ⟨XP_blind, va_recv hK hP (ci := 2) (q0 := 0) rfl rfl, XP_pre hE ⟨rfl, hPc, hDc⟩⟩ rfl rfl hl.1 rfl (lv_room (Nat.le_of_ble_eq_true rfl)) dX2_take_62 ⟨by first | exact Nat.le_of_ble_eq_true rfl | (show _ + _ ≤ _; omega), by first | exact Nat.le_of_ble_eq_true rfl | (show _ + _ ≤ _; omega)⟩) hS (fun q9 _ h => hFc q9 h) hFc (fun r9 u t9 H1 locs ht9 hvm9 hw9 hB9 hzc hkc hS => ?_)
      obtain ⟨hP1, hD1⟩ := hB9
      rw [ht9] at hP1
      obtain ⟨hP, hD⟩ := xjoin (wr := []) (wc := (MWs cI m0 a1 a2 a3 a4 K R L N ld o b k 0)) (w1 := (MWs cI m0 a1 a2 a3 a4 K R L N ld o b k 3)) hP hD hkc hFc hP1 hD1
      generalize H1 = H at hP hS ⊢
      subst hw9
      have hP : va_P D vwCl [(m0, .inr (2, [.ref a1, .ref a2, .ref a3, .ref a4, .int (nI ld), .int (nI o), .int (nI b), .int (nI k), .int (nI 3)])), (a1, .inl (cI, 252, .inl K)), (a2, .inl (cI, 252, .inl R)), (a3, .inl (cI, 252, .inl L)), (a4, .inl (cI, 3024, .inl N))] H := hP
      have hD : va_D A [(m0, .inr (2, [.ref a1, .ref a2, .ref a3, .ref a4, .int (nI ld), .int (nI o), .int (nI b), .int (nI k), .int (nI 3)])), (a1, .inl (cI, 252, .inl K)), (a2, .inl (cI, 252, .inl R)), (a3, .inl (cI, 252, .inl L)), (a4, .inl (cI, 3024, .inl N))] := hD
      refine x_top (nI 0) rfl ?_
      refine lv_if_ne (tgt := 70) hx hb dX2_take_65 (by decide) (fun h => absurd h (by decide)) (fun _ => ?_)
      refine lv_iconst (v := nI 0) hx hb dX2_take_68 (by decide) ?_
      exact W.iret hx hb hr (fun t9 ht9 hW9 => ⟨⟨_, (), rfl, trivial, _, _, _, _, by rw [ht9]; exact hP, hD, hM⟩, hS.F ht9⟩) hS.2.2 dX2_take_69
    · have c54 : (decide (nI 0 ≤ w ∧ w ≤ nI (G (246 + j)).2.2.1 - nI 1)) = true := bN_t c54
      exact absurd (in_ofS (by omega) c54) hbad
  · exact absurd hk1 c34

theorem iw_X2setRights_X2 : ∀ w ∈ u_ws RX2 TX2 9, w ∈ wsX2_setRights := by decide +kernel
set_option maxHeartbeats 4000000 in
set_option maxRecDepth 100000 in
theorem c_X2_setRights_g (l : Launch) {D : va_G} {cI cT cJ : ClassId} (m0 a1 a2 a3 a4 : Nat) (K R L N : Nat → Int32) (ld o b k t : Nat) (G : Nat → Tv) (hM : MA G K R L N) (j y : Nat) (hj : j < 6) (hk1 : ¬ (G (246 + j)).1 = nI 0) (hy : y ≤ 7) (sz : Nat) : Met l yX2_setRights wsX2_setRights (rmD 5 0 0) (XP D cI cT cJ [.ref m0, .int (nI j), .int (nI y)] (fun H => H.size = sz ∧ va_P D vwCl (MWs cI m0 a1 a2 a3 a4 K R L N ld o b k t) H ∧ va_D (fun _ => True) (MWs cI m0 a1 a2 a3 a4 K R L N ld o b k t))) (va_Qi (S := Unit) (fun r _ => r = (G (246 + j)).2.1) (fun _ t9 => MB D cI m0 a1 a2 a3 a4 (va_A (MWs cI m0 a1 a2 a3 a4 K R L N ld o b k t) sz) (va_up G (246 + j) ((G (246 + j)).1, nI y, (G (246 + j)).2.2.1, (G (246 + j)).2.2.2), o, ld, b, k) 0 t9.heap) (va_A (MWs cI m0 a1 a2 a3 a4 K R L N ld o b k t) sz)) 0 0 (va_A (MWs cI m0 a1 a2 a3 a4 K R L N ld o b k t) sz) := by
  refine Met.ofW (cc := cX2_setRights) (maxL := 4) (ret := (some .int)) (by decide) rfl ?_
  intro p e s m args below meth c s₁ B hml hv
  obtain ⟨rfl, ⟨hsz, hP, hD0⟩, hE⟩ := hv
  have hx := B.exec
  have hb := B.bytes
  have hr := B.returns
  have hts := atoms_spec (ws := wsX2_setRights) B.pre
  have hown : s.vm.findClass RX2 = some m.cls := findClass_of_methodNamed B.named
  have hlocks := B.notSynchronized
  have hl := lv_entry ([.ref m0, .int (nI j), .int (nI y)]) (n := 4) (Nat.le_of_ble_eq_true rfl)
  rw [lg_entry_eq]
  generalize (lg_sl ([.ref m0, .int (nI j), .int (nI y)]) ++ List.replicate (4 - (lg_sl ([.ref m0, .int (nI j), .int (nI y)])).length) Slot.unset).toArray = ls at hl ⊢
  have hl : lv_has ls 4 [(0, .ref m0), (1, .int (nI j)), (2, .int (nI y))] := hl
  have hK := hE.1
  subst hsz
  have hD := hD0.self (sz := s.heap.size)
  generalize hAe : va_A ((MWs cI m0 a1 a2 a3 a4 K R L N ld o b k t)) s.heap.size = A at hD ⊢
  have hA : ∀ q : Nat, s.heap.size ≤ q → A q := fun q h => by rw [← hAe]; exact Or.inr h
  have hS : va_S A s.heap s.heap [] := va_S.rf
  refine lv_aload_n hx hb dX2_setRights_0 rfl (lv_at hl 0 rfl) ?_
  refine lv_iload_n hx hb dX2_setRights_1 rfl (lv_at hl 1 rfl) ?_
  refine xc_sie (va_runS (As := [.int (nI j)]) (rest := [.ref m0]) ⟨hx, hb, hml, hown, hts⟩ (c_X2_isPlace l (nI j)) (va_cwS 1 hts gX2_setRights_X2_isPlace rfl rfl rfl (by decide +kernel) ⟨(Nat.le_of_ble_eq_true rfl), (Nat.le_of_ble_eq_true rfl)⟩) ⟨XP_blind, XP_pre hE trivial⟩ rfl rfl hl.1 rfl (lv_room (Nat.le_of_ble_eq_true rfl)) dX2_setRights_2 ⟨Nat.le_of_ble_eq_true rfl, Nat.le_of_ble_eq_true rfl⟩) ?_
  refine x_top (nI 1) (by rw [decide_eq_true (pl_t hj)]; rfl) ?_
  refine lv_if_ne (tgt := 12) hx hb dX2_setRights_5 (by decide) (fun _ => ?_) (fun h => absurd h (by decide))
  refine lv_aload_n hx hb dX2_setRights_12 rfl (lv_at hl 0 rfl) ?_
  refine va_get (ci := 2) (v := .ref a1) (C := RX2) (T := TX2) (N := 9) hx hb hts iw_X2setRights_X2 hown hK hP 0 rfl rfl 0 (by decide) (hts (.fieldLink RX2 7 "BackMirrorModel" "kinds" "[I") (by decide +kernel)) (fun _ h9 => h9) rfl dX2_setRights_13 ?_
  refine lv_iload_n hx hb dX2_setRights_16 rfl (lv_at hl 1 rfl) ?_
  refine xc_sie (va_runS (As := [.int (nI j)]) (rest := [.ref a1, .ref m0]) ⟨hx, hb, hml, hown, hts⟩ (c_X2_live l j) (va_cwS 1 hts gX2_setRights_X2_live rfl rfl rfl (by decide +kernel) ⟨(Nat.le_of_ble_eq_true rfl), (Nat.le_of_ble_eq_true rfl)⟩) ⟨XP_blind, XP_pre hE trivial⟩ rfl rfl hl.1 rfl (lv_room (Nat.le_of_ble_eq_true rfl)) dX2_setRights_17 ⟨Nat.le_of_ble_eq_true rfl, Nat.le_of_ble_eq_true rfl⟩) ?_
  refine va_iald hx hb hK hP 1 0 rfl rfl (xin (by omega) (by omega)) dX2_setRights_20 ?_
  refine x_top (K (246 + j)) (by rw [nI_clamp (by omega)]) ?_
  refine x_top ((G (246 + j)).1) ((hM (246 + j) (by omega)).1) ?_
  refine lv_if_ne (tgt := 28) hx hb dX2_setRights_21 (by decide) (fun c21 => ?_) (fun c21 => ?_)
  · refine lv_iload_n hx hb dX2_setRights_28 rfl (lv_at hl 2 rfl) ?_
    refine lv_iconst (v := nI 0) hx hb dX2_setRights_29 (by decide) ?_
    refine lv_bipush (v := nI 7) hx hb dX2_setRights_30 (by decide) ?_
    refine xc_sie (va_runS (As := [.int (nI y), .int (nI 0), .int (nI 7)]) (rest := [.ref m0]) ⟨hx, hb, hml, hown, hts⟩ (c_X2_isIn l (nI y) (nI 0) (nI 7)) (va_cwS 3 hts gX2_setRights_X2_isIn rfl rfl rfl (by decide +kernel) ⟨(Nat.le_of_ble_eq_true rfl), (Nat.le_of_ble_eq_true rfl)⟩) ⟨XP_blind, XP_pre hE trivial⟩ rfl rfl hl.1 rfl (lv_room (Nat.le_of_ble_eq_true rfl)) dX2_setRights_32 ⟨Nat.le_of_ble_eq_true rfl, Nat.le_of_ble_eq_true rfl⟩) ?_
    refine x_top (nI 1) (by rw [decide_eq_true (in_t (Nat.zero_le _) hy (by omega))]; rfl) ?_
    refine lv_if_eq (tgt := 42) hx hb dX2_setRights_35 (by decide) (fun h => absurd h (by decide)) (fun _ => ?_)
    refine lv_iconst (v := nI 0) hx hb dX2_setRights_38 (by decide) ?_
    refine lv_goto (tgt := 43) hx hb dX2_setRights_39 (by decide) ?_
    have hP : va_P D vwCl ([] ++ (MWs cI m0 a1 a2 a3 a4 K R L N ld o b k t)) s.heap := hP
    have hD : va_D A ([] ++ (MWs cI m0 a1 a2 a3 a4 K R L N ld o b k t)) := hD
    have hFc := xfree (wc := (MWs cI m0 a1 a2 a3 a4 K R L N ld o b k t)) hD hS hA (fun _ h => List.mem_append_right _ h)
    have hPc := xP_sub (w2 := (MWs cI m0 a1 a2 a3 a4 K R L N ld o b k t)) (fun _ h => List.mem_append_right _ h) hP
    have hDc : va_D (fun _ => True) (MWs cI m0 a1 a2 a3 a4 K R L N ld o b k t) := (xD_sub (List.sublist_append_right _ _) hD).weaken (fun _ _ _ _ => trivial)
    refine va_calli (va_runV (As := [.int (nI 0)]) (rest := []) ⟨hx, hb, hml, hown, hts⟩ (c_X2_goes l m0 a1 a2 a3 a4 K R L N ld o b k t 0 (by omega) s.heap.size) (cwV 1 hts gX2_setRights_X2_goes rfl rfl rfl (by decide +kernel) ⟨(Nat.le_of_ble_eq_true rfl), (Nat.le_of_ble_eq_true rfl)⟩) ⟨XP_blind, va_recv hK hP (ci := 2) (q0 := 0) rfl rfl, XP_pre hE ⟨rfl, hPc, hDc⟩⟩ rfl rfl hl.1 rfl (lv_room (Nat.le_of_ble_eq_true rfl)) dX2_setRights_43 ⟨by first | exact Nat.le_of_ble_eq_true rfl | (show _ + _ ≤ _; omega), by first | exact Nat.le_of_ble_eq_true rfl | (show _ + _ ≤ _; omega)⟩) hS (fun q9 _ h => hFc q9 h) hFc (fun r9 u t9 H1 locs ht9 hvm9 hw9 hB9 hzc hkc hS => ?_)
    obtain ⟨hP1, hD1⟩ := hB9
    rw [ht9] at hP1
    obtain ⟨hP, hD⟩ := xjoin (wr := []) (wc := (MWs cI m0 a1 a2 a3 a4 K R L N ld o b k t)) (w1 := (MWs cI m0 a1 a2 a3 a4 K R L N ld o b k 0)) hP hD hkc hFc hP1 hD1
    generalize H1 = H at hP hS ⊢
    subst hw9
    have hP : va_P D vwCl [(m0, .inr (2, [.ref a1, .ref a2, .ref a3, .ref a4, .int (nI ld), .int (nI o), .int (nI b), .int (nI k), .int (nI 0)])), (a1, .inl (cI, 252, .inl K)), (a2, .inl (cI, 252, .inl R)), (a3, .inl (cI, 252, .inl L)), (a4, .inl (cI, 3024, .inl N))] H := hP
    have hD : va_D A [(m0, .inr (2, [.ref a1, .ref a2, .ref a3, .ref a4, .int (nI ld), .int (nI o), .int (nI b), .int (nI k), .int (nI 0)])), (a1, .inl (cI, 252, .inl K)), (a2, .inl (cI, 252, .inl R)), (a3, .inl (cI, 252, .inl L)), (a4, .inl (cI, 3024, .inl N))] := hD
    refine x_top (nI 1) rfl ?_
    refine lv_if_ne (tgt := 51) hx hb dX2_setRights_46 (by decide) (fun _ => ?_) (fun h => absurd h (by decide))
    refine lv_aload_n hx hb dX2_setRights_51 rfl (lv_at hl 0 rfl) ?_
    refine va_get (ci := 2) (v := .ref a2) (C := RX2) (T := TX2) (N := 9) hx hb hts iw_X2setRights_X2 hown hK hP 0 rfl rfl 1 (by decide) (hts (.fieldLink RX2 13 "BackMirrorModel" "rights" "[I") (by decide +kernel)) (fun _ h9 => h9) rfl dX2_setRights_52 ?_
    refine lv_iload_n hx hb dX2_setRights_55 rfl (lv_at hl 1 rfl) ?_
    refine xc_sie (va_runS (As := [.int (nI j)]) (rest := [.ref a2]) ⟨hx, hb, hml, hown, hts⟩ (c_X2_live l j) (va_cwS 1 hts gX2_setRights_X2_live rfl rfl rfl (by decide +kernel) ⟨(Nat.le_of_ble_eq_true rfl), (Nat.le_of_ble_eq_true rfl)⟩) ⟨XP_blind, XP_pre hE trivial⟩ rfl rfl hl.1 rfl (lv_room (Nat.le_of_ble_eq_true rfl)) dX2_setRights_56 ⟨Nat.le_of_ble_eq_true rfl, Nat.le_of_ble_eq_true rfl⟩) ?_
    refine va_iald hx hb hK hP 2 0 rfl rfl (xin (by omega) (by omega)) dX2_setRights_59 ?_
    refine x_top (R (246 + j)) (by rw [nI_clamp (by omega)]) ?_
    refine x_top ((G (246 + j)).2.1) ((hM (246 + j) (by omega)).2.1) ?_
    refine lv_istore_n (lv' := [(3, .int ((G (246 + j)).2.1)), (0, .ref m0), (1, .int (nI j)), (2, .int (nI y))]) hx hb dX2_setRights_60 rfl hl (by decide) rfl (fun ls hl => ?_)
    refine lv_aload_n hx hb dX2_setRights_61 rfl (lv_at hl 1 rfl) ?_
    refine va_get (ci := 2) (v := .ref a2) (C := RX2) (T := TX2) (N := 9) hx hb hts iw_X2setRights_X2 hown hK hP 0 rfl rfl 1 (by decide) (hts (.fieldLink RX2 13 "BackMirrorModel" "rights" "[I") (by decide +kernel)) (fun _ h9 => h9) rfl dX2_setRights_62 ?_
    refine lv_iload_n hx hb dX2_setRights_65 rfl (lv_at hl 2 rfl) ?_
    refine xc_sie (va_runS (As := [.int (nI j)]) (rest := [.ref a2]) ⟨hx, hb, hml, hown, hts⟩ (c_X2_live l j) (va_cwS 1 hts gX2_setRights_X2_live rfl rfl rfl (by decide +kernel) ⟨(Nat.le_of_ble_eq_true rfl), (Nat.le_of_ble_eq_true rfl)⟩) ⟨XP_blind, XP_pre hE trivial⟩ rfl rfl hl.1 rfl (lv_room (Nat.le_of_ble_eq_true rfl)) dX2_setRights_66 ⟨Nat.le_of_ble_eq_true rfl, Nat.le_of_ble_eq_true rfl⟩) ?_
    refine lv_iload_n hx hb dX2_setRights_69 rfl (lv_at hl 3 rfl) ?_
    refine va_iast hx hb hK hP hD hS 2 0 rfl rfl (xin (by omega) (by omega)) dX2_setRights_70 (fun H locs hP hD hS => ?_)
    rw [nI_clamp (show 246 + j < 2 ^ 31 by omega)] at hP hD
    have hP : va_P D vwCl [(m0, .inr (2, [.ref a1, .ref a2, .ref a3, .ref a4, .int (nI ld), .int (nI o), .int (nI b), .int (nI k), .int (nI 0)])), (a1, .inl (cI, 252, .inl K)), (a2, .inl (cI, 252, .inl (upd R (246 + j) (nI y)))), (a3, .inl (cI, 252, .inl L)), (a4, .inl (cI, 3024, .inl N))] H := hP
    have hD : va_D A [(m0, .inr (2, [.ref a1, .ref a2, .ref a3, .ref a4, .int (nI ld), .int (nI o), .int (nI b), .int (nI k), .int (nI 0)])), (a1, .inl (cI, 252, .inl K)), (a2, .inl (cI, 252, .inl (upd R (246 + j) (nI y)))), (a3, .inl (cI, 252, .inl L)), (a4, .inl (cI, 3024, .inl N))] := hD
    refine lv_iload_n hx hb dX2_setRights_71 rfl (lv_at hl 0 rfl) ?_
    exact W.iret hx hb hr (fun t9 ht9 hW9 => ⟨⟨_, (), rfl, rfl, _, _, _, _, by rw [ht9]; exact hP, hD, (fun hM1 : _ ∧ _ ∧ _ ∧ _ ∧ _ => MA.set hM hM1.2.2.2.1 (hM1.1) (fun _ _ => rfl) (pk_us) (fun z h => pk_un h) (hM1.2.2.1) (fun _ _ => rfl) hM1.2.2.2.2 (fun _ _ => rfl)) (hM (246 + j) (by omega))⟩, hS.F ht9⟩) hS.2.2 dX2_setRights_72
  · exact absurd c21 hk1

set_option maxHeartbeats 4000000 in
set_option maxRecDepth 100000 in
theorem c_X2_setRights_b (l : Launch) {D : va_G} {cI cT cJ : ClassId} (m0 a1 a2 a3 a4 : Nat) (K R L N : Nat → Int32) (ld o b k t : Nat) (G : Nat → Tv) (hM : MA G K R L N) (v w : Int32) (hv : ¬ Pl v) (sz : Nat) : Met l yX2_setRights wsX2_setRights (rmD 5 0 0) (XP D cI cT cJ [.ref m0, .int v, .int w] (fun H => H.size = sz ∧ va_P D vwCl (MWs cI m0 a1 a2 a3 a4 K R L N ld o b k t) H ∧ va_D (fun _ => True) (MWs cI m0 a1 a2 a3 a4 K R L N ld o b k t))) (va_Qi (S := Unit) (fun r _ => True) (fun _ t9 => MB D cI m0 a1 a2 a3 a4 (va_A (MWs cI m0 a1 a2 a3 a4 K R L N ld o b k t) sz) (G, o, ld, b, k) 1 t9.heap) (va_A (MWs cI m0 a1 a2 a3 a4 K R L N ld o b k t) sz)) 0 0 (va_A (MWs cI m0 a1 a2 a3 a4 K R L N ld o b k t) sz) := by
  refine Met.ofW (cc := cX2_setRights) (maxL := 4) (ret := (some .int)) (by decide) rfl ?_
  intro p e s m args below meth c s₁ B hml hv
  obtain ⟨rfl, ⟨hsz, hP, hD0⟩, hE⟩ := hv
  have hx := B.exec
  have hb := B.bytes
  have hr := B.returns
  have hts := atoms_spec (ws := wsX2_setRights) B.pre
  have hown : s.vm.findClass RX2 = some m.cls := findClass_of_methodNamed B.named
  have hlocks := B.notSynchronized
  have hl := lv_entry ([.ref m0, .int v, .int w]) (n := 4) (Nat.le_of_ble_eq_true rfl)
  rw [lg_entry_eq]
  generalize (lg_sl ([.ref m0, .int v, .int w]) ++ List.replicate (4 - (lg_sl ([.ref m0, .int v, .int w])).length) Slot.unset).toArray = ls at hl ⊢
  have hl : lv_has ls 4 [(0, .ref m0), (1, .int v), (2, .int w)] := hl
  have hK := hE.1
  subst hsz
  have hD := hD0.self (sz := s.heap.size)
  generalize hAe : va_A ((MWs cI m0 a1 a2 a3 a4 K R L N ld o b k t)) s.heap.size = A at hD ⊢
  have hA : ∀ q : Nat, s.heap.size ≤ q → A q := fun q h => by rw [← hAe]; exact Or.inr h
  have hS : va_S A s.heap s.heap [] := va_S.rf
  refine lv_aload_n hx hb dX2_setRights_0 rfl (lv_at hl 0 rfl) ?_
  refine lv_iload_n hx hb dX2_setRights_1 rfl (lv_at hl 1 rfl) ?_
  refine xc_sie (va_runS (As := [.int v]) (rest := [.ref m0]) ⟨hx, hb, hml, hown, hts⟩ (c_X2_isPlace l v) (va_cwS 1 hts gX2_setRights_X2_isPlace rfl rfl rfl (by decide +kernel) ⟨(Nat.le_of_ble_eq_true rfl), (Nat.le_of_ble_eq_true rfl)⟩) ⟨XP_blind, XP_pre hE trivial⟩ rfl rfl hl.1 rfl (lv_room (Nat.le_of_ble_eq_true rfl)) dX2_setRights_2 ⟨Nat.le_of_ble_eq_true rfl, Nat.le_of_ble_eq_true rfl⟩) ?_
  refine x_top (nI 0) (by rw [decide_eq_false (pl_f hv)]; rfl) ?_
  refine lv_if_ne (tgt := 12) hx hb dX2_setRights_5 (by decide) (fun h => absurd h (by decide)) (fun _ => ?_)
  refine lv_iconst (v := nI 1) hx hb dX2_setRights_8 (by decide) ?_
  refine lv_goto (tgt := 43) hx hb dX2_setRights_9 (by decide) ?_
  have hP : va_P D vwCl ([] ++ (MWs cI m0 a1 a2 a3 a4 K R L N ld o b k t)) s.heap := hP
  have hD : va_D A ([] ++ (MWs cI m0 a1 a2 a3 a4 K R L N ld o b k t)) := hD
  have hFc := xfree (wc := (MWs cI m0 a1 a2 a3 a4 K R L N ld o b k t)) hD hS hA (fun _ h => List.mem_append_right _ h)
  have hPc := xP_sub (w2 := (MWs cI m0 a1 a2 a3 a4 K R L N ld o b k t)) (fun _ h => List.mem_append_right _ h) hP
  have hDc : va_D (fun _ => True) (MWs cI m0 a1 a2 a3 a4 K R L N ld o b k t) := (xD_sub (List.sublist_append_right _ _) hD).weaken (fun _ _ _ _ => trivial)
  refine va_calli (va_runV (As := [.int (nI 1)]) (rest := []) ⟨hx, hb, hml, hown, hts⟩ (c_X2_goes l m0 a1 a2 a3 a4 K R L N ld o b k t 1 (by omega) s.heap.size) (cwV 1 hts gX2_setRights_X2_goes rfl rfl rfl (by decide +kernel) ⟨(Nat.le_of_ble_eq_true rfl), (Nat.le_of_ble_eq_true rfl)⟩) ⟨XP_blind, va_recv hK hP (ci := 2) (q0 := 0) rfl rfl, XP_pre hE ⟨rfl, hPc, hDc⟩⟩ rfl rfl hl.1 rfl (lv_room (Nat.le_of_ble_eq_true rfl)) dX2_setRights_43 ⟨by first | exact Nat.le_of_ble_eq_true rfl | (show _ + _ ≤ _; omega), by first | exact Nat.le_of_ble_eq_true rfl | (show _ + _ ≤ _; omega)⟩) hS (fun q9 _ h => hFc q9 h) hFc (fun r9 u t9 H1 locs ht9 hvm9 hw9 hB9 hzc hkc hS => ?_)
  obtain ⟨hP1, hD1⟩ := hB9
  rw [ht9] at hP1
  obtain ⟨hP, hD⟩ := xjoin (wr := []) (wc := (MWs cI m0 a1 a2 a3 a4 K R L N ld o b k t)) (w1 := (MWs cI m0 a1 a2 a3 a4 K R L N ld o b k 1)) hP hD hkc hFc hP1 hD1
  generalize H1 = H at hP hS ⊢
  subst hw9
  have hP : va_P D vwCl [(m0, .inr (2, [.ref a1, .ref a2, .ref a3, .ref a4, .int (nI ld), .int (nI o), .int (nI b), .int (nI k), .int (nI 1)])), (a1, .inl (cI, 252, .inl K)), (a2, .inl (cI, 252, .inl R)), (a3, .inl (cI, 252, .inl L)), (a4, .inl (cI, 3024, .inl N))] H := hP
  have hD : va_D A [(m0, .inr (2, [.ref a1, .ref a2, .ref a3, .ref a4, .int (nI ld), .int (nI o), .int (nI b), .int (nI k), .int (nI 1)])), (a1, .inl (cI, 252, .inl K)), (a2, .inl (cI, 252, .inl R)), (a3, .inl (cI, 252, .inl L)), (a4, .inl (cI, 3024, .inl N))] := hD
  refine x_top (nI 0) rfl ?_
  refine lv_if_ne (tgt := 51) hx hb dX2_setRights_46 (by decide) (fun h => absurd h (by decide)) (fun _ => ?_)
  refine lv_iconst (v := nI 0) hx hb dX2_setRights_49 (by decide) ?_
  exact W.iret hx hb hr (fun t9 ht9 hW9 => ⟨⟨_, (), rfl, trivial, _, _, _, _, by rw [ht9]; exact hP, hD, hM⟩, hS.F ht9⟩) hS.2.2 dX2_setRights_50

set_option maxHeartbeats 4000000 in
set_option maxRecDepth 100000 in
theorem c_X2_setRights_c (l : Launch) {D : va_G} {cI cT cJ : ClassId} (m0 a1 a2 a3 a4 : Nat) (K R L N : Nat → Int32) (ld o b k t : Nat) (G : Nat → Tv) (hM : MA G K R L N) (j : Nat) (w : Int32) (hj : j < 6) (hk1 : (G (246 + j)).1 = nI 0) (sz : Nat) : Met l yX2_setRights wsX2_setRights (rmD 5 0 0) (XP D cI cT cJ [.ref m0, .int (nI j), .int w] (fun H => H.size = sz ∧ va_P D vwCl (MWs cI m0 a1 a2 a3 a4 K R L N ld o b k t) H ∧ va_D (fun _ => True) (MWs cI m0 a1 a2 a3 a4 K R L N ld o b k t))) (va_Qi (S := Unit) (fun r _ => True) (fun _ t9 => MB D cI m0 a1 a2 a3 a4 (va_A (MWs cI m0 a1 a2 a3 a4 K R L N ld o b k t) sz) (G, o, ld, b, k) 2 t9.heap) (va_A (MWs cI m0 a1 a2 a3 a4 K R L N ld o b k t) sz)) 0 0 (va_A (MWs cI m0 a1 a2 a3 a4 K R L N ld o b k t) sz) := by
  refine Met.ofW (cc := cX2_setRights) (maxL := 4) (ret := (some .int)) (by decide) rfl ?_
  intro p e s m args below meth c s₁ B hml hv
  obtain ⟨rfl, ⟨hsz, hP, hD0⟩, hE⟩ := hv
  have hx := B.exec
  have hb := B.bytes
  have hr := B.returns
  have hts := atoms_spec (ws := wsX2_setRights) B.pre
  have hown : s.vm.findClass RX2 = some m.cls := findClass_of_methodNamed B.named
  have hlocks := B.notSynchronized
  have hl := lv_entry ([.ref m0, .int (nI j), .int w]) (n := 4) (Nat.le_of_ble_eq_true rfl)
  rw [lg_entry_eq]
  generalize (lg_sl ([.ref m0, .int (nI j), .int w]) ++ List.replicate (4 - (lg_sl ([.ref m0, .int (nI j), .int w])).length) Slot.unset).toArray = ls at hl ⊢
  have hl : lv_has ls 4 [(0, .ref m0), (1, .int (nI j)), (2, .int w)] := hl
  have hK := hE.1
  subst hsz
  have hD := hD0.self (sz := s.heap.size)
  generalize hAe : va_A ((MWs cI m0 a1 a2 a3 a4 K R L N ld o b k t)) s.heap.size = A at hD ⊢
  have hA : ∀ q : Nat, s.heap.size ≤ q → A q := fun q h => by rw [← hAe]; exact Or.inr h
  have hS : va_S A s.heap s.heap [] := va_S.rf
  refine lv_aload_n hx hb dX2_setRights_0 rfl (lv_at hl 0 rfl) ?_
  refine lv_iload_n hx hb dX2_setRights_1 rfl (lv_at hl 1 rfl) ?_
  refine xc_sie (va_runS (As := [.int (nI j)]) (rest := [.ref m0]) ⟨hx, hb, hml, hown, hts⟩ (c_X2_isPlace l (nI j)) (va_cwS 1 hts gX2_setRights_X2_isPlace rfl rfl rfl (by decide +kernel) ⟨(Nat.le_of_ble_eq_true rfl), (Nat.le_of_ble_eq_true rfl)⟩) ⟨XP_blind, XP_pre hE trivial⟩ rfl rfl hl.1 rfl (lv_room (Nat.le_of_ble_eq_true rfl)) dX2_setRights_2 ⟨Nat.le_of_ble_eq_true rfl, Nat.le_of_ble_eq_true rfl⟩) ?_
  refine x_top (nI 1) (by rw [decide_eq_true (pl_t hj)]; rfl) ?_
  refine lv_if_ne (tgt := 12) hx hb dX2_setRights_5 (by decide) (fun _ => ?_) (fun h => absurd h (by decide))
  refine lv_aload_n hx hb dX2_setRights_12 rfl (lv_at hl 0 rfl) ?_
  refine va_get (ci := 2) (v := .ref a1) (C := RX2) (T := TX2) (N := 9) hx hb hts iw_X2setRights_X2 hown hK hP 0 rfl rfl 0 (by decide) (hts (.fieldLink RX2 7 "BackMirrorModel" "kinds" "[I") (by decide +kernel)) (fun _ h9 => h9) rfl dX2_setRights_13 ?_
  refine lv_iload_n hx hb dX2_setRights_16 rfl (lv_at hl 1 rfl) ?_
  refine xc_sie (va_runS (As := [.int (nI j)]) (rest := [.ref a1, .ref m0]) ⟨hx, hb, hml, hown, hts⟩ (c_X2_live l j) (va_cwS 1 hts gX2_setRights_X2_live rfl rfl rfl (by decide +kernel) ⟨(Nat.le_of_ble_eq_true rfl), (Nat.le_of_ble_eq_true rfl)⟩) ⟨XP_blind, XP_pre hE trivial⟩ rfl rfl hl.1 rfl (lv_room (Nat.le_of_ble_eq_true rfl)) dX2_setRights_17 ⟨Nat.le_of_ble_eq_true rfl, Nat.le_of_ble_eq_true rfl⟩) ?_
  refine va_iald hx hb hK hP 1 0 rfl rfl (xin (by omega) (by omega)) dX2_setRights_20 ?_
  refine x_top (K (246 + j)) (by rw [nI_clamp (by omega)]) ?_
  refine x_top ((G (246 + j)).1) ((hM (246 + j) (by omega)).1) ?_
  refine lv_if_ne (tgt := 28) hx hb dX2_setRights_21 (by decide) (fun c21 => ?_) (fun c21 => ?_)
  · exact absurd hk1 c21
  · refine lv_iconst (v := nI 2) hx hb dX2_setRights_24 (by decide) ?_
    refine lv_goto (tgt := 43) hx hb dX2_setRights_25 (by decide) ?_
    have hP : va_P D vwCl ([] ++ (MWs cI m0 a1 a2 a3 a4 K R L N ld o b k t)) s.heap := hP
    have hD : va_D A ([] ++ (MWs cI m0 a1 a2 a3 a4 K R L N ld o b k t)) := hD
    have hFc := xfree (wc := (MWs cI m0 a1 a2 a3 a4 K R L N ld o b k t)) hD hS hA (fun _ h => List.mem_append_right _ h)
    have hPc := xP_sub (w2 := (MWs cI m0 a1 a2 a3 a4 K R L N ld o b k t)) (fun _ h => List.mem_append_right _ h) hP
    have hDc : va_D (fun _ => True) (MWs cI m0 a1 a2 a3 a4 K R L N ld o b k t) := (xD_sub (List.sublist_append_right _ _) hD).weaken (fun _ _ _ _ => trivial)
    refine va_calli (va_runV (As := [.int (nI 2)]) (rest := []) ⟨hx, hb, hml, hown, hts⟩ (c_X2_goes l m0 a1 a2 a3 a4 K R L N ld o b k t 2 (by omega) s.heap.size) (cwV 1 hts gX2_setRights_X2_goes rfl rfl rfl (by decide +kernel) ⟨(Nat.le_of_ble_eq_true rfl), (Nat.le_of_ble_eq_true rfl)⟩) ⟨XP_blind, va_recv hK hP (ci := 2) (q0 := 0) rfl rfl, XP_pre hE ⟨rfl, hPc, hDc⟩⟩ rfl rfl hl.1 rfl (lv_room (Nat.le_of_ble_eq_true rfl)) dX2_setRights_43 ⟨by first | exact Nat.le_of_ble_eq_true rfl | (show _ + _ ≤ _; omega), by first | exact Nat.le_of_ble_eq_true rfl | (show _ + _ ≤ _; omega)⟩) hS (fun q9 _ h => hFc q9 h) hFc (fun r9 u t9 H1 locs ht9 hvm9 hw9 hB9 hzc hkc hS => ?_)
    obtain ⟨hP1, hD1⟩ := hB9
    rw [ht9] at hP1
    obtain ⟨hP, hD⟩ := xjoin (wr := []) (wc := (MWs cI m0 a1 a2 a3 a4 K R L N ld o b k t)) (w1 := (MWs cI m0 a1 a2 a3 a4 K R L N ld o b k 2)) hP hD hkc hFc hP1 hD1
    generalize H1 = H at hP hS ⊢
    subst hw9
    have hP : va_P D vwCl [(m0, .inr (2, [.ref a1, .ref a2, .ref a3, .ref a4, .int (nI ld), .int (nI o), .int (nI b), .int (nI k), .int (nI 2)])), (a1, .inl (cI, 252, .inl K)), (a2, .inl (cI, 252, .inl R)), (a3, .inl (cI, 252, .inl L)), (a4, .inl (cI, 3024, .inl N))] H := hP
    have hD : va_D A [(m0, .inr (2, [.ref a1, .ref a2, .ref a3, .ref a4, .int (nI ld), .int (nI o), .int (nI b), .int (nI k), .int (nI 2)])), (a1, .inl (cI, 252, .inl K)), (a2, .inl (cI, 252, .inl R)), (a3, .inl (cI, 252, .inl L)), (a4, .inl (cI, 3024, .inl N))] := hD
    refine x_top (nI 0) rfl ?_
    refine lv_if_ne (tgt := 51) hx hb dX2_setRights_46 (by decide) (fun h => absurd h (by decide)) (fun _ => ?_)
    refine lv_iconst (v := nI 0) hx hb dX2_setRights_49 (by decide) ?_
    exact W.iret hx hb hr (fun t9 ht9 hW9 => ⟨⟨_, (), rfl, trivial, _, _, _, _, by rw [ht9]; exact hP, hD, hM⟩, hS.F ht9⟩) hS.2.2 dX2_setRights_50

set_option maxHeartbeats 4000000 in
set_option maxRecDepth 100000 in
theorem c_X2_setRights_d (l : Launch) {D : va_G} {cI cT cJ : ClassId} (m0 a1 a2 a3 a4 : Nat) (K R L N : Nat → Int32) (ld o b k t : Nat) (G : Nat → Tv) (hM : MA G K R L N) (j : Nat) (w : Int32) (hj : j < 6) (hk1 : ¬ (G (246 + j)).1 = nI 0) (hbad : ¬ ∃ y, y ≤ 7 ∧ w = nI y) (sz : Nat) : Met l yX2_setRights wsX2_setRights (rmD 5 0 0) (XP D cI cT cJ [.ref m0, .int (nI j), .int w] (fun H => H.size = sz ∧ va_P D vwCl (MWs cI m0 a1 a2 a3 a4 K R L N ld o b k t) H ∧ va_D (fun _ => True) (MWs cI m0 a1 a2 a3 a4 K R L N ld o b k t))) (va_Qi (S := Unit) (fun r _ => True) (fun _ t9 => MB D cI m0 a1 a2 a3 a4 (va_A (MWs cI m0 a1 a2 a3 a4 K R L N ld o b k t) sz) (G, o, ld, b, k) 3 t9.heap) (va_A (MWs cI m0 a1 a2 a3 a4 K R L N ld o b k t) sz)) 0 0 (va_A (MWs cI m0 a1 a2 a3 a4 K R L N ld o b k t) sz) := by
  refine Met.ofW (cc := cX2_setRights) (maxL := 4) (ret := (some .int)) (by decide) rfl ?_
  intro p e s m args below meth c s₁ B hml hv
  obtain ⟨rfl, ⟨hsz, hP, hD0⟩, hE⟩ := hv
  have hx := B.exec
  have hb := B.bytes
  have hr := B.returns
  have hts := atoms_spec (ws := wsX2_setRights) B.pre
  have hown : s.vm.findClass RX2 = some m.cls := findClass_of_methodNamed B.named
  have hlocks := B.notSynchronized
  have hl := lv_entry ([.ref m0, .int (nI j), .int w]) (n := 4) (Nat.le_of_ble_eq_true rfl)
  rw [lg_entry_eq]
  generalize (lg_sl ([.ref m0, .int (nI j), .int w]) ++ List.replicate (4 - (lg_sl ([.ref m0, .int (nI j), .int w])).length) Slot.unset).toArray = ls at hl ⊢
  have hl : lv_has ls 4 [(0, .ref m0), (1, .int (nI j)), (2, .int w)] := hl
  have hK := hE.1
  subst hsz
  have hD := hD0.self (sz := s.heap.size)
  generalize hAe : va_A ((MWs cI m0 a1 a2 a3 a4 K R L N ld o b k t)) s.heap.size = A at hD ⊢
  have hA : ∀ q : Nat, s.heap.size ≤ q → A q := fun q h => by rw [← hAe]; exact Or.inr h
  have hS : va_S A s.heap s.heap [] := va_S.rf
  refine lv_aload_n hx hb dX2_setRights_0 rfl (lv_at hl 0 rfl) ?_
  refine lv_iload_n hx hb dX2_setRights_1 rfl (lv_at hl 1 rfl) ?_
  refine xc_sie (va_runS (As := [.int (nI j)]) (rest := [.ref m0]) ⟨hx, hb, hml, hown, hts⟩ (c_X2_isPlace l (nI j)) (va_cwS 1 hts gX2_setRights_X2_isPlace rfl rfl rfl (by decide +kernel) ⟨(Nat.le_of_ble_eq_true rfl), (Nat.le_of_ble_eq_true rfl)⟩) ⟨XP_blind, XP_pre hE trivial⟩ rfl rfl hl.1 rfl (lv_room (Nat.le_of_ble_eq_true rfl)) dX2_setRights_2 ⟨Nat.le_of_ble_eq_true rfl, Nat.le_of_ble_eq_true rfl⟩) ?_
  refine x_top (nI 1) (by rw [decide_eq_true (pl_t hj)]; rfl) ?_
  refine lv_if_ne (tgt := 12) hx hb dX2_setRights_5 (by decide) (fun _ => ?_) (fun h => absurd h (by decide))
  refine lv_aload_n hx hb dX2_setRights_12 rfl (lv_at hl 0 rfl) ?_
  refine va_get (ci := 2) (v := .ref a1) (C := RX2) (T := TX2) (N := 9) hx hb hts iw_X2setRights_X2 hown hK hP 0 rfl rfl 0 (by decide) (hts (.fieldLink RX2 7 "BackMirrorModel" "kinds" "[I") (by decide +kernel)) (fun _ h9 => h9) rfl dX2_setRights_13 ?_
  refine lv_iload_n hx hb dX2_setRights_16 rfl (lv_at hl 1 rfl) ?_
  refine xc_sie (va_runS (As := [.int (nI j)]) (rest := [.ref a1, .ref m0]) ⟨hx, hb, hml, hown, hts⟩ (c_X2_live l j) (va_cwS 1 hts gX2_setRights_X2_live rfl rfl rfl (by decide +kernel) ⟨(Nat.le_of_ble_eq_true rfl), (Nat.le_of_ble_eq_true rfl)⟩) ⟨XP_blind, XP_pre hE trivial⟩ rfl rfl hl.1 rfl (lv_room (Nat.le_of_ble_eq_true rfl)) dX2_setRights_17 ⟨Nat.le_of_ble_eq_true rfl, Nat.le_of_ble_eq_true rfl⟩) ?_
  refine va_iald hx hb hK hP 1 0 rfl rfl (xin (by omega) (by omega)) dX2_setRights_20 ?_
  refine x_top (K (246 + j)) (by rw [nI_clamp (by omega)]) ?_
  refine x_top ((G (246 + j)).1) ((hM (246 + j) (by omega)).1) ?_
  refine lv_if_ne (tgt := 28) hx hb dX2_setRights_21 (by decide) (fun c21 => ?_) (fun c21 => ?_)
  · refine lv_iload_n hx hb dX2_setRights_28 rfl (lv_at hl 2 rfl) ?_
    refine lv_iconst (v := nI 0) hx hb dX2_setRights_29 (by decide) ?_
    refine lv_bipush (v := nI 7) hx hb dX2_setRights_30 (by decide) ?_
    refine xc_sie (va_runS (As := [.int w, .int (nI 0), .int (nI 7)]) (rest := [.ref m0]) ⟨hx, hb, hml, hown, hts⟩ (c_X2_isIn l w (nI 0) (nI 7)) (va_cwS 3 hts gX2_setRights_X2_isIn rfl rfl rfl (by decide +kernel) ⟨(Nat.le_of_ble_eq_true rfl), (Nat.le_of_ble_eq_true rfl)⟩) ⟨XP_blind, XP_pre hE trivial⟩ rfl rfl hl.1 rfl (lv_room (Nat.le_of_ble_eq_true rfl)) dX2_setRights_32 ⟨Nat.le_of_ble_eq_true rfl, Nat.le_of_ble_eq_true rfl⟩) ?_
    refine x_top (nI 0) (by rw [decide_eq_false (in_f0 (by omega) hbad)]; rfl) ?_
    refine lv_if_eq (tgt := 42) hx hb dX2_setRights_35 (by decide) (fun _ => ?_) (fun h => absurd h (by decide))
    refine lv_iconst (v := nI 3) hx hb dX2_setRights_42 (by decide) ?_
    have hP : va_P D vwCl ([] ++ (MWs cI m0 a1 a2 a3 a4 K R L N ld o b k t)) s.heap := hP
    have hD : va_D A ([] ++ (MWs cI m0 a1 a2 a3 a4 K R L N ld o b k t)) := hD
    have hFc := xfree (wc := (MWs cI m0 a1 a2 a3 a4 K R L N ld o b k t)) hD hS hA (fun _ h => List.mem_append_right _ h)
    have hPc := xP_sub (w2 := (MWs cI m0 a1 a2 a3 a4 K R L N ld o b k t)) (fun _ h => List.mem_append_right _ h) hP
    have hDc : va_D (fun _ => True) (MWs cI m0 a1 a2 a3 a4 K R L N ld o b k t) := (xD_sub (List.sublist_append_right _ _) hD).weaken (fun _ _ _ _ => trivial)
    refine va_calli (va_runV (As := [.int (nI 3)]) (rest := []) ⟨hx, hb, hml, hown, hts⟩ (c_X2_goes l m0 a1 a2 a3 a4 K R L N ld o b k t 3 (by omega) s.heap.size) (cwV 1 hts gX2_setRights_X2_goes rfl rfl rfl (by decide +kernel) ⟨(Nat.le_of_ble_eq_true rfl), (Nat.le_of_ble_eq_true rfl)⟩) ⟨XP_blind, va_recv hK hP (ci := 2) (q0 := 0) rfl rfl, XP_pre hE ⟨rfl, hPc, hDc⟩⟩ rfl rfl hl.1 rfl (lv_room (Nat.le_of_ble_eq_true rfl)) dX2_setRights_43 ⟨by first | exact Nat.le_of_ble_eq_true rfl | (show _ + _ ≤ _; omega), by first | exact Nat.le_of_ble_eq_true rfl | (show _ + _ ≤ _; omega)⟩) hS (fun q9 _ h => hFc q9 h) hFc (fun r9 u t9 H1 locs ht9 hvm9 hw9 hB9 hzc hkc hS => ?_)
    obtain ⟨hP1, hD1⟩ := hB9
    rw [ht9] at hP1
    obtain ⟨hP, hD⟩ := xjoin (wr := []) (wc := (MWs cI m0 a1 a2 a3 a4 K R L N ld o b k t)) (w1 := (MWs cI m0 a1 a2 a3 a4 K R L N ld o b k 3)) hP hD hkc hFc hP1 hD1
    generalize H1 = H at hP hS ⊢
    subst hw9
    have hP : va_P D vwCl [(m0, .inr (2, [.ref a1, .ref a2, .ref a3, .ref a4, .int (nI ld), .int (nI o), .int (nI b), .int (nI k), .int (nI 3)])), (a1, .inl (cI, 252, .inl K)), (a2, .inl (cI, 252, .inl R)), (a3, .inl (cI, 252, .inl L)), (a4, .inl (cI, 3024, .inl N))] H := hP
    have hD : va_D A [(m0, .inr (2, [.ref a1, .ref a2, .ref a3, .ref a4, .int (nI ld), .int (nI o), .int (nI b), .int (nI k), .int (nI 3)])), (a1, .inl (cI, 252, .inl K)), (a2, .inl (cI, 252, .inl R)), (a3, .inl (cI, 252, .inl L)), (a4, .inl (cI, 3024, .inl N))] := hD
    refine x_top (nI 0) rfl ?_
    refine lv_if_ne (tgt := 51) hx hb dX2_setRights_46 (by decide) (fun h => absurd h (by decide)) (fun _ => ?_)
    refine lv_iconst (v := nI 0) hx hb dX2_setRights_49 (by decide) ?_
    exact W.iret hx hb hr (fun t9 ht9 hW9 => ⟨⟨_, (), rfl, trivial, _, _, _, _, by rw [ht9]; exact hP, hD, hM⟩, hS.F ht9⟩) hS.2.2 dX2_setRights_50
  · exact absurd c21 hk1
