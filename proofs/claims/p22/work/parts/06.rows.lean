/-! the class, rows of numbers: sharedLength, isSameRow, longestCopy, rowTakes, keptIndex -/

theorem rowB_f1 {n1 n2 : Nat} {f g : Nat → Int32} (h : ¬ n1 = n2) : rowB n1 n2 f g = false := decide_eq_false fun c => h c.1
theorem rowB_t {n1 n2 : Nat} {f g : Nat → Int32} (h : n1 = n2) (h2 : shL f g n1 n2 0 0 = n1) : rowB n1 n2 f g = true := by
  subst h
  exact decide_eq_true ⟨rfl, shL_all.mp h2⟩
theorem rowB_f2 {n1 n2 : Nat} {f g : Nat → Int32} (h : n1 = n2) (h2 : ¬ shL f g n1 n2 0 0 = n1) : rowB n1 n2 f g = false := by
  subst h
  exact decide_eq_false fun c => h2 (shL_all.mpr c.2)

set_option maxHeartbeats 4000000 in
set_option maxRecDepth 100000 in
theorem c_X1_keptIndex (l : Launch) {D : va_G} {cI cT cJ : ClassId} (d q : Nat) : Met l yX1_keptIndex wsX1_keptIndex (rmD 1 0 0) (XP D cI cT cJ [.int (nI d), .int (nI q)] (fun _ => True)) (XSi (fun r => r = nI (6 * d + q))) 0 0 (fun _ => False) := by
  refine Met.ofW (cc := cX1_keptIndex) (maxL := 2) (ret := (some .int)) (by decide) rfl ?_
  intro p e s m args below meth c s₁ B hml hv
  obtain ⟨rfl, hF, hE⟩ := hv
  have hx := B.exec
  have hb := B.bytes
  have hr := B.returns
  have hts := atoms_spec (ws := wsX1_keptIndex) B.pre
  have hown : s.vm.findClass RX1 = some m.cls := findClass_of_methodNamed B.named
  have hlocks := B.notSynchronized
  have hl := lv_entry ([.int (nI d), .int (nI q)]) (n := 2) (Nat.le_of_ble_eq_true rfl)
  rw [lg_entry_eq]
  generalize (lg_sl ([.int (nI d), .int (nI q)]) ++ List.replicate (2 - (lg_sl ([.int (nI d), .int (nI q)])).length) Slot.unset).toArray = ls at hl ⊢
  have hl : lv_has ls 2 [(0, .int (nI d)), (1, .int (nI q))] := hl
  refine lv_iload_n hx hb dX1_keptIndex_0 rfl (lv_at hl 0 rfl) ?_
  refine lv_bipush (v := nI 6) hx hb dX1_keptIndex_1 (by decide) ?_
  refine lv_imul hx hb dX1_keptIndex_3 ?_
  refine x_top (nI (d * 6)) (pk_mul _ _) ?_
  refine lv_iload_n hx hb dX1_keptIndex_4 rfl (lv_at hl 1 rfl) ?_
  refine lv_iadd hx hb dX1_keptIndex_5 ?_
  refine x_top (nI ((d * 6) + q)) (xadd (by omega)) ?_
  exact W.iret hx hb hr (fun t9 ht9 hW9 => ⟨_, rfl, by rw [Nat.mul_comm], ht9⟩) (fun _ h => nomatch h) dX1_keptIndex_6

set_option maxHeartbeats 4000000 in
set_option maxRecDepth 100000 in
theorem c_X1_sharedLength (l : Launch) {D : va_G} {cI cT cJ : ClassId} (a b n1 n2 x y : Nat) (f g : Nat → Int32) (hn1 : n1 ≤ 1000) (hn2 : n2 ≤ 1000) (hxx : x ≤ n1) (hyy : y ≤ n2) : Met l yX1_sharedLength wsX1_sharedLength (rmD 1 0 0) (XP D cI cT cJ [.ref a, .int (nI x), .ref b, .int (nI y)] (fun H => va_P D vwCl [(a, .inl (cI, n1, .inl f)), (b, .inl (cI, n2, .inl g))] H)) (XSi (fun r => r = nI (shL f g n1 n2 x y))) 0 0 (fun _ => False) := by
  refine Met.ofW (cc := cX1_sharedLength) (maxL := 5) (ret := (some .int)) (by decide) rfl ?_
  intro p e s m args below meth c s₁ B hml hv
  obtain ⟨rfl, hP, hE⟩ := hv
  have hx := B.exec
  have hb := B.bytes
  have hr := B.returns
  have hts := atoms_spec (ws := wsX1_sharedLength) B.pre
  have hown : s.vm.findClass RX1 = some m.cls := findClass_of_methodNamed B.named
  have hlocks := B.notSynchronized
  have hl := lv_entry ([.ref a, .int (nI x), .ref b, .int (nI y)]) (n := 5) (Nat.le_of_ble_eq_true rfl)
  rw [lg_entry_eq]
  generalize (lg_sl ([.ref a, .int (nI x), .ref b, .int (nI y)]) ++ List.replicate (5 - (lg_sl ([.ref a, .int (nI x), .ref b, .int (nI y)])).length) Slot.unset).toArray = ls at hl ⊢
  have hl : lv_has ls 5 [(0, .ref a), (1, .int (nI x)), (2, .ref b), (3, .int (nI y))] := hl
  have hK := hE.1
  refine lv_iconst (v := nI 0) hx hb dX1_sharedLength_0 (by decide) ?_
  refine lv_istore (lv' := [(4, .int (nI 0)), (0, .ref a), (1, .int (nI x)), (2, .ref b), (3, .int (nI y))]) hx hb dX1_sharedLength_1 hl (by decide) rfl (fun ls hl => ?_)
  refine x_loopP (fun n ls => ∃ i k : Nat, (k + 1 = n) ∧ (n1 ≤ x + i + k) ∧ (x + i ≤ n1) ∧ (y + i ≤ n2) ∧ (shl f g n1 n2 x y k i = shL f g n1 n2 x y) ∧ lv_has ls 5 [(4, .int (nI i)), (0, .ref a), (1, .int (nI x)), (2, .ref b), (3, .int (nI y))]) (n1 + 1) ⟨0, n1, rfl, by omega, by omega, by omega, rfl, lv_sub hl [0, 1, 2, 3, 4] rfl⟩ (fun ls h => by obtain ⟨i, k, hk, h1, h2, h3, hv, -⟩ := h; omega) (fun n ls h ih => ?_)
  obtain ⟨i, k, hk, h1, h2, h3, hv, hl⟩ := h
  refine lv_iload_n hx hb dX1_sharedLength_3 rfl (lv_at hl 2 rfl) ?_
  refine lv_iload hx hb dX1_sharedLength_4 (lv_at hl 0 rfl) ?_
  refine lv_iadd hx hb dX1_sharedLength_6 ?_
  refine x_top (nI (x + i)) (xadd (by omega)) ?_
  refine lv_aload_n hx hb dX1_sharedLength_7 rfl (lv_at hl 1 rfl) ?_
  refine va_alen hx hb hK hP 0 0 rfl rfl (v := nI n1) rfl dX1_sharedLength_8 ?_
  refine lv_icmp_ge (tgt := 42) hx hb dX1_sharedLength_9 (by decide) (fun c9 => ?_) (fun c9 => ?_)
  · have c9 : n1 ≤ (x + i) := (xle (by omega) (by omega)).mp c9
    refine lv_iload hx hb dX1_sharedLength_42 (lv_at hl 0 rfl) ?_
    exact W.iret hx hb hr (fun t9 ht9 hW9 => ⟨_, rfl, by rw [← hv, shl_stop _ _ (fun h => by first | omega | exact c33 h.2.2)], ht9⟩) (fun _ h => nomatch h) dX1_sharedLength_44
  · have c9 : ¬ n1 ≤ (x + i) := fun h => c9 ((xle (by omega) (by omega)).mpr h)
    refine lv_iload_n hx hb dX1_sharedLength_12 rfl (lv_at hl 4 rfl) ?_
    refine lv_iload hx hb dX1_sharedLength_13 (lv_at hl 0 rfl) ?_
    refine lv_iadd hx hb dX1_sharedLength_15 ?_
    refine x_top (nI (y + i)) (xadd (by omega)) ?_
    refine lv_aload_n hx hb dX1_sharedLength_16 rfl (lv_at hl 3 rfl) ?_
    refine va_alen hx hb hK hP 1 0 rfl rfl (v := nI n2) rfl dX1_sharedLength_17 ?_
    refine lv_icmp_ge (tgt := 42) hx hb dX1_sharedLength_18 (by decide) (fun c18 => ?_) (fun c18 => ?_)
    · have c18 : n2 ≤ (y + i) := (xle (by omega) (by omega)).mp c18
      refine lv_iload hx hb dX1_sharedLength_42 (lv_at hl 0 rfl) ?_
      exact W.iret hx hb hr (fun t9 ht9 hW9 => ⟨_, rfl, by rw [← hv, shl_stop _ _ (fun h => by first | omega | exact c33 h.2.2)], ht9⟩) (fun _ h => nomatch h) dX1_sharedLength_44
    · have c18 : ¬ n2 ≤ (y + i) := fun h => c18 ((xle (by omega) (by omega)).mpr h)
      refine lv_aload_n hx hb dX1_sharedLength_21 rfl (lv_at hl 1 rfl) ?_
      refine lv_iload_n hx hb dX1_sharedLength_22 rfl (lv_at hl 2 rfl) ?_
      refine lv_iload hx hb dX1_sharedLength_23 (lv_at hl 0 rfl) ?_
      refine lv_iadd hx hb dX1_sharedLength_25 ?_
      refine x_top (nI (x + i)) (xadd (by omega)) ?_
      refine va_iald hx hb hK hP 0 0 rfl rfl (xin (by omega) (by omega)) dX1_sharedLength_26 ?_
      refine x_top (f (x + i)) (by rw [nI_clamp (by omega)]) ?_
      refine lv_aload_n hx hb dX1_sharedLength_27 rfl (lv_at hl 3 rfl) ?_
      refine lv_iload_n hx hb dX1_sharedLength_28 rfl (lv_at hl 4 rfl) ?_
      refine lv_iload hx hb dX1_sharedLength_29 (lv_at hl 0 rfl) ?_
      refine lv_iadd hx hb dX1_sharedLength_31 ?_
      refine x_top (nI (y + i)) (xadd (by omega)) ?_
      refine va_iald hx hb hK hP 1 0 rfl rfl (xin (by omega) (by omega)) dX1_sharedLength_32 ?_
      refine x_top (g (y + i)) (by rw [nI_clamp (by omega)]) ?_
      refine lv_icmp_ne (tgt := 42) hx hb dX1_sharedLength_33 (by decide) (fun c33 => ?_) (fun c33 => ?_)
      · refine lv_iload hx hb dX1_sharedLength_42 (lv_at hl 0 rfl) ?_
        exact W.iret hx hb hr (fun t9 ht9 hW9 => ⟨_, rfl, by rw [← hv, shl_stop _ _ (fun h => by first | omega | exact c33 h.2.2)], ht9⟩) (fun _ h => nomatch h) dX1_sharedLength_44
      · refine lv_iinc (v := nI (i + 1)) (lv' := [(4, .int (nI (i + 1))), (0, .ref a), (1, .int (nI x)), (2, .ref b), (3, .int (nI y))]) hx hb dX1_sharedLength_36 hl (k := 0) rfl (xinc _ 1 _ (by decide)) (by decide) rfl (fun ls hl => ?_)
        refine lv_goto (tgt := 3) hx hb dX1_sharedLength_39 (by decide) ?_
        obtain ⟨k, rfl⟩ : ∃ j, k = j + 1 := ⟨k - 1, by omega⟩
        exact ih _ ⟨i + 1, k, by omega, by omega, by omega, by omega, by rw [← hv, shl_step _ _ ⟨by omega, by omega, c33⟩], lv_sub hl [0, 1, 2, 3, 4] rfl⟩

set_option maxHeartbeats 4000000 in
set_option maxRecDepth 100000 in
theorem c_X1_isSameRow (l : Launch) {D : va_G} {cI cT cJ : ClassId} (a b n1 n2 : Nat) (f g : Nat → Int32) (hn1 : n1 ≤ 1000) (hn2 : n2 ≤ 1000) : Met l yX1_isSameRow wsX1_isSameRow (rmD 2 0 0) (XP D cI cT cJ [.ref a, .ref b] (fun H => va_P D vwCl [(a, .inl (cI, n1, .inl f)), (b, .inl (cI, n2, .inl g))] H)) (XSi (fun r => r = nI (bN (rowB n1 n2 f g)))) 0 0 (fun _ => False) := by
  refine Met.ofW (cc := cX1_isSameRow) (maxL := 2) (ret := (some .boolean)) (by decide) rfl ?_
  intro p e s m args below meth c s₁ B hml hv
  obtain ⟨rfl, hP, hE⟩ := hv
  have hx := B.exec
  have hb := B.bytes
  have hr := B.returns
  have hts := atoms_spec (ws := wsX1_isSameRow) B.pre
  have hown : s.vm.findClass RX1 = some m.cls := findClass_of_methodNamed B.named
  have hlocks := B.notSynchronized
  have hl := lv_entry ([.ref a, .ref b]) (n := 2) (Nat.le_of_ble_eq_true rfl)
  rw [lg_entry_eq]
  generalize (lg_sl ([.ref a, .ref b]) ++ List.replicate (2 - (lg_sl ([.ref a, .ref b])).length) Slot.unset).toArray = ls at hl ⊢
  have hl : lv_has ls 2 [(0, .ref a), (1, .ref b)] := hl
  have hK := hE.1
  have hsh := shL_le (f := f) (g := g) (n1 := n1) (n2 := n2) (s := 0) (t := 0) (Nat.zero_le _)
  refine lv_aload_n hx hb dX1_isSameRow_0 rfl (lv_at hl 0 rfl) ?_
  refine va_alen hx hb hK hP 0 0 rfl rfl (v := nI n1) rfl dX1_isSameRow_1 ?_
  refine lv_aload_n hx hb dX1_isSameRow_2 rfl (lv_at hl 1 rfl) ?_
  refine va_alen hx hb hK hP 1 0 rfl rfl (v := nI n2) rfl dX1_isSameRow_3 ?_
  refine lv_icmp_ne (tgt := 23) hx hb dX1_isSameRow_4 (by decide) (fun c4 => ?_) (fun c4 => ?_)
  · have c4 : ¬ n1 = n2 := fun h => c4 ((xeq (by omega) (by omega)).mpr h)
    refine lv_iconst (v := nI 0) hx hb dX1_isSameRow_23 (by decide) ?_
    exact W.zret hx hb hr (xnb _ (by omega)) (fun t9 ht9 hW9 => ⟨_, rfl, by first | (rw [rowB_t (by omega) (by omega)]; rfl) | (rw [rowB_f1 (by omega)]; rfl) | (rw [rowB_f2 (by omega) (by omega)]; rfl), ht9⟩) (fun _ h => nomatch h) dX1_isSameRow_24
  · have c4 : n1 = n2 := (xeq (by omega) (by omega)).mp c4
    refine lv_aload_n hx hb dX1_isSameRow_7 rfl (lv_at hl 0 rfl) ?_
    refine lv_iconst (v := nI 0) hx hb dX1_isSameRow_8 (by decide) ?_
    refine lv_aload_n hx hb dX1_isSameRow_9 rfl (lv_at hl 1 rfl) ?_
    refine lv_iconst (v := nI 0) hx hb dX1_isSameRow_10 (by decide) ?_
    refine xc_sie (va_runS (As := [.ref a, .int (nI 0), .ref b, .int (nI 0)]) (rest := []) ⟨hx, hb, hml, hown, hts⟩ (c_X1_sharedLength l a b n1 n2 0 0 f g (by omega) (by omega) (by omega) (by omega)) (va_cwS 4 hts gX1_isSameRow_X1_sharedLength rfl rfl rfl (by decide +kernel) ⟨(Nat.le_of_ble_eq_true rfl), (Nat.le_of_ble_eq_true rfl)⟩) ⟨XP_blind, XP_pre hE hP⟩ rfl rfl hl.1 rfl (lv_room (Nat.le_of_ble_eq_true rfl)) dX1_isSameRow_11 ⟨Nat.le_of_ble_eq_true rfl, Nat.le_of_ble_eq_true rfl⟩) ?_
    refine lv_aload_n hx hb dX1_isSameRow_14 rfl (lv_at hl 0 rfl) ?_
    refine va_alen hx hb hK hP 0 0 rfl rfl (v := nI n1) rfl dX1_isSameRow_15 ?_
    refine lv_icmp_ne (tgt := 23) hx hb dX1_isSameRow_16 (by decide) (fun c16 => ?_) (fun c16 => ?_)
    · have c16 : ¬ (shL f g n1 n2 0 0) = n1 := fun h => c16 ((xeq (by omega) (by omega)).mpr h)
      refine lv_iconst (v := nI 0) hx hb dX1_isSameRow_23 (by decide) ?_
      exact W.zret hx hb hr (xnb _ (by omega)) (fun t9 ht9 hW9 => ⟨_, rfl, by first | (rw [rowB_t (by omega) (by omega)]; rfl) | (rw [rowB_f1 (by omega)]; rfl) | (rw [rowB_f2 (by omega) (by omega)]; rfl), ht9⟩) (fun _ h => nomatch h) dX1_isSameRow_24
    · have c16 : (shL f g n1 n2 0 0) = n1 := (xeq (by omega) (by omega)).mp c16
      refine lv_iconst (v := nI 1) hx hb dX1_isSameRow_19 (by decide) ?_
      refine lv_goto (tgt := 24) hx hb dX1_isSameRow_20 (by decide) ?_
      exact W.zret hx hb hr (xnb _ (by omega)) (fun t9 ht9 hW9 => ⟨_, rfl, by first | (rw [rowB_t (by omega) (by omega)]; rfl) | (rw [rowB_f1 (by omega)]; rfl) | (rw [rowB_f2 (by omega) (by omega)]; rfl), ht9⟩) (fun _ h => nomatch h) dX1_isSameRow_24

set_option maxHeartbeats 4000000 in
set_option maxRecDepth 100000 in
theorem c_X1_longestCopy (l : Launch) {D : va_G} {cI cT cJ : ClassId} (a b n1 n2 x : Nat) (f g : Nat → Int32) (hn1 : n1 ≤ 1000) (hn2 : n2 ≤ 1000) (hxx : x ≤ n1) : Met l yX1_longestCopy wsX1_longestCopy (rmD 2 0 0) (XP D cI cT cJ [.ref a, .int (nI x), .ref b] (fun H => va_P D vwCl [(a, .inl (cI, n1, .inl f)), (b, .inl (cI, n2, .inl g))] H)) (XSi (fun r => r = nI (lng f g n1 n2 x n2))) 0 0 (fun _ => False) := by
  refine Met.ofW (cc := cX1_longestCopy) (maxL := 5) (ret := (some .int)) (by decide) rfl ?_
  intro p e s m args below meth c s₁ B hml hv
  obtain ⟨rfl, hP, hE⟩ := hv
  have hx := B.exec
  have hb := B.bytes
  have hr := B.returns
  have hts := atoms_spec (ws := wsX1_longestCopy) B.pre
  have hown : s.vm.findClass RX1 = some m.cls := findClass_of_methodNamed B.named
  have hlocks := B.notSynchronized
  have hl := lv_entry ([.ref a, .int (nI x), .ref b]) (n := 5) (Nat.le_of_ble_eq_true rfl)
  rw [lg_entry_eq]
  generalize (lg_sl ([.ref a, .int (nI x), .ref b]) ++ List.replicate (5 - (lg_sl ([.ref a, .int (nI x), .ref b])).length) Slot.unset).toArray = ls at hl ⊢
  have hl : lv_has ls 5 [(0, .ref a), (1, .int (nI x)), (2, .ref b)] := hl
  have hK := hE.1
  refine lv_iconst (v := nI 0) hx hb dX1_longestCopy_0 (by decide) ?_
  refine lv_istore_n (lv' := [(3, .int (nI 0)), (0, .ref a), (1, .int (nI x)), (2, .ref b)]) hx hb dX1_longestCopy_1 rfl hl (by decide) rfl (fun ls hl => ?_)
  refine lv_iconst (v := nI 0) hx hb dX1_longestCopy_2 (by decide) ?_
  refine lv_istore (lv' := [(4, .int (nI 0)), (3, .int (nI 0)), (0, .ref a), (1, .int (nI x)), (2, .ref b)]) hx hb dX1_longestCopy_3 hl (by decide) rfl (fun ls hl => ?_)
  refine x_loopP (fun n ls => ∃ t k : Nat, (k + 1 = n) ∧ (n2 ≤ t + k) ∧ (t ≤ n2) ∧ lv_has ls 5 [(4, .int (nI t)), (3, .int (nI (lng f g n1 n2 x t))), (0, .ref a), (1, .int (nI x)), (2, .ref b)]) (n2 + 1) ⟨0, n2, rfl, by omega, by omega, lv_sub hl [0, 1, 2, 3, 4] rfl⟩ (fun ls h => by obtain ⟨t, k, hk, h1, h2, -⟩ := h; omega) (fun n ls h ih => ?_)
  obtain ⟨t, k, hk, h1, h2, hl⟩ := h
  have hg1 := lng_le (f := f) (g := g) (n2 := n2) hxx t
  have hg2 := shL_le (f := f) (g := g) (n2 := n2) (t := t) hxx
  refine lv_iload hx hb dX1_longestCopy_5 (lv_at hl 0 rfl) ?_
  refine lv_aload_n hx hb dX1_longestCopy_7 rfl (lv_at hl 4 rfl) ?_
  refine va_alen hx hb hK hP 1 0 rfl rfl (v := nI n2) rfl dX1_longestCopy_8 ?_
  refine lv_icmp_ge (tgt := 31) hx hb dX1_longestCopy_9 (by decide) (fun c9 => ?_) (fun c9 => ?_)
  · have c9 : n2 ≤ t := (xle (by omega) (by omega)).mp c9
    refine lv_iload_n hx hb dX1_longestCopy_31 rfl (lv_at hl 1 rfl) ?_
    exact W.iret hx hb hr (fun t9 ht9 hW9 => ⟨_, rfl, by rw [show t = n2 by omega], ht9⟩) (fun _ h => nomatch h) dX1_longestCopy_32
  · have c9 : ¬ n2 ≤ t := fun h => c9 ((xle (by omega) (by omega)).mpr h)
    refine lv_iload_n hx hb dX1_longestCopy_12 rfl (lv_at hl 1 rfl) ?_
    refine lv_aload_n hx hb dX1_longestCopy_13 rfl (lv_at hl 2 rfl) ?_
    refine lv_iload_n hx hb dX1_longestCopy_14 rfl (lv_at hl 3 rfl) ?_
    refine lv_aload_n hx hb dX1_longestCopy_15 rfl (lv_at hl 4 rfl) ?_
    refine lv_iload hx hb dX1_longestCopy_16 (lv_at hl 0 rfl) ?_
    refine xc_sie (va_runS (As := [.ref a, .int (nI x), .ref b, .int (nI t)]) (rest := [.int (nI (lng f g n1 n2 x t))]) ⟨hx, hb, hml, hown, hts⟩ (c_X1_sharedLength l a b n1 n2 x t f g (by omega) (by omega) (by omega) (by omega)) (va_cwS 4 hts gX1_longestCopy_X1_sharedLength rfl rfl rfl (by decide +kernel) ⟨(Nat.le_of_ble_eq_true rfl), (Nat.le_of_ble_eq_true rfl)⟩) ⟨XP_blind, XP_pre hE hP⟩ rfl rfl hl.1 rfl (lv_room (Nat.le_of_ble_eq_true rfl)) dX1_longestCopy_18 ⟨Nat.le_of_ble_eq_true rfl, Nat.le_of_ble_eq_true rfl⟩) ?_
    refine va_mmax hx hb (hml.trans hl.1.symm) hown (hts (.methodLink RX1 133 Lib.Math.max.name) (by decide +kernel)) (hts (.static Lib.Math.max.name) (by decide +kernel)) (hts (.initialized "java/lang/Math") (by decide +kernel)) (hts (.code Lib.Math.max.name Lib.Math.max.code 2 (some .int)) (by decide +kernel)) (Nat.le_of_ble_eq_true rfl) (Nat.le_of_ble_eq_true rfl) (Nat.le_of_ble_eq_true rfl) (Nat.le_of_ble_eq_true rfl) dX1_longestCopy_21 ?_
    refine x_top (nI (lng f g n1 n2 x (t + 1))) (by simp only [lng, xlt (show lng f g n1 n2 x t < 2 ^ 31 by omega) (show shL f g n1 n2 x t < 2 ^ 31 by omega)]; split <;> rfl) ?_
    refine lv_istore_n (lv' := [(3, .int (nI (lng f g n1 n2 x (t + 1)))), (4, .int (nI t)), (0, .ref a), (1, .int (nI x)), (2, .ref b)]) hx hb dX1_longestCopy_24 rfl hl (by decide) rfl (fun ls hl => ?_)
    refine lv_iinc (v := nI (t + 1)) (lv' := [(4, .int (nI (t + 1))), (3, .int (nI (lng f g n1 n2 x (t + 1)))), (0, .ref a), (1, .int (nI x)), (2, .ref b)]) hx hb dX1_longestCopy_25 hl (k := 1) rfl (xinc _ 1 _ (by decide)) (by decide) rfl (fun ls hl => ?_)
    refine lv_goto (tgt := 5) hx hb dX1_longestCopy_28 (by decide) ?_
    exact ih _ ⟨t + 1, k - 1, by omega, by omega, by omega, lv_sub hl [0, 1, 2, 3, 4] rfl⟩

set_option maxHeartbeats 4000000 in
set_option maxRecDepth 100000 in
theorem c_X1_rowTakes (l : Launch) {D : va_G} {cI cT cJ : ClassId} (a b n1 n2 : Nat) (f g : Nat → Int32) (hn1 : n1 ≤ 1000) (hn2 : n2 ≤ 1000) : Met l yX1_rowTakes wsX1_rowTakes (rmD 3 0 0) (XP D cI cT cJ [.ref a, .ref b] (fun H => va_P D vwCl [(a, .inl (cI, n1, .inl f)), (b, .inl (cI, n2, .inl g))] H)) (XSi (fun r => r = nI (tak f g n1 n2 n1 0))) 0 0 (fun _ => False) := by
  refine Met.ofW (cc := cX1_rowTakes) (maxL := 5) (ret := (some .int)) (by decide) rfl ?_
  intro p e s m args below meth c s₁ B hml hv
  obtain ⟨rfl, hP, hE⟩ := hv
  have hx := B.exec
  have hb := B.bytes
  have hr := B.returns
  have hts := atoms_spec (ws := wsX1_rowTakes) B.pre
  have hown : s.vm.findClass RX1 = some m.cls := findClass_of_methodNamed B.named
  have hlocks := B.notSynchronized
  have hl := lv_entry ([.ref a, .ref b]) (n := 5) (Nat.le_of_ble_eq_true rfl)
  rw [lg_entry_eq]
  generalize (lg_sl ([.ref a, .ref b]) ++ List.replicate (5 - (lg_sl ([.ref a, .ref b])).length) Slot.unset).toArray = ls at hl ⊢
  have hl : lv_has ls 5 [(0, .ref a), (1, .ref b)] := hl
  have hK := hE.1
  refine lv_iconst (v := nI 0) hx hb dX1_rowTakes_0 (by decide) ?_
  refine lv_istore_n (lv' := [(2, .int (nI 0)), (0, .ref a), (1, .ref b)]) hx hb dX1_rowTakes_1 rfl hl (by decide) rfl (fun ls hl => ?_)
  refine lv_iconst (v := nI 0) hx hb dX1_rowTakes_2 (by decide) ?_
  refine lv_istore_n (lv' := [(3, .int (nI 0)), (2, .int (nI 0)), (0, .ref a), (1, .ref b)]) hx hb dX1_rowTakes_3 rfl hl (by decide) rfl (fun ls hl => ?_)
  refine x_loopP (fun n ls => ∃ x w k : Nat, (k + 1 = n) ∧ (n1 ≤ x + k) ∧ (x ≤ n1) ∧ (w + tak f g n1 n2 k x = tak f g n1 n2 n1 0) ∧ lv_has ls 5 [(3, .int (nI x)), (2, .int (nI w)), (0, .ref a), (1, .ref b)]) (n1 + 1) ⟨0, 0, n1, rfl, by omega, by omega, by omega, lv_sub hl [0, 1, 2, 3] rfl⟩ (fun ls h => by obtain ⟨x, w, k, hk, h1, h2, hv, -⟩ := h; omega) (fun n ls h ih => ?_)
  obtain ⟨x, w, k, hk, h1, h2, hv, hl⟩ := h
  have hg3 := fun h => lng_le (f := f) (g := g) (n1 := n1) (n2 := n2) (s := x) h n2
  have hg4 := tak_le (f := f) (g := g) (n1 := n1) (n2 := n2) k x
  have hg5 := tak_le (f := f) (g := g) (n1 := n1) (n2 := n2) n1 0
  refine lv_iload_n hx hb dX1_rowTakes_4 rfl (lv_at hl 0 rfl) ?_
  refine lv_aload_n hx hb dX1_rowTakes_5 rfl (lv_at hl 2 rfl) ?_
  refine va_alen hx hb hK hP 0 0 rfl rfl (v := nI n1) rfl dX1_rowTakes_6 ?_
  refine lv_icmp_ge (tgt := 44) hx hb dX1_rowTakes_7 (by decide) (fun c7 => ?_) (fun c7 => ?_)
  · have c7 : n1 ≤ x := (xle (by omega) (by omega)).mp c7
    refine lv_iload_n hx hb dX1_rowTakes_44 rfl (lv_at hl 1 rfl) ?_
    exact W.iret hx hb hr (fun t9 ht9 hW9 => ⟨_, rfl, by rw [← hv, show x = n1 by omega]; cases k <;> simp [tak], ht9⟩) (fun _ h => nomatch h) dX1_rowTakes_45
  · have c7 : ¬ n1 ≤ x := fun h => c7 ((xle (by omega) (by omega)).mpr h)
    refine lv_aload_n hx hb dX1_rowTakes_10 rfl (lv_at hl 2 rfl) ?_
    refine lv_iload_n hx hb dX1_rowTakes_11 rfl (lv_at hl 0 rfl) ?_
    refine lv_aload_n hx hb dX1_rowTakes_12 rfl (lv_at hl 3 rfl) ?_
    refine xc_sie (va_runS (As := [.ref a, .int (nI x), .ref b]) (rest := []) ⟨hx, hb, hml, hown, hts⟩ (c_X1_longestCopy l a b n1 n2 x f g hn1 hn2 (by omega)) (va_cwS 3 hts gX1_rowTakes_X1_longestCopy rfl rfl rfl (by decide +kernel) ⟨(Nat.le_of_ble_eq_true rfl), (Nat.le_of_ble_eq_true rfl)⟩) ⟨XP_blind, XP_pre hE hP⟩ rfl rfl hl.1 rfl (lv_room (Nat.le_of_ble_eq_true rfl)) dX1_rowTakes_13 ⟨Nat.le_of_ble_eq_true rfl, Nat.le_of_ble_eq_true rfl⟩) ?_
    refine lv_istore (lv' := [(4, .int (nI (lng f g n1 n2 x n2))), (3, .int (nI x)), (2, .int (nI w)), (0, .ref a), (1, .ref b)]) hx hb dX1_rowTakes_16 hl (by decide) rfl (fun ls hl => ?_)
    refine lv_iload hx hb dX1_rowTakes_18 (lv_at hl 0 rfl) ?_
    refine lv_iconst (v := nI 3) hx hb dX1_rowTakes_20 (by decide) ?_
    refine lv_icmp_lt (tgt := 35) hx hb dX1_rowTakes_21 (by decide) (fun c21 => ?_) (fun c21 => ?_)
    · have c21 : (lng f g n1 n2 x n2) < 3 := (xlt (by omega) (by omega)).mp c21
      refine lv_iinc (v := nI (w + 1)) (lv' := [(2, .int (nI (w + 1))), (4, .int (nI (lng f g n1 n2 x n2))), (3, .int (nI x)), (0, .ref a), (1, .ref b)]) hx hb dX1_rowTakes_35 hl (k := 2) rfl (xinc _ 1 _ (by decide)) (by decide) rfl (fun ls hl => ?_)
      refine lv_iinc (v := nI (x + 1)) (lv' := [(3, .int (nI (x + 1))), (2, .int (nI (w + 1))), (4, .int (nI (lng f g n1 n2 x n2))), (0, .ref a), (1, .ref b)]) hx hb dX1_rowTakes_38 hl (k := 2) rfl (xinc _ 1 _ (by decide)) (by decide) rfl (fun ls hl => ?_)
      refine lv_goto (tgt := 4) hx hb dX1_rowTakes_41 (by decide) ?_
      obtain ⟨k, rfl⟩ : ∃ j, k = j + 1 := ⟨k - 1, by omega⟩
      exact ih _ ⟨x + 1, w + 1, k, by omega, by omega, by omega, by rw [← hv]; simp only [tak]; rw [if_pos (by omega)]; first | rw [if_pos (by omega)]; omega | rw [if_neg (by omega)]; omega, lv_sub hl [0, 1, 3, 4] rfl⟩
    · have c21 : ¬ (lng f g n1 n2 x n2) < 3 := fun h => c21 ((xlt (by omega) (by omega)).mpr h)
      refine lv_iinc (v := nI (w + 2)) (lv' := [(2, .int (nI (w + 2))), (4, .int (nI (lng f g n1 n2 x n2))), (3, .int (nI x)), (0, .ref a), (1, .ref b)]) hx hb dX1_rowTakes_24 hl (k := 2) rfl (xinc _ 2 _ (by decide)) (by decide) rfl (fun ls hl => ?_)
      refine lv_iload_n hx hb dX1_rowTakes_27 rfl (lv_at hl 2 rfl) ?_
      refine lv_iload hx hb dX1_rowTakes_28 (lv_at hl 1 rfl) ?_
      refine lv_iadd hx hb dX1_rowTakes_30 ?_
      refine x_top (nI (x + (lng f g n1 n2 x n2))) (xadd (by omega)) ?_
      refine lv_istore_n (lv' := [(3, .int (nI (x + (lng f g n1 n2 x n2)))), (2, .int (nI (w + 2))), (4, .int (nI (lng f g n1 n2 x n2))), (0, .ref a), (1, .ref b)]) hx hb dX1_rowTakes_31 rfl hl (by decide) rfl (fun ls hl => ?_)
      refine lv_goto (tgt := 41) hx hb dX1_rowTakes_32 (by decide) ?_
      refine lv_goto (tgt := 4) hx hb dX1_rowTakes_41 (by decide) ?_
      obtain ⟨k, rfl⟩ : ∃ j, k = j + 1 := ⟨k - 1, by omega⟩
      exact ih _ ⟨x + (lng f g n1 n2 x n2), w + 2, k, by omega, by omega, by omega, by rw [← hv]; simp only [tak]; rw [if_pos (by omega)]; first | rw [if_pos (by omega)]; omega | rw [if_neg (by omega)]; omega, lv_sub hl [0, 1, 3, 4] rfl⟩
