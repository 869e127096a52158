/-! numbers that the law has refused -/
theorem lo_1 {r : Nat} (h : r < 30) : (-1 : Int32) - nI r < 0 := (by decide +kernel : ∀ r, r < 30 → (-1 : Int32) - nI r < 0) r h
theorem lo_2 {r : Nat} (h : r < 30) : (-2 : Int32) - nI r < 0 ∧ ¬ (-2 : Int32) - nI r = -1 := (by decide +kernel : ∀ r, r < 30 → (-2 : Int32) - nI r < 0 ∧ ¬ (-2 : Int32) - nI r = -1) r h
theorem lo_0 {r : Nat} (h : r < 30) : nI 0 - nI r < nI 1 := (by decide +kernel : ∀ r, r < 30 → nI 0 - nI r < nI 1) r h
theorem lo_pl {v : Int32} (h : v < 0) : ¬ Pl v := xPl_f (Or.inl h)
theorem hi_pl {a : Nat} (h : 6 ≤ a) (ha : a < 2 ^ 31) : ¬ Pl (nI a) := by
  rintro ⟨j, hj, e⟩
  have := (xeq ha (by omega)).mp e
  omega
theorem lo_no {v : Int32} (h : v < 0) {n : Nat} (hn : n < 2 ^ 31) : ¬ ∃ s, s ≤ n ∧ v = nI s := by
  rintro ⟨s, hs, rfl⟩
  exact xlt0 (by omega) h
theorem hi_no {a n : Nat} (h : n < a) (ha : a < 2 ^ 31) : ¬ ∃ s, s ≤ n ∧ nI a = nI s := by
  rintro ⟨s, hs, e⟩
  have := (xeq ha (by omega)).mp e
  omega
theorem lo_nl {v : Int32} (h : v < 0) {n : Nat} (hn : n < 2 ^ 31) : ¬ ∃ s, s < n ∧ v = nI s := by
  rintro ⟨s, hs, rfl⟩
  exact xlt0 (by omega) h
theorem hi_nl {a n : Nat} (h : n ≤ a) (ha : a < 2 ^ 31) : ¬ ∃ s, s < n ∧ nI a = nI s := by
  rintro ⟨s, hs, e⟩
  have := (xeq ha (by omega)).mp e
  omega
theorem lo_th {v : Int32} (h : v < nI 1) : ¬ ∃ s, 1 ≤ s ∧ s ≤ 40 ∧ v = nI s := by
  rintro ⟨s, h1, h2, rfl⟩
  have := (xlt (by omega) (by omega)).mp h
  omega
theorem hi_th {a : Nat} (h : 40 < a) (ha : a < 2 ^ 31) : ¬ ∃ s, 1 ≤ s ∧ s ≤ 40 ∧ nI a = nI s := by
  rintro ⟨s, h1, h2, e⟩
  have := (xeq ha (by omega)).mp e
  omega
/-- no date, and not the live tree's number -/
def BD (o ld : Nat) (v : Int32) : Prop := ¬ Kp o ld v ∧ ¬ v = -1
theorem BD.lo {o ld : Nat} {v : Int32} (hld : ld ≤ 40) (h : v < 0) (h2 : ¬ v = -1) : BD o ld v := by
  refine ⟨?_, h2⟩
  rintro ⟨d, h1, h3, rfl⟩
  exact xlt0 (by omega) h
theorem BD.num {o ld a : Nat} (hld : ld ≤ 40) (h : a < o ∨ ld < a) (ha : a < 2 ^ 31) : BD o ld (nI a) := by
  refine ⟨?_, nI_m1 ha⟩
  rintro ⟨d, h1, h3, e⟩
  have := (xeq ha (by omega)).mp e
  omega
theorem BD.at {o ld : Nat} {v w : Int32} (h : BD o ld v) : ¬ ∃ i, AT o ld v w i := by
  rintro ⟨i, j, hj, e2, ⟨e, -⟩ | ⟨d, h1, h2, e, -⟩⟩
  · exact h.2 e
  · exact h.1 ⟨d, h1, h2, e⟩
theorem BD.nm {o ld : Nat} {v w z : Int32} (h : BD o ld v) : ¬ ∃ i sp : Nat, AT o ld v w i ∧ sp < 12 ∧ z = nI sp := by
  rintro ⟨i, sp, h1, -⟩
  exact h.at ⟨i, h1⟩
theorem BD.sz {o ld : Nat} {v w : Int32} (h : BD o ld v) : ¬ ∃ d j : Nat, o ≤ d ∧ d ≤ ld ∧ v = nI d ∧ j < 6 ∧ w = nI j := by
  rintro ⟨d, j, h1, h2, e, -⟩
  exact h.1 ⟨d, h1, h2, e⟩
theorem pl_at {o ld : Nat} {v w : Int32} (h : ¬ Pl w) : ¬ ∃ i, AT o ld v w i := by
  rintro ⟨i, j, hj, e, -⟩
  exact h ⟨j, hj, e⟩
theorem pl_nm {o ld : Nat} {v w z : Int32} (h : ¬ Pl w) : ¬ ∃ i sp : Nat, AT o ld v w i ∧ sp < 12 ∧ z = nI sp := by
  rintro ⟨i, sp, h1, -⟩
  exact pl_at h ⟨i, h1⟩
theorem pl_sz {o ld : Nat} {v w : Int32} (h : ¬ Pl w) : ¬ ∃ d j : Nat, o ≤ d ∧ d ≤ ld ∧ v = nI d ∧ j < 6 ∧ w = nI j := by
  rintro ⟨d, j, h1, h2, e, hj, e2⟩
  exact h ⟨j, hj, e2⟩
theorem m1_kp {o ld : Nat} (hld : ld ≤ 40) : ¬ Kp o ld (-1) := by
  rintro ⟨d, h1, h3, e⟩
  exact nI_m1 (by omega) e.symm
theorem m1_sz {o ld : Nat} {w : Int32} (hld : ld ≤ 40) : ¬ ∃ d j : Nat, o ≤ d ∧ d ≤ ld ∧ (-1 : Int32) = nI d ∧ j < 6 ∧ w = nI j := by
  rintro ⟨d, j, h1, h2, e, -⟩
  exact nI_m1 (by omega) e.symm
theorem nm_lo {o ld : Nat} {v w z : Int32} (h : z < 0) : ¬ ∃ i sp : Nat, AT o ld v w i ∧ sp < 12 ∧ z = nI sp := by
  rintro ⟨i, sp, -, h1, rfl⟩
  exact xlt0 (by omega) h
theorem nm_hi {o ld a : Nat} {v w : Int32} (h : 12 ≤ a) (ha : a < 2 ^ 31) : ¬ ∃ i sp : Nat, AT o ld v w i ∧ sp < 12 ∧ nI a = nI sp := by
  rintro ⟨i, sp, -, h1, e⟩
  have := (xeq ha (by omega)).mp e
  omega
theorem pa_sl {n : Nat} (hn : n < 2 ^ 31) {v w : Int32} (h : v < 0) : ¬ ∃ sp y, sp ≤ n ∧ v = nI sp ∧ y ≤ 9 ∧ w = nI y := by
  rintro ⟨sp, y, h1, e, -⟩
  exact lo_no h hn ⟨sp, h1, e⟩
theorem pa_sh {n a : Nat} {w : Int32} (h : n < a) (ha : a < 2 ^ 31) : ¬ ∃ sp y, sp ≤ n ∧ nI a = nI sp ∧ y ≤ 9 ∧ w = nI y := by
  rintro ⟨sp, y, h1, e, -⟩
  exact hi_no h ha ⟨sp, h1, e⟩
theorem pa_nl {n : Nat} {v w : Int32} (h : w < 0) : ¬ ∃ sp y, sp ≤ n ∧ v = nI sp ∧ y ≤ 9 ∧ w = nI y := by
  rintro ⟨sp, y, h1, e, hy, e2⟩
  exact lo_no h (n := 9) (by omega) ⟨y, hy, e2⟩
theorem pa_nh {n a : Nat} {v : Int32} (h : 9 < a) (ha : a < 2 ^ 31) : ¬ ∃ sp y, sp ≤ n ∧ v = nI sp ∧ y ≤ 9 ∧ nI a = nI y := by
  rintro ⟨sp, y, h1, e, hy, e2⟩
  exact hi_no h ha ⟨y, hy, e2⟩
theorem takes_st {fl : Nat → Int64} {G : Nat → Tv} {j : Nat} (h : ∀ i, i < j → fl i = tlL (G (246 + i)) 12) : ∀ i, i < j + 1 → vp_updL fl j (tlL (G (246 + j)) 12) i = tlL (G (246 + i)) 12 := by
  intro i hi
  by_cases e : i = j
  · subst e; exact pk_uLs
  · rw [pk_uLn e]; exact h i (by omega)
theorem num_ins {k r : Int32} {n sp : Nat} {f : Nat → Int32} {y : Int32} (h : sp ≤ n) : num (k, r, n + 1, insR f sp y) sp = y := by
  show (if sp < n + 1 then insR f sp y sp else -1) = y
  rw [if_pos (by omega)]
  unfold insR
  rw [if_neg (by omega), if_pos rfl]
theorem ins_at {f : Nat → Int32} {sp : Nat} {y : Int32} : insR f sp y sp = y := by
  unfold insR
  rw [if_neg (by omega), if_pos rfl]
/-- the law's own worlds -/
def LBe (D : va_G) (cI cT cJ : ClassId) (la : Nat) (fl : Nat → Int64) (x lv kp : Nat) (A : Nat → Prop) (u : Sv) (H : Heap) : Prop := ∃ (fL fK : Nat → Option Nat) (FZ : va_W), va_P D vwCl ((la, .inl (cJ, 6, .inr (.inl fl))) :: CW cT x lv kp fL fK u.2.1 u.2.2.1 u.2.2.2.1 u.2.2.2.2 FZ) H ∧ va_D A ((la, .inl (cJ, 6, .inr (.inl fl))) :: CW cT x lv kp fL fK u.2.1 u.2.2.1 u.2.2.2.1 u.2.2.2.2 FZ) ∧ CA cI FZ fL fK u.1

set_option maxHeartbeats 4000000 in
set_option maxRecDepth 100000 in
theorem c_L_dice (l : Launch) (sb Ls j : Nat) (xs : Nat → Int32) (hj : j < 90) (hLs : Ls ≤ 260) : Met l yL_dice wsL_dice (rmD 1 0 0) (XPd [.ref sb, .int (nI j)] sb Ls xs) (XSi (fun r => ∃ z : Nat, z < 2 ^ 31 ∧ r = nI z)) 0 0 (fun _ => False) := by
  refine Met.ofW (cc := cL_dice) (maxL := 2) (ret := (some .int)) (by decide) rfl ?_
  intro p e s m args below meth c s₁ B hml hv
  obtain ⟨rfl, hX⟩ := hv
  have hx := B.exec
  have hb := B.bytes
  have hr := B.returns
  have hts := atoms_spec (ws := wsL_dice) B.pre
  have hown : s.vm.findClass RL = some m.cls := findClass_of_methodNamed B.named
  have hlocks := B.notSynchronized
  have hl := lv_entry ([.ref sb, .int (nI j)]) (n := 2) (Nat.le_of_ble_eq_true rfl)
  rw [lg_entry_eq]
  generalize (lg_sl ([.ref sb, .int (nI j)]) ++ List.replicate (2 - (lg_sl ([.ref sb, .int (nI j)])).length) Slot.unset).toArray = ls at hl ⊢
  have hl : lv_has ls 2 [(0, .ref sb), (1, .int (nI j))] := hl
  have hbl : sb < s.heap.size := by obtain ⟨scr, h1, -⟩ := hX; exact (Array.getElem?_eq_some_iff.mp h1).1
  have hbA : ¬ (fun _ : Nat => False) sb := fun h => h
  have hS : va_S (fun _ : Nat => False) s.heap s.heap [] := va_S.rf
  refine lv_iload_n hx hb dL_dice_0 rfl (lv_at hl 1 rfl) ?_
  refine lv_aload_n hx hb dL_dice_1 rfl (lv_at hl 0 rfl) ?_
  refine va_slen hx hb hX hbl hbA hS dL_dice_2 ?_
  refine x_top (nI Ls) rfl ?_
  refine lv_icmp_ge (tgt := 12) hx hb dL_dice_3 (by decide) (fun c3 => ?_) (fun c3 => ?_)
  · have c3 : Ls ≤ j := (xle (by omega) (by omega)).mp c3
    refine lv_ldc (v := 1799596469) hx hb hown (hts (.constant RL 7 (1799596469)) (by decide +kernel)) dL_dice_12 ?_
    refine lv_iload_n hx hb dL_dice_14 rfl (lv_at hl 1 rfl) ?_
    refine lv_sipush (v := nI 269) hx hb dL_dice_15 (by decide) ?_
    refine lv_iadd hx hb dL_dice_18 ?_
    refine x_top (nI (j + 269)) (xadd (by omega)) ?_
    refine lv_imul hx hb dL_dice_19 ?_
    refine lv_topi (fun v19 ev19 => ?_)
    refine lv_sipush (v := nI 683) hx hb dL_dice_20 (by decide) ?_
    refine lv_iload_n hx hb dL_dice_23 rfl (lv_at hl 1 rfl) ?_
    refine lv_imul hx hb dL_dice_24 ?_
    refine x_top (nI (683 * j)) (pk_mul _ _) ?_
    refine lv_iload_n hx hb dL_dice_25 rfl (lv_at hl 1 rfl) ?_
    refine lv_imul hx hb dL_dice_26 ?_
    refine x_top (nI ((683 * j) * j)) (pk_mul _ _) ?_
    refine lv_iadd hx hb dL_dice_27 ?_
    refine lv_topi (fun v27 ev27 => ?_)
    refine lv_sipush (v := nI 167) hx hb dL_dice_28 (by decide) ?_
    refine lv_iadd hx hb dL_dice_31 ?_
    refine lv_topi (fun v31 ev31 => ?_)
    refine lv_ldc (v := 2147483647) hx hb hown (hts (.constant RL 8 (2147483647)) (by decide +kernel)) dL_dice_32 ?_
    refine lv_iand hx hb dL_dice_34 ?_
    refine x_top (v31 &&& 2147483647) (rfl) ?_
    obtain ⟨z9, hz9, e9⟩ := pk_andE (v31) (m := 2147483647) 31 (by decide)
    exact W.iret hx hb hr (fun t9 ht9 hW9 => ⟨_, rfl, ⟨z9, hz9, e9⟩, ht9⟩) (fun _ h => nomatch h) dL_dice_35
  · have c3 : ¬ Ls ≤ j := fun h => c3 ((xle (by omega) (by omega)).mpr h)
    refine lv_aload_n hx hb dL_dice_6 rfl (lv_at hl 0 rfl) ?_
    refine lv_iload_n hx hb dL_dice_7 rfl (lv_at hl 1 rfl) ?_
    refine va_sld hx hb hX hbl hbA hS (xin (by omega) (by omega)) dL_dice_8 ?_
    refine x_top (xs j) (by rw [nI_clamp (by omega)]) ?_
    refine lv_goto (tgt := 32) hx hb dL_dice_9 (by decide) ?_
    refine lv_ldc (v := 2147483647) hx hb hown (hts (.constant RL 8 (2147483647)) (by decide +kernel)) dL_dice_32 ?_
    refine lv_iand hx hb dL_dice_34 ?_
    refine x_top ((xs j) &&& 2147483647) (rfl) ?_
    obtain ⟨z9, hz9, e9⟩ := pk_andE (xs j) (m := 2147483647) 31 (by decide)
    exact W.iret hx hb hr (fun t9 ht9 hW9 => ⟨_, rfl, ⟨z9, hz9, e9⟩, ht9⟩) (fun _ h => nomatch h) dL_dice_35

set_option maxHeartbeats 4000000 in
set_option maxRecDepth 100000 in
theorem c_L_takes (l : Launch) (hst : l.stackTraces = false) {D : va_G} {cI cT cJ : ClassId} (Ax : Nat → Prop) (x lv kp : Nat) (fL fK : Nat → Option Nat) (o ld b k : Nat) (FZ : va_W) (G : Nat → Tv) (hC : CA cI FZ fL fK G) (la : Nat) (fl : Nat → Int64) (hld : ld ≤ 40) (hold : o ≤ ld) (sz : Nat) : Met l yL_takes wsL_takes (rmD 10 3 18) (XPx D cI cT cJ Ax [.ref x, .ref la] (fun H => H.size = sz ∧ va_P D vwCl ((la, .inl (cJ, 6, .inr (.inl fl))) :: (CW cT x lv kp fL fK o ld b k FZ)) H ∧ va_D (fun _ => True) ((la, .inl (cJ, 6, .inr (.inl fl))) :: (CW cT x lv kp fL fK o ld b k FZ)) ∧ ∀ q, va_A ((la, .inl (cJ, 6, .inr (.inl fl))) :: (CW cT x lv kp fL fK o ld b k FZ)) sz q → Ax q)) (va_Qv (S := Nat → Int64) (fun fl2 => ∀ i, i < 6 → fl2 i = tlL (G (246 + i)) 12) (fun fl2 t => va_P D vwCl ((la, .inl (cJ, 6, .inr (.inl fl2))) :: (CW cT x lv kp fL fK o ld b k FZ)) t.heap ∧ va_D (va_A ((la, .inl (cJ, 6, .inr (.inl fl))) :: (CW cT x lv kp fL fK o ld b k FZ)) sz) ((la, .inl (cJ, 6, .inr (.inl fl2))) :: (CW cT x lv kp fL fK o ld b k FZ))) (va_A ((la, .inl (cJ, 6, .inr (.inl fl))) :: (CW cT x lv kp fL fK o ld b k FZ)) sz)) 3 18 (va_A ((la, .inl (cJ, 6, .inr (.inl fl))) :: (CW cT x lv kp fL fK o ld b k FZ)) sz) := by
  refine Met.ofW (cc := cL_takes) (maxL := 3) (ret := none) (by decide) rfl ?_
  intro p e s m args below meth c s₁ B hml hv
  obtain ⟨rfl, ⟨hsz, hP, hD0, hAx⟩, hE, hT0⟩ := hv
  have hx := B.exec
  have hb := B.bytes
  have hr := B.returns
  have hts := atoms_spec (ws := wsL_takes) B.pre
  have hown : s.vm.findClass RL = some m.cls := findClass_of_methodNamed B.named
  have hlocks := B.notSynchronized
  have hl := lv_entry ([.ref x, .ref la]) (n := 3) (Nat.le_of_ble_eq_true rfl)
  rw [lg_entry_eq]
  generalize (lg_sl ([.ref x, .ref la]) ++ List.replicate (3 - (lg_sl ([.ref x, .ref la])).length) Slot.unset).toArray = ls at hl ⊢
  have hl : lv_has ls 3 [(0, .ref x), (1, .ref la)] := hl
  have hK := hE.1
  have hT := hT0
  subst hsz
  have hD := hD0.self (sz := s.heap.size)
  generalize hAe : va_A ((la, .inl (cJ, 6, .inr (.inl fl))) :: (CW cT x lv kp fL fK o ld b k FZ)) s.heap.size = A at hD hAx ⊢
  have hA : ∀ q : Nat, s.heap.size ≤ q → A q := fun q h => by rw [← hAe]; exact Or.inr h
  have hS : va_S A s.heap s.heap [] := va_S.rf
  refine lv_iconst (v := nI 0) hx hb dL_takes_0 (by decide) ?_
  refine lv_istore_n (lv' := [(2, .int (nI 0)), (0, .ref x), (1, .ref la)]) hx hb dL_takes_1 rfl hl (by decide) rfl (fun ls hl => ?_)
  refine x_loop (fun n H locs ls => ∃ (j : Nat) (fl2 : Nat → Int64), (j ≤ 6) ∧ (6 < j + n) ∧ (∀ i, i < j → fl2 i = tlL (G (246 + i)) 12) ∧ va_P D vwCl ((la, .inl (cJ, 6, .inr (.inl fl2))) :: (x, .inr (1, [.ref lv, .ref kp, .int (nI o), .int (nI ld), .int (nI b), .int (nI k)])) :: (lv, .inl (cT, 6, .inr (.inr (.inr (.inr fL))))) :: (kp, .inl (cT, 246, .inr (.inr (.inr (.inr fK))))) :: FZ) H ∧ va_D A ((la, .inl (cJ, 6, .inr (.inl fl2))) :: (x, .inr (1, [.ref lv, .ref kp, .int (nI o), .int (nI ld), .int (nI b), .int (nI k)])) :: (lv, .inl (cT, 6, .inr (.inr (.inr (.inr fL))))) :: (kp, .inl (cT, 246, .inr (.inr (.inr (.inr fK))))) :: FZ) ∧ va_S A s.heap H locs ∧ lv_has ls 3 [(2, .int (nI j)), (0, .ref x), (1, .ref la)]) (7) ⟨0, fl, by omega, by omega, fun i hi => absurd hi (Nat.not_lt_zero i), hP, hD, hS, lv_sub hl [0, 1, 2] rfl⟩ (fun H locs ls h => by obtain ⟨j, fl2, hj, hn, hf, -⟩ := h; omega) (fun n H locs ls h ih => ?_)
  obtain ⟨j, fl2, hj, hn, hf, hP, hD, hS, hl⟩ := h
  have hT := hT0.kept (fun a h1 h2 => hS.2.1 a h1 (fun z => h2 (hAx a z)))
  have hPc : va_P D vwCl (CW cT x lv kp fL fK o ld b k FZ) H := xP_sub (fun _ h => List.mem_cons_of_mem _ h) hP
  refine lv_iload_n hx hb dL_takes_2 rfl (lv_at hl 0 rfl) ?_
  refine lv_bipush (v := nI 6) hx hb dL_takes_3 (by decide) ?_
  refine lv_icmp_ge (tgt := 23) hx hb dL_takes_5 (by decide) (fun c5 => ?_) (fun c5 => ?_)
  · have c5 : 6 ≤ j := (xle (by omega) (by omega)).mp c5
    refine W.widen (k := 3) (n := 18) (Nat.le_of_ble_eq_true rfl) (Nat.le_of_ble_eq_true rfl) ?_
    exact W.vret hx hb hr (fun t9 ht9 hW9 => ⟨⟨fl2, rfl, fun i hi => hf i (by omega), by rw [ht9]; exact hP, hD⟩, hS.F ht9⟩) hS.2.2 dL_takes_23
  · have c5 : ¬ 6 ≤ j := fun h => c5 ((xle (by omega) (by omega)).mpr h)
    refine lv_aload_n hx hb dL_takes_8 rfl (lv_at hl 2 rfl) ?_
    refine lv_iload_n hx hb dL_takes_9 rfl (lv_at hl 0 rfl) ?_
    refine lv_aload_n hx hb dL_takes_10 rfl (lv_at hl 1 rfl) ?_
    refine lv_iconst (v := (-1)) hx hb dL_takes_11 (by decide) ?_
    refine lv_iload_n hx hb dL_takes_12 rfl (lv_at hl 0 rfl) ?_
    refine xc_sje (va_runS (As := [.ref x, .int ((-1)), .int (nI j)]) (rest := [.int (nI j), .ref la]) ⟨hx, hb, hml, hown, hts⟩ (c_L_told l hst Ax x lv kp fL fK o ld b k FZ G hC ((-1)) (nI j) (246 + j) (AT_l (by omega)) hld hold) (va_cwS 3 hts gL_takes_L_told rfl rfl rfl (by decide +kernel) ⟨(Nat.le_of_ble_eq_true rfl), (Nat.le_of_ble_eq_true rfl)⟩) ⟨XPx_blind, XPx_pre hE hT hPc⟩ rfl rfl hl.1 rfl (lv_room (Nat.le_of_ble_eq_true rfl)) dL_takes_13 ⟨by first | exact Nat.le_of_ble_eq_true rfl | (show _ + _ ≤ _; omega), by first | exact Nat.le_of_ble_eq_true rfl | (show _ + _ ≤ _; omega)⟩) ?_
    refine va_last hx hb hK hP hD hS 0 2 rfl rfl (xin (by omega) (by omega)) dL_takes_16 (fun H locs hP hD hS => ?_)
    rw [nI_clamp (show j < 2 ^ 31 by omega)] at hP hD
    have hP : va_P D vwCl ((la, .inl (cJ, 6, .inr (.inl (vp_updL fl2 j (tlL (G (246 + j)) 12))))) :: (x, .inr (1, [.ref lv, .ref kp, .int (nI o), .int (nI ld), .int (nI b), .int (nI k)])) :: (lv, .inl (cT, 6, .inr (.inr (.inr (.inr fL))))) :: (kp, .inl (cT, 246, .inr (.inr (.inr (.inr fK))))) :: FZ) H := hP
    have hD : va_D A ((la, .inl (cJ, 6, .inr (.inl (vp_updL fl2 j (tlL (G (246 + j)) 12))))) :: (x, .inr (1, [.ref lv, .ref kp, .int (nI o), .int (nI ld), .int (nI b), .int (nI k)])) :: (lv, .inl (cT, 6, .inr (.inr (.inr (.inr fL))))) :: (kp, .inl (cT, 246, .inr (.inr (.inr (.inr fK))))) :: FZ) := hD
    refine lv_iinc (v := nI (j + 1)) (lv' := [(2, .int (nI (j + 1))), (0, .ref x), (1, .ref la)]) hx hb dL_takes_17 hl (k := 0) rfl (xinc _ 1 _ (by decide)) (by decide) rfl (fun ls hl => ?_)
    refine lv_goto (tgt := 2) hx hb dL_takes_20 (by decide) ?_
    exact ih _ _ _ ⟨j + 1, _, by omega, by omega, takes_st hf, hP, hD, hS, lv_sub hl [0, 1, 2] rfl⟩

set_option maxHeartbeats 4000000 in
set_option maxRecDepth 100000 in
theorem c_L_isRefused_lo (l : Launch) (hst : l.stackTraces = false) {D : va_G} {cI cT cJ : ClassId} (Ax : Nat → Prop) (x lv kp : Nat) (fL fK : Nat → Option Nat) (o ld b k : Nat) (FZ : va_W) (G : Nat → Tv) (hC : CA cI FZ fL fK G) (ma X : Nat) (fm : Nat → Int32) (hX : X < 2 ^ 31) (hX2 : X % 2 = 0) (hWG : WFG G) (hm0 : fm 0 = nI ld) (hm1 : fm 1 = nI o) (hbb : b ≤ 1) (hl9 : ld ≤ o + 9) (hld : ld ≤ 40) (hold : o ≤ ld) : Met l yL_isRefused wsL_isRefused (rmD 11 600 3000) (XPl D cI cT cJ Ax [.ref x, .ref ma, .int (nI X)] (fun H => va_P D vwCl ((ma, .inl (cI, 3, .inl fm)) :: (CW cT x lv kp fL fK o ld b k FZ)) H ∧ va_D (fun _ => True) ((ma, .inl (cI, 3, .inl fm)) :: (CW cT x lv kp fL fK o ld b k FZ)))) (XRi (fun r => r = nI 1)) 600 3000 (fun _ => False) := by
  refine Met.ofW (cc := cL_isRefused) (maxL := 12) (ret := (some .boolean)) (by decide) rfl ?_
  intro p e s m args below meth c s₁ B hml hv
  obtain ⟨rfl, ⟨hP, hD0⟩, hE, hT, hN⟩ := hv
  have hx := B.exec
  have hb := B.bytes
  have hr := B.returns
  have hts := atoms_spec (ws := wsL_isRefused) B.pre
  have hown : s.vm.findClass RL = some m.cls := findClass_of_methodNamed B.named
  have hlocks := B.notSynchronized
  have hl := lv_entry ([.ref x, .ref ma, .int (nI X)]) (n := 12) (Nat.le_of_ble_eq_true rfl)
  rw [lg_entry_eq]
  generalize (lg_sl ([.ref x, .ref ma, .int (nI X)]) ++ List.replicate (12 - (lg_sl ([.ref x, .ref ma, .int (nI X)])).length) Slot.unset).toArray = ls at hl ⊢
  have hl : lv_has ls 12 [(0, .ref x), (1, .ref ma), (2, .int (nI X))] := hl
  have hK := hE.1
  have hPc : va_P D vwCl (CW cT x lv kp fL fK o ld b k FZ) s.heap := xP_sub (fun _ h => List.mem_cons_of_mem _ h) hP
  have hDc : va_D (fun _ => True) (CW cT x lv kp fL fK o ld b k FZ) := xD_sub (List.sublist_cons_self _ _) hD0
  have hz : s.heap.size ≤ s.heap.size := Nat.le_refl _
  have hk : ∀ q : Nat, q < s.heap.size → s.heap[q]? = s.heap[q]? := fun _ _ => rfl
  have h30 : X % 30 < 30 := Nat.mod_lt _ (by decide)
  have h20 : X % 20 < 20 := Nat.mod_lt _ (by decide)
  have hP0 := hP
  have hPc0 := hPc
  have hT00 := hT
  refine lv_iload_n hx hb dL_isRefused_0 rfl (lv_at hl 2 rfl) ?_
  refine lv_iconst (v := nI 2) hx hb dL_isRefused_1 (by decide) ?_
  refine lv_irem hx hb dL_isRefused_2 (by decide) ?_
  refine x_top (nI (X % 2)) (pk_rem (by omega) (by omega) (by omega)) ?_
  refine lv_if_ne (tgt := 10) hx hb dL_isRefused_3 (by decide) (fun c3 => ?_) (fun c3 => ?_)
  · have c3 : ¬ nI (X % 2) = nI 0 := c3
    have c3 : ¬ (X % 2) = 0 := fun h => c3 ((xeq (by omega) (by omega)).mpr h)
    omega
  · have c3 : nI (X % 2) = nI 0 := c3
    have c3 : (X % 2) = 0 := (xeq (by omega) (by omega)).mp c3
    refine lv_iconst (v := nI 1) hx hb dL_isRefused_6 (by decide) ?_
    refine lv_goto (tgt := 11) hx hb dL_isRefused_7 (by decide) ?_
    refine lv_istore_n (lv' := [(3, .int (nI 1)), (0, .ref x), (1, .ref ma), (2, .int (nI X))]) hx hb dL_isRefused_11 rfl hl (by decide) rfl (fun ls hl => ?_)
    refine lv_iload_n hx hb dL_isRefused_12 rfl (lv_at hl 0 rfl) ?_
    refine lv_if_eq (tgt := 25) hx hb dL_isRefused_13 (by decide) (fun h => absurd h (by decide)) (fun _ => ?_)
    refine lv_iconst (v := (-1)) hx hb dL_isRefused_16 (by decide) ?_
    refine lv_iload_n hx hb dL_isRefused_17 rfl (lv_at hl 3 rfl) ?_
    refine lv_bipush (v := nI 30) hx hb dL_isRefused_18 (by decide) ?_
    refine lv_irem hx hb dL_isRefused_20 (by decide) ?_
    refine x_top (nI (X % 30)) (pk_rem (by omega) (by omega) (by omega)) ?_
    refine lv_isub hx hb dL_isRefused_21 ?_
    refine x_top (((-1) - nI (X % 30))) (rfl) ?_
    refine lv_goto (tgt := 32) hx hb dL_isRefused_22 (by decide) ?_
    have hsix : ¬ Pl ((-1) - nI (X % 30)) := lo_pl (lo_1 h30)
    refine lv_istore (lv' := [(4, .int (((-1) - nI (X % 30)))), (3, .int (nI 1)), (0, .ref x), (1, .ref ma), (2, .int (nI X))]) hx hb dL_isRefused_32 hl (by decide) rfl (fun ls hl => ?_)
    refine lv_iload_n hx hb dL_isRefused_34 rfl (lv_at hl 1 rfl) ?_
    refine lv_if_eq (tgt := 48) hx hb dL_isRefused_35 (by decide) (fun h => absurd h (by decide)) (fun _ => ?_)
    refine lv_bipush (v := (-2)) hx hb dL_isRefused_38 (by decide) ?_
    refine lv_iload_n hx hb dL_isRefused_40 rfl (lv_at hl 4 rfl) ?_
    refine lv_bipush (v := nI 30) hx hb dL_isRefused_41 (by decide) ?_
    refine lv_irem hx hb dL_isRefused_43 (by decide) ?_
    refine x_top (nI (X % 30)) (pk_rem (by omega) (by omega) (by omega)) ?_
    refine lv_isub hx hb dL_isRefused_44 ?_
    refine x_top (((-2) - nI (X % 30))) (rfl) ?_
    refine lv_goto (tgt := 58) hx hb dL_isRefused_45 (by decide) ?_
    have hbd : BD o ld ((-2) - nI (X % 30)) := BD.lo hld (lo_2 h30).1 (lo_2 h30).2
    refine lv_istore (lv' := [(5, .int (((-2) - nI (X % 30)))), (4, .int (((-1) - nI (X % 30)))), (3, .int (nI 1)), (0, .ref x), (1, .ref ma), (2, .int (nI X))]) hx hb dL_isRefused_58 hl (by decide) rfl (fun ls hl => ?_)
    refine lv_aload_n hx hb dL_isRefused_60 rfl (lv_at hl 3 rfl) ?_
    refine xc_sje (va_runS (As := [.ref x]) (rest := []) ⟨hx, hb, hml, hown, hts⟩ (c_L_all l hst Ax x lv kp fL fK o ld b k FZ G hC hbb hld hold) (va_cwS 1 hts gL_isRefused_L_all rfl rfl rfl (by decide +kernel) ⟨(Nat.le_of_ble_eq_true rfl), (Nat.le_of_ble_eq_true rfl)⟩) ⟨XPx_blind, XPx_pre hE hT hPc⟩ rfl rfl hl.1 rfl (lv_room (Nat.le_of_ble_eq_true rfl)) dL_isRefused_61 ⟨by first | exact Nat.le_of_ble_eq_true rfl | (show (_ : Nat) ≤ 600; omega), by first | exact Nat.le_of_ble_eq_true rfl | (show (_ : Nat) ≤ 3000; omega)⟩) ?_
    refine lv_lstore (lv' := [(6, .long (alL G (alH G o ld b) 6)), (5, .int (((-2) - nI (X % 30)))), (4, .int (((-1) - nI (X % 30)))), (3, .int (nI 1)), (0, .ref x), (1, .ref ma), (2, .int (nI X))]) hx hb dL_isRefused_64 hl (by decide) rfl (fun ls hl => ?_)
    refine lv_aload_n hx hb dL_isRefused_66 rfl (lv_at hl 4 rfl) ?_
    refine lv_iconst (v := nI 0) hx hb dL_isRefused_67 (by decide) ?_
    refine lv_iload hx hb dL_isRefused_68 (lv_at hl 2 rfl) ?_
    refine lv_iconst (v := nI 0) hx hb dL_isRefused_70 (by decide) ?_
    refine lv_iconst (v := nI 0) hx hb dL_isRefused_71 (by decide) ?_
    refine xcri (vx_runSX (As := [.ref x, .int (nI 0), .int (((-1) - nI (X % 30))), .int (nI 0), .int (nI 0)]) (rest := []) ⟨hx, hb, hml, hown, hts⟩ (a_makeFile_O l hst Ax x lv kp fL fK o ld b k FZ G hC (((-1) - nI (X % 30))) (nI 0) (nI 0) hsix) (vx_cwSW 5 hts gL_isRefused_L_act rfl rfl rfl (by decide +kernel) ⟨(Nat.le_of_ble_eq_true rfl), (Nat.le_of_ble_eq_true rfl)⟩) ⟨XPl_blind, XPl_pre hE hT hN ⟨hPc, hDc⟩⟩ rfl rfl hl.1 rfl (lv_room (Nat.le_of_ble_eq_true rfl)) dL_isRefused_72 ⟨by first | exact Nat.le_of_ble_eq_true rfl | (show (_ : Nat) ≤ 600; omega), by first | exact Nat.le_of_ble_eq_true rfl | (show (_ : Nat) ≤ 3000; omega)⟩) (fun r9 H1 hr9 hz9 hk9 => ?_)
    subst hr9
    have hP := xkept hP hk9
    have hPc := xkept hPc hk9
    have hT := hT.kept (fun a h1 _ => hk9 a h1)
    obtain ⟨hz, hk⟩ := xk_tr hz hk hz9 hk9
    clear hz9 hk9
    generalize H1 = H at hP hPc hT hz hk ⊢
    refine lv_sipush (v := (-1161)) hx hb dL_isRefused_75 (by decide) ?_
    refine lv_icmp_ne (tgt := 534) hx hb dL_isRefused_78 (by decide) (fun h => absurd h (by decide)) (fun _ => ?_)
    refine lv_aload_n hx hb dL_isRefused_81 rfl (lv_at hl 4 rfl) ?_
    refine lv_iconst (v := nI 1) hx hb dL_isRefused_82 (by decide) ?_
    refine lv_iload hx hb dL_isRefused_83 (lv_at hl 2 rfl) ?_
    refine lv_iconst (v := nI 0) hx hb dL_isRefused_85 (by decide) ?_
    refine lv_iconst (v := nI 0) hx hb dL_isRefused_86 (by decide) ?_
    refine xcri (vx_runSX (As := [.ref x, .int (nI 1), .int (((-1) - nI (X % 30))), .int (nI 0), .int (nI 0)]) (rest := []) ⟨hx, hb, hml, hown, hts⟩ (a_makeLink_O l hst Ax x lv kp fL fK o ld b k FZ G hC (((-1) - nI (X % 30))) (nI 0) (nI 0) (fun h => hsix h.1)) (vx_cwSW 5 hts gL_isRefused_L_act rfl rfl rfl (by decide +kernel) ⟨(Nat.le_of_ble_eq_true rfl), (Nat.le_of_ble_eq_true rfl)⟩) ⟨XPl_blind, XPl_pre hE hT hN ⟨hPc, hDc⟩⟩ rfl rfl hl.1 rfl (lv_room (Nat.le_of_ble_eq_true rfl)) dL_isRefused_87 ⟨by first | exact Nat.le_of_ble_eq_true rfl | (show (_ : Nat) ≤ 600; omega), by first | exact Nat.le_of_ble_eq_true rfl | (show (_ : Nat) ≤ 3000; omega)⟩) (fun r9 H1 hr9 hz9 hk9 => ?_)
    subst hr9
    have hP := xkept hP hk9
    have hPc := xkept hPc hk9
    have hT := hT.kept (fun a h1 _ => hk9 a h1)
    obtain ⟨hz, hk⟩ := xk_tr hz hk hz9 hk9
    clear hz9 hk9
    generalize H1 = H at hP hPc hT hz hk ⊢
    refine lv_sipush (v := (-1161)) hx hb dL_isRefused_90 (by decide) ?_
    refine lv_icmp_ne (tgt := 534) hx hb dL_isRefused_93 (by decide) (fun h => absurd h (by decide)) (fun _ => ?_)
    refine lv_aload_n hx hb dL_isRefused_96 rfl (lv_at hl 4 rfl) ?_
    refine lv_iconst (v := nI 1) hx hb dL_isRefused_97 (by decide) ?_
    refine lv_iconst (v := nI 0) hx hb dL_isRefused_98 (by decide) ?_
    refine lv_iload hx hb dL_isRefused_99 (lv_at hl 2 rfl) ?_
    refine lv_iconst (v := nI 0) hx hb dL_isRefused_101 (by decide) ?_
    refine xcri (vx_runSX (As := [.ref x, .int (nI 1), .int (nI 0), .int (((-1) - nI (X % 30))), .int (nI 0)]) (rest := []) ⟨hx, hb, hml, hown, hts⟩ (a_makeLink_O l hst Ax x lv kp fL fK o ld b k FZ G hC (nI 0) (((-1) - nI (X % 30))) (nI 0) (fun h => hsix h.2)) (vx_cwSW 5 hts gL_isRefused_L_act rfl rfl rfl (by decide +kernel) ⟨(Nat.le_of_ble_eq_true rfl), (Nat.le_of_ble_eq_true rfl)⟩) ⟨XPl_blind, XPl_pre hE hT hN ⟨hPc, hDc⟩⟩ rfl rfl hl.1 rfl (lv_room (Nat.le_of_ble_eq_true rfl)) dL_isRefused_102 ⟨by first | exact Nat.le_of_ble_eq_true rfl | (show (_ : Nat) ≤ 600; omega), by first | exact Nat.le_of_ble_eq_true rfl | (show (_ : Nat) ≤ 3000; omega)⟩) (fun r9 H1 hr9 hz9 hk9 => ?_)
    subst hr9
    have hP := xkept hP hk9
    have hPc := xkept hPc hk9
    have hT := hT.kept (fun a h1 _ => hk9 a h1)
    obtain ⟨hz, hk⟩ := xk_tr hz hk hz9 hk9
    clear hz9 hk9
    generalize H1 = H at hP hPc hT hz hk ⊢
    refine lv_sipush (v := (-1161)) hx hb dL_isRefused_105 (by decide) ?_
    refine lv_icmp_ne (tgt := 534) hx hb dL_isRefused_108 (by decide) (fun h => absurd h (by decide)) (fun _ => ?_)
    refine lv_aload_n hx hb dL_isRefused_111 rfl (lv_at hl 4 rfl) ?_
    refine lv_iconst (v := nI 2) hx hb dL_isRefused_112 (by decide) ?_
    refine lv_iload hx hb dL_isRefused_113 (lv_at hl 2 rfl) ?_
    refine lv_iconst (v := nI 0) hx hb dL_isRefused_115 (by decide) ?_
    refine lv_iconst (v := nI 0) hx hb dL_isRefused_116 (by decide) ?_
    refine xcri (vx_runSX (As := [.ref x, .int (nI 2), .int (((-1) - nI (X % 30))), .int (nI 0), .int (nI 0)]) (rest := []) ⟨hx, hb, hml, hown, hts⟩ (a_remove_O l hst Ax x lv kp fL fK o ld b k FZ G hC (((-1) - nI (X % 30))) (nI 0) (nI 0) hsix) (vx_cwSW 5 hts gL_isRefused_L_act rfl rfl rfl (by decide +kernel) ⟨(Nat.le_of_ble_eq_true rfl), (Nat.le_of_ble_eq_true rfl)⟩) ⟨XPl_blind, XPl_pre hE hT hN ⟨hPc, hDc⟩⟩ rfl rfl hl.1 rfl (lv_room (Nat.le_of_ble_eq_true rfl)) dL_isRefused_117 ⟨by first | exact Nat.le_of_ble_eq_true rfl | (show (_ : Nat) ≤ 600; omega), by first | exact Nat.le_of_ble_eq_true rfl | (show (_ : Nat) ≤ 3000; omega)⟩) (fun r9 H1 hr9 hz9 hk9 => ?_)
    subst hr9
    have hP := xkept hP hk9
    have hPc := xkept hPc hk9
    have hT := hT.kept (fun a h1 _ => hk9 a h1)
    obtain ⟨hz, hk⟩ := xk_tr hz hk hz9 hk9
    clear hz9 hk9
    generalize H1 = H at hP hPc hT hz hk ⊢
    refine lv_sipush (v := (-1161)) hx hb dL_isRefused_120 (by decide) ?_
    refine lv_icmp_ne (tgt := 534) hx hb dL_isRefused_123 (by decide) (fun h => absurd h (by decide)) (fun _ => ?_)
    refine lv_aload_n hx hb dL_isRefused_126 rfl (lv_at hl 4 rfl) ?_
    refine lv_iconst (v := nI 3) hx hb dL_isRefused_127 (by decide) ?_
    refine lv_iload hx hb dL_isRefused_128 (lv_at hl 2 rfl) ?_
    refine lv_iconst (v := (-1)) hx hb dL_isRefused_130 (by decide) ?_
    refine lv_iconst (v := (-1)) hx hb dL_isRefused_131 (by decide) ?_
    refine xcri (vx_runSX (As := [.ref x, .int (nI 3), .int (((-1) - nI (X % 30))), .int ((-1)), .int ((-1))]) (rest := []) ⟨hx, hb, hml, hown, hts⟩ (a_put_O l hst Ax x lv kp fL fK o ld b k FZ G hC (((-1) - nI (X % 30))) ((-1)) ((-1)) hsix) (vx_cwSW 5 hts gL_isRefused_L_act rfl rfl rfl (by decide +kernel) ⟨(Nat.le_of_ble_eq_true rfl), (Nat.le_of_ble_eq_true rfl)⟩) ⟨XPl_blind, XPl_pre hE hT hN ⟨hPc, hDc⟩⟩ rfl rfl hl.1 rfl (lv_room (Nat.le_of_ble_eq_true rfl)) dL_isRefused_132 ⟨by first | exact Nat.le_of_ble_eq_true rfl | (show (_ : Nat) ≤ 600; omega), by first | exact Nat.le_of_ble_eq_true rfl | (show (_ : Nat) ≤ 3000; omega)⟩) (fun r9 H1 hr9 hz9 hk9 => ?_)
    subst hr9
    have hP := xkept hP hk9
    have hPc := xkept hPc hk9
    have hT := hT.kept (fun a h1 _ => hk9 a h1)
    obtain ⟨hz, hk⟩ := xk_tr hz hk hz9 hk9
    clear hz9 hk9
    generalize H1 = H at hP hPc hT hz hk ⊢
    refine lv_sipush (v := (-1161)) hx hb dL_isRefused_135 (by decide) ?_
    refine lv_icmp_ne (tgt := 534) hx hb dL_isRefused_138 (by decide) (fun h => absurd h (by decide)) (fun _ => ?_)
    refine lv_aload_n hx hb dL_isRefused_141 rfl (lv_at hl 4 rfl) ?_
    refine lv_iconst (v := nI 4) hx hb dL_isRefused_142 (by decide) ?_
    refine lv_iload hx hb dL_isRefused_143 (lv_at hl 2 rfl) ?_
    refine lv_iconst (v := (-1)) hx hb dL_isRefused_145 (by decide) ?_
    refine lv_iconst (v := nI 0) hx hb dL_isRefused_146 (by decide) ?_
    refine xcri (vx_runSX (As := [.ref x, .int (nI 4), .int (((-1) - nI (X % 30))), .int ((-1)), .int (nI 0)]) (rest := []) ⟨hx, hb, hml, hown, hts⟩ (a_take_O l hst Ax x lv kp fL fK o ld b k FZ G hC (((-1) - nI (X % 30))) ((-1)) (nI 0) hsix) (vx_cwSW 5 hts gL_isRefused_L_act rfl rfl rfl (by decide +kernel) ⟨(Nat.le_of_ble_eq_true rfl), (Nat.le_of_ble_eq_true rfl)⟩) ⟨XPl_blind, XPl_pre hE hT hN ⟨hPc, hDc⟩⟩ rfl rfl hl.1 rfl (lv_room (Nat.le_of_ble_eq_true rfl)) dL_isRefused_147 ⟨by first | exact Nat.le_of_ble_eq_true rfl | (show (_ : Nat) ≤ 600; omega), by first | exact Nat.le_of_ble_eq_true rfl | (show (_ : Nat) ≤ 3000; omega)⟩) (fun r9 H1 hr9 hz9 hk9 => ?_)
    subst hr9
    have hP := xkept hP hk9
    have hPc := xkept hPc hk9
    have hT := hT.kept (fun a h1 _ => hk9 a h1)
    obtain ⟨hz, hk⟩ := xk_tr hz hk hz9 hk9
    clear hz9 hk9
    generalize H1 = H at hP hPc hT hz hk ⊢
    refine lv_sipush (v := (-1161)) hx hb dL_isRefused_150 (by decide) ?_
    refine lv_icmp_ne (tgt := 534) hx hb dL_isRefused_153 (by decide) (fun h => absurd h (by decide)) (fun _ => ?_)
    refine lv_aload_n hx hb dL_isRefused_156 rfl (lv_at hl 4 rfl) ?_
    refine lv_iconst (v := nI 5) hx hb dL_isRefused_157 (by decide) ?_
    refine lv_iload hx hb dL_isRefused_158 (lv_at hl 2 rfl) ?_
    refine lv_iconst (v := (-1)) hx hb dL_isRefused_160 (by decide) ?_
    refine lv_iconst (v := nI 0) hx hb dL_isRefused_161 (by decide) ?_
    refine xcri (vx_runSX (As := [.ref x, .int (nI 5), .int (((-1) - nI (X % 30))), .int ((-1)), .int (nI 0)]) (rest := []) ⟨hx, hb, hml, hown, hts⟩ (a_setRights_O l hst Ax x lv kp fL fK o ld b k FZ G hC (((-1) - nI (X % 30))) ((-1)) (nI 0) hsix) (vx_cwSW 5 hts gL_isRefused_L_act rfl rfl rfl (by decide +kernel) ⟨(Nat.le_of_ble_eq_true rfl), (Nat.le_of_ble_eq_true rfl)⟩) ⟨XPl_blind, XPl_pre hE hT hN ⟨hPc, hDc⟩⟩ rfl rfl hl.1 rfl (lv_room (Nat.le_of_ble_eq_true rfl)) dL_isRefused_162 ⟨by first | exact Nat.le_of_ble_eq_true rfl | (show (_ : Nat) ≤ 600; omega), by first | exact Nat.le_of_ble_eq_true rfl | (show (_ : Nat) ≤ 3000; omega)⟩) (fun r9 H1 hr9 hz9 hk9 => ?_)
    subst hr9
    have hP := xkept hP hk9
    have hPc := xkept hPc hk9
    have hT := hT.kept (fun a h1 _ => hk9 a h1)
    obtain ⟨hz, hk⟩ := xk_tr hz hk hz9 hk9
    clear hz9 hk9
    generalize H1 = H at hP hPc hT hz hk ⊢
    refine lv_sipush (v := (-1161)) hx hb dL_isRefused_165 (by decide) ?_
    refine lv_icmp_ne (tgt := 534) hx hb dL_isRefused_168 (by decide) (fun h => absurd h (by decide)) (fun _ => ?_)
    refine lv_aload_n hx hb dL_isRefused_171 rfl (lv_at hl 4 rfl) ?_
    refine lv_bipush (v := nI 6) hx hb dL_isRefused_172 (by decide) ?_
    refine lv_iload_n hx hb dL_isRefused_174 rfl (lv_at hl 3 rfl) ?_
    refine lv_if_eq (tgt := 187) hx hb dL_isRefused_175 (by decide) (fun h => absurd h (by decide)) (fun _ => ?_)
    refine lv_iconst (v := (-1)) hx hb dL_isRefused_178 (by decide) ?_
    refine lv_iload_n hx hb dL_isRefused_179 rfl (lv_at hl 6 rfl) ?_
    refine lv_bipush (v := nI 30) hx hb dL_isRefused_180 (by decide) ?_
    refine lv_irem hx hb dL_isRefused_182 (by decide) ?_
    refine x_top (nI (X % 30)) (pk_rem (by omega) (by omega) (by omega)) ?_
    refine lv_isub hx hb dL_isRefused_183 ?_
    refine x_top (((-1) - nI (X % 30))) (rfl) ?_
    refine lv_goto (tgt := 194) hx hb dL_isRefused_184 (by decide) ?_
    refine lv_iconst (v := nI 0) hx hb dL_isRefused_194 (by decide) ?_
    refine lv_iconst (v := nI 0) hx hb dL_isRefused_195 (by decide) ?_
    refine xcri (vx_runSX (As := [.ref x, .int (nI 6), .int (((-1) - nI (X % 30))), .int (nI 0), .int (nI 0)]) (rest := []) ⟨hx, hb, hml, hown, hts⟩ (a_run_A l hst Ax x lv kp fL fK o ld b k FZ G hC (((-1) - nI (X % 30))) (nI 0) (nI 0) (lo_no (lo_1 h30) (by omega)) hld) (vx_cwSW 5 hts gL_isRefused_L_act rfl rfl rfl (by decide +kernel) ⟨(Nat.le_of_ble_eq_true rfl), (Nat.le_of_ble_eq_true rfl)⟩) ⟨XPl_blind, XPl_pre hE hT hN ⟨hPc, hDc⟩⟩ rfl rfl hl.1 rfl (lv_room (Nat.le_of_ble_eq_true rfl)) dL_isRefused_196 ⟨by first | exact Nat.le_of_ble_eq_true rfl | (show (_ : Nat) ≤ 600; omega), by first | exact Nat.le_of_ble_eq_true rfl | (show (_ : Nat) ≤ 3000; omega)⟩) (fun r9 H1 hr9 hz9 hk9 => ?_)
    subst hr9
    have hP := xkept hP hk9
    have hPc := xkept hPc hk9
    have hT := hT.kept (fun a h1 _ => hk9 a h1)
    obtain ⟨hz, hk⟩ := xk_tr hz hk hz9 hk9
    clear hz9 hk9
    generalize H1 = H at hP hPc hT hz hk ⊢
    refine lv_sipush (v := (-1162)) hx hb dL_isRefused_199 (by decide) ?_
    refine lv_icmp_ne (tgt := 534) hx hb dL_isRefused_202 (by decide) (fun h => absurd h (by decide)) (fun _ => ?_)
    refine lv_aload_n hx hb dL_isRefused_205 rfl (lv_at hl 4 rfl) ?_
    refine lv_bipush (v := nI 7) hx hb dL_isRefused_206 (by decide) ?_
    refine lv_iload_n hx hb dL_isRefused_208 rfl (lv_at hl 3 rfl) ?_
    refine lv_if_eq (tgt := 221) hx hb dL_isRefused_209 (by decide) (fun h => absurd h (by decide)) (fun _ => ?_)
    refine lv_iconst (v := nI 0) hx hb dL_isRefused_212 (by decide) ?_
    refine lv_iload_n hx hb dL_isRefused_213 rfl (lv_at hl 6 rfl) ?_
    refine lv_bipush (v := nI 30) hx hb dL_isRefused_214 (by decide) ?_
    refine lv_irem hx hb dL_isRefused_216 (by decide) ?_
    refine x_top (nI (X % 30)) (pk_rem (by omega) (by omega) (by omega)) ?_
    refine lv_isub hx hb dL_isRefused_217 ?_
    refine x_top ((nI 0 - nI (X % 30))) (rfl) ?_
    refine lv_goto (tgt := 228) hx hb dL_isRefused_218 (by decide) ?_
    refine lv_iconst (v := nI 0) hx hb dL_isRefused_228 (by decide) ?_
    refine lv_iconst (v := nI 0) hx hb dL_isRefused_229 (by decide) ?_
    refine xcri (vx_runSX (As := [.ref x, .int (nI 7), .int ((nI 0 - nI (X % 30))), .int (nI 0), .int (nI 0)]) (rest := []) ⟨hx, hb, hml, hown, hts⟩ (a_thin_A l hst Ax x lv kp fL fK o ld b k FZ G hC ((nI 0 - nI (X % 30))) (nI 0) (nI 0) (lo_th (lo_0 h30)) hld hold) (vx_cwSW 5 hts gL_isRefused_L_act rfl rfl rfl (by decide +kernel) ⟨(Nat.le_of_ble_eq_true rfl), (Nat.le_of_ble_eq_true rfl)⟩) ⟨XPl_blind, XPl_pre hE hT hN ⟨hPc, hDc⟩⟩ rfl rfl hl.1 rfl (lv_room (Nat.le_of_ble_eq_true rfl)) dL_isRefused_230 ⟨by first | exact Nat.le_of_ble_eq_true rfl | (show (_ : Nat) ≤ 600; omega), by first | exact Nat.le_of_ble_eq_true rfl | (show (_ : Nat) ≤ 3000; omega)⟩) (fun r9 H1 hr9 hz9 hk9 => ?_)
    subst hr9
    have hP := xkept hP hk9
    have hPc := xkept hPc hk9
    have hT := hT.kept (fun a h1 _ => hk9 a h1)
    obtain ⟨hz, hk⟩ := xk_tr hz hk hz9 hk9
    clear hz9 hk9
    generalize H1 = H at hP hPc hT hz hk ⊢
    refine lv_sipush (v := (-1162)) hx hb dL_isRefused_233 (by decide) ?_
    refine lv_icmp_ne (tgt := 534) hx hb dL_isRefused_236 (by decide) (fun h => absurd h (by decide)) (fun _ => ?_)
    refine lv_aload_n hx hb dL_isRefused_239 rfl (lv_at hl 4 rfl) ?_
    refine lv_bipush (v := nI 7) hx hb dL_isRefused_240 (by decide) ?_
    refine lv_aload_n hx hb dL_isRefused_242 rfl (lv_at hl 5 rfl) ?_
    refine lv_iconst (v := nI 0) hx hb dL_isRefused_243 (by decide) ?_
    refine va_iald hx hb hK hP 0 0 rfl rfl (xin (by omega) (by omega)) dL_isRefused_244 ?_
    refine x_top (fm 0) (by rw [nI_clamp (by omega)]) ?_
    refine x_top (nI ld) (hm0) ?_
    refine lv_aload_n hx hb dL_isRefused_245 rfl (lv_at hl 5 rfl) ?_
    refine lv_iconst (v := nI 1) hx hb dL_isRefused_246 (by decide) ?_
    refine va_iald hx hb hK hP 0 0 rfl rfl (xin (by omega) (by omega)) dL_isRefused_247 ?_
    refine x_top (fm 1) (by rw [nI_clamp (by omega)]) ?_
    refine x_top (nI o) (hm1) ?_
    refine lv_isub hx hb dL_isRefused_248 ?_
    refine x_top (nI (ld - o)) (xsub (by omega)) ?_
    refine lv_iconst (v := nI 1) hx hb dL_isRefused_249 (by decide) ?_
    refine lv_iadd hx hb dL_isRefused_250 ?_
    refine x_top (nI ((ld - o) + 1)) (xadd (by omega)) ?_
    refine lv_iload_n hx hb dL_isRefused_251 rfl (lv_at hl 6 rfl) ?_
    refine lv_bipush (v := nI 20) hx hb dL_isRefused_252 (by decide) ?_
    refine lv_irem hx hb dL_isRefused_254 (by decide) ?_
    refine x_top (nI (X % 20)) (pk_rem (by omega) (by omega) (by omega)) ?_
    refine lv_iadd hx hb dL_isRefused_255 ?_
    refine x_top (nI (((ld - o) + 1) + (X % 20))) (xadd (by omega)) ?_
    refine lv_iconst (v := nI 0) hx hb dL_isRefused_256 (by decide) ?_
    refine lv_iconst (v := nI 0) hx hb dL_isRefused_257 (by decide) ?_
    refine xcri (vx_runSX (As := [.ref x, .int (nI 7), .int (nI (((ld - o) + 1) + (X % 20))), .int (nI 0), .int (nI 0)]) (rest := []) ⟨hx, hb, hml, hown, hts⟩ (a_thin_S l hst Ax x lv kp fL fK o ld b k FZ G hC (((ld - o) + 1) + (X % 20)) (nI 0) (nI 0) (by omega) (by omega) (by omega) hld hold) (vx_cwSW 5 hts gL_isRefused_L_act rfl rfl rfl (by decide +kernel) ⟨(Nat.le_of_ble_eq_true rfl), (Nat.le_of_ble_eq_true rfl)⟩) ⟨XPl_blind, XPl_pre hE hT hN ⟨hPc, hDc⟩⟩ rfl rfl hl.1 rfl (lv_room (Nat.le_of_ble_eq_true rfl)) dL_isRefused_258 ⟨by first | exact Nat.le_of_ble_eq_true rfl | (show (_ : Nat) ≤ 600; omega), by first | exact Nat.le_of_ble_eq_true rfl | (show (_ : Nat) ≤ 3000; omega)⟩) (fun r9 H1 hr9 hz9 hk9 => ?_)
    subst hr9
    have hP := xkept hP hk9
    have hPc := xkept hPc hk9
    have hT := hT.kept (fun a h1 _ => hk9 a h1)
    obtain ⟨hz, hk⟩ := xk_tr hz hk hz9 hk9
    clear hz9 hk9
    generalize H1 = H at hP hPc hT hz hk ⊢
    refine lv_sipush (v := (-1163)) hx hb dL_isRefused_261 (by decide) ?_
    refine lv_icmp_ne (tgt := 534) hx hb dL_isRefused_264 (by decide) (fun h => absurd h (by decide)) (fun _ => ?_)
    refine lv_aload_n hx hb dL_isRefused_267 rfl (lv_at hl 4 rfl) ?_
    refine lv_bipush (v := nI 8) hx hb dL_isRefused_268 (by decide) ?_
    refine lv_iload hx hb dL_isRefused_270 (lv_at hl 1 rfl) ?_
    refine lv_iconst (v := nI 0) hx hb dL_isRefused_272 (by decide) ?_
    refine lv_iconst (v := nI 0) hx hb dL_isRefused_273 (by decide) ?_
    refine xcri (vx_runSX (As := [.ref x, .int (nI 8), .int (((-2) - nI (X % 30))), .int (nI 0), .int (nI 0)]) (rest := []) ⟨hx, hb, hml, hown, hts⟩ (a_restore_O l hst Ax x lv kp fL fK o ld b k FZ G hC (((-2) - nI (X % 30))) (nI 0) (nI 0) hbd.1 hld hold) (vx_cwSW 5 hts gL_isRefused_L_act rfl rfl rfl (by decide +kernel) ⟨(Nat.le_of_ble_eq_true rfl), (Nat.le_of_ble_eq_true rfl)⟩) ⟨XPl_blind, XPl_pre hE hT hN ⟨hPc, hDc⟩⟩ rfl rfl hl.1 rfl (lv_room (Nat.le_of_ble_eq_true rfl)) dL_isRefused_274 ⟨by first | exact Nat.le_of_ble_eq_true rfl | (show (_ : Nat) ≤ 600; omega), by first | exact Nat.le_of_ble_eq_true rfl | (show (_ : Nat) ≤ 3000; omega)⟩) (fun r9 H1 hr9 hz9 hk9 => ?_)
    subst hr9
    have hP := xkept hP hk9
    have hPc := xkept hPc hk9
    have hT := hT.kept (fun a h1 _ => hk9 a h1)
    obtain ⟨hz, hk⟩ := xk_tr hz hk hz9 hk9
    clear hz9 hk9
    generalize H1 = H at hP hPc hT hz hk ⊢
    refine lv_sipush (v := (-1161)) hx hb dL_isRefused_277 (by decide) ?_
    refine lv_icmp_ne (tgt := 534) hx hb dL_isRefused_280 (by decide) (fun h => absurd h (by decide)) (fun _ => ?_)
    refine lv_aload_n hx hb dL_isRefused_283 rfl (lv_at hl 4 rfl) ?_
    refine lv_bipush (v := nI 8) hx hb dL_isRefused_284 (by decide) ?_
    refine lv_iconst (v := (-1)) hx hb dL_isRefused_286 (by decide) ?_
    refine lv_iconst (v := nI 0) hx hb dL_isRefused_287 (by decide) ?_
    refine lv_iconst (v := nI 0) hx hb dL_isRefused_288 (by decide) ?_
    refine xcri (vx_runSX (As := [.ref x, .int (nI 8), .int ((-1)), .int (nI 0), .int (nI 0)]) (rest := []) ⟨hx, hb, hml, hown, hts⟩ (a_restore_O l hst Ax x lv kp fL fK o ld b k FZ G hC ((-1)) (nI 0) (nI 0) (m1_kp hld) hld hold) (vx_cwSW 5 hts gL_isRefused_L_act rfl rfl rfl (by decide +kernel) ⟨(Nat.le_of_ble_eq_true rfl), (Nat.le_of_ble_eq_true rfl)⟩) ⟨XPl_blind, XPl_pre hE hT hN ⟨hPc, hDc⟩⟩ rfl rfl hl.1 rfl (lv_room (Nat.le_of_ble_eq_true rfl)) dL_isRefused_289 ⟨by first | exact Nat.le_of_ble_eq_true rfl | (show (_ : Nat) ≤ 600; omega), by first | exact Nat.le_of_ble_eq_true rfl | (show (_ : Nat) ≤ 3000; omega)⟩) (fun r9 H1 hr9 hz9 hk9 => ?_)
    subst hr9
    have hP := xkept hP hk9
    have hPc := xkept hPc hk9
    have hT := hT.kept (fun a h1 _ => hk9 a h1)
    obtain ⟨hz, hk⟩ := xk_tr hz hk hz9 hk9
    clear hz9 hk9
    generalize H1 = H at hP hPc hT hz hk ⊢
    refine lv_sipush (v := (-1161)) hx hb dL_isRefused_292 (by decide) ?_
    refine lv_icmp_ne (tgt := 534) hx hb dL_isRefused_295 (by decide) (fun h => absurd h (by decide)) (fun _ => ?_)
    refine lv_aload_n hx hb dL_isRefused_298 rfl (lv_at hl 5 rfl) ?_
    refine lv_iconst (v := nI 1) hx hb dL_isRefused_299 (by decide) ?_
    refine va_iald hx hb hK hP 0 0 rfl rfl (xin (by omega) (by omega)) dL_isRefused_300 ?_
    refine x_top (fm 1) (by rw [nI_clamp (by omega)]) ?_
    refine x_top (nI o) (hm1) ?_
    refine x_joinG (fun H locs ls => s.heap.size ≤ H.size ∧ (∀ q : Nat, q < s.heap.size → H[q]? = s.heap[q]?) ∧ locs = [] ∧ lv_has ls 12 [(6, .long (alL G (alH G o ld b) 6)), (5, .int (((-2) - nI (X % 30)))), (4, .int (((-1) - nI (X % 30)))), (3, .int (nI 1)), (0, .ref x), (1, .ref ma), (2, .int (nI X))]) 200 1000 359 [] ?_ (fun J => ?_)
    · intro H locs ls hJ
      obtain ⟨hz, hk, rfl, hl⟩ := hJ
      have hP := xkept hP0 hk
      have hPc := xkept hPc0 hk
      have hT := hT00.kept (fun a h1 _ => hk a h1)
      refine lv_aload_n hx hb dL_isRefused_359 rfl (lv_at hl 4 rfl) ?_
      refine lv_iconst (v := nI 0) hx hb dL_isRefused_360 (by decide) ?_
      refine lv_iload hx hb dL_isRefused_361 (lv_at hl 1 rfl) ?_
      refine lv_iconst (v := nI 0) hx hb dL_isRefused_363 (by decide) ?_
      refine lv_iconst (v := nI 0) hx hb dL_isRefused_364 (by decide) ?_
      refine xcri (vx_runSX (As := [.ref x, .int (nI 0), .int (((-2) - nI (X % 30))), .int (nI 0), .int (nI 0)]) (rest := []) ⟨hx, hb, hml, hown, hts⟩ (o_kindAt l hst Ax x lv kp fL fK o ld b k FZ G hC (((-2) - nI (X % 30))) (nI 0) (nI 0) hbd.at hld hold) (vx_cwSW 5 hts gL_isRefused_L_of rfl rfl rfl (by decide +kernel) ⟨(Nat.le_of_ble_eq_true rfl), (Nat.le_of_ble_eq_true rfl)⟩) ⟨XPl_blind, XPl_pre hE hT hN hPc⟩ rfl rfl hl.1 rfl (lv_room (Nat.le_of_ble_eq_true rfl)) dL_isRefused_365 ⟨by first | exact Nat.le_of_ble_eq_true rfl | (show (_ : Nat) ≤ 600; omega), by first | exact Nat.le_of_ble_eq_true rfl | (show (_ : Nat) ≤ 3000; omega)⟩) (fun r9 H1 hr9 hz9 hk9 => ?_)
      subst hr9
      have hP := xkept hP hk9
      have hPc := xkept hPc hk9
      have hT := hT.kept (fun a h1 _ => hk9 a h1)
      obtain ⟨hz, hk⟩ := xk_tr hz hk hz9 hk9
      clear hz9 hk9
      generalize H1 = H at hP hPc hT hz hk ⊢
      refine lv_sipush (v := (-1161)) hx hb dL_isRefused_368 (by decide) ?_
      refine lv_icmp_ne (tgt := 534) hx hb dL_isRefused_371 (by decide) (fun h => absurd h (by decide)) (fun _ => ?_)
      refine lv_aload_n hx hb dL_isRefused_374 rfl (lv_at hl 4 rfl) ?_
      refine lv_iconst (v := nI 0) hx hb dL_isRefused_375 (by decide) ?_
      refine lv_iconst (v := (-1)) hx hb dL_isRefused_376 (by decide) ?_
      refine lv_iload hx hb dL_isRefused_377 (lv_at hl 2 rfl) ?_
      refine lv_iconst (v := nI 0) hx hb dL_isRefused_379 (by decide) ?_
      refine xcri (vx_runSX (As := [.ref x, .int (nI 0), .int ((-1)), .int (((-1) - nI (X % 30))), .int (nI 0)]) (rest := []) ⟨hx, hb, hml, hown, hts⟩ (o_kindAt l hst Ax x lv kp fL fK o ld b k FZ G hC ((-1)) (((-1) - nI (X % 30))) (nI 0) (pl_at hsix) hld hold) (vx_cwSW 5 hts gL_isRefused_L_of rfl rfl rfl (by decide +kernel) ⟨(Nat.le_of_ble_eq_true rfl), (Nat.le_of_ble_eq_true rfl)⟩) ⟨XPl_blind, XPl_pre hE hT hN hPc⟩ rfl rfl hl.1 rfl (lv_room (Nat.le_of_ble_eq_true rfl)) dL_isRefused_380 ⟨by first | exact Nat.le_of_ble_eq_true rfl | (show (_ : Nat) ≤ 600; omega), by first | exact Nat.le_of_ble_eq_true rfl | (show (_ : Nat) ≤ 3000; omega)⟩) (fun r9 H1 hr9 hz9 hk9 => ?_)
      subst hr9
      have hP := xkept hP hk9
      have hPc := xkept hPc hk9
      have hT := hT.kept (fun a h1 _ => hk9 a h1)
      obtain ⟨hz, hk⟩ := xk_tr hz hk hz9 hk9
      clear hz9 hk9
      generalize H1 = H at hP hPc hT hz hk ⊢
      refine lv_sipush (v := (-1161)) hx hb dL_isRefused_383 (by decide) ?_
      refine lv_icmp_ne (tgt := 534) hx hb dL_isRefused_386 (by decide) (fun h => absurd h (by decide)) (fun _ => ?_)
      refine lv_aload_n hx hb dL_isRefused_389 rfl (lv_at hl 4 rfl) ?_
      refine lv_iconst (v := nI 1) hx hb dL_isRefused_390 (by decide) ?_
      refine lv_iload hx hb dL_isRefused_391 (lv_at hl 1 rfl) ?_
      refine lv_iconst (v := nI 0) hx hb dL_isRefused_393 (by decide) ?_
      refine lv_iconst (v := nI 0) hx hb dL_isRefused_394 (by decide) ?_
      refine xcri (vx_runSX (As := [.ref x, .int (nI 1), .int (((-2) - nI (X % 30))), .int (nI 0), .int (nI 0)]) (rest := []) ⟨hx, hb, hml, hown, hts⟩ (o_numberAt l hst Ax x lv kp fL fK o ld b k FZ G hC (((-2) - nI (X % 30))) (nI 0) (nI 0) hbd.nm hld hold) (vx_cwSW 5 hts gL_isRefused_L_of rfl rfl rfl (by decide +kernel) ⟨(Nat.le_of_ble_eq_true rfl), (Nat.le_of_ble_eq_true rfl)⟩) ⟨XPl_blind, XPl_pre hE hT hN hPc⟩ rfl rfl hl.1 rfl (lv_room (Nat.le_of_ble_eq_true rfl)) dL_isRefused_395 ⟨by first | exact Nat.le_of_ble_eq_true rfl | (show (_ : Nat) ≤ 600; omega), by first | exact Nat.le_of_ble_eq_true rfl | (show (_ : Nat) ≤ 3000; omega)⟩) (fun r9 H1 hr9 hz9 hk9 => ?_)
      subst hr9
      have hP := xkept hP hk9
      have hPc := xkept hPc hk9
      have hT := hT.kept (fun a h1 _ => hk9 a h1)
      obtain ⟨hz, hk⟩ := xk_tr hz hk hz9 hk9
      clear hz9 hk9
      generalize H1 = H at hP hPc hT hz hk ⊢
      refine lv_sipush (v := (-1161)) hx hb dL_isRefused_398 (by decide) ?_
      refine lv_icmp_ne (tgt := 534) hx hb dL_isRefused_401 (by decide) (fun h => absurd h (by decide)) (fun _ => ?_)
      refine lv_aload_n hx hb dL_isRefused_404 rfl (lv_at hl 4 rfl) ?_
      refine lv_iconst (v := nI 1) hx hb dL_isRefused_405 (by decide) ?_
      refine lv_aload_n hx hb dL_isRefused_406 rfl (lv_at hl 5 rfl) ?_
      refine lv_iconst (v := nI 0) hx hb dL_isRefused_407 (by decide) ?_
      refine va_iald hx hb hK hP 0 0 rfl rfl (xin (by omega) (by omega)) dL_isRefused_408 ?_
      refine x_top (fm 0) (by rw [nI_clamp (by omega)]) ?_
      refine x_top (nI ld) (hm0) ?_
      refine lv_iload hx hb dL_isRefused_409 (lv_at hl 2 rfl) ?_
      refine lv_iconst (v := nI 0) hx hb dL_isRefused_411 (by decide) ?_
      refine xcri (vx_runSX (As := [.ref x, .int (nI 1), .int (nI ld), .int (((-1) - nI (X % 30))), .int (nI 0)]) (rest := []) ⟨hx, hb, hml, hown, hts⟩ (o_numberAt l hst Ax x lv kp fL fK o ld b k FZ G hC (nI ld) (((-1) - nI (X % 30))) (nI 0) (pl_nm hsix) hld hold) (vx_cwSW 5 hts gL_isRefused_L_of rfl rfl rfl (by decide +kernel) ⟨(Nat.le_of_ble_eq_true rfl), (Nat.le_of_ble_eq_true rfl)⟩) ⟨XPl_blind, XPl_pre hE hT hN hPc⟩ rfl rfl hl.1 rfl (lv_room (Nat.le_of_ble_eq_true rfl)) dL_isRefused_412 ⟨by first | exact Nat.le_of_ble_eq_true rfl | (show (_ : Nat) ≤ 600; omega), by first | exact Nat.le_of_ble_eq_true rfl | (show (_ : Nat) ≤ 3000; omega)⟩) (fun r9 H1 hr9 hz9 hk9 => ?_)
      subst hr9
      have hP := xkept hP hk9
      have hPc := xkept hPc hk9
      have hT := hT.kept (fun a h1 _ => hk9 a h1)
      obtain ⟨hz, hk⟩ := xk_tr hz hk hz9 hk9
      clear hz9 hk9
      generalize H1 = H at hP hPc hT hz hk ⊢
      refine lv_sipush (v := (-1161)) hx hb dL_isRefused_415 (by decide) ?_
      refine lv_icmp_ne (tgt := 534) hx hb dL_isRefused_418 (by decide) (fun h => absurd h (by decide)) (fun _ => ?_)
      refine lv_aload_n hx hb dL_isRefused_421 rfl (lv_at hl 4 rfl) ?_
      refine lv_iconst (v := nI 1) hx hb dL_isRefused_422 (by decide) ?_
      refine lv_iconst (v := (-1)) hx hb dL_isRefused_423 (by decide) ?_
      refine lv_iconst (v := nI 0) hx hb dL_isRefused_424 (by decide) ?_
      refine lv_iload_n hx hb dL_isRefused_425 rfl (lv_at hl 3 rfl) ?_
      refine lv_if_eq (tgt := 438) hx hb dL_isRefused_426 (by decide) (fun h => absurd h (by decide)) (fun _ => ?_)
      refine lv_iconst (v := (-1)) hx hb dL_isRefused_429 (by decide) ?_
      refine lv_iload_n hx hb dL_isRefused_430 rfl (lv_at hl 6 rfl) ?_
      refine lv_bipush (v := nI 30) hx hb dL_isRefused_431 (by decide) ?_
      refine lv_irem hx hb dL_isRefused_433 (by decide) ?_
      refine x_top (nI (X % 30)) (pk_rem (by omega) (by omega) (by omega)) ?_
      refine lv_isub hx hb dL_isRefused_434 ?_
      refine x_top (((-1) - nI (X % 30))) (rfl) ?_
      refine lv_goto (tgt := 445) hx hb dL_isRefused_435 (by decide) ?_
      refine xcri (vx_runSX (As := [.ref x, .int (nI 1), .int ((-1)), .int (nI 0), .int (((-1) - nI (X % 30)))]) (rest := []) ⟨hx, hb, hml, hown, hts⟩ (o_numberAt l hst Ax x lv kp fL fK o ld b k FZ G hC ((-1)) (nI 0) (((-1) - nI (X % 30))) (nm_lo (lo_1 h30)) hld hold) (vx_cwSW 5 hts gL_isRefused_L_of rfl rfl rfl (by decide +kernel) ⟨(Nat.le_of_ble_eq_true rfl), (Nat.le_of_ble_eq_true rfl)⟩) ⟨XPl_blind, XPl_pre hE hT hN hPc⟩ rfl rfl hl.1 rfl (lv_room (Nat.le_of_ble_eq_true rfl)) dL_isRefused_445 ⟨by first | exact Nat.le_of_ble_eq_true rfl | (show (_ : Nat) ≤ 600; omega), by first | exact Nat.le_of_ble_eq_true rfl | (show (_ : Nat) ≤ 3000; omega)⟩) (fun r9 H1 hr9 hz9 hk9 => ?_)
      subst hr9
      have hP := xkept hP hk9
      have hPc := xkept hPc hk9
      have hT := hT.kept (fun a h1 _ => hk9 a h1)
      obtain ⟨hz, hk⟩ := xk_tr hz hk hz9 hk9
      clear hz9 hk9
      generalize H1 = H at hP hPc hT hz hk ⊢
      refine lv_sipush (v := (-1161)) hx hb dL_isRefused_448 (by decide) ?_
      refine lv_icmp_ne (tgt := 534) hx hb dL_isRefused_451 (by decide) (fun h => absurd h (by decide)) (fun _ => ?_)
      refine lv_aload_n hx hb dL_isRefused_454 rfl (lv_at hl 4 rfl) ?_
      refine lv_iconst (v := nI 2) hx hb dL_isRefused_455 (by decide) ?_
      refine lv_iload hx hb dL_isRefused_456 (lv_at hl 1 rfl) ?_
      refine lv_iconst (v := nI 0) hx hb dL_isRefused_458 (by decide) ?_
      refine lv_iconst (v := nI 0) hx hb dL_isRefused_459 (by decide) ?_
      refine xcri (vx_runSX (As := [.ref x, .int (nI 2), .int (((-2) - nI (X % 30))), .int (nI 0), .int (nI 0)]) (rest := []) ⟨hx, hb, hml, hown, hts⟩ (o_rightsAt l hst Ax x lv kp fL fK o ld b k FZ G hC (((-2) - nI (X % 30))) (nI 0) (nI 0) hbd.at hld hold) (vx_cwSW 5 hts gL_isRefused_L_of rfl rfl rfl (by decide +kernel) ⟨(Nat.le_of_ble_eq_true rfl), (Nat.le_of_ble_eq_true rfl)⟩) ⟨XPl_blind, XPl_pre hE hT hN hPc⟩ rfl rfl hl.1 rfl (lv_room (Nat.le_of_ble_eq_true rfl)) dL_isRefused_460 ⟨by first | exact Nat.le_of_ble_eq_true rfl | (show (_ : Nat) ≤ 600; omega), by first | exact Nat.le_of_ble_eq_true rfl | (show (_ : Nat) ≤ 3000; omega)⟩) (fun r9 H1 hr9 hz9 hk9 => ?_)
      subst hr9
      have hP := xkept hP hk9
      have hPc := xkept hPc hk9
      have hT := hT.kept (fun a h1 _ => hk9 a h1)
      obtain ⟨hz, hk⟩ := xk_tr hz hk hz9 hk9
      clear hz9 hk9
      generalize H1 = H at hP hPc hT hz hk ⊢
      refine lv_sipush (v := (-1161)) hx hb dL_isRefused_463 (by decide) ?_
      refine lv_icmp_ne (tgt := 534) hx hb dL_isRefused_466 (by decide) (fun h => absurd h (by decide)) (fun _ => ?_)
      refine lv_aload_n hx hb dL_isRefused_469 rfl (lv_at hl 4 rfl) ?_
      refine lv_iconst (v := nI 2) hx hb dL_isRefused_470 (by decide) ?_
      refine lv_iconst (v := (-1)) hx hb dL_isRefused_471 (by decide) ?_
      refine lv_iload hx hb dL_isRefused_472 (lv_at hl 2 rfl) ?_
      refine lv_iconst (v := nI 0) hx hb dL_isRefused_474 (by decide) ?_
      refine xcri (vx_runSX (As := [.ref x, .int (nI 2), .int ((-1)), .int (((-1) - nI (X % 30))), .int (nI 0)]) (rest := []) ⟨hx, hb, hml, hown, hts⟩ (o_rightsAt l hst Ax x lv kp fL fK o ld b k FZ G hC ((-1)) (((-1) - nI (X % 30))) (nI 0) (pl_at hsix) hld hold) (vx_cwSW 5 hts gL_isRefused_L_of rfl rfl rfl (by decide +kernel) ⟨(Nat.le_of_ble_eq_true rfl), (Nat.le_of_ble_eq_true rfl)⟩) ⟨XPl_blind, XPl_pre hE hT hN hPc⟩ rfl rfl hl.1 rfl (lv_room (Nat.le_of_ble_eq_true rfl)) dL_isRefused_475 ⟨by first | exact Nat.le_of_ble_eq_true rfl | (show (_ : Nat) ≤ 600; omega), by first | exact Nat.le_of_ble_eq_true rfl | (show (_ : Nat) ≤ 3000; omega)⟩) (fun r9 H1 hr9 hz9 hk9 => ?_)
      subst hr9
      have hP := xkept hP hk9
      have hPc := xkept hPc hk9
      have hT := hT.kept (fun a h1 _ => hk9 a h1)
      obtain ⟨hz, hk⟩ := xk_tr hz hk hz9 hk9
      clear hz9 hk9
      generalize H1 = H at hP hPc hT hz hk ⊢
      refine lv_sipush (v := (-1161)) hx hb dL_isRefused_478 (by decide) ?_
      refine lv_icmp_ne (tgt := 534) hx hb dL_isRefused_481 (by decide) (fun h => absurd h (by decide)) (fun _ => ?_)
      refine lv_aload_n hx hb dL_isRefused_484 rfl (lv_at hl 4 rfl) ?_
      refine lv_iconst (v := nI 3) hx hb dL_isRefused_485 (by decide) ?_
      refine lv_iload hx hb dL_isRefused_486 (lv_at hl 1 rfl) ?_
      refine lv_iconst (v := nI 0) hx hb dL_isRefused_488 (by decide) ?_
      refine lv_iconst (v := nI 0) hx hb dL_isRefused_489 (by decide) ?_
      refine xcri (vx_runSX (As := [.ref x, .int (nI 3), .int (((-2) - nI (X % 30))), .int (nI 0), .int (nI 0)]) (rest := []) ⟨hx, hb, hml, hown, hts⟩ (o_sizeAt l hst Ax x lv kp fL fK o ld b k FZ G hC (((-2) - nI (X % 30))) (nI 0) (nI 0) hbd.sz hld hold) (vx_cwSW 5 hts gL_isRefused_L_of rfl rfl rfl (by decide +kernel) ⟨(Nat.le_of_ble_eq_true rfl), (Nat.le_of_ble_eq_true rfl)⟩) ⟨XPl_blind, XPl_pre hE hT hN hPc⟩ rfl rfl hl.1 rfl (lv_room (Nat.le_of_ble_eq_true rfl)) dL_isRefused_490 ⟨by first | exact Nat.le_of_ble_eq_true rfl | (show (_ : Nat) ≤ 600; omega), by first | exact Nat.le_of_ble_eq_true rfl | (show (_ : Nat) ≤ 3000; omega)⟩) (fun r9 H1 hr9 hz9 hk9 => ?_)
      subst hr9
      have hP := xkept hP hk9
      have hPc := xkept hPc hk9
      have hT := hT.kept (fun a h1 _ => hk9 a h1)
      obtain ⟨hz, hk⟩ := xk_tr hz hk hz9 hk9
      clear hz9 hk9
      generalize H1 = H at hP hPc hT hz hk ⊢
      refine lv_sipush (v := (-1161)) hx hb dL_isRefused_493 (by decide) ?_
      refine lv_icmp_ne (tgt := 534) hx hb dL_isRefused_496 (by decide) (fun h => absurd h (by decide)) (fun _ => ?_)
      refine lv_aload_n hx hb dL_isRefused_499 rfl (lv_at hl 4 rfl) ?_
      refine lv_iconst (v := nI 3) hx hb dL_isRefused_500 (by decide) ?_
      refine lv_iconst (v := (-1)) hx hb dL_isRefused_501 (by decide) ?_
      refine lv_iconst (v := nI 0) hx hb dL_isRefused_502 (by decide) ?_
      refine lv_iconst (v := nI 0) hx hb dL_isRefused_503 (by decide) ?_
      refine xcri (vx_runSX (As := [.ref x, .int (nI 3), .int ((-1)), .int (nI 0), .int (nI 0)]) (rest := []) ⟨hx, hb, hml, hown, hts⟩ (o_sizeAt l hst Ax x lv kp fL fK o ld b k FZ G hC ((-1)) (nI 0) (nI 0) (m1_sz hld) hld hold) (vx_cwSW 5 hts gL_isRefused_L_of rfl rfl rfl (by decide +kernel) ⟨(Nat.le_of_ble_eq_true rfl), (Nat.le_of_ble_eq_true rfl)⟩) ⟨XPl_blind, XPl_pre hE hT hN hPc⟩ rfl rfl hl.1 rfl (lv_room (Nat.le_of_ble_eq_true rfl)) dL_isRefused_504 ⟨by first | exact Nat.le_of_ble_eq_true rfl | (show (_ : Nat) ≤ 600; omega), by first | exact Nat.le_of_ble_eq_true rfl | (show (_ : Nat) ≤ 3000; omega)⟩) (fun r9 H1 hr9 hz9 hk9 => ?_)
      subst hr9
      have hP := xkept hP hk9
      have hPc := xkept hPc hk9
      have hT := hT.kept (fun a h1 _ => hk9 a h1)
      obtain ⟨hz, hk⟩ := xk_tr hz hk hz9 hk9
      clear hz9 hk9
      generalize H1 = H at hP hPc hT hz hk ⊢
      refine lv_sipush (v := (-1161)) hx hb dL_isRefused_507 (by decide) ?_
      refine lv_icmp_ne (tgt := 534) hx hb dL_isRefused_510 (by decide) (fun h => absurd h (by decide)) (fun _ => ?_)
      refine lv_aload_n hx hb dL_isRefused_513 rfl (lv_at hl 4 rfl) ?_
      refine lv_iconst (v := nI 3) hx hb dL_isRefused_514 (by decide) ?_
      refine lv_aload_n hx hb dL_isRefused_515 rfl (lv_at hl 5 rfl) ?_
      refine lv_iconst (v := nI 0) hx hb dL_isRefused_516 (by decide) ?_
      refine va_iald hx hb hK hP 0 0 rfl rfl (xin (by omega) (by omega)) dL_isRefused_517 ?_
      refine x_top (fm 0) (by rw [nI_clamp (by omega)]) ?_
      refine x_top (nI ld) (hm0) ?_
      refine lv_iload hx hb dL_isRefused_518 (lv_at hl 2 rfl) ?_
      refine lv_iconst (v := nI 0) hx hb dL_isRefused_520 (by decide) ?_
      refine xcri (vx_runSX (As := [.ref x, .int (nI 3), .int (nI ld), .int (((-1) - nI (X % 30))), .int (nI 0)]) (rest := []) ⟨hx, hb, hml, hown, hts⟩ (o_sizeAt l hst Ax x lv kp fL fK o ld b k FZ G hC (nI ld) (((-1) - nI (X % 30))) (nI 0) (pl_sz hsix) hld hold) (vx_cwSW 5 hts gL_isRefused_L_of rfl rfl rfl (by decide +kernel) ⟨(Nat.le_of_ble_eq_true rfl), (Nat.le_of_ble_eq_true rfl)⟩) ⟨XPl_blind, XPl_pre hE hT hN hPc⟩ rfl rfl hl.1 rfl (lv_room (Nat.le_of_ble_eq_true rfl)) dL_isRefused_521 ⟨by first | exact Nat.le_of_ble_eq_true rfl | (show (_ : Nat) ≤ 600; omega), by first | exact Nat.le_of_ble_eq_true rfl | (show (_ : Nat) ≤ 3000; omega)⟩) (fun r9 H1 hr9 hz9 hk9 => ?_)
      subst hr9
      have hP := xkept hP hk9
      have hPc := xkept hPc hk9
      have hT := hT.kept (fun a h1 _ => hk9 a h1)
      obtain ⟨hz, hk⟩ := xk_tr hz hk hz9 hk9
      clear hz9 hk9
      generalize H1 = H at hP hPc hT hz hk ⊢
      refine lv_sipush (v := (-1161)) hx hb dL_isRefused_524 (by decide) ?_
      refine lv_icmp_ne (tgt := 534) hx hb dL_isRefused_527 (by decide) (fun h => absurd h (by decide)) (fun _ => ?_)
      refine lv_iconst (v := nI 1) hx hb dL_isRefused_530 (by decide) ?_
      refine lv_goto (tgt := 535) hx hb dL_isRefused_531 (by decide) ?_
      refine lv_istore (lv' := [(8, .int (nI 1)), (6, .long (alL G (alH G o ld b) 6)), (5, .int (((-2) - nI (X % 30)))), (4, .int (((-1) - nI (X % 30)))), (3, .int (nI 1)), (0, .ref x), (1, .ref ma), (2, .int (nI X))]) hx hb dL_isRefused_535 hl (by decide) rfl (fun ls hl => ?_)
      refine lv_iconst (v := nI 0) hx hb dL_isRefused_537 (by decide) ?_
      refine lv_istore (lv' := [(9, .int (nI 0)), (8, .int (nI 1)), (6, .long (alL G (alH G o ld b) 6)), (5, .int (((-2) - nI (X % 30)))), (4, .int (((-1) - nI (X % 30)))), (3, .int (nI 1)), (0, .ref x), (1, .ref ma), (2, .int (nI X))]) hx hb dL_isRefused_538 hl (by decide) rfl (fun ls hl => ?_)
      refine W.widen (k := 300 + 40 * (7 - 7)) (n := 1500 + 200 * (7 - 7)) (Nat.le_of_ble_eq_true rfl) (Nat.le_of_ble_eq_true rfl) ?_
      refine x_loopC (fun n => 300 + 40 * (7 - n)) (fun n => 1500 + 200 * (7 - n)) (fun n H locs ls => ∃ j : Nat, j ≤ 6 ∧ 6 < j + n ∧ n ≤ 7 ∧ s.heap.size ≤ H.size ∧ (∀ q : Nat, q < s.heap.size → H[q]? = s.heap[q]?) ∧ locs = [] ∧ lv_has ls 12 [(9, .int (nI j)), (8, .int (nI 1)), (6, .long (alL G (alH G o ld b) 6)), (5, .int (((-2) - nI (X % 30)))), (4, .int (((-1) - nI (X % 30)))), (3, .int (nI 1)), (0, .ref x), (1, .ref ma), (2, .int (nI X))]) 7 ⟨0, by omega, by omega, by omega, hz, hk, rfl, lv_sub hl [0, 1, 2, 3, 4, 5, 6, 7, 8] rfl⟩ (fun H locs ls h => by obtain ⟨j, hj, hn, -⟩ := h; omega) (fun n H locs ls h ih => ?_)
      obtain ⟨j, hj, hn, hn7, hz, hk, rfl, hl⟩ := h
      have hP := xkept hP0 hk
      have hPc := xkept hPc0 hk
      have hT := hT00.kept (fun a h1 _ => hk a h1)
      refine lv_iload hx hb dL_isRefused_540 (lv_at hl 0 rfl) ?_
      refine lv_bipush (v := nI 6) hx hb dL_isRefused_542 (by decide) ?_
      refine lv_icmp_ge (tgt := 813) hx hb dL_isRefused_544 (by decide) (fun c544 => ?_) (fun c544 => ?_)
      · have c544 : 6 ≤ j := (xle (by omega) (by omega)).mp c544
        refine lv_iload hx hb dL_isRefused_813 (lv_at hl 1 rfl) ?_
        refine lv_if_eq (tgt := 832) hx hb dL_isRefused_815 (by decide) (fun h => absurd h (by decide)) (fun _ => ?_)
        refine lv_aload_n hx hb dL_isRefused_818 rfl (lv_at hl 6 rfl) ?_
        refine xc_sje (va_runS (As := [.ref x]) (rest := []) ⟨hx, hb, hml, hown, hts⟩ (c_L_all l hst Ax x lv kp fL fK o ld b k FZ G hC hbb hld hold) (va_cwS 1 hts gL_isRefused_L_all rfl rfl rfl (by decide +kernel) ⟨(Nat.le_of_ble_eq_true rfl), (Nat.le_of_ble_eq_true rfl)⟩) ⟨XPx_blind, XPx_pre hE hT hPc⟩ rfl rfl hl.1 rfl (lv_room (Nat.le_of_ble_eq_true rfl)) dL_isRefused_819 ⟨by first | exact Nat.le_of_ble_eq_true rfl | (show (_ : Nat) ≤ 600; omega), by first | exact Nat.le_of_ble_eq_true rfl | (show (_ : Nat) ≤ 3000; omega)⟩) ?_
        refine lv_lload hx hb dL_isRefused_822 (lv_at hl 2 rfl) ?_
        refine W.lcmp hx hb dL_isRefused_824 ?_
        refine x_top (nI 0) (lg_self _) ?_
        refine lv_if_ne (tgt := 832) hx hb dL_isRefused_825 (by decide) (fun h => absurd h (by decide)) (fun _ => ?_)
        refine lv_iconst (v := nI 1) hx hb dL_isRefused_828 (by decide) ?_
        refine lv_goto (tgt := 833) hx hb dL_isRefused_829 (by decide) ?_
        refine W.widen (k := 600) (n := 3000) (by omega) (by omega) ?_
        exact W.zret hx hb hr (xnb _ (by omega)) (fun t9 ht9 hW9 => ⟨_, rfl, rfl, by rw [ht9]; exact hz, by rw [ht9]; exact hk⟩) (fun _ h => nomatch h) dL_isRefused_833
      · have c544 : ¬ 6 ≤ j := fun h => c544 ((xle (by omega) (by omega)).mpr h)
        obtain ⟨kk, rr, ek, hk2, er, hr7, hlen, hnum, hk0, hk2l⟩ := hWG (246 + j) (by omega)
        refine lv_iload hx hb dL_isRefused_547 (lv_at hl 1 rfl) ?_
        refine lv_if_eq (tgt := 813) hx hb dL_isRefused_549 (by decide) (fun h => absurd h (by decide)) (fun _ => ?_)
        refine lv_aload_n hx hb dL_isRefused_552 rfl (lv_at hl 6 rfl) ?_
        refine lv_iconst (v := (-1)) hx hb dL_isRefused_553 (by decide) ?_
        refine lv_iload hx hb dL_isRefused_554 (lv_at hl 0 rfl) ?_
        refine xcr (vx_runV (As := [.int ((-1)), .int (nI j)]) (rest := []) ⟨hx, hb, hml, hown, hts⟩ (c_X1_kindAt l hst Ax x lv kp fL fK o ld b k FZ G hC ((-1)) (nI j) hld hold) (cwV 2 hts gL_isRefused_X1_kindAt rfl rfl rfl (by decide +kernel) ⟨(Nat.le_of_ble_eq_true rfl), (Nat.le_of_ble_eq_true rfl)⟩) ⟨XPx_blind, va_recv hK hPc (ci := 1) (q0 := 0) rfl rfl, XPx_pre hE hT hPc⟩ rfl rfl hl.1 rfl (lv_room (Nat.le_of_ble_eq_true rfl)) dL_isRefused_556 ⟨by first | exact Nat.le_of_ble_eq_true rfl | (show (_ : Nat) ≤ 600; omega), by first | exact Nat.le_of_ble_eq_true rfl | (show (_ : Nat) ≤ 3000; omega)⟩) (rq_no (AT_l (by omega))) (rq_k hld (AT_l (by omega))) ?_
        refine x_top (nI kk) (ek) ?_
        refine lv_istore (lv' := [(10, .int (nI kk)), (9, .int (nI j)), (8, .int (nI 1)), (6, .long (alL G (alH G o ld b) 6)), (5, .int (((-2) - nI (X % 30)))), (4, .int (((-1) - nI (X % 30)))), (3, .int (nI 1)), (0, .ref x), (1, .ref ma), (2, .int (nI X))]) hx hb dL_isRefused_559 hl (by decide) rfl (fun ls hl => ?_)
        refine lv_aload_n hx hb dL_isRefused_561 rfl (lv_at hl 7 rfl) ?_
        refine lv_iconst (v := (-1)) hx hb dL_isRefused_562 (by decide) ?_
        refine lv_iload hx hb dL_isRefused_563 (lv_at hl 1 rfl) ?_
        refine xc_si2 (va_runS (As := [.ref x, .int ((-1)), .int (nI j)]) (rest := []) ⟨hx, hb, hml, hown, hts⟩ (c_L_length l hst Ax x lv kp fL fK o ld b k FZ G hC ((-1)) (nI j) (246 + j) (AT_l (by omega)) (hWG _ (by omega)) hld hold) (va_cwS 3 hts gL_isRefused_L_length rfl rfl rfl (by decide +kernel) ⟨(Nat.le_of_ble_eq_true rfl), (Nat.le_of_ble_eq_true rfl)⟩) ⟨XPx_blind, XPx_pre hE hT hPc⟩ rfl rfl hl.1 rfl (lv_room (Nat.le_of_ble_eq_true rfl)) dL_isRefused_565 ⟨by first | exact Nat.le_of_ble_eq_true rfl | (show (_ : Nat) ≤ 600; omega), by first | exact Nat.le_of_ble_eq_true rfl | (show (_ : Nat) ≤ 3000; omega)⟩) ?_
        refine lv_istore (lv' := [(11, .int (nI ((G (246 + j)).2.2.1))), (10, .int (nI kk)), (9, .int (nI j)), (8, .int (nI 1)), (6, .long (alL G (alH G o ld b) 6)), (5, .int (((-2) - nI (X % 30)))), (4, .int (((-1) - nI (X % 30)))), (3, .int (nI 1)), (0, .ref x), (1, .ref ma), (2, .int (nI X))]) hx hb dL_isRefused_568 hl (by decide) rfl (fun ls hl => ?_)
        refine lv_iload hx hb dL_isRefused_570 (lv_at hl 1 rfl) ?_
        refine lv_if_ne (tgt := 598) hx hb dL_isRefused_572 (by decide) (fun c572 => ?_) (fun c572 => ?_)
        · have c572 : ¬ nI kk = nI 0 := c572
          have c572 : ¬ kk = 0 := fun h => c572 ((xeq (by omega) (by omega)).mpr h)
          refine lv_aload_n hx hb dL_isRefused_598 rfl (lv_at hl 8 rfl) ?_
          refine lv_iconst (v := nI 5) hx hb dL_isRefused_599 (by decide) ?_
          refine lv_iload hx hb dL_isRefused_600 (lv_at hl 2 rfl) ?_
          refine lv_iload_n hx hb dL_isRefused_602 rfl (lv_at hl 7 rfl) ?_
          refine lv_if_eq (tgt := 615) hx hb dL_isRefused_603 (by decide) (fun h => absurd h (by decide)) (fun _ => ?_)
          refine lv_iconst (v := (-1)) hx hb dL_isRefused_606 (by decide) ?_
          refine lv_iload_n hx hb dL_isRefused_607 rfl (lv_at hl 10 rfl) ?_
          refine lv_bipush (v := nI 30) hx hb dL_isRefused_608 (by decide) ?_
          refine lv_irem hx hb dL_isRefused_610 (by decide) ?_
          refine x_top (nI (X % 30)) (pk_rem (by omega) (by omega) (by omega)) ?_
          refine lv_isub hx hb dL_isRefused_611 ?_
          refine x_top (((-1) - nI (X % 30))) (rfl) ?_
          refine lv_goto (tgt := 622) hx hb dL_isRefused_612 (by decide) ?_
          refine lv_iconst (v := nI 0) hx hb dL_isRefused_622 (by decide) ?_
          refine xcri (vx_runSX (As := [.ref x, .int (nI 5), .int (nI j), .int (((-1) - nI (X % 30))), .int (nI 0)]) (rest := []) ⟨hx, hb, hml, hown, hts⟩ (a_setRights_A l hst Ax x lv kp fL fK o ld b k FZ G hC (j := j) (by omega) (((-1) - nI (X % 30))) (nI 0) (fun h => absurd ((xeq (by omega) (by omega)).mp (ek.symm.trans h)) (by omega)) (lo_no (lo_1 h30) (by omega))) (vx_cwSW 5 hts gL_isRefused_L_act rfl rfl rfl (by decide +kernel) ⟨(Nat.le_of_ble_eq_true rfl), (Nat.le_of_ble_eq_true rfl)⟩) ⟨XPl_blind, XPl_pre hE hT hN ⟨hPc, hDc⟩⟩ rfl rfl hl.1 rfl (lv_room (Nat.le_of_ble_eq_true rfl)) dL_isRefused_623 ⟨by first | exact Nat.le_of_ble_eq_true rfl | (show (_ : Nat) ≤ 600; omega), by first | exact Nat.le_of_ble_eq_true rfl | (show (_ : Nat) ≤ 3000; omega)⟩) (fun r9 H1 hr9 hz9 hk9 => ?_)
          subst hr9
          have hP := xkept hP hk9
          have hPc := xkept hPc hk9
          have hT := hT.kept (fun a h1 _ => hk9 a h1)
          obtain ⟨hz, hk⟩ := xk_tr hz hk hz9 hk9
          clear hz9 hk9
          generalize H1 = H at hP hPc hT hz hk ⊢
          refine lv_sipush (v := (-1162)) hx hb dL_isRefused_626 (by decide) ?_
          refine lv_icmp_ne (tgt := 636) hx hb dL_isRefused_629 (by decide) (fun h => absurd h (by decide)) (fun _ => ?_)
          refine lv_iconst (v := nI 1) hx hb dL_isRefused_632 (by decide) ?_
          refine lv_goto (tgt := 637) hx hb dL_isRefused_633 (by decide) ?_
          refine lv_istore (lv' := [(8, .int (nI 1)), (11, .int (nI ((G (246 + j)).2.2.1))), (10, .int (nI kk)), (9, .int (nI j)), (6, .long (alL G (alH G o ld b) 6)), (5, .int (((-2) - nI (X % 30)))), (4, .int (((-1) - nI (X % 30)))), (3, .int (nI 1)), (0, .ref x), (1, .ref ma), (2, .int (nI X))]) hx hb dL_isRefused_637 hl (by decide) rfl (fun ls hl => ?_)
          refine lv_iload hx hb dL_isRefused_639 (lv_at hl 0 rfl) ?_
          refine lv_if_eq (tgt := 739) hx hb dL_isRefused_641 (by decide) (fun h => absurd h (by decide)) (fun _ => ?_)
          refine lv_iload hx hb dL_isRefused_644 (lv_at hl 2 rfl) ?_
          refine lv_iconst (v := nI 1) hx hb dL_isRefused_646 (by decide) ?_
          refine lv_icmp_ne (tgt := 657) hx hb dL_isRefused_647 (by decide) (fun c647 => ?_) (fun c647 => ?_)
          · have c647 : ¬ kk = 1 := fun h => c647 ((xeq (by omega) (by omega)).mpr h)
            refine lv_aload_n hx hb dL_isRefused_657 rfl (lv_at hl 8 rfl) ?_
            refine lv_iconst (v := nI 3) hx hb dL_isRefused_658 (by decide) ?_
            refine lv_iload hx hb dL_isRefused_659 (lv_at hl 3 rfl) ?_
            refine lv_iconst (v := (-1)) hx hb dL_isRefused_661 (by decide) ?_
            refine lv_iconst (v := (-1)) hx hb dL_isRefused_662 (by decide) ?_
            refine xcri (vx_runSX (As := [.ref x, .int (nI 3), .int (nI j), .int ((-1)), .int ((-1))]) (rest := []) ⟨hx, hb, hml, hown, hts⟩ (a_put_S l hst Ax x lv kp fL fK o ld b k FZ G hC (j := j) (by omega) ((-1)) ((-1)) (fun h => absurd ((xeq (by omega) (by omega)).mp (ek.symm.trans h.1)) (by omega))) (vx_cwSW 5 hts gL_isRefused_L_act rfl rfl rfl (by decide +kernel) ⟨(Nat.le_of_ble_eq_true rfl), (Nat.le_of_ble_eq_true rfl)⟩) ⟨XPl_blind, XPl_pre hE hT hN ⟨hPc, hDc⟩⟩ rfl rfl hl.1 rfl (lv_room (Nat.le_of_ble_eq_true rfl)) dL_isRefused_663 ⟨by first | exact Nat.le_of_ble_eq_true rfl | (show (_ : Nat) ≤ 600; omega), by first | exact Nat.le_of_ble_eq_true rfl | (show (_ : Nat) ≤ 3000; omega)⟩) (fun r9 H1 hr9 hz9 hk9 => ?_)
            subst hr9
            have hP := xkept hP hk9
            have hPc := xkept hPc hk9
            have hT := hT.kept (fun a h1 _ => hk9 a h1)
            obtain ⟨hz, hk⟩ := xk_tr hz hk hz9 hk9
            clear hz9 hk9
            generalize H1 = H at hP hPc hT hz hk ⊢
            refine lv_sipush (v := (-1163)) hx hb dL_isRefused_666 (by decide) ?_
            refine lv_icmp_ne (tgt := 739) hx hb dL_isRefused_669 (by decide) (fun h => absurd h (by decide)) (fun _ => ?_)
            refine lv_goto (tgt := 735) hx hb dL_isRefused_672 (by decide) ?_
            refine lv_iconst (v := nI 1) hx hb dL_isRefused_735 (by decide) ?_
            refine lv_goto (tgt := 740) hx hb dL_isRefused_736 (by decide) ?_
            refine lv_istore (lv' := [(8, .int (nI 1)), (11, .int (nI ((G (246 + j)).2.2.1))), (10, .int (nI kk)), (9, .int (nI j)), (6, .long (alL G (alH G o ld b) 6)), (5, .int (((-2) - nI (X % 30)))), (4, .int (((-1) - nI (X % 30)))), (3, .int (nI 1)), (0, .ref x), (1, .ref ma), (2, .int (nI X))]) hx hb dL_isRefused_740 hl (by decide) rfl (fun ls hl => ?_)
            refine lv_iload hx hb dL_isRefused_742 (lv_at hl 0 rfl) ?_
            refine lv_if_eq (tgt := 804) hx hb dL_isRefused_744 (by decide) (fun h => absurd h (by decide)) (fun _ => ?_)
            refine lv_iload hx hb dL_isRefused_747 (lv_at hl 2 rfl) ?_
            refine lv_iconst (v := nI 1) hx hb dL_isRefused_749 (by decide) ?_
            refine lv_icmp_eq (tgt := 771) hx hb dL_isRefused_750 (by decide) (fun c750 => ?_) (fun c750 => ?_)
            · have c750 : kk = 1 := (xeq (by omega) (by omega)).mp c750
              omega
            · have c750 : ¬ kk = 1 := fun h => c750 ((xeq (by omega) (by omega)).mpr h)
              refine lv_aload_n hx hb dL_isRefused_753 rfl (lv_at hl 8 rfl) ?_
              refine lv_iconst (v := nI 4) hx hb dL_isRefused_754 (by decide) ?_
              refine lv_iload hx hb dL_isRefused_755 (lv_at hl 3 rfl) ?_
              refine lv_iconst (v := (-1)) hx hb dL_isRefused_757 (by decide) ?_
              refine lv_iconst (v := nI 0) hx hb dL_isRefused_758 (by decide) ?_
              refine xcri (vx_runSX (As := [.ref x, .int (nI 4), .int (nI j), .int ((-1)), .int (nI 0)]) (rest := []) ⟨hx, hb, hml, hown, hts⟩ (a_take_S l hst Ax x lv kp fL fK o ld b k FZ G hC (j := j) (by omega) ((-1)) (nI 0) (fun h => absurd ((xeq (by omega) (by omega)).mp (ek.symm.trans h)) (by omega))) (vx_cwSW 5 hts gL_isRefused_L_act rfl rfl rfl (by decide +kernel) ⟨(Nat.le_of_ble_eq_true rfl), (Nat.le_of_ble_eq_true rfl)⟩) ⟨XPl_blind, XPl_pre hE hT hN ⟨hPc, hDc⟩⟩ rfl rfl hl.1 rfl (lv_room (Nat.le_of_ble_eq_true rfl)) dL_isRefused_759 ⟨by first | exact Nat.le_of_ble_eq_true rfl | (show (_ : Nat) ≤ 600; omega), by first | exact Nat.le_of_ble_eq_true rfl | (show (_ : Nat) ≤ 3000; omega)⟩) (fun r9 H1 hr9 hz9 hk9 => ?_)
              subst hr9
              have hP := xkept hP hk9
              have hPc := xkept hPc hk9
              have hT := hT.kept (fun a h1 _ => hk9 a h1)
              obtain ⟨hz, hk⟩ := xk_tr hz hk hz9 hk9
              clear hz9 hk9
              generalize H1 = H at hP hPc hT hz hk ⊢
              refine lv_sipush (v := (-1163)) hx hb dL_isRefused_762 (by decide) ?_
              refine lv_icmp_ne (tgt := 804) hx hb dL_isRefused_765 (by decide) (fun h => absurd h (by decide)) (fun _ => ?_)
              refine lv_goto (tgt := 800) hx hb dL_isRefused_768 (by decide) ?_
              refine lv_iconst (v := nI 1) hx hb dL_isRefused_800 (by decide) ?_
              refine lv_goto (tgt := 805) hx hb dL_isRefused_801 (by decide) ?_
              refine lv_istore (lv' := [(8, .int (nI 1)), (11, .int (nI ((G (246 + j)).2.2.1))), (10, .int (nI kk)), (9, .int (nI j)), (6, .long (alL G (alH G o ld b) 6)), (5, .int (((-2) - nI (X % 30)))), (4, .int (((-1) - nI (X % 30)))), (3, .int (nI 1)), (0, .ref x), (1, .ref ma), (2, .int (nI X))]) hx hb dL_isRefused_805 hl (by decide) rfl (fun ls hl => ?_)
              refine lv_iinc (v := nI (j + 1)) (lv' := [(9, .int (nI (j + 1))), (8, .int (nI 1)), (11, .int (nI ((G (246 + j)).2.2.1))), (10, .int (nI kk)), (6, .long (alL G (alH G o ld b) 6)), (5, .int (((-2) - nI (X % 30)))), (4, .int (((-1) - nI (X % 30)))), (3, .int (nI 1)), (0, .ref x), (1, .ref ma), (2, .int (nI X))]) hx hb dL_isRefused_807 hl (k := 3) rfl (xinc _ 1 _ (by decide)) (by decide) rfl (fun ls hl => ?_)
              refine lv_goto (tgt := 540) hx hb dL_isRefused_810 (by decide) ?_
              refine W.widen (k := 300 + 40 * (7 - n)) (n := 1500 + 200 * (7 - n)) (by omega) (by omega) ?_
              exact ih _ _ _ ⟨j + 1, by omega, by omega, by omega, hz, hk, rfl, lv_sub hl [0, 1, 4, 5, 6, 7, 8, 9, 10] rfl⟩
          · have c647 : kk = 1 := (xeq (by omega) (by omega)).mp c647
            have hkk1 : kk = 1 := by omega
            refine lv_iload hx hb dL_isRefused_650 (lv_at hl 1 rfl) ?_
            refine lv_bipush (v := nI 12) hx hb dL_isRefused_652 (by decide) ?_
            refine lv_icmp_ne (tgt := 675) hx hb dL_isRefused_654 (by decide) (fun c654 => ?_) (fun c654 => ?_)
            · have c654 : ¬ ((G (246 + j)).2.2.1) = 12 := fun h => c654 ((xeq (by omega) (by omega)).mpr h)
              refine lv_aload_n hx hb dL_isRefused_675 rfl (lv_at hl 8 rfl) ?_
              refine lv_iconst (v := nI 3) hx hb dL_isRefused_676 (by decide) ?_
              refine lv_iload hx hb dL_isRefused_677 (lv_at hl 3 rfl) ?_
              refine lv_iload_n hx hb dL_isRefused_679 rfl (lv_at hl 7 rfl) ?_
              refine lv_if_eq (tgt := 687) hx hb dL_isRefused_680 (by decide) (fun h => absurd h (by decide)) (fun _ => ?_)
              refine lv_iconst (v := (-1)) hx hb dL_isRefused_683 (by decide) ?_
              refine lv_goto (tgt := 696) hx hb dL_isRefused_684 (by decide) ?_
              refine lv_iconst (v := nI 5) hx hb dL_isRefused_696 (by decide) ?_
              refine xcri (vx_runSX (As := [.ref x, .int (nI 3), .int (nI j), .int ((-1)), .int (nI 5)]) (rest := []) ⟨hx, hb, hml, hown, hts⟩ (a_put_A l hst Ax x lv kp fL fK o ld b k FZ G hC (j := j) (by omega) ((-1)) (nI 5) ⟨by rw [ek, hkk1], by omega⟩ (pa_sl (by omega) (by decide))) (vx_cwSW 5 hts gL_isRefused_L_act rfl rfl rfl (by decide +kernel) ⟨(Nat.le_of_ble_eq_true rfl), (Nat.le_of_ble_eq_true rfl)⟩) ⟨XPl_blind, XPl_pre hE hT hN ⟨hPc, hDc⟩⟩ rfl rfl hl.1 rfl (lv_room (Nat.le_of_ble_eq_true rfl)) dL_isRefused_697 ⟨by first | exact Nat.le_of_ble_eq_true rfl | (show (_ : Nat) ≤ 600; omega), by first | exact Nat.le_of_ble_eq_true rfl | (show (_ : Nat) ≤ 3000; omega)⟩) (fun r9 H1 hr9 hz9 hk9 => ?_)
              subst hr9
              have hP := xkept hP hk9
              have hPc := xkept hPc hk9
              have hT := hT.kept (fun a h1 _ => hk9 a h1)
              obtain ⟨hz, hk⟩ := xk_tr hz hk hz9 hk9
              clear hz9 hk9
              generalize H1 = H at hP hPc hT hz hk ⊢
              refine lv_sipush (v := (-1162)) hx hb dL_isRefused_700 (by decide) ?_
              refine lv_icmp_ne (tgt := 739) hx hb dL_isRefused_703 (by decide) (fun h => absurd h (by decide)) (fun _ => ?_)
              refine lv_aload_n hx hb dL_isRefused_706 rfl (lv_at hl 8 rfl) ?_
              refine lv_iconst (v := nI 3) hx hb dL_isRefused_707 (by decide) ?_
              refine lv_iload hx hb dL_isRefused_708 (lv_at hl 3 rfl) ?_
              refine lv_iconst (v := nI 0) hx hb dL_isRefused_710 (by decide) ?_
              refine lv_iload_n hx hb dL_isRefused_711 rfl (lv_at hl 7 rfl) ?_
              refine lv_if_eq (tgt := 719) hx hb dL_isRefused_712 (by decide) (fun h => absurd h (by decide)) (fun _ => ?_)
              refine lv_iconst (v := (-1)) hx hb dL_isRefused_715 (by decide) ?_
              refine lv_goto (tgt := 726) hx hb dL_isRefused_716 (by decide) ?_
              refine xcri (vx_runSX (As := [.ref x, .int (nI 3), .int (nI j), .int (nI 0), .int ((-1))]) (rest := []) ⟨hx, hb, hml, hown, hts⟩ (a_put_A l hst Ax x lv kp fL fK o ld b k FZ G hC (j := j) (by omega) (nI 0) ((-1)) ⟨by rw [ek, hkk1], by omega⟩ (pa_nl (by decide))) (vx_cwSW 5 hts gL_isRefused_L_act rfl rfl rfl (by decide +kernel) ⟨(Nat.le_of_ble_eq_true rfl), (Nat.le_of_ble_eq_true rfl)⟩) ⟨XPl_blind, XPl_pre hE hT hN ⟨hPc, hDc⟩⟩ rfl rfl hl.1 rfl (lv_room (Nat.le_of_ble_eq_true rfl)) dL_isRefused_726 ⟨by first | exact Nat.le_of_ble_eq_true rfl | (show (_ : Nat) ≤ 600; omega), by first | exact Nat.le_of_ble_eq_true rfl | (show (_ : Nat) ≤ 3000; omega)⟩) (fun r9 H1 hr9 hz9 hk9 => ?_)
              subst hr9
              have hP := xkept hP hk9
              have hPc := xkept hPc hk9
              have hT := hT.kept (fun a h1 _ => hk9 a h1)
              obtain ⟨hz, hk⟩ := xk_tr hz hk hz9 hk9
              clear hz9 hk9
              generalize H1 = H at hP hPc hT hz hk ⊢
              refine lv_sipush (v := (-1162)) hx hb dL_isRefused_729 (by decide) ?_
              refine lv_icmp_ne (tgt := 739) hx hb dL_isRefused_732 (by decide) (fun h => absurd h (by decide)) (fun _ => ?_)
              refine lv_iconst (v := nI 1) hx hb dL_isRefused_735 (by decide) ?_
              refine lv_goto (tgt := 740) hx hb dL_isRefused_736 (by decide) ?_
              refine lv_istore (lv' := [(8, .int (nI 1)), (11, .int (nI ((G (246 + j)).2.2.1))), (10, .int (nI kk)), (9, .int (nI j)), (6, .long (alL G (alH G o ld b) 6)), (5, .int (((-2) - nI (X % 30)))), (4, .int (((-1) - nI (X % 30)))), (3, .int (nI 1)), (0, .ref x), (1, .ref ma), (2, .int (nI X))]) hx hb dL_isRefused_740 hl (by decide) rfl (fun ls hl => ?_)
              refine lv_iload hx hb dL_isRefused_742 (lv_at hl 0 rfl) ?_
              refine lv_if_eq (tgt := 804) hx hb dL_isRefused_744 (by decide) (fun h => absurd h (by decide)) (fun _ => ?_)
              refine lv_iload hx hb dL_isRefused_747 (lv_at hl 2 rfl) ?_
              refine lv_iconst (v := nI 1) hx hb dL_isRefused_749 (by decide) ?_
              refine lv_icmp_eq (tgt := 771) hx hb dL_isRefused_750 (by decide) (fun c750 => ?_) (fun c750 => ?_)
              · have c750 : kk = 1 := (xeq (by omega) (by omega)).mp c750
                refine lv_aload_n hx hb dL_isRefused_771 rfl (lv_at hl 8 rfl) ?_
                refine lv_iconst (v := nI 4) hx hb dL_isRefused_772 (by decide) ?_
                refine lv_iload hx hb dL_isRefused_773 (lv_at hl 3 rfl) ?_
                refine lv_iload_n hx hb dL_isRefused_775 rfl (lv_at hl 7 rfl) ?_
                refine lv_if_eq (tgt := 783) hx hb dL_isRefused_776 (by decide) (fun h => absurd h (by decide)) (fun _ => ?_)
                refine lv_iconst (v := (-1)) hx hb dL_isRefused_779 (by decide) ?_
                refine lv_goto (tgt := 790) hx hb dL_isRefused_780 (by decide) ?_
                refine lv_iconst (v := nI 0) hx hb dL_isRefused_790 (by decide) ?_
                refine xcri (vx_runSX (As := [.ref x, .int (nI 4), .int (nI j), .int ((-1)), .int (nI 0)]) (rest := []) ⟨hx, hb, hml, hown, hts⟩ (a_take_A l hst Ax x lv kp fL fK o ld b k FZ G hC (j := j) (by omega) ((-1)) (nI 0) (by rw [ek, hkk1]) (lo_nl (by decide) (by omega))) (vx_cwSW 5 hts gL_isRefused_L_act rfl rfl rfl (by decide +kernel) ⟨(Nat.le_of_ble_eq_true rfl), (Nat.le_of_ble_eq_true rfl)⟩) ⟨XPl_blind, XPl_pre hE hT hN ⟨hPc, hDc⟩⟩ rfl rfl hl.1 rfl (lv_room (Nat.le_of_ble_eq_true rfl)) dL_isRefused_791 ⟨by first | exact Nat.le_of_ble_eq_true rfl | (show (_ : Nat) ≤ 600; omega), by first | exact Nat.le_of_ble_eq_true rfl | (show (_ : Nat) ≤ 3000; omega)⟩) (fun r9 H1 hr9 hz9 hk9 => ?_)
                subst hr9
                have hP := xkept hP hk9
                have hPc := xkept hPc hk9
                have hT := hT.kept (fun a h1 _ => hk9 a h1)
                obtain ⟨hz, hk⟩ := xk_tr hz hk hz9 hk9
                clear hz9 hk9
                generalize H1 = H at hP hPc hT hz hk ⊢
                refine lv_sipush (v := (-1162)) hx hb dL_isRefused_794 (by decide) ?_
                refine lv_icmp_ne (tgt := 804) hx hb dL_isRefused_797 (by decide) (fun h => absurd h (by decide)) (fun _ => ?_)
                refine lv_iconst (v := nI 1) hx hb dL_isRefused_800 (by decide) ?_
                refine lv_goto (tgt := 805) hx hb dL_isRefused_801 (by decide) ?_
                refine lv_istore (lv' := [(8, .int (nI 1)), (11, .int (nI ((G (246 + j)).2.2.1))), (10, .int (nI kk)), (9, .int (nI j)), (6, .long (alL G (alH G o ld b) 6)), (5, .int (((-2) - nI (X % 30)))), (4, .int (((-1) - nI (X % 30)))), (3, .int (nI 1)), (0, .ref x), (1, .ref ma), (2, .int (nI X))]) hx hb dL_isRefused_805 hl (by decide) rfl (fun ls hl => ?_)
                refine lv_iinc (v := nI (j + 1)) (lv' := [(9, .int (nI (j + 1))), (8, .int (nI 1)), (11, .int (nI ((G (246 + j)).2.2.1))), (10, .int (nI kk)), (6, .long (alL G (alH G o ld b) 6)), (5, .int (((-2) - nI (X % 30)))), (4, .int (((-1) - nI (X % 30)))), (3, .int (nI 1)), (0, .ref x), (1, .ref ma), (2, .int (nI X))]) hx hb dL_isRefused_807 hl (k := 3) rfl (xinc _ 1 _ (by decide)) (by decide) rfl (fun ls hl => ?_)
                refine lv_goto (tgt := 540) hx hb dL_isRefused_810 (by decide) ?_
                refine W.widen (k := 300 + 40 * (7 - n)) (n := 1500 + 200 * (7 - n)) (by omega) (by omega) ?_
                exact ih _ _ _ ⟨j + 1, by omega, by omega, by omega, hz, hk, rfl, lv_sub hl [0, 1, 4, 5, 6, 7, 8, 9, 10] rfl⟩
              · have c750 : ¬ kk = 1 := fun h => c750 ((xeq (by omega) (by omega)).mpr h)
                omega
            · have c654 : ((G (246 + j)).2.2.1) = 12 := (xeq (by omega) (by omega)).mp c654
              refine lv_aload_n hx hb dL_isRefused_657 rfl (lv_at hl 8 rfl) ?_
              refine lv_iconst (v := nI 3) hx hb dL_isRefused_658 (by decide) ?_
              refine lv_iload hx hb dL_isRefused_659 (lv_at hl 3 rfl) ?_
              refine lv_iconst (v := (-1)) hx hb dL_isRefused_661 (by decide) ?_
              refine lv_iconst (v := (-1)) hx hb dL_isRefused_662 (by decide) ?_
              refine xcri (vx_runSX (As := [.ref x, .int (nI 3), .int (nI j), .int ((-1)), .int ((-1))]) (rest := []) ⟨hx, hb, hml, hown, hts⟩ (a_put_S l hst Ax x lv kp fL fK o ld b k FZ G hC (j := j) (by omega) ((-1)) ((-1)) (fun h => absurd h.2 (by omega))) (vx_cwSW 5 hts gL_isRefused_L_act rfl rfl rfl (by decide +kernel) ⟨(Nat.le_of_ble_eq_true rfl), (Nat.le_of_ble_eq_true rfl)⟩) ⟨XPl_blind, XPl_pre hE hT hN ⟨hPc, hDc⟩⟩ rfl rfl hl.1 rfl (lv_room (Nat.le_of_ble_eq_true rfl)) dL_isRefused_663 ⟨by first | exact Nat.le_of_ble_eq_true rfl | (show (_ : Nat) ≤ 600; omega), by first | exact Nat.le_of_ble_eq_true rfl | (show (_ : Nat) ≤ 3000; omega)⟩) (fun r9 H1 hr9 hz9 hk9 => ?_)
              subst hr9
              have hP := xkept hP hk9
              have hPc := xkept hPc hk9
              have hT := hT.kept (fun a h1 _ => hk9 a h1)
              obtain ⟨hz, hk⟩ := xk_tr hz hk hz9 hk9
              clear hz9 hk9
              generalize H1 = H at hP hPc hT hz hk ⊢
              refine lv_sipush (v := (-1163)) hx hb dL_isRefused_666 (by decide) ?_
              refine lv_icmp_ne (tgt := 739) hx hb dL_isRefused_669 (by decide) (fun h => absurd h (by decide)) (fun _ => ?_)
              refine lv_goto (tgt := 735) hx hb dL_isRefused_672 (by decide) ?_
              refine lv_iconst (v := nI 1) hx hb dL_isRefused_735 (by decide) ?_
              refine lv_goto (tgt := 740) hx hb dL_isRefused_736 (by decide) ?_
              refine lv_istore (lv' := [(8, .int (nI 1)), (11, .int (nI ((G (246 + j)).2.2.1))), (10, .int (nI kk)), (9, .int (nI j)), (6, .long (alL G (alH G o ld b) 6)), (5, .int (((-2) - nI (X % 30)))), (4, .int (((-1) - nI (X % 30)))), (3, .int (nI 1)), (0, .ref x), (1, .ref ma), (2, .int (nI X))]) hx hb dL_isRefused_740 hl (by decide) rfl (fun ls hl => ?_)
              refine lv_iload hx hb dL_isRefused_742 (lv_at hl 0 rfl) ?_
              refine lv_if_eq (tgt := 804) hx hb dL_isRefused_744 (by decide) (fun h => absurd h (by decide)) (fun _ => ?_)
              refine lv_iload hx hb dL_isRefused_747 (lv_at hl 2 rfl) ?_
              refine lv_iconst (v := nI 1) hx hb dL_isRefused_749 (by decide) ?_
              refine lv_icmp_eq (tgt := 771) hx hb dL_isRefused_750 (by decide) (fun c750 => ?_) (fun c750 => ?_)
              · have c750 : kk = 1 := (xeq (by omega) (by omega)).mp c750
                refine lv_aload_n hx hb dL_isRefused_771 rfl (lv_at hl 8 rfl) ?_
                refine lv_iconst (v := nI 4) hx hb dL_isRefused_772 (by decide) ?_
                refine lv_iload hx hb dL_isRefused_773 (lv_at hl 3 rfl) ?_
                refine lv_iload_n hx hb dL_isRefused_775 rfl (lv_at hl 7 rfl) ?_
                refine lv_if_eq (tgt := 783) hx hb dL_isRefused_776 (by decide) (fun h => absurd h (by decide)) (fun _ => ?_)
                refine lv_iconst (v := (-1)) hx hb dL_isRefused_779 (by decide) ?_
                refine lv_goto (tgt := 790) hx hb dL_isRefused_780 (by decide) ?_
                refine lv_iconst (v := nI 0) hx hb dL_isRefused_790 (by decide) ?_
                refine xcri (vx_runSX (As := [.ref x, .int (nI 4), .int (nI j), .int ((-1)), .int (nI 0)]) (rest := []) ⟨hx, hb, hml, hown, hts⟩ (a_take_A l hst Ax x lv kp fL fK o ld b k FZ G hC (j := j) (by omega) ((-1)) (nI 0) (by rw [ek, hkk1]) (lo_nl (by decide) (by omega))) (vx_cwSW 5 hts gL_isRefused_L_act rfl rfl rfl (by decide +kernel) ⟨(Nat.le_of_ble_eq_true rfl), (Nat.le_of_ble_eq_true rfl)⟩) ⟨XPl_blind, XPl_pre hE hT hN ⟨hPc, hDc⟩⟩ rfl rfl hl.1 rfl (lv_room (Nat.le_of_ble_eq_true rfl)) dL_isRefused_791 ⟨by first | exact Nat.le_of_ble_eq_true rfl | (show (_ : Nat) ≤ 600; omega), by first | exact Nat.le_of_ble_eq_true rfl | (show (_ : Nat) ≤ 3000; omega)⟩) (fun r9 H1 hr9 hz9 hk9 => ?_)
                subst hr9
                have hP := xkept hP hk9
                have hPc := xkept hPc hk9
                have hT := hT.kept (fun a h1 _ => hk9 a h1)
                obtain ⟨hz, hk⟩ := xk_tr hz hk hz9 hk9
                clear hz9 hk9
                generalize H1 = H at hP hPc hT hz hk ⊢
                refine lv_sipush (v := (-1162)) hx hb dL_isRefused_794 (by decide) ?_
                refine lv_icmp_ne (tgt := 804) hx hb dL_isRefused_797 (by decide) (fun h => absurd h (by decide)) (fun _ => ?_)
                refine lv_iconst (v := nI 1) hx hb dL_isRefused_800 (by decide) ?_
                refine lv_goto (tgt := 805) hx hb dL_isRefused_801 (by decide) ?_
                refine lv_istore (lv' := [(8, .int (nI 1)), (11, .int (nI ((G (246 + j)).2.2.1))), (10, .int (nI kk)), (9, .int (nI j)), (6, .long (alL G (alH G o ld b) 6)), (5, .int (((-2) - nI (X % 30)))), (4, .int (((-1) - nI (X % 30)))), (3, .int (nI 1)), (0, .ref x), (1, .ref ma), (2, .int (nI X))]) hx hb dL_isRefused_805 hl (by decide) rfl (fun ls hl => ?_)
                refine lv_iinc (v := nI (j + 1)) (lv' := [(9, .int (nI (j + 1))), (8, .int (nI 1)), (11, .int (nI ((G (246 + j)).2.2.1))), (10, .int (nI kk)), (6, .long (alL G (alH G o ld b) 6)), (5, .int (((-2) - nI (X % 30)))), (4, .int (((-1) - nI (X % 30)))), (3, .int (nI 1)), (0, .ref x), (1, .ref ma), (2, .int (nI X))]) hx hb dL_isRefused_807 hl (k := 3) rfl (xinc _ 1 _ (by decide)) (by decide) rfl (fun ls hl => ?_)
                refine lv_goto (tgt := 540) hx hb dL_isRefused_810 (by decide) ?_
                refine W.widen (k := 300 + 40 * (7 - n)) (n := 1500 + 200 * (7 - n)) (by omega) (by omega) ?_
                exact ih _ _ _ ⟨j + 1, by omega, by omega, by omega, hz, hk, rfl, lv_sub hl [0, 1, 4, 5, 6, 7, 8, 9, 10] rfl⟩
              · have c750 : ¬ kk = 1 := fun h => c750 ((xeq (by omega) (by omega)).mpr h)
                omega
        · have c572 : nI kk = nI 0 := c572
          have c572 : kk = 0 := (xeq (by omega) (by omega)).mp c572
          refine lv_aload_n hx hb dL_isRefused_575 rfl (lv_at hl 8 rfl) ?_
          refine lv_iconst (v := nI 5) hx hb dL_isRefused_576 (by decide) ?_
          refine lv_iload hx hb dL_isRefused_577 (lv_at hl 2 rfl) ?_
          refine lv_iconst (v := (-1)) hx hb dL_isRefused_579 (by decide) ?_
          refine lv_iconst (v := nI 0) hx hb dL_isRefused_580 (by decide) ?_
          refine xcri (vx_runSX (As := [.ref x, .int (nI 5), .int (nI j), .int ((-1)), .int (nI 0)]) (rest := []) ⟨hx, hb, hml, hown, hts⟩ (a_setRights_S l hst Ax x lv kp fL fK o ld b k FZ G hC (j := j) (by omega) ((-1)) (nI 0) (by rw [ek, c572])) (vx_cwSW 5 hts gL_isRefused_L_act rfl rfl rfl (by decide +kernel) ⟨(Nat.le_of_ble_eq_true rfl), (Nat.le_of_ble_eq_true rfl)⟩) ⟨XPl_blind, XPl_pre hE hT hN ⟨hPc, hDc⟩⟩ rfl rfl hl.1 rfl (lv_room (Nat.le_of_ble_eq_true rfl)) dL_isRefused_581 ⟨by first | exact Nat.le_of_ble_eq_true rfl | (show (_ : Nat) ≤ 600; omega), by first | exact Nat.le_of_ble_eq_true rfl | (show (_ : Nat) ≤ 3000; omega)⟩) (fun r9 H1 hr9 hz9 hk9 => ?_)
          subst hr9
          have hP := xkept hP hk9
          have hPc := xkept hPc hk9
          have hT := hT.kept (fun a h1 _ => hk9 a h1)
          obtain ⟨hz, hk⟩ := xk_tr hz hk hz9 hk9
          clear hz9 hk9
          generalize H1 = H at hP hPc hT hz hk ⊢
          refine lv_sipush (v := (-1163)) hx hb dL_isRefused_584 (by decide) ?_
          refine lv_icmp_ne (tgt := 594) hx hb dL_isRefused_587 (by decide) (fun h => absurd h (by decide)) (fun _ => ?_)
          refine lv_iconst (v := nI 1) hx hb dL_isRefused_590 (by decide) ?_
          refine lv_goto (tgt := 637) hx hb dL_isRefused_591 (by decide) ?_
          refine lv_istore (lv' := [(8, .int (nI 1)), (11, .int (nI ((G (246 + j)).2.2.1))), (10, .int (nI kk)), (9, .int (nI j)), (6, .long (alL G (alH G o ld b) 6)), (5, .int (((-2) - nI (X % 30)))), (4, .int (((-1) - nI (X % 30)))), (3, .int (nI 1)), (0, .ref x), (1, .ref ma), (2, .int (nI X))]) hx hb dL_isRefused_637 hl (by decide) rfl (fun ls hl => ?_)
          refine lv_iload hx hb dL_isRefused_639 (lv_at hl 0 rfl) ?_
          refine lv_if_eq (tgt := 739) hx hb dL_isRefused_641 (by decide) (fun h => absurd h (by decide)) (fun _ => ?_)
          refine lv_iload hx hb dL_isRefused_644 (lv_at hl 2 rfl) ?_
          refine lv_iconst (v := nI 1) hx hb dL_isRefused_646 (by decide) ?_
          refine lv_icmp_ne (tgt := 657) hx hb dL_isRefused_647 (by decide) (fun c647 => ?_) (fun c647 => ?_)
          · have c647 : ¬ kk = 1 := fun h => c647 ((xeq (by omega) (by omega)).mpr h)
            refine lv_aload_n hx hb dL_isRefused_657 rfl (lv_at hl 8 rfl) ?_
            refine lv_iconst (v := nI 3) hx hb dL_isRefused_658 (by decide) ?_
            refine lv_iload hx hb dL_isRefused_659 (lv_at hl 3 rfl) ?_
            refine lv_iconst (v := (-1)) hx hb dL_isRefused_661 (by decide) ?_
            refine lv_iconst (v := (-1)) hx hb dL_isRefused_662 (by decide) ?_
            refine xcri (vx_runSX (As := [.ref x, .int (nI 3), .int (nI j), .int ((-1)), .int ((-1))]) (rest := []) ⟨hx, hb, hml, hown, hts⟩ (a_put_S l hst Ax x lv kp fL fK o ld b k FZ G hC (j := j) (by omega) ((-1)) ((-1)) (fun h => absurd ((xeq (by omega) (by omega)).mp (ek.symm.trans h.1)) (by omega))) (vx_cwSW 5 hts gL_isRefused_L_act rfl rfl rfl (by decide +kernel) ⟨(Nat.le_of_ble_eq_true rfl), (Nat.le_of_ble_eq_true rfl)⟩) ⟨XPl_blind, XPl_pre hE hT hN ⟨hPc, hDc⟩⟩ rfl rfl hl.1 rfl (lv_room (Nat.le_of_ble_eq_true rfl)) dL_isRefused_663 ⟨by first | exact Nat.le_of_ble_eq_true rfl | (show (_ : Nat) ≤ 600; omega), by first | exact Nat.le_of_ble_eq_true rfl | (show (_ : Nat) ≤ 3000; omega)⟩) (fun r9 H1 hr9 hz9 hk9 => ?_)
            subst hr9
            have hP := xkept hP hk9
            have hPc := xkept hPc hk9
            have hT := hT.kept (fun a h1 _ => hk9 a h1)
            obtain ⟨hz, hk⟩ := xk_tr hz hk hz9 hk9
            clear hz9 hk9
            generalize H1 = H at hP hPc hT hz hk ⊢
            refine lv_sipush (v := (-1163)) hx hb dL_isRefused_666 (by decide) ?_
            refine lv_icmp_ne (tgt := 739) hx hb dL_isRefused_669 (by decide) (fun h => absurd h (by decide)) (fun _ => ?_)
            refine lv_goto (tgt := 735) hx hb dL_isRefused_672 (by decide) ?_
            refine lv_iconst (v := nI 1) hx hb dL_isRefused_735 (by decide) ?_
            refine lv_goto (tgt := 740) hx hb dL_isRefused_736 (by decide) ?_
            refine lv_istore (lv' := [(8, .int (nI 1)), (11, .int (nI ((G (246 + j)).2.2.1))), (10, .int (nI kk)), (9, .int (nI j)), (6, .long (alL G (alH G o ld b) 6)), (5, .int (((-2) - nI (X % 30)))), (4, .int (((-1) - nI (X % 30)))), (3, .int (nI 1)), (0, .ref x), (1, .ref ma), (2, .int (nI X))]) hx hb dL_isRefused_740 hl (by decide) rfl (fun ls hl => ?_)
            refine lv_iload hx hb dL_isRefused_742 (lv_at hl 0 rfl) ?_
            refine lv_if_eq (tgt := 804) hx hb dL_isRefused_744 (by decide) (fun h => absurd h (by decide)) (fun _ => ?_)
            refine lv_iload hx hb dL_isRefused_747 (lv_at hl 2 rfl) ?_
            refine lv_iconst (v := nI 1) hx hb dL_isRefused_749 (by decide) ?_
            refine lv_icmp_eq (tgt := 771) hx hb dL_isRefused_750 (by decide) (fun c750 => ?_) (fun c750 => ?_)
            · have c750 : kk = 1 := (xeq (by omega) (by omega)).mp c750
              omega
            · have c750 : ¬ kk = 1 := fun h => c750 ((xeq (by omega) (by omega)).mpr h)
              refine lv_aload_n hx hb dL_isRefused_753 rfl (lv_at hl 8 rfl) ?_
              refine lv_iconst (v := nI 4) hx hb dL_isRefused_754 (by decide) ?_
              refine lv_iload hx hb dL_isRefused_755 (lv_at hl 3 rfl) ?_
              refine lv_iconst (v := (-1)) hx hb dL_isRefused_757 (by decide) ?_
              refine lv_iconst (v := nI 0) hx hb dL_isRefused_758 (by decide) ?_
              refine xcri (vx_runSX (As := [.ref x, .int (nI 4), .int (nI j), .int ((-1)), .int (nI 0)]) (rest := []) ⟨hx, hb, hml, hown, hts⟩ (a_take_S l hst Ax x lv kp fL fK o ld b k FZ G hC (j := j) (by omega) ((-1)) (nI 0) (fun h => absurd ((xeq (by omega) (by omega)).mp (ek.symm.trans h)) (by omega))) (vx_cwSW 5 hts gL_isRefused_L_act rfl rfl rfl (by decide +kernel) ⟨(Nat.le_of_ble_eq_true rfl), (Nat.le_of_ble_eq_true rfl)⟩) ⟨XPl_blind, XPl_pre hE hT hN ⟨hPc, hDc⟩⟩ rfl rfl hl.1 rfl (lv_room (Nat.le_of_ble_eq_true rfl)) dL_isRefused_759 ⟨by first | exact Nat.le_of_ble_eq_true rfl | (show (_ : Nat) ≤ 600; omega), by first | exact Nat.le_of_ble_eq_true rfl | (show (_ : Nat) ≤ 3000; omega)⟩) (fun r9 H1 hr9 hz9 hk9 => ?_)
              subst hr9
              have hP := xkept hP hk9
              have hPc := xkept hPc hk9
              have hT := hT.kept (fun a h1 _ => hk9 a h1)
              obtain ⟨hz, hk⟩ := xk_tr hz hk hz9 hk9
              clear hz9 hk9
              generalize H1 = H at hP hPc hT hz hk ⊢
              refine lv_sipush (v := (-1163)) hx hb dL_isRefused_762 (by decide) ?_
              refine lv_icmp_ne (tgt := 804) hx hb dL_isRefused_765 (by decide) (fun h => absurd h (by decide)) (fun _ => ?_)
              refine lv_goto (tgt := 800) hx hb dL_isRefused_768 (by decide) ?_
              refine lv_iconst (v := nI 1) hx hb dL_isRefused_800 (by decide) ?_
              refine lv_goto (tgt := 805) hx hb dL_isRefused_801 (by decide) ?_
              refine lv_istore (lv' := [(8, .int (nI 1)), (11, .int (nI ((G (246 + j)).2.2.1))), (10, .int (nI kk)), (9, .int (nI j)), (6, .long (alL G (alH G o ld b) 6)), (5, .int (((-2) - nI (X % 30)))), (4, .int (((-1) - nI (X % 30)))), (3, .int (nI 1)), (0, .ref x), (1, .ref ma), (2, .int (nI X))]) hx hb dL_isRefused_805 hl (by decide) rfl (fun ls hl => ?_)
              refine lv_iinc (v := nI (j + 1)) (lv' := [(9, .int (nI (j + 1))), (8, .int (nI 1)), (11, .int (nI ((G (246 + j)).2.2.1))), (10, .int (nI kk)), (6, .long (alL G (alH G o ld b) 6)), (5, .int (((-2) - nI (X % 30)))), (4, .int (((-1) - nI (X % 30)))), (3, .int (nI 1)), (0, .ref x), (1, .ref ma), (2, .int (nI X))]) hx hb dL_isRefused_807 hl (k := 3) rfl (xinc _ 1 _ (by decide)) (by decide) rfl (fun ls hl => ?_)
              refine lv_goto (tgt := 540) hx hb dL_isRefused_810 (by decide) ?_
              refine W.widen (k := 300 + 40 * (7 - n)) (n := 1500 + 200 * (7 - n)) (by omega) (by omega) ?_
              exact ih _ _ _ ⟨j + 1, by omega, by omega, by omega, hz, hk, rfl, lv_sub hl [0, 1, 4, 5, 6, 7, 8, 9, 10] rfl⟩
          · have c647 : kk = 1 := (xeq (by omega) (by omega)).mp c647
            omega
    · refine lv_if_eq (tgt := 359) hx hb dL_isRefused_301 (by decide) (fun c301 => ?_) (fun c301 => ?_)
      · have c301 : nI o = nI 0 := c301
        have c301 : o = 0 := (xeq (by omega) (by omega)).mp c301
        refine W.widen (k := 200) (n := 1000) (Nat.le_of_ble_eq_true rfl) (Nat.le_of_ble_eq_true rfl) ?_
        exact J _ _ _ ⟨hz, hk, rfl, lv_sub hl [0, 1, 2, 3, 4, 5, 6] rfl⟩
      · have c301 : ¬ nI o = nI 0 := c301
        have c301 : ¬ o = 0 := fun h => c301 ((xeq (by omega) (by omega)).mpr h)
        refine lv_aload_n hx hb dL_isRefused_304 rfl (lv_at hl 4 rfl) ?_
        refine lv_bipush (v := nI 8) hx hb dL_isRefused_305 (by decide) ?_
        refine lv_aload_n hx hb dL_isRefused_307 rfl (lv_at hl 5 rfl) ?_
        refine lv_iconst (v := nI 1) hx hb dL_isRefused_308 (by decide) ?_
        refine va_iald hx hb hK hP 0 0 rfl rfl (xin (by omega) (by omega)) dL_isRefused_309 ?_
        refine x_top (fm 1) (by rw [nI_clamp (by omega)]) ?_
        refine x_top (nI o) (hm1) ?_
        refine lv_iconst (v := nI 1) hx hb dL_isRefused_310 (by decide) ?_
        refine lv_isub hx hb dL_isRefused_311 ?_
        refine x_top (nI (o - 1)) (xsub (by omega)) ?_
        refine lv_iconst (v := nI 0) hx hb dL_isRefused_312 (by decide) ?_
        refine lv_iconst (v := nI 0) hx hb dL_isRefused_313 (by decide) ?_
        refine xcri (vx_runSX (As := [.ref x, .int (nI 8), .int (nI (o - 1)), .int (nI 0), .int (nI 0)]) (rest := []) ⟨hx, hb, hml, hown, hts⟩ (a_restore_O l hst Ax x lv kp fL fK o ld b k FZ G hC (nI (o - 1)) (nI 0) (nI 0) (BD.num hld (by omega) (by omega)).1 hld hold) (vx_cwSW 5 hts gL_isRefused_L_act rfl rfl rfl (by decide +kernel) ⟨(Nat.le_of_ble_eq_true rfl), (Nat.le_of_ble_eq_true rfl)⟩) ⟨XPl_blind, XPl_pre hE hT hN ⟨hPc, hDc⟩⟩ rfl rfl hl.1 rfl (lv_room (Nat.le_of_ble_eq_true rfl)) dL_isRefused_314 ⟨by first | exact Nat.le_of_ble_eq_true rfl | (show (_ : Nat) ≤ 600; omega), by first | exact Nat.le_of_ble_eq_true rfl | (show (_ : Nat) ≤ 3000; omega)⟩) (fun r9 H1 hr9 hz9 hk9 => ?_)
        subst hr9
        have hP := xkept hP hk9
        have hPc := xkept hPc hk9
        have hT := hT.kept (fun a h1 _ => hk9 a h1)
        obtain ⟨hz, hk⟩ := xk_tr hz hk hz9 hk9
        clear hz9 hk9
        generalize H1 = H at hP hPc hT hz hk ⊢
        refine lv_sipush (v := (-1161)) hx hb dL_isRefused_317 (by decide) ?_
        refine lv_icmp_ne (tgt := 534) hx hb dL_isRefused_320 (by decide) (fun h => absurd h (by decide)) (fun _ => ?_)
        refine lv_aload_n hx hb dL_isRefused_323 rfl (lv_at hl 4 rfl) ?_
        refine lv_iconst (v := nI 0) hx hb dL_isRefused_324 (by decide) ?_
        refine lv_aload_n hx hb dL_isRefused_325 rfl (lv_at hl 5 rfl) ?_
        refine lv_iconst (v := nI 1) hx hb dL_isRefused_326 (by decide) ?_
        refine va_iald hx hb hK hP 0 0 rfl rfl (xin (by omega) (by omega)) dL_isRefused_327 ?_
        refine x_top (fm 1) (by rw [nI_clamp (by omega)]) ?_
        refine x_top (nI o) (hm1) ?_
        refine lv_iconst (v := nI 1) hx hb dL_isRefused_328 (by decide) ?_
        refine lv_isub hx hb dL_isRefused_329 ?_
        refine x_top (nI (o - 1)) (xsub (by omega)) ?_
        refine lv_iconst (v := nI 0) hx hb dL_isRefused_330 (by decide) ?_
        refine lv_iconst (v := nI 0) hx hb dL_isRefused_331 (by decide) ?_
        refine xcri (vx_runSX (As := [.ref x, .int (nI 0), .int (nI (o - 1)), .int (nI 0), .int (nI 0)]) (rest := []) ⟨hx, hb, hml, hown, hts⟩ (o_kindAt l hst Ax x lv kp fL fK o ld b k FZ G hC (nI (o - 1)) (nI 0) (nI 0) (BD.num hld (by omega) (by omega)).at hld hold) (vx_cwSW 5 hts gL_isRefused_L_of rfl rfl rfl (by decide +kernel) ⟨(Nat.le_of_ble_eq_true rfl), (Nat.le_of_ble_eq_true rfl)⟩) ⟨XPl_blind, XPl_pre hE hT hN hPc⟩ rfl rfl hl.1 rfl (lv_room (Nat.le_of_ble_eq_true rfl)) dL_isRefused_332 ⟨by first | exact Nat.le_of_ble_eq_true rfl | (show (_ : Nat) ≤ 600; omega), by first | exact Nat.le_of_ble_eq_true rfl | (show (_ : Nat) ≤ 3000; omega)⟩) (fun r9 H1 hr9 hz9 hk9 => ?_)
        subst hr9
        have hP := xkept hP hk9
        have hPc := xkept hPc hk9
        have hT := hT.kept (fun a h1 _ => hk9 a h1)
        obtain ⟨hz, hk⟩ := xk_tr hz hk hz9 hk9
        clear hz9 hk9
        generalize H1 = H at hP hPc hT hz hk ⊢
        refine lv_sipush (v := (-1161)) hx hb dL_isRefused_335 (by decide) ?_
        refine lv_icmp_ne (tgt := 534) hx hb dL_isRefused_338 (by decide) (fun h => absurd h (by decide)) (fun _ => ?_)
        refine lv_aload_n hx hb dL_isRefused_341 rfl (lv_at hl 4 rfl) ?_
        refine lv_iconst (v := nI 3) hx hb dL_isRefused_342 (by decide) ?_
        refine lv_aload_n hx hb dL_isRefused_343 rfl (lv_at hl 5 rfl) ?_
        refine lv_iconst (v := nI 1) hx hb dL_isRefused_344 (by decide) ?_
        refine va_iald hx hb hK hP 0 0 rfl rfl (xin (by omega) (by omega)) dL_isRefused_345 ?_
        refine x_top (fm 1) (by rw [nI_clamp (by omega)]) ?_
        refine x_top (nI o) (hm1) ?_
        refine lv_iconst (v := nI 1) hx hb dL_isRefused_346 (by decide) ?_
        refine lv_isub hx hb dL_isRefused_347 ?_
        refine x_top (nI (o - 1)) (xsub (by omega)) ?_
        refine lv_iconst (v := nI 0) hx hb dL_isRefused_348 (by decide) ?_
        refine lv_iconst (v := nI 0) hx hb dL_isRefused_349 (by decide) ?_
        refine xcri (vx_runSX (As := [.ref x, .int (nI 3), .int (nI (o - 1)), .int (nI 0), .int (nI 0)]) (rest := []) ⟨hx, hb, hml, hown, hts⟩ (o_sizeAt l hst Ax x lv kp fL fK o ld b k FZ G hC (nI (o - 1)) (nI 0) (nI 0) (BD.num hld (by omega) (by omega)).sz hld hold) (vx_cwSW 5 hts gL_isRefused_L_of rfl rfl rfl (by decide +kernel) ⟨(Nat.le_of_ble_eq_true rfl), (Nat.le_of_ble_eq_true rfl)⟩) ⟨XPl_blind, XPl_pre hE hT hN hPc⟩ rfl rfl hl.1 rfl (lv_room (Nat.le_of_ble_eq_true rfl)) dL_isRefused_350 ⟨by first | exact Nat.le_of_ble_eq_true rfl | (show (_ : Nat) ≤ 600; omega), by first | exact Nat.le_of_ble_eq_true rfl | (show (_ : Nat) ≤ 3000; omega)⟩) (fun r9 H1 hr9 hz9 hk9 => ?_)
        subst hr9
        have hP := xkept hP hk9
        have hPc := xkept hPc hk9
        have hT := hT.kept (fun a h1 _ => hk9 a h1)
        obtain ⟨hz, hk⟩ := xk_tr hz hk hz9 hk9
        clear hz9 hk9
        generalize H1 = H at hP hPc hT hz hk ⊢
        refine lv_sipush (v := (-1161)) hx hb dL_isRefused_353 (by decide) ?_
        refine lv_icmp_ne (tgt := 534) hx hb dL_isRefused_356 (by decide) (fun h => absurd h (by decide)) (fun _ => ?_)
        refine W.widen (k := 200) (n := 1000) (Nat.le_of_ble_eq_true rfl) (Nat.le_of_ble_eq_true rfl) ?_
        exact J _ _ _ ⟨hz, hk, rfl, lv_sub hl [0, 1, 2, 3, 4, 5, 6] rfl⟩

set_option maxHeartbeats 4000000 in
set_option maxRecDepth 100000 in
theorem c_L_isRefused_hi (l : Launch) (hst : l.stackTraces = false) {D : va_G} {cI cT cJ : ClassId} (Ax : Nat → Prop) (x lv kp : Nat) (fL fK : Nat → Option Nat) (o ld b k : Nat) (FZ : va_W) (G : Nat → Tv) (hC : CA cI FZ fL fK G) (ma X : Nat) (fm : Nat → Int32) (hX : X < 2 ^ 31) (hX2 : ¬ X % 2 = 0) (hWG : WFG G) (hm0 : fm 0 = nI ld) (hm1 : fm 1 = nI o) (hbb : b ≤ 1) (hl9 : ld ≤ o + 9) (hld : ld ≤ 40) (hold : o ≤ ld) : Met l yL_isRefused wsL_isRefused (rmD 11 600 3000) (XPl D cI cT cJ Ax [.ref x, .ref ma, .int (nI X)] (fun H => va_P D vwCl ((ma, .inl (cI, 3, .inl fm)) :: (CW cT x lv kp fL fK o ld b k FZ)) H ∧ va_D (fun _ => True) ((ma, .inl (cI, 3, .inl fm)) :: (CW cT x lv kp fL fK o ld b k FZ)))) (XRi (fun r => r = nI 1)) 600 3000 (fun _ => False) := by
  refine Met.ofW (cc := cL_isRefused) (maxL := 12) (ret := (some .boolean)) (by decide) rfl ?_
  intro p e s m args below meth c s₁ B hml hv
  obtain ⟨rfl, ⟨hP, hD0⟩, hE, hT, hN⟩ := hv
  have hx := B.exec
  have hb := B.bytes
  have hr := B.returns
  have hts := atoms_spec (ws := wsL_isRefused) B.pre
  have hown : s.vm.findClass RL = some m.cls := findClass_of_methodNamed B.named
  have hlocks := B.notSynchronized
  have hl := lv_entry ([.ref x, .ref ma, .int (nI X)]) (n := 12) (Nat.le_of_ble_eq_true rfl)
  rw [lg_entry_eq]
  generalize (lg_sl ([.ref x, .ref ma, .int (nI X)]) ++ List.replicate (12 - (lg_sl ([.ref x, .ref ma, .int (nI X)])).length) Slot.unset).toArray = ls at hl ⊢
  have hl : lv_has ls 12 [(0, .ref x), (1, .ref ma), (2, .int (nI X))] := hl
  have hK := hE.1
  have hPc : va_P D vwCl (CW cT x lv kp fL fK o ld b k FZ) s.heap := xP_sub (fun _ h => List.mem_cons_of_mem _ h) hP
  have hDc : va_D (fun _ => True) (CW cT x lv kp fL fK o ld b k FZ) := xD_sub (List.sublist_cons_self _ _) hD0
  have hz : s.heap.size ≤ s.heap.size := Nat.le_refl _
  have hk : ∀ q : Nat, q < s.heap.size → s.heap[q]? = s.heap[q]? := fun _ _ => rfl
  have h30 : X % 30 < 30 := Nat.mod_lt _ (by decide)
  have h20 : X % 20 < 20 := Nat.mod_lt _ (by decide)
  have hP0 := hP
  have hPc0 := hPc
  have hT00 := hT
  refine lv_iload_n hx hb dL_isRefused_0 rfl (lv_at hl 2 rfl) ?_
  refine lv_iconst (v := nI 2) hx hb dL_isRefused_1 (by decide) ?_
  refine lv_irem hx hb dL_isRefused_2 (by decide) ?_
  refine x_top (nI (X % 2)) (pk_rem (by omega) (by omega) (by omega)) ?_
  refine lv_if_ne (tgt := 10) hx hb dL_isRefused_3 (by decide) (fun c3 => ?_) (fun c3 => ?_)
  · have c3 : ¬ nI (X % 2) = nI 0 := c3
    have c3 : ¬ (X % 2) = 0 := fun h => c3 ((xeq (by omega) (by omega)).mpr h)
    refine lv_iconst (v := nI 0) hx hb dL_isRefused_10 (by decide) ?_
    refine lv_istore_n (lv' := [(3, .int (nI 0)), (0, .ref x), (1, .ref ma), (2, .int (nI X))]) hx hb dL_isRefused_11 rfl hl (by decide) rfl (fun ls hl => ?_)
    refine lv_iload_n hx hb dL_isRefused_12 rfl (lv_at hl 0 rfl) ?_
    refine lv_if_eq (tgt := 25) hx hb dL_isRefused_13 (by decide) (fun _ => ?_) (fun h => absurd h (by decide))
    refine lv_bipush (v := nI 6) hx hb dL_isRefused_25 (by decide) ?_
    refine lv_iload_n hx hb dL_isRefused_27 rfl (lv_at hl 3 rfl) ?_
    refine lv_bipush (v := nI 30) hx hb dL_isRefused_28 (by decide) ?_
    refine lv_irem hx hb dL_isRefused_30 (by decide) ?_
    refine x_top (nI (X % 30)) (pk_rem (by omega) (by omega) (by omega)) ?_
    refine lv_iadd hx hb dL_isRefused_31 ?_
    refine x_top (nI (6 + (X % 30))) (xadd (by omega)) ?_
    have hsix : ¬ Pl (nI (6 + X % 30)) := hi_pl (by omega) (by omega)
    refine lv_istore (lv' := [(4, .int (nI (6 + (X % 30)))), (3, .int (nI 0)), (0, .ref x), (1, .ref ma), (2, .int (nI X))]) hx hb dL_isRefused_32 hl (by decide) rfl (fun ls hl => ?_)
    refine lv_iload_n hx hb dL_isRefused_34 rfl (lv_at hl 1 rfl) ?_
    refine lv_if_eq (tgt := 48) hx hb dL_isRefused_35 (by decide) (fun _ => ?_) (fun h => absurd h (by decide))
    refine lv_aload_n hx hb dL_isRefused_48 rfl (lv_at hl 3 rfl) ?_
    refine lv_iconst (v := nI 0) hx hb dL_isRefused_49 (by decide) ?_
    refine va_iald hx hb hK hP 0 0 rfl rfl (xin (by omega) (by omega)) dL_isRefused_50 ?_
    refine x_top (fm 0) (by rw [nI_clamp (by omega)]) ?_
    refine x_top (nI ld) (hm0) ?_
    refine lv_iconst (v := nI 1) hx hb dL_isRefused_51 (by decide) ?_
    refine lv_iadd hx hb dL_isRefused_52 ?_
    refine x_top (nI (ld + 1)) (xadd (by omega)) ?_
    refine lv_iload_n hx hb dL_isRefused_53 rfl (lv_at hl 4 rfl) ?_
    refine lv_bipush (v := nI 30) hx hb dL_isRefused_54 (by decide) ?_
    refine lv_irem hx hb dL_isRefused_56 (by decide) ?_
    refine x_top (nI (X % 30)) (pk_rem (by omega) (by omega) (by omega)) ?_
    refine lv_iadd hx hb dL_isRefused_57 ?_
    refine x_top (nI (ld + 1 + (X % 30))) (xadd (by omega)) ?_
    have hbd : BD o ld (nI (ld + 1 + X % 30)) := BD.num hld (by omega) (by omega)
    refine lv_istore (lv' := [(5, .int (nI (ld + 1 + (X % 30)))), (4, .int (nI (6 + (X % 30)))), (3, .int (nI 0)), (0, .ref x), (1, .ref ma), (2, .int (nI X))]) hx hb dL_isRefused_58 hl (by decide) rfl (fun ls hl => ?_)
    refine lv_aload_n hx hb dL_isRefused_60 rfl (lv_at hl 3 rfl) ?_
    refine xc_sje (va_runS (As := [.ref x]) (rest := []) ⟨hx, hb, hml, hown, hts⟩ (c_L_all l hst Ax x lv kp fL fK o ld b k FZ G hC hbb hld hold) (va_cwS 1 hts gL_isRefused_L_all rfl rfl rfl (by decide +kernel) ⟨(Nat.le_of_ble_eq_true rfl), (Nat.le_of_ble_eq_true rfl)⟩) ⟨XPx_blind, XPx_pre hE hT hPc⟩ rfl rfl hl.1 rfl (lv_room (Nat.le_of_ble_eq_true rfl)) dL_isRefused_61 ⟨by first | exact Nat.le_of_ble_eq_true rfl | (show (_ : Nat) ≤ 600; omega), by first | exact Nat.le_of_ble_eq_true rfl | (show (_ : Nat) ≤ 3000; omega)⟩) ?_
    refine lv_lstore (lv' := [(6, .long (alL G (alH G o ld b) 6)), (5, .int (nI (ld + 1 + (X % 30)))), (4, .int (nI (6 + (X % 30)))), (3, .int (nI 0)), (0, .ref x), (1, .ref ma), (2, .int (nI X))]) hx hb dL_isRefused_64 hl (by decide) rfl (fun ls hl => ?_)
    refine lv_aload_n hx hb dL_isRefused_66 rfl (lv_at hl 4 rfl) ?_
    refine lv_iconst (v := nI 0) hx hb dL_isRefused_67 (by decide) ?_
    refine lv_iload hx hb dL_isRefused_68 (lv_at hl 2 rfl) ?_
    refine lv_iconst (v := nI 0) hx hb dL_isRefused_70 (by decide) ?_
    refine lv_iconst (v := nI 0) hx hb dL_isRefused_71 (by decide) ?_
    refine xcri (vx_runSX (As := [.ref x, .int (nI 0), .int (nI (6 + (X % 30))), .int (nI 0), .int (nI 0)]) (rest := []) ⟨hx, hb, hml, hown, hts⟩ (a_makeFile_O l hst Ax x lv kp fL fK o ld b k FZ G hC (nI (6 + (X % 30))) (nI 0) (nI 0) hsix) (vx_cwSW 5 hts gL_isRefused_L_act rfl rfl rfl (by decide +kernel) ⟨(Nat.le_of_ble_eq_true rfl), (Nat.le_of_ble_eq_true rfl)⟩) ⟨XPl_blind, XPl_pre hE hT hN ⟨hPc, hDc⟩⟩ rfl rfl hl.1 rfl (lv_room (Nat.le_of_ble_eq_true rfl)) dL_isRefused_72 ⟨by first | exact Nat.le_of_ble_eq_true rfl | (show (_ : Nat) ≤ 600; omega), by first | exact Nat.le_of_ble_eq_true rfl | (show (_ : Nat) ≤ 3000; omega)⟩) (fun r9 H1 hr9 hz9 hk9 => ?_)
    subst hr9
    have hP := xkept hP hk9
    have hPc := xkept hPc hk9
    have hT := hT.kept (fun a h1 _ => hk9 a h1)
    obtain ⟨hz, hk⟩ := xk_tr hz hk hz9 hk9
    clear hz9 hk9
    generalize H1 = H at hP hPc hT hz hk ⊢
    refine lv_sipush (v := (-1161)) hx hb dL_isRefused_75 (by decide) ?_
    refine lv_icmp_ne (tgt := 534) hx hb dL_isRefused_78 (by decide) (fun h => absurd h (by decide)) (fun _ => ?_)
    refine lv_aload_n hx hb dL_isRefused_81 rfl (lv_at hl 4 rfl) ?_
    refine lv_iconst (v := nI 1) hx hb dL_isRefused_82 (by decide) ?_
    refine lv_iload hx hb dL_isRefused_83 (lv_at hl 2 rfl) ?_
    refine lv_iconst (v := nI 0) hx hb dL_isRefused_85 (by decide) ?_
    refine lv_iconst (v := nI 0) hx hb dL_isRefused_86 (by decide) ?_
    refine xcri (vx_runSX (As := [.ref x, .int (nI 1), .int (nI (6 + (X % 30))), .int (nI 0), .int (nI 0)]) (rest := []) ⟨hx, hb, hml, hown, hts⟩ (a_makeLink_O l hst Ax x lv kp fL fK o ld b k FZ G hC (nI (6 + (X % 30))) (nI 0) (nI 0) (fun h => hsix h.1)) (vx_cwSW 5 hts gL_isRefused_L_act rfl rfl rfl (by decide +kernel) ⟨(Nat.le_of_ble_eq_true rfl), (Nat.le_of_ble_eq_true rfl)⟩) ⟨XPl_blind, XPl_pre hE hT hN ⟨hPc, hDc⟩⟩ rfl rfl hl.1 rfl (lv_room (Nat.le_of_ble_eq_true rfl)) dL_isRefused_87 ⟨by first | exact Nat.le_of_ble_eq_true rfl | (show (_ : Nat) ≤ 600; omega), by first | exact Nat.le_of_ble_eq_true rfl | (show (_ : Nat) ≤ 3000; omega)⟩) (fun r9 H1 hr9 hz9 hk9 => ?_)
    subst hr9
    have hP := xkept hP hk9
    have hPc := xkept hPc hk9
    have hT := hT.kept (fun a h1 _ => hk9 a h1)
    obtain ⟨hz, hk⟩ := xk_tr hz hk hz9 hk9
    clear hz9 hk9
    generalize H1 = H at hP hPc hT hz hk ⊢
    refine lv_sipush (v := (-1161)) hx hb dL_isRefused_90 (by decide) ?_
    refine lv_icmp_ne (tgt := 534) hx hb dL_isRefused_93 (by decide) (fun h => absurd h (by decide)) (fun _ => ?_)
    refine lv_aload_n hx hb dL_isRefused_96 rfl (lv_at hl 4 rfl) ?_
    refine lv_iconst (v := nI 1) hx hb dL_isRefused_97 (by decide) ?_
    refine lv_iconst (v := nI 0) hx hb dL_isRefused_98 (by decide) ?_
    refine lv_iload hx hb dL_isRefused_99 (lv_at hl 2 rfl) ?_
    refine lv_iconst (v := nI 0) hx hb dL_isRefused_101 (by decide) ?_
    refine xcri (vx_runSX (As := [.ref x, .int (nI 1), .int (nI 0), .int (nI (6 + (X % 30))), .int (nI 0)]) (rest := []) ⟨hx, hb, hml, hown, hts⟩ (a_makeLink_O l hst Ax x lv kp fL fK o ld b k FZ G hC (nI 0) (nI (6 + (X % 30))) (nI 0) (fun h => hsix h.2)) (vx_cwSW 5 hts gL_isRefused_L_act rfl rfl rfl (by decide +kernel) ⟨(Nat.le_of_ble_eq_true rfl), (Nat.le_of_ble_eq_true rfl)⟩) ⟨XPl_blind, XPl_pre hE hT hN ⟨hPc, hDc⟩⟩ rfl rfl hl.1 rfl (lv_room (Nat.le_of_ble_eq_true rfl)) dL_isRefused_102 ⟨by first | exact Nat.le_of_ble_eq_true rfl | (show (_ : Nat) ≤ 600; omega), by first | exact Nat.le_of_ble_eq_true rfl | (show (_ : Nat) ≤ 3000; omega)⟩) (fun r9 H1 hr9 hz9 hk9 => ?_)
    subst hr9
    have hP := xkept hP hk9
    have hPc := xkept hPc hk9
    have hT := hT.kept (fun a h1 _ => hk9 a h1)
    obtain ⟨hz, hk⟩ := xk_tr hz hk hz9 hk9
    clear hz9 hk9
    generalize H1 = H at hP hPc hT hz hk ⊢
    refine lv_sipush (v := (-1161)) hx hb dL_isRefused_105 (by decide) ?_
    refine lv_icmp_ne (tgt := 534) hx hb dL_isRefused_108 (by decide) (fun h => absurd h (by decide)) (fun _ => ?_)
    refine lv_aload_n hx hb dL_isRefused_111 rfl (lv_at hl 4 rfl) ?_
    refine lv_iconst (v := nI 2) hx hb dL_isRefused_112 (by decide) ?_
    refine lv_iload hx hb dL_isRefused_113 (lv_at hl 2 rfl) ?_
    refine lv_iconst (v := nI 0) hx hb dL_isRefused_115 (by decide) ?_
    refine lv_iconst (v := nI 0) hx hb dL_isRefused_116 (by decide) ?_
    refine xcri (vx_runSX (As := [.ref x, .int (nI 2), .int (nI (6 + (X % 30))), .int (nI 0), .int (nI 0)]) (rest := []) ⟨hx, hb, hml, hown, hts⟩ (a_remove_O l hst Ax x lv kp fL fK o ld b k FZ G hC (nI (6 + (X % 30))) (nI 0) (nI 0) hsix) (vx_cwSW 5 hts gL_isRefused_L_act rfl rfl rfl (by decide +kernel) ⟨(Nat.le_of_ble_eq_true rfl), (Nat.le_of_ble_eq_true rfl)⟩) ⟨XPl_blind, XPl_pre hE hT hN ⟨hPc, hDc⟩⟩ rfl rfl hl.1 rfl (lv_room (Nat.le_of_ble_eq_true rfl)) dL_isRefused_117 ⟨by first | exact Nat.le_of_ble_eq_true rfl | (show (_ : Nat) ≤ 600; omega), by first | exact Nat.le_of_ble_eq_true rfl | (show (_ : Nat) ≤ 3000; omega)⟩) (fun r9 H1 hr9 hz9 hk9 => ?_)
    subst hr9
    have hP := xkept hP hk9
    have hPc := xkept hPc hk9
    have hT := hT.kept (fun a h1 _ => hk9 a h1)
    obtain ⟨hz, hk⟩ := xk_tr hz hk hz9 hk9
    clear hz9 hk9
    generalize H1 = H at hP hPc hT hz hk ⊢
    refine lv_sipush (v := (-1161)) hx hb dL_isRefused_120 (by decide) ?_
    refine lv_icmp_ne (tgt := 534) hx hb dL_isRefused_123 (by decide) (fun h => absurd h (by decide)) (fun _ => ?_)
    refine lv_aload_n hx hb dL_isRefused_126 rfl (lv_at hl 4 rfl) ?_
    refine lv_iconst (v := nI 3) hx hb dL_isRefused_127 (by decide) ?_
    refine lv_iload hx hb dL_isRefused_128 (lv_at hl 2 rfl) ?_
    refine lv_iconst (v := (-1)) hx hb dL_isRefused_130 (by decide) ?_
    refine lv_iconst (v := (-1)) hx hb dL_isRefused_131 (by decide) ?_
    refine xcri (vx_runSX (As := [.ref x, .int (nI 3), .int (nI (6 + (X % 30))), .int ((-1)), .int ((-1))]) (rest := []) ⟨hx, hb, hml, hown, hts⟩ (a_put_O l hst Ax x lv kp fL fK o ld b k FZ G hC (nI (6 + (X % 30))) ((-1)) ((-1)) hsix) (vx_cwSW 5 hts gL_isRefused_L_act rfl rfl rfl (by decide +kernel) ⟨(Nat.le_of_ble_eq_true rfl), (Nat.le_of_ble_eq_true rfl)⟩) ⟨XPl_blind, XPl_pre hE hT hN ⟨hPc, hDc⟩⟩ rfl rfl hl.1 rfl (lv_room (Nat.le_of_ble_eq_true rfl)) dL_isRefused_132 ⟨by first | exact Nat.le_of_ble_eq_true rfl | (show (_ : Nat) ≤ 600; omega), by first | exact Nat.le_of_ble_eq_true rfl | (show (_ : Nat) ≤ 3000; omega)⟩) (fun r9 H1 hr9 hz9 hk9 => ?_)
    subst hr9
    have hP := xkept hP hk9
    have hPc := xkept hPc hk9
    have hT := hT.kept (fun a h1 _ => hk9 a h1)
    obtain ⟨hz, hk⟩ := xk_tr hz hk hz9 hk9
    clear hz9 hk9
    generalize H1 = H at hP hPc hT hz hk ⊢
    refine lv_sipush (v := (-1161)) hx hb dL_isRefused_135 (by decide) ?_
    refine lv_icmp_ne (tgt := 534) hx hb dL_isRefused_138 (by decide) (fun h => absurd h (by decide)) (fun _ => ?_)
    refine lv_aload_n hx hb dL_isRefused_141 rfl (lv_at hl 4 rfl) ?_
    refine lv_iconst (v := nI 4) hx hb dL_isRefused_142 (by decide) ?_
    refine lv_iload hx hb dL_isRefused_143 (lv_at hl 2 rfl) ?_
    refine lv_iconst (v := (-1)) hx hb dL_isRefused_145 (by decide) ?_
    refine lv_iconst (v := nI 0) hx hb dL_isRefused_146 (by decide) ?_
    refine xcri (vx_runSX (As := [.ref x, .int (nI 4), .int (nI (6 + (X % 30))), .int ((-1)), .int (nI 0)]) (rest := []) ⟨hx, hb, hml, hown, hts⟩ (a_take_O l hst Ax x lv kp fL fK o ld b k FZ G hC (nI (6 + (X % 30))) ((-1)) (nI 0) hsix) (vx_cwSW 5 hts gL_isRefused_L_act rfl rfl rfl (by decide +kernel) ⟨(Nat.le_of_ble_eq_true rfl), (Nat.le_of_ble_eq_true rfl)⟩) ⟨XPl_blind, XPl_pre hE hT hN ⟨hPc, hDc⟩⟩ rfl rfl hl.1 rfl (lv_room (Nat.le_of_ble_eq_true rfl)) dL_isRefused_147 ⟨by first | exact Nat.le_of_ble_eq_true rfl | (show (_ : Nat) ≤ 600; omega), by first | exact Nat.le_of_ble_eq_true rfl | (show (_ : Nat) ≤ 3000; omega)⟩) (fun r9 H1 hr9 hz9 hk9 => ?_)
    subst hr9
    have hP := xkept hP hk9
    have hPc := xkept hPc hk9
    have hT := hT.kept (fun a h1 _ => hk9 a h1)
    obtain ⟨hz, hk⟩ := xk_tr hz hk hz9 hk9
    clear hz9 hk9
    generalize H1 = H at hP hPc hT hz hk ⊢
    refine lv_sipush (v := (-1161)) hx hb dL_isRefused_150 (by decide) ?_
    refine lv_icmp_ne (tgt := 534) hx hb dL_isRefused_153 (by decide) (fun h => absurd h (by decide)) (fun _ => ?_)
    refine lv_aload_n hx hb dL_isRefused_156 rfl (lv_at hl 4 rfl) ?_
    refine lv_iconst (v := nI 5) hx hb dL_isRefused_157 (by decide) ?_
    refine lv_iload hx hb dL_isRefused_158 (lv_at hl 2 rfl) ?_
    refine lv_iconst (v := (-1)) hx hb dL_isRefused_160 (by decide) ?_
    refine lv_iconst (v := nI 0) hx hb dL_isRefused_161 (by decide) ?_
    refine xcri (vx_runSX (As := [.ref x, .int (nI 5), .int (nI (6 + (X % 30))), .int ((-1)), .int (nI 0)]) (rest := []) ⟨hx, hb, hml, hown, hts⟩ (a_setRights_O l hst Ax x lv kp fL fK o ld b k FZ G hC (nI (6 + (X % 30))) ((-1)) (nI 0) hsix) (vx_cwSW 5 hts gL_isRefused_L_act rfl rfl rfl (by decide +kernel) ⟨(Nat.le_of_ble_eq_true rfl), (Nat.le_of_ble_eq_true rfl)⟩) ⟨XPl_blind, XPl_pre hE hT hN ⟨hPc, hDc⟩⟩ rfl rfl hl.1 rfl (lv_room (Nat.le_of_ble_eq_true rfl)) dL_isRefused_162 ⟨by first | exact Nat.le_of_ble_eq_true rfl | (show (_ : Nat) ≤ 600; omega), by first | exact Nat.le_of_ble_eq_true rfl | (show (_ : Nat) ≤ 3000; omega)⟩) (fun r9 H1 hr9 hz9 hk9 => ?_)
    subst hr9
    have hP := xkept hP hk9
    have hPc := xkept hPc hk9
    have hT := hT.kept (fun a h1 _ => hk9 a h1)
    obtain ⟨hz, hk⟩ := xk_tr hz hk hz9 hk9
    clear hz9 hk9
    generalize H1 = H at hP hPc hT hz hk ⊢
    refine lv_sipush (v := (-1161)) hx hb dL_isRefused_165 (by decide) ?_
    refine lv_icmp_ne (tgt := 534) hx hb dL_isRefused_168 (by decide) (fun h => absurd h (by decide)) (fun _ => ?_)
    refine lv_aload_n hx hb dL_isRefused_171 rfl (lv_at hl 4 rfl) ?_
    refine lv_bipush (v := nI 6) hx hb dL_isRefused_172 (by decide) ?_
    refine lv_iload_n hx hb dL_isRefused_174 rfl (lv_at hl 3 rfl) ?_
    refine lv_if_eq (tgt := 187) hx hb dL_isRefused_175 (by decide) (fun _ => ?_) (fun h => absurd h (by decide))
    refine lv_bipush (v := nI 7) hx hb dL_isRefused_187 (by decide) ?_
    refine lv_iload_n hx hb dL_isRefused_189 rfl (lv_at hl 6 rfl) ?_
    refine lv_bipush (v := nI 30) hx hb dL_isRefused_190 (by decide) ?_
    refine lv_irem hx hb dL_isRefused_192 (by decide) ?_
    refine x_top (nI (X % 30)) (pk_rem (by omega) (by omega) (by omega)) ?_
    refine lv_iadd hx hb dL_isRefused_193 ?_
    refine x_top (nI (7 + (X % 30))) (xadd (by omega)) ?_
    refine lv_iconst (v := nI 0) hx hb dL_isRefused_194 (by decide) ?_
    refine lv_iconst (v := nI 0) hx hb dL_isRefused_195 (by decide) ?_
    refine xcri (vx_runSX (As := [.ref x, .int (nI 6), .int (nI (7 + (X % 30))), .int (nI 0), .int (nI 0)]) (rest := []) ⟨hx, hb, hml, hown, hts⟩ (a_run_A l hst Ax x lv kp fL fK o ld b k FZ G hC (nI (7 + (X % 30))) (nI 0) (nI 0) (hi_no (by omega) (by omega)) hld) (vx_cwSW 5 hts gL_isRefused_L_act rfl rfl rfl (by decide +kernel) ⟨(Nat.le_of_ble_eq_true rfl), (Nat.le_of_ble_eq_true rfl)⟩) ⟨XPl_blind, XPl_pre hE hT hN ⟨hPc, hDc⟩⟩ rfl rfl hl.1 rfl (lv_room (Nat.le_of_ble_eq_true rfl)) dL_isRefused_196 ⟨by first | exact Nat.le_of_ble_eq_true rfl | (show (_ : Nat) ≤ 600; omega), by first | exact Nat.le_of_ble_eq_true rfl | (show (_ : Nat) ≤ 3000; omega)⟩) (fun r9 H1 hr9 hz9 hk9 => ?_)
    subst hr9
    have hP := xkept hP hk9
    have hPc := xkept hPc hk9
    have hT := hT.kept (fun a h1 _ => hk9 a h1)
    obtain ⟨hz, hk⟩ := xk_tr hz hk hz9 hk9
    clear hz9 hk9
    generalize H1 = H at hP hPc hT hz hk ⊢
    refine lv_sipush (v := (-1162)) hx hb dL_isRefused_199 (by decide) ?_
    refine lv_icmp_ne (tgt := 534) hx hb dL_isRefused_202 (by decide) (fun h => absurd h (by decide)) (fun _ => ?_)
    refine lv_aload_n hx hb dL_isRefused_205 rfl (lv_at hl 4 rfl) ?_
    refine lv_bipush (v := nI 7) hx hb dL_isRefused_206 (by decide) ?_
    refine lv_iload_n hx hb dL_isRefused_208 rfl (lv_at hl 3 rfl) ?_
    refine lv_if_eq (tgt := 221) hx hb dL_isRefused_209 (by decide) (fun _ => ?_) (fun h => absurd h (by decide))
    refine lv_bipush (v := nI 41) hx hb dL_isRefused_221 (by decide) ?_
    refine lv_iload_n hx hb dL_isRefused_223 rfl (lv_at hl 6 rfl) ?_
    refine lv_bipush (v := nI 30) hx hb dL_isRefused_224 (by decide) ?_
    refine lv_irem hx hb dL_isRefused_226 (by decide) ?_
    refine x_top (nI (X % 30)) (pk_rem (by omega) (by omega) (by omega)) ?_
    refine lv_iadd hx hb dL_isRefused_227 ?_
    refine x_top (nI (41 + (X % 30))) (xadd (by omega)) ?_
    refine lv_iconst (v := nI 0) hx hb dL_isRefused_228 (by decide) ?_
    refine lv_iconst (v := nI 0) hx hb dL_isRefused_229 (by decide) ?_
    refine xcri (vx_runSX (As := [.ref x, .int (nI 7), .int (nI (41 + (X % 30))), .int (nI 0), .int (nI 0)]) (rest := []) ⟨hx, hb, hml, hown, hts⟩ (a_thin_A l hst Ax x lv kp fL fK o ld b k FZ G hC (nI (41 + (X % 30))) (nI 0) (nI 0) (hi_th (by omega) (by omega)) hld hold) (vx_cwSW 5 hts gL_isRefused_L_act rfl rfl rfl (by decide +kernel) ⟨(Nat.le_of_ble_eq_true rfl), (Nat.le_of_ble_eq_true rfl)⟩) ⟨XPl_blind, XPl_pre hE hT hN ⟨hPc, hDc⟩⟩ rfl rfl hl.1 rfl (lv_room (Nat.le_of_ble_eq_true rfl)) dL_isRefused_230 ⟨by first | exact Nat.le_of_ble_eq_true rfl | (show (_ : Nat) ≤ 600; omega), by first | exact Nat.le_of_ble_eq_true rfl | (show (_ : Nat) ≤ 3000; omega)⟩) (fun r9 H1 hr9 hz9 hk9 => ?_)
    subst hr9
    have hP := xkept hP hk9
    have hPc := xkept hPc hk9
    have hT := hT.kept (fun a h1 _ => hk9 a h1)
    obtain ⟨hz, hk⟩ := xk_tr hz hk hz9 hk9
    clear hz9 hk9
    generalize H1 = H at hP hPc hT hz hk ⊢
    refine lv_sipush (v := (-1162)) hx hb dL_isRefused_233 (by decide) ?_
    refine lv_icmp_ne (tgt := 534) hx hb dL_isRefused_236 (by decide) (fun h => absurd h (by decide)) (fun _ => ?_)
    refine lv_aload_n hx hb dL_isRefused_239 rfl (lv_at hl 4 rfl) ?_
    refine lv_bipush (v := nI 7) hx hb dL_isRefused_240 (by decide) ?_
    refine lv_aload_n hx hb dL_isRefused_242 rfl (lv_at hl 5 rfl) ?_
    refine lv_iconst (v := nI 0) hx hb dL_isRefused_243 (by decide) ?_
    refine va_iald hx hb hK hP 0 0 rfl rfl (xin (by omega) (by omega)) dL_isRefused_244 ?_
    refine x_top (fm 0) (by rw [nI_clamp (by omega)]) ?_
    refine x_top (nI ld) (hm0) ?_
    refine lv_aload_n hx hb dL_isRefused_245 rfl (lv_at hl 5 rfl) ?_
    refine lv_iconst (v := nI 1) hx hb dL_isRefused_246 (by decide) ?_
    refine va_iald hx hb hK hP 0 0 rfl rfl (xin (by omega) (by omega)) dL_isRefused_247 ?_
    refine x_top (fm 1) (by rw [nI_clamp (by omega)]) ?_
    refine x_top (nI o) (hm1) ?_
    refine lv_isub hx hb dL_isRefused_248 ?_
    refine x_top (nI (ld - o)) (xsub (by omega)) ?_
    refine lv_iconst (v := nI 1) hx hb dL_isRefused_249 (by decide) ?_
    refine lv_iadd hx hb dL_isRefused_250 ?_
    refine x_top (nI ((ld - o) + 1)) (xadd (by omega)) ?_
    refine lv_iload_n hx hb dL_isRefused_251 rfl (lv_at hl 6 rfl) ?_
    refine lv_bipush (v := nI 20) hx hb dL_isRefused_252 (by decide) ?_
    refine lv_irem hx hb dL_isRefused_254 (by decide) ?_
    refine x_top (nI (X % 20)) (pk_rem (by omega) (by omega) (by omega)) ?_
    refine lv_iadd hx hb dL_isRefused_255 ?_
    refine x_top (nI (((ld - o) + 1) + (X % 20))) (xadd (by omega)) ?_
    refine lv_iconst (v := nI 0) hx hb dL_isRefused_256 (by decide) ?_
    refine lv_iconst (v := nI 0) hx hb dL_isRefused_257 (by decide) ?_
    refine xcri (vx_runSX (As := [.ref x, .int (nI 7), .int (nI (((ld - o) + 1) + (X % 20))), .int (nI 0), .int (nI 0)]) (rest := []) ⟨hx, hb, hml, hown, hts⟩ (a_thin_S l hst Ax x lv kp fL fK o ld b k FZ G hC (((ld - o) + 1) + (X % 20)) (nI 0) (nI 0) (by omega) (by omega) (by omega) hld hold) (vx_cwSW 5 hts gL_isRefused_L_act rfl rfl rfl (by decide +kernel) ⟨(Nat.le_of_ble_eq_true rfl), (Nat.le_of_ble_eq_true rfl)⟩) ⟨XPl_blind, XPl_pre hE hT hN ⟨hPc, hDc⟩⟩ rfl rfl hl.1 rfl (lv_room (Nat.le_of_ble_eq_true rfl)) dL_isRefused_258 ⟨by first | exact Nat.le_of_ble_eq_true rfl | (show (_ : Nat) ≤ 600; omega), by first | exact Nat.le_of_ble_eq_true rfl | (show (_ : Nat) ≤ 3000; omega)⟩) (fun r9 H1 hr9 hz9 hk9 => ?_)
    subst hr9
    have hP := xkept hP hk9
    have hPc := xkept hPc hk9
    have hT := hT.kept (fun a h1 _ => hk9 a h1)
    obtain ⟨hz, hk⟩ := xk_tr hz hk hz9 hk9
    clear hz9 hk9
    generalize H1 = H at hP hPc hT hz hk ⊢
    refine lv_sipush (v := (-1163)) hx hb dL_isRefused_261 (by decide) ?_
    refine lv_icmp_ne (tgt := 534) hx hb dL_isRefused_264 (by decide) (fun h => absurd h (by decide)) (fun _ => ?_)
    refine lv_aload_n hx hb dL_isRefused_267 rfl (lv_at hl 4 rfl) ?_
    refine lv_bipush (v := nI 8) hx hb dL_isRefused_268 (by decide) ?_
    refine lv_iload hx hb dL_isRefused_270 (lv_at hl 1 rfl) ?_
    refine lv_iconst (v := nI 0) hx hb dL_isRefused_272 (by decide) ?_
    refine lv_iconst (v := nI 0) hx hb dL_isRefused_273 (by decide) ?_
    refine xcri (vx_runSX (As := [.ref x, .int (nI 8), .int (nI (ld + 1 + (X % 30))), .int (nI 0), .int (nI 0)]) (rest := []) ⟨hx, hb, hml, hown, hts⟩ (a_restore_O l hst Ax x lv kp fL fK o ld b k FZ G hC (nI (ld + 1 + (X % 30))) (nI 0) (nI 0) hbd.1 hld hold) (vx_cwSW 5 hts gL_isRefused_L_act rfl rfl rfl (by decide +kernel) ⟨(Nat.le_of_ble_eq_true rfl), (Nat.le_of_ble_eq_true rfl)⟩) ⟨XPl_blind, XPl_pre hE hT hN ⟨hPc, hDc⟩⟩ rfl rfl hl.1 rfl (lv_room (Nat.le_of_ble_eq_true rfl)) dL_isRefused_274 ⟨by first | exact Nat.le_of_ble_eq_true rfl | (show (_ : Nat) ≤ 600; omega), by first | exact Nat.le_of_ble_eq_true rfl | (show (_ : Nat) ≤ 3000; omega)⟩) (fun r9 H1 hr9 hz9 hk9 => ?_)
    subst hr9
    have hP := xkept hP hk9
    have hPc := xkept hPc hk9
    have hT := hT.kept (fun a h1 _ => hk9 a h1)
    obtain ⟨hz, hk⟩ := xk_tr hz hk hz9 hk9
    clear hz9 hk9
    generalize H1 = H at hP hPc hT hz hk ⊢
    refine lv_sipush (v := (-1161)) hx hb dL_isRefused_277 (by decide) ?_
    refine lv_icmp_ne (tgt := 534) hx hb dL_isRefused_280 (by decide) (fun h => absurd h (by decide)) (fun _ => ?_)
    refine lv_aload_n hx hb dL_isRefused_283 rfl (lv_at hl 4 rfl) ?_
    refine lv_bipush (v := nI 8) hx hb dL_isRefused_284 (by decide) ?_
    refine lv_iconst (v := (-1)) hx hb dL_isRefused_286 (by decide) ?_
    refine lv_iconst (v := nI 0) hx hb dL_isRefused_287 (by decide) ?_
    refine lv_iconst (v := nI 0) hx hb dL_isRefused_288 (by decide) ?_
    refine xcri (vx_runSX (As := [.ref x, .int (nI 8), .int ((-1)), .int (nI 0), .int (nI 0)]) (rest := []) ⟨hx, hb, hml, hown, hts⟩ (a_restore_O l hst Ax x lv kp fL fK o ld b k FZ G hC ((-1)) (nI 0) (nI 0) (m1_kp hld) hld hold) (vx_cwSW 5 hts gL_isRefused_L_act rfl rfl rfl (by decide +kernel) ⟨(Nat.le_of_ble_eq_true rfl), (Nat.le_of_ble_eq_true rfl)⟩) ⟨XPl_blind, XPl_pre hE hT hN ⟨hPc, hDc⟩⟩ rfl rfl hl.1 rfl (lv_room (Nat.le_of_ble_eq_true rfl)) dL_isRefused_289 ⟨by first | exact Nat.le_of_ble_eq_true rfl | (show (_ : Nat) ≤ 600; omega), by first | exact Nat.le_of_ble_eq_true rfl | (show (_ : Nat) ≤ 3000; omega)⟩) (fun r9 H1 hr9 hz9 hk9 => ?_)
    subst hr9
    have hP := xkept hP hk9
    have hPc := xkept hPc hk9
    have hT := hT.kept (fun a h1 _ => hk9 a h1)
    obtain ⟨hz, hk⟩ := xk_tr hz hk hz9 hk9
    clear hz9 hk9
    generalize H1 = H at hP hPc hT hz hk ⊢
    refine lv_sipush (v := (-1161)) hx hb dL_isRefused_292 (by decide) ?_
    refine lv_icmp_ne (tgt := 534) hx hb dL_isRefused_295 (by decide) (fun h => absurd h (by decide)) (fun _ => ?_)
    refine lv_aload_n hx hb dL_isRefused_298 rfl (lv_at hl 5 rfl) ?_
    refine lv_iconst (v := nI 1) hx hb dL_isRefused_299 (by decide) ?_
    refine va_iald hx hb hK hP 0 0 rfl rfl (xin (by omega) (by omega)) dL_isRefused_300 ?_
    refine x_top (fm 1) (by rw [nI_clamp (by omega)]) ?_
    refine x_top (nI o) (hm1) ?_
    refine x_joinG (fun H locs ls => s.heap.size ≤ H.size ∧ (∀ q : Nat, q < s.heap.size → H[q]? = s.heap[q]?) ∧ locs = [] ∧ lv_has ls 12 [(6, .long (alL G (alH G o ld b) 6)), (5, .int (nI (ld + 1 + (X % 30)))), (4, .int (nI (6 + (X % 30)))), (3, .int (nI 0)), (0, .ref x), (1, .ref ma), (2, .int (nI X))]) 200 1000 359 [] ?_ (fun J => ?_)
    · intro H locs ls hJ
      obtain ⟨hz, hk, rfl, hl⟩ := hJ
      have hP := xkept hP0 hk
      have hPc := xkept hPc0 hk
      have hT := hT00.kept (fun a h1 _ => hk a h1)
      refine lv_aload_n hx hb dL_isRefused_359 rfl (lv_at hl 4 rfl) ?_
      refine lv_iconst (v := nI 0) hx hb dL_isRefused_360 (by decide) ?_
      refine lv_iload hx hb dL_isRefused_361 (lv_at hl 1 rfl) ?_
      refine lv_iconst (v := nI 0) hx hb dL_isRefused_363 (by decide) ?_
      refine lv_iconst (v := nI 0) hx hb dL_isRefused_364 (by decide) ?_
      refine xcri (vx_runSX (As := [.ref x, .int (nI 0), .int (nI (ld + 1 + (X % 30))), .int (nI 0), .int (nI 0)]) (rest := []) ⟨hx, hb, hml, hown, hts⟩ (o_kindAt l hst Ax x lv kp fL fK o ld b k FZ G hC (nI (ld + 1 + (X % 30))) (nI 0) (nI 0) hbd.at hld hold) (vx_cwSW 5 hts gL_isRefused_L_of rfl rfl rfl (by decide +kernel) ⟨(Nat.le_of_ble_eq_true rfl), (Nat.le_of_ble_eq_true rfl)⟩) ⟨XPl_blind, XPl_pre hE hT hN hPc⟩ rfl rfl hl.1 rfl (lv_room (Nat.le_of_ble_eq_true rfl)) dL_isRefused_365 ⟨by first | exact Nat.le_of_ble_eq_true rfl | (show (_ : Nat) ≤ 600; omega), by first | exact Nat.le_of_ble_eq_true rfl | (show (_ : Nat) ≤ 3000; omega)⟩) (fun r9 H1 hr9 hz9 hk9 => ?_)
      subst hr9
      have hP := xkept hP hk9
      have hPc := xkept hPc hk9
      have hT := hT.kept (fun a h1 _ => hk9 a h1)
      obtain ⟨hz, hk⟩ := xk_tr hz hk hz9 hk9
      clear hz9 hk9
      generalize H1 = H at hP hPc hT hz hk ⊢
      refine lv_sipush (v := (-1161)) hx hb dL_isRefused_368 (by decide) ?_
      refine lv_icmp_ne (tgt := 534) hx hb dL_isRefused_371 (by decide) (fun h => absurd h (by decide)) (fun _ => ?_)
      refine lv_aload_n hx hb dL_isRefused_374 rfl (lv_at hl 4 rfl) ?_
      refine lv_iconst (v := nI 0) hx hb dL_isRefused_375 (by decide) ?_
      refine lv_iconst (v := (-1)) hx hb dL_isRefused_376 (by decide) ?_
      refine lv_iload hx hb dL_isRefused_377 (lv_at hl 2 rfl) ?_
      refine lv_iconst (v := nI 0) hx hb dL_isRefused_379 (by decide) ?_
      refine xcri (vx_runSX (As := [.ref x, .int (nI 0), .int ((-1)), .int (nI (6 + (X % 30))), .int (nI 0)]) (rest := []) ⟨hx, hb, hml, hown, hts⟩ (o_kindAt l hst Ax x lv kp fL fK o ld b k FZ G hC ((-1)) (nI (6 + (X % 30))) (nI 0) (pl_at hsix) hld hold) (vx_cwSW 5 hts gL_isRefused_L_of rfl rfl rfl (by decide +kernel) ⟨(Nat.le_of_ble_eq_true rfl), (Nat.le_of_ble_eq_true rfl)⟩) ⟨XPl_blind, XPl_pre hE hT hN hPc⟩ rfl rfl hl.1 rfl (lv_room (Nat.le_of_ble_eq_true rfl)) dL_isRefused_380 ⟨by first | exact Nat.le_of_ble_eq_true rfl | (show (_ : Nat) ≤ 600; omega), by first | exact Nat.le_of_ble_eq_true rfl | (show (_ : Nat) ≤ 3000; omega)⟩) (fun r9 H1 hr9 hz9 hk9 => ?_)
      subst hr9
      have hP := xkept hP hk9
      have hPc := xkept hPc hk9
      have hT := hT.kept (fun a h1 _ => hk9 a h1)
      obtain ⟨hz, hk⟩ := xk_tr hz hk hz9 hk9
      clear hz9 hk9
      generalize H1 = H at hP hPc hT hz hk ⊢
      refine lv_sipush (v := (-1161)) hx hb dL_isRefused_383 (by decide) ?_
      refine lv_icmp_ne (tgt := 534) hx hb dL_isRefused_386 (by decide) (fun h => absurd h (by decide)) (fun _ => ?_)
      refine lv_aload_n hx hb dL_isRefused_389 rfl (lv_at hl 4 rfl) ?_
      refine lv_iconst (v := nI 1) hx hb dL_isRefused_390 (by decide) ?_
      refine lv_iload hx hb dL_isRefused_391 (lv_at hl 1 rfl) ?_
      refine lv_iconst (v := nI 0) hx hb dL_isRefused_393 (by decide) ?_
      refine lv_iconst (v := nI 0) hx hb dL_isRefused_394 (by decide) ?_
      refine xcri (vx_runSX (As := [.ref x, .int (nI 1), .int (nI (ld + 1 + (X % 30))), .int (nI 0), .int (nI 0)]) (rest := []) ⟨hx, hb, hml, hown, hts⟩ (o_numberAt l hst Ax x lv kp fL fK o ld b k FZ G hC (nI (ld + 1 + (X % 30))) (nI 0) (nI 0) hbd.nm hld hold) (vx_cwSW 5 hts gL_isRefused_L_of rfl rfl rfl (by decide +kernel) ⟨(Nat.le_of_ble_eq_true rfl), (Nat.le_of_ble_eq_true rfl)⟩) ⟨XPl_blind, XPl_pre hE hT hN hPc⟩ rfl rfl hl.1 rfl (lv_room (Nat.le_of_ble_eq_true rfl)) dL_isRefused_395 ⟨by first | exact Nat.le_of_ble_eq_true rfl | (show (_ : Nat) ≤ 600; omega), by first | exact Nat.le_of_ble_eq_true rfl | (show (_ : Nat) ≤ 3000; omega)⟩) (fun r9 H1 hr9 hz9 hk9 => ?_)
      subst hr9
      have hP := xkept hP hk9
      have hPc := xkept hPc hk9
      have hT := hT.kept (fun a h1 _ => hk9 a h1)
      obtain ⟨hz, hk⟩ := xk_tr hz hk hz9 hk9
      clear hz9 hk9
      generalize H1 = H at hP hPc hT hz hk ⊢
      refine lv_sipush (v := (-1161)) hx hb dL_isRefused_398 (by decide) ?_
      refine lv_icmp_ne (tgt := 534) hx hb dL_isRefused_401 (by decide) (fun h => absurd h (by decide)) (fun _ => ?_)
      refine lv_aload_n hx hb dL_isRefused_404 rfl (lv_at hl 4 rfl) ?_
      refine lv_iconst (v := nI 1) hx hb dL_isRefused_405 (by decide) ?_
      refine lv_aload_n hx hb dL_isRefused_406 rfl (lv_at hl 5 rfl) ?_
      refine lv_iconst (v := nI 0) hx hb dL_isRefused_407 (by decide) ?_
      refine va_iald hx hb hK hP 0 0 rfl rfl (xin (by omega) (by omega)) dL_isRefused_408 ?_
      refine x_top (fm 0) (by rw [nI_clamp (by omega)]) ?_
      refine x_top (nI ld) (hm0) ?_
      refine lv_iload hx hb dL_isRefused_409 (lv_at hl 2 rfl) ?_
      refine lv_iconst (v := nI 0) hx hb dL_isRefused_411 (by decide) ?_
      refine xcri (vx_runSX (As := [.ref x, .int (nI 1), .int (nI ld), .int (nI (6 + (X % 30))), .int (nI 0)]) (rest := []) ⟨hx, hb, hml, hown, hts⟩ (o_numberAt l hst Ax x lv kp fL fK o ld b k FZ G hC (nI ld) (nI (6 + (X % 30))) (nI 0) (pl_nm hsix) hld hold) (vx_cwSW 5 hts gL_isRefused_L_of rfl rfl rfl (by decide +kernel) ⟨(Nat.le_of_ble_eq_true rfl), (Nat.le_of_ble_eq_true rfl)⟩) ⟨XPl_blind, XPl_pre hE hT hN hPc⟩ rfl rfl hl.1 rfl (lv_room (Nat.le_of_ble_eq_true rfl)) dL_isRefused_412 ⟨by first | exact Nat.le_of_ble_eq_true rfl | (show (_ : Nat) ≤ 600; omega), by first | exact Nat.le_of_ble_eq_true rfl | (show (_ : Nat) ≤ 3000; omega)⟩) (fun r9 H1 hr9 hz9 hk9 => ?_)
      subst hr9
      have hP := xkept hP hk9
      have hPc := xkept hPc hk9
      have hT := hT.kept (fun a h1 _ => hk9 a h1)
      obtain ⟨hz, hk⟩ := xk_tr hz hk hz9 hk9
      clear hz9 hk9
      generalize H1 = H at hP hPc hT hz hk ⊢
      refine lv_sipush (v := (-1161)) hx hb dL_isRefused_415 (by decide) ?_
      refine lv_icmp_ne (tgt := 534) hx hb dL_isRefused_418 (by decide) (fun h => absurd h (by decide)) (fun _ => ?_)
      refine lv_aload_n hx hb dL_isRefused_421 rfl (lv_at hl 4 rfl) ?_
      refine lv_iconst (v := nI 1) hx hb dL_isRefused_422 (by decide) ?_
      refine lv_iconst (v := (-1)) hx hb dL_isRefused_423 (by decide) ?_
      refine lv_iconst (v := nI 0) hx hb dL_isRefused_424 (by decide) ?_
      refine lv_iload_n hx hb dL_isRefused_425 rfl (lv_at hl 3 rfl) ?_
      refine lv_if_eq (tgt := 438) hx hb dL_isRefused_426 (by decide) (fun _ => ?_) (fun h => absurd h (by decide))
      refine lv_bipush (v := nI 12) hx hb dL_isRefused_438 (by decide) ?_
      refine lv_iload_n hx hb dL_isRefused_440 rfl (lv_at hl 6 rfl) ?_
      refine lv_bipush (v := nI 30) hx hb dL_isRefused_441 (by decide) ?_
      refine lv_irem hx hb dL_isRefused_443 (by decide) ?_
      refine x_top (nI (X % 30)) (pk_rem (by omega) (by omega) (by omega)) ?_
      refine lv_iadd hx hb dL_isRefused_444 ?_
      refine x_top (nI (12 + (X % 30))) (xadd (by omega)) ?_
      refine xcri (vx_runSX (As := [.ref x, .int (nI 1), .int ((-1)), .int (nI 0), .int (nI (12 + (X % 30)))]) (rest := []) ⟨hx, hb, hml, hown, hts⟩ (o_numberAt l hst Ax x lv kp fL fK o ld b k FZ G hC ((-1)) (nI 0) (nI (12 + (X % 30))) (nm_hi (by omega) (by omega)) hld hold) (vx_cwSW 5 hts gL_isRefused_L_of rfl rfl rfl (by decide +kernel) ⟨(Nat.le_of_ble_eq_true rfl), (Nat.le_of_ble_eq_true rfl)⟩) ⟨XPl_blind, XPl_pre hE hT hN hPc⟩ rfl rfl hl.1 rfl (lv_room (Nat.le_of_ble_eq_true rfl)) dL_isRefused_445 ⟨by first | exact Nat.le_of_ble_eq_true rfl | (show (_ : Nat) ≤ 600; omega), by first | exact Nat.le_of_ble_eq_true rfl | (show (_ : Nat) ≤ 3000; omega)⟩) (fun r9 H1 hr9 hz9 hk9 => ?_)
      subst hr9
      have hP := xkept hP hk9
      have hPc := xkept hPc hk9
      have hT := hT.kept (fun a h1 _ => hk9 a h1)
      obtain ⟨hz, hk⟩ := xk_tr hz hk hz9 hk9
      clear hz9 hk9
      generalize H1 = H at hP hPc hT hz hk ⊢
      refine lv_sipush (v := (-1161)) hx hb dL_isRefused_448 (by decide) ?_
      refine lv_icmp_ne (tgt := 534) hx hb dL_isRefused_451 (by decide) (fun h => absurd h (by decide)) (fun _ => ?_)
      refine lv_aload_n hx hb dL_isRefused_454 rfl (lv_at hl 4 rfl) ?_
      refine lv_iconst (v := nI 2) hx hb dL_isRefused_455 (by decide) ?_
      refine lv_iload hx hb dL_isRefused_456 (lv_at hl 1 rfl) ?_
      refine lv_iconst (v := nI 0) hx hb dL_isRefused_458 (by decide) ?_
      refine lv_iconst (v := nI 0) hx hb dL_isRefused_459 (by decide) ?_
      refine xcri (vx_runSX (As := [.ref x, .int (nI 2), .int (nI (ld + 1 + (X % 30))), .int (nI 0), .int (nI 0)]) (rest := []) ⟨hx, hb, hml, hown, hts⟩ (o_rightsAt l hst Ax x lv kp fL fK o ld b k FZ G hC (nI (ld + 1 + (X % 30))) (nI 0) (nI 0) hbd.at hld hold) (vx_cwSW 5 hts gL_isRefused_L_of rfl rfl rfl (by decide +kernel) ⟨(Nat.le_of_ble_eq_true rfl), (Nat.le_of_ble_eq_true rfl)⟩) ⟨XPl_blind, XPl_pre hE hT hN hPc⟩ rfl rfl hl.1 rfl (lv_room (Nat.le_of_ble_eq_true rfl)) dL_isRefused_460 ⟨by first | exact Nat.le_of_ble_eq_true rfl | (show (_ : Nat) ≤ 600; omega), by first | exact Nat.le_of_ble_eq_true rfl | (show (_ : Nat) ≤ 3000; omega)⟩) (fun r9 H1 hr9 hz9 hk9 => ?_)
      subst hr9
      have hP := xkept hP hk9
      have hPc := xkept hPc hk9
      have hT := hT.kept (fun a h1 _ => hk9 a h1)
      obtain ⟨hz, hk⟩ := xk_tr hz hk hz9 hk9
      clear hz9 hk9
      generalize H1 = H at hP hPc hT hz hk ⊢
      refine lv_sipush (v := (-1161)) hx hb dL_isRefused_463 (by decide) ?_
      refine lv_icmp_ne (tgt := 534) hx hb dL_isRefused_466 (by decide) (fun h => absurd h (by decide)) (fun _ => ?_)
      refine lv_aload_n hx hb dL_isRefused_469 rfl (lv_at hl 4 rfl) ?_
      refine lv_iconst (v := nI 2) hx hb dL_isRefused_470 (by decide) ?_
      refine lv_iconst (v := (-1)) hx hb dL_isRefused_471 (by decide) ?_
      refine lv_iload hx hb dL_isRefused_472 (lv_at hl 2 rfl) ?_
      refine lv_iconst (v := nI 0) hx hb dL_isRefused_474 (by decide) ?_
      refine xcri (vx_runSX (As := [.ref x, .int (nI 2), .int ((-1)), .int (nI (6 + (X % 30))), .int (nI 0)]) (rest := []) ⟨hx, hb, hml, hown, hts⟩ (o_rightsAt l hst Ax x lv kp fL fK o ld b k FZ G hC ((-1)) (nI (6 + (X % 30))) (nI 0) (pl_at hsix) hld hold) (vx_cwSW 5 hts gL_isRefused_L_of rfl rfl rfl (by decide +kernel) ⟨(Nat.le_of_ble_eq_true rfl), (Nat.le_of_ble_eq_true rfl)⟩) ⟨XPl_blind, XPl_pre hE hT hN hPc⟩ rfl rfl hl.1 rfl (lv_room (Nat.le_of_ble_eq_true rfl)) dL_isRefused_475 ⟨by first | exact Nat.le_of_ble_eq_true rfl | (show (_ : Nat) ≤ 600; omega), by first | exact Nat.le_of_ble_eq_true rfl | (show (_ : Nat) ≤ 3000; omega)⟩) (fun r9 H1 hr9 hz9 hk9 => ?_)
      subst hr9
      have hP := xkept hP hk9
      have hPc := xkept hPc hk9
      have hT := hT.kept (fun a h1 _ => hk9 a h1)
      obtain ⟨hz, hk⟩ := xk_tr hz hk hz9 hk9
      clear hz9 hk9
      generalize H1 = H at hP hPc hT hz hk ⊢
      refine lv_sipush (v := (-1161)) hx hb dL_isRefused_478 (by decide) ?_
      refine lv_icmp_ne (tgt := 534) hx hb dL_isRefused_481 (by decide) (fun h => absurd h (by decide)) (fun _ => ?_)
      refine lv_aload_n hx hb dL_isRefused_484 rfl (lv_at hl 4 rfl) ?_
      refine lv_iconst (v := nI 3) hx hb dL_isRefused_485 (by decide) ?_
      refine lv_iload hx hb dL_isRefused_486 (lv_at hl 1 rfl) ?_
      refine lv_iconst (v := nI 0) hx hb dL_isRefused_488 (by decide) ?_
      refine lv_iconst (v := nI 0) hx hb dL_isRefused_489 (by decide) ?_
      refine xcri (vx_runSX (As := [.ref x, .int (nI 3), .int (nI (ld + 1 + (X % 30))), .int (nI 0), .int (nI 0)]) (rest := []) ⟨hx, hb, hml, hown, hts⟩ (o_sizeAt l hst Ax x lv kp fL fK o ld b k FZ G hC (nI (ld + 1 + (X % 30))) (nI 0) (nI 0) hbd.sz hld hold) (vx_cwSW 5 hts gL_isRefused_L_of rfl rfl rfl (by decide +kernel) ⟨(Nat.le_of_ble_eq_true rfl), (Nat.le_of_ble_eq_true rfl)⟩) ⟨XPl_blind, XPl_pre hE hT hN hPc⟩ rfl rfl hl.1 rfl (lv_room (Nat.le_of_ble_eq_true rfl)) dL_isRefused_490 ⟨by first | exact Nat.le_of_ble_eq_true rfl | (show (_ : Nat) ≤ 600; omega), by first | exact Nat.le_of_ble_eq_true rfl | (show (_ : Nat) ≤ 3000; omega)⟩) (fun r9 H1 hr9 hz9 hk9 => ?_)
      subst hr9
      have hP := xkept hP hk9
      have hPc := xkept hPc hk9
      have hT := hT.kept (fun a h1 _ => hk9 a h1)
      obtain ⟨hz, hk⟩ := xk_tr hz hk hz9 hk9
      clear hz9 hk9
      generalize H1 = H at hP hPc hT hz hk ⊢
      refine lv_sipush (v := (-1161)) hx hb dL_isRefused_493 (by decide) ?_
      refine lv_icmp_ne (tgt := 534) hx hb dL_isRefused_496 (by decide) (fun h => absurd h (by decide)) (fun _ => ?_)
      refine lv_aload_n hx hb dL_isRefused_499 rfl (lv_at hl 4 rfl) ?_
      refine lv_iconst (v := nI 3) hx hb dL_isRefused_500 (by decide) ?_
      refine lv_iconst (v := (-1)) hx hb dL_isRefused_501 (by decide) ?_
      refine lv_iconst (v := nI 0) hx hb dL_isRefused_502 (by decide) ?_
      refine lv_iconst (v := nI 0) hx hb dL_isRefused_503 (by decide) ?_
      refine xcri (vx_runSX (As := [.ref x, .int (nI 3), .int ((-1)), .int (nI 0), .int (nI 0)]) (rest := []) ⟨hx, hb, hml, hown, hts⟩ (o_sizeAt l hst Ax x lv kp fL fK o ld b k FZ G hC ((-1)) (nI 0) (nI 0) (m1_sz hld) hld hold) (vx_cwSW 5 hts gL_isRefused_L_of rfl rfl rfl (by decide +kernel) ⟨(Nat.le_of_ble_eq_true rfl), (Nat.le_of_ble_eq_true rfl)⟩) ⟨XPl_blind, XPl_pre hE hT hN hPc⟩ rfl rfl hl.1 rfl (lv_room (Nat.le_of_ble_eq_true rfl)) dL_isRefused_504 ⟨by first | exact Nat.le_of_ble_eq_true rfl | (show (_ : Nat) ≤ 600; omega), by first | exact Nat.le_of_ble_eq_true rfl | (show (_ : Nat) ≤ 3000; omega)⟩) (fun r9 H1 hr9 hz9 hk9 => ?_)
      subst hr9
      have hP := xkept hP hk9
      have hPc := xkept hPc hk9
      have hT := hT.kept (fun a h1 _ => hk9 a h1)
      obtain ⟨hz, hk⟩ := xk_tr hz hk hz9 hk9
      clear hz9 hk9
      generalize H1 = H at hP hPc hT hz hk ⊢
      refine lv_sipush (v := (-1161)) hx hb dL_isRefused_507 (by decide) ?_
      refine lv_icmp_ne (tgt := 534) hx hb dL_isRefused_510 (by decide) (fun h => absurd h (by decide)) (fun _ => ?_)
      refine lv_aload_n hx hb dL_isRefused_513 rfl (lv_at hl 4 rfl) ?_
      refine lv_iconst (v := nI 3) hx hb dL_isRefused_514 (by decide) ?_
      refine lv_aload_n hx hb dL_isRefused_515 rfl (lv_at hl 5 rfl) ?_
      refine lv_iconst (v := nI 0) hx hb dL_isRefused_516 (by decide) ?_
      refine va_iald hx hb hK hP 0 0 rfl rfl (xin (by omega) (by omega)) dL_isRefused_517 ?_
      refine x_top (fm 0) (by rw [nI_clamp (by omega)]) ?_
      refine x_top (nI ld) (hm0) ?_
      refine lv_iload hx hb dL_isRefused_518 (lv_at hl 2 rfl) ?_
      refine lv_iconst (v := nI 0) hx hb dL_isRefused_520 (by decide) ?_
      refine xcri (vx_runSX (As := [.ref x, .int (nI 3), .int (nI ld), .int (nI (6 + (X % 30))), .int (nI 0)]) (rest := []) ⟨hx, hb, hml, hown, hts⟩ (o_sizeAt l hst Ax x lv kp fL fK o ld b k FZ G hC (nI ld) (nI (6 + (X % 30))) (nI 0) (pl_sz hsix) hld hold) (vx_cwSW 5 hts gL_isRefused_L_of rfl rfl rfl (by decide +kernel) ⟨(Nat.le_of_ble_eq_true rfl), (Nat.le_of_ble_eq_true rfl)⟩) ⟨XPl_blind, XPl_pre hE hT hN hPc⟩ rfl rfl hl.1 rfl (lv_room (Nat.le_of_ble_eq_true rfl)) dL_isRefused_521 ⟨by first | exact Nat.le_of_ble_eq_true rfl | (show (_ : Nat) ≤ 600; omega), by first | exact Nat.le_of_ble_eq_true rfl | (show (_ : Nat) ≤ 3000; omega)⟩) (fun r9 H1 hr9 hz9 hk9 => ?_)
      subst hr9
      have hP := xkept hP hk9
      have hPc := xkept hPc hk9
      have hT := hT.kept (fun a h1 _ => hk9 a h1)
      obtain ⟨hz, hk⟩ := xk_tr hz hk hz9 hk9
      clear hz9 hk9
      generalize H1 = H at hP hPc hT hz hk ⊢
      refine lv_sipush (v := (-1161)) hx hb dL_isRefused_524 (by decide) ?_
      refine lv_icmp_ne (tgt := 534) hx hb dL_isRefused_527 (by decide) (fun h => absurd h (by decide)) (fun _ => ?_)
      refine lv_iconst (v := nI 1) hx hb dL_isRefused_530 (by decide) ?_
      refine lv_goto (tgt := 535) hx hb dL_isRefused_531 (by decide) ?_
      refine lv_istore (lv' := [(8, .int (nI 1)), (6, .long (alL G (alH G o ld b) 6)), (5, .int (nI (ld + 1 + (X % 30)))), (4, .int (nI (6 + (X % 30)))), (3, .int (nI 0)), (0, .ref x), (1, .ref ma), (2, .int (nI X))]) hx hb dL_isRefused_535 hl (by decide) rfl (fun ls hl => ?_)
      refine lv_iconst (v := nI 0) hx hb dL_isRefused_537 (by decide) ?_
      refine lv_istore (lv' := [(9, .int (nI 0)), (8, .int (nI 1)), (6, .long (alL G (alH G o ld b) 6)), (5, .int (nI (ld + 1 + (X % 30)))), (4, .int (nI (6 + (X % 30)))), (3, .int (nI 0)), (0, .ref x), (1, .ref ma), (2, .int (nI X))]) hx hb dL_isRefused_538 hl (by decide) rfl (fun ls hl => ?_)
      refine W.widen (k := 300 + 40 * (7 - 7)) (n := 1500 + 200 * (7 - 7)) (Nat.le_of_ble_eq_true rfl) (Nat.le_of_ble_eq_true rfl) ?_
      refine x_loopC (fun n => 300 + 40 * (7 - n)) (fun n => 1500 + 200 * (7 - n)) (fun n H locs ls => ∃ j : Nat, j ≤ 6 ∧ 6 < j + n ∧ n ≤ 7 ∧ s.heap.size ≤ H.size ∧ (∀ q : Nat, q < s.heap.size → H[q]? = s.heap[q]?) ∧ locs = [] ∧ lv_has ls 12 [(9, .int (nI j)), (8, .int (nI 1)), (6, .long (alL G (alH G o ld b) 6)), (5, .int (nI (ld + 1 + (X % 30)))), (4, .int (nI (6 + (X % 30)))), (3, .int (nI 0)), (0, .ref x), (1, .ref ma), (2, .int (nI X))]) 7 ⟨0, by omega, by omega, by omega, hz, hk, rfl, lv_sub hl [0, 1, 2, 3, 4, 5, 6, 7, 8] rfl⟩ (fun H locs ls h => by obtain ⟨j, hj, hn, -⟩ := h; omega) (fun n H locs ls h ih => ?_)
      obtain ⟨j, hj, hn, hn7, hz, hk, rfl, hl⟩ := h
      have hP := xkept hP0 hk
      have hPc := xkept hPc0 hk
      have hT := hT00.kept (fun a h1 _ => hk a h1)
      refine lv_iload hx hb dL_isRefused_540 (lv_at hl 0 rfl) ?_
      refine lv_bipush (v := nI 6) hx hb dL_isRefused_542 (by decide) ?_
      refine lv_icmp_ge (tgt := 813) hx hb dL_isRefused_544 (by decide) (fun c544 => ?_) (fun c544 => ?_)
      · have c544 : 6 ≤ j := (xle (by omega) (by omega)).mp c544
        refine lv_iload hx hb dL_isRefused_813 (lv_at hl 1 rfl) ?_
        refine lv_if_eq (tgt := 832) hx hb dL_isRefused_815 (by decide) (fun h => absurd h (by decide)) (fun _ => ?_)
        refine lv_aload_n hx hb dL_isRefused_818 rfl (lv_at hl 6 rfl) ?_
        refine xc_sje (va_runS (As := [.ref x]) (rest := []) ⟨hx, hb, hml, hown, hts⟩ (c_L_all l hst Ax x lv kp fL fK o ld b k FZ G hC hbb hld hold) (va_cwS 1 hts gL_isRefused_L_all rfl rfl rfl (by decide +kernel) ⟨(Nat.le_of_ble_eq_true rfl), (Nat.le_of_ble_eq_true rfl)⟩) ⟨XPx_blind, XPx_pre hE hT hPc⟩ rfl rfl hl.1 rfl (lv_room (Nat.le_of_ble_eq_true rfl)) dL_isRefused_819 ⟨by first | exact Nat.le_of_ble_eq_true rfl | (show (_ : Nat) ≤ 600; omega), by first | exact Nat.le_of_ble_eq_true rfl | (show (_ : Nat) ≤ 3000; omega)⟩) ?_
        refine lv_lload hx hb dL_isRefused_822 (lv_at hl 2 rfl) ?_
        refine W.lcmp hx hb dL_isRefused_824 ?_
        refine x_top (nI 0) (lg_self _) ?_
        refine lv_if_ne (tgt := 832) hx hb dL_isRefused_825 (by decide) (fun h => absurd h (by decide)) (fun _ => ?_)
        refine lv_iconst (v := nI 1) hx hb dL_isRefused_828 (by decide) ?_
        refine lv_goto (tgt := 833) hx hb dL_isRefused_829 (by decide) ?_
        refine W.widen (k := 600) (n := 3000) (by omega) (by omega) ?_
        exact W.zret hx hb hr (xnb _ (by omega)) (fun t9 ht9 hW9 => ⟨_, rfl, rfl, by rw [ht9]; exact hz, by rw [ht9]; exact hk⟩) (fun _ h => nomatch h) dL_isRefused_833
      · have c544 : ¬ 6 ≤ j := fun h => c544 ((xle (by omega) (by omega)).mpr h)
        obtain ⟨kk, rr, ek, hk2, er, hr7, hlen, hnum, hk0, hk2l⟩ := hWG (246 + j) (by omega)
        refine lv_iload hx hb dL_isRefused_547 (lv_at hl 1 rfl) ?_
        refine lv_if_eq (tgt := 813) hx hb dL_isRefused_549 (by decide) (fun h => absurd h (by decide)) (fun _ => ?_)
        refine lv_aload_n hx hb dL_isRefused_552 rfl (lv_at hl 6 rfl) ?_
        refine lv_iconst (v := (-1)) hx hb dL_isRefused_553 (by decide) ?_
        refine lv_iload hx hb dL_isRefused_554 (lv_at hl 0 rfl) ?_
        refine xcr (vx_runV (As := [.int ((-1)), .int (nI j)]) (rest := []) ⟨hx, hb, hml, hown, hts⟩ (c_X1_kindAt l hst Ax x lv kp fL fK o ld b k FZ G hC ((-1)) (nI j) hld hold) (cwV 2 hts gL_isRefused_X1_kindAt rfl rfl rfl (by decide +kernel) ⟨(Nat.le_of_ble_eq_true rfl), (Nat.le_of_ble_eq_true rfl)⟩) ⟨XPx_blind, va_recv hK hPc (ci := 1) (q0 := 0) rfl rfl, XPx_pre hE hT hPc⟩ rfl rfl hl.1 rfl (lv_room (Nat.le_of_ble_eq_true rfl)) dL_isRefused_556 ⟨by first | exact Nat.le_of_ble_eq_true rfl | (show (_ : Nat) ≤ 600; omega), by first | exact Nat.le_of_ble_eq_true rfl | (show (_ : Nat) ≤ 3000; omega)⟩) (rq_no (AT_l (by omega))) (rq_k hld (AT_l (by omega))) ?_
        refine x_top (nI kk) (ek) ?_
        refine lv_istore (lv' := [(10, .int (nI kk)), (9, .int (nI j)), (8, .int (nI 1)), (6, .long (alL G (alH G o ld b) 6)), (5, .int (nI (ld + 1 + (X % 30)))), (4, .int (nI (6 + (X % 30)))), (3, .int (nI 0)), (0, .ref x), (1, .ref ma), (2, .int (nI X))]) hx hb dL_isRefused_559 hl (by decide) rfl (fun ls hl => ?_)
        refine lv_aload_n hx hb dL_isRefused_561 rfl (lv_at hl 7 rfl) ?_
        refine lv_iconst (v := (-1)) hx hb dL_isRefused_562 (by decide) ?_
        refine lv_iload hx hb dL_isRefused_563 (lv_at hl 1 rfl) ?_
        refine xc_si2 (va_runS (As := [.ref x, .int ((-1)), .int (nI j)]) (rest := []) ⟨hx, hb, hml, hown, hts⟩ (c_L_length l hst Ax x lv kp fL fK o ld b k FZ G hC ((-1)) (nI j) (246 + j) (AT_l (by omega)) (hWG _ (by omega)) hld hold) (va_cwS 3 hts gL_isRefused_L_length rfl rfl rfl (by decide +kernel) ⟨(Nat.le_of_ble_eq_true rfl), (Nat.le_of_ble_eq_true rfl)⟩) ⟨XPx_blind, XPx_pre hE hT hPc⟩ rfl rfl hl.1 rfl (lv_room (Nat.le_of_ble_eq_true rfl)) dL_isRefused_565 ⟨by first | exact Nat.le_of_ble_eq_true rfl | (show (_ : Nat) ≤ 600; omega), by first | exact Nat.le_of_ble_eq_true rfl | (show (_ : Nat) ≤ 3000; omega)⟩) ?_
        refine lv_istore (lv' := [(11, .int (nI ((G (246 + j)).2.2.1))), (10, .int (nI kk)), (9, .int (nI j)), (8, .int (nI 1)), (6, .long (alL G (alH G o ld b) 6)), (5, .int (nI (ld + 1 + (X % 30)))), (4, .int (nI (6 + (X % 30)))), (3, .int (nI 0)), (0, .ref x), (1, .ref ma), (2, .int (nI X))]) hx hb dL_isRefused_568 hl (by decide) rfl (fun ls hl => ?_)
        refine lv_iload hx hb dL_isRefused_570 (lv_at hl 1 rfl) ?_
        refine lv_if_ne (tgt := 598) hx hb dL_isRefused_572 (by decide) (fun c572 => ?_) (fun c572 => ?_)
        · have c572 : ¬ nI kk = nI 0 := c572
          have c572 : ¬ kk = 0 := fun h => c572 ((xeq (by omega) (by omega)).mpr h)
          refine lv_aload_n hx hb dL_isRefused_598 rfl (lv_at hl 8 rfl) ?_
          refine lv_iconst (v := nI 5) hx hb dL_isRefused_599 (by decide) ?_
          refine lv_iload hx hb dL_isRefused_600 (lv_at hl 2 rfl) ?_
          refine lv_iload_n hx hb dL_isRefused_602 rfl (lv_at hl 7 rfl) ?_
          refine lv_if_eq (tgt := 615) hx hb dL_isRefused_603 (by decide) (fun _ => ?_) (fun h => absurd h (by decide))
          refine lv_bipush (v := nI 8) hx hb dL_isRefused_615 (by decide) ?_
          refine lv_iload_n hx hb dL_isRefused_617 rfl (lv_at hl 10 rfl) ?_
          refine lv_bipush (v := nI 30) hx hb dL_isRefused_618 (by decide) ?_
          refine lv_irem hx hb dL_isRefused_620 (by decide) ?_
          refine x_top (nI (X % 30)) (pk_rem (by omega) (by omega) (by omega)) ?_
          refine lv_iadd hx hb dL_isRefused_621 ?_
          refine x_top (nI (8 + (X % 30))) (xadd (by omega)) ?_
          refine lv_iconst (v := nI 0) hx hb dL_isRefused_622 (by decide) ?_
          refine xcri (vx_runSX (As := [.ref x, .int (nI 5), .int (nI j), .int (nI (8 + (X % 30))), .int (nI 0)]) (rest := []) ⟨hx, hb, hml, hown, hts⟩ (a_setRights_A l hst Ax x lv kp fL fK o ld b k FZ G hC (j := j) (by omega) (nI (8 + (X % 30))) (nI 0) (fun h => absurd ((xeq (by omega) (by omega)).mp (ek.symm.trans h)) (by omega)) (hi_no (by omega) (by omega))) (vx_cwSW 5 hts gL_isRefused_L_act rfl rfl rfl (by decide +kernel) ⟨(Nat.le_of_ble_eq_true rfl), (Nat.le_of_ble_eq_true rfl)⟩) ⟨XPl_blind, XPl_pre hE hT hN ⟨hPc, hDc⟩⟩ rfl rfl hl.1 rfl (lv_room (Nat.le_of_ble_eq_true rfl)) dL_isRefused_623 ⟨by first | exact Nat.le_of_ble_eq_true rfl | (show (_ : Nat) ≤ 600; omega), by first | exact Nat.le_of_ble_eq_true rfl | (show (_ : Nat) ≤ 3000; omega)⟩) (fun r9 H1 hr9 hz9 hk9 => ?_)
          subst hr9
          have hP := xkept hP hk9
          have hPc := xkept hPc hk9
          have hT := hT.kept (fun a h1 _ => hk9 a h1)
          obtain ⟨hz, hk⟩ := xk_tr hz hk hz9 hk9
          clear hz9 hk9
          generalize H1 = H at hP hPc hT hz hk ⊢
          refine lv_sipush (v := (-1162)) hx hb dL_isRefused_626 (by decide) ?_
          refine lv_icmp_ne (tgt := 636) hx hb dL_isRefused_629 (by decide) (fun h => absurd h (by decide)) (fun _ => ?_)
          refine lv_iconst (v := nI 1) hx hb dL_isRefused_632 (by decide) ?_
          refine lv_goto (tgt := 637) hx hb dL_isRefused_633 (by decide) ?_
          refine lv_istore (lv' := [(8, .int (nI 1)), (11, .int (nI ((G (246 + j)).2.2.1))), (10, .int (nI kk)), (9, .int (nI j)), (6, .long (alL G (alH G o ld b) 6)), (5, .int (nI (ld + 1 + (X % 30)))), (4, .int (nI (6 + (X % 30)))), (3, .int (nI 0)), (0, .ref x), (1, .ref ma), (2, .int (nI X))]) hx hb dL_isRefused_637 hl (by decide) rfl (fun ls hl => ?_)
          refine lv_iload hx hb dL_isRefused_639 (lv_at hl 0 rfl) ?_
          refine lv_if_eq (tgt := 739) hx hb dL_isRefused_641 (by decide) (fun h => absurd h (by decide)) (fun _ => ?_)
          refine lv_iload hx hb dL_isRefused_644 (lv_at hl 2 rfl) ?_
          refine lv_iconst (v := nI 1) hx hb dL_isRefused_646 (by decide) ?_
          refine lv_icmp_ne (tgt := 657) hx hb dL_isRefused_647 (by decide) (fun c647 => ?_) (fun c647 => ?_)
          · have c647 : ¬ kk = 1 := fun h => c647 ((xeq (by omega) (by omega)).mpr h)
            refine lv_aload_n hx hb dL_isRefused_657 rfl (lv_at hl 8 rfl) ?_
            refine lv_iconst (v := nI 3) hx hb dL_isRefused_658 (by decide) ?_
            refine lv_iload hx hb dL_isRefused_659 (lv_at hl 3 rfl) ?_
            refine lv_iconst (v := (-1)) hx hb dL_isRefused_661 (by decide) ?_
            refine lv_iconst (v := (-1)) hx hb dL_isRefused_662 (by decide) ?_
            refine xcri (vx_runSX (As := [.ref x, .int (nI 3), .int (nI j), .int ((-1)), .int ((-1))]) (rest := []) ⟨hx, hb, hml, hown, hts⟩ (a_put_S l hst Ax x lv kp fL fK o ld b k FZ G hC (j := j) (by omega) ((-1)) ((-1)) (fun h => absurd ((xeq (by omega) (by omega)).mp (ek.symm.trans h.1)) (by omega))) (vx_cwSW 5 hts gL_isRefused_L_act rfl rfl rfl (by decide +kernel) ⟨(Nat.le_of_ble_eq_true rfl), (Nat.le_of_ble_eq_true rfl)⟩) ⟨XPl_blind, XPl_pre hE hT hN ⟨hPc, hDc⟩⟩ rfl rfl hl.1 rfl (lv_room (Nat.le_of_ble_eq_true rfl)) dL_isRefused_663 ⟨by first | exact Nat.le_of_ble_eq_true rfl | (show (_ : Nat) ≤ 600; omega), by first | exact Nat.le_of_ble_eq_true rfl | (show (_ : Nat) ≤ 3000; omega)⟩) (fun r9 H1 hr9 hz9 hk9 => ?_)
            subst hr9
            have hP := xkept hP hk9
            have hPc := xkept hPc hk9
            have hT := hT.kept (fun a h1 _ => hk9 a h1)
            obtain ⟨hz, hk⟩ := xk_tr hz hk hz9 hk9
            clear hz9 hk9
            generalize H1 = H at hP hPc hT hz hk ⊢
            refine lv_sipush (v := (-1163)) hx hb dL_isRefused_666 (by decide) ?_
            refine lv_icmp_ne (tgt := 739) hx hb dL_isRefused_669 (by decide) (fun h => absurd h (by decide)) (fun _ => ?_)
            refine lv_goto (tgt := 735) hx hb dL_isRefused_672 (by decide) ?_
            refine lv_iconst (v := nI 1) hx hb dL_isRefused_735 (by decide) ?_
            refine lv_goto (tgt := 740) hx hb dL_isRefused_736 (by decide) ?_
            refine lv_istore (lv' := [(8, .int (nI 1)), (11, .int (nI ((G (246 + j)).2.2.1))), (10, .int (nI kk)), (9, .int (nI j)), (6, .long (alL G (alH G o ld b) 6)), (5, .int (nI (ld + 1 + (X % 30)))), (4, .int (nI (6 + (X % 30)))), (3, .int (nI 0)), (0, .ref x), (1, .ref ma), (2, .int (nI X))]) hx hb dL_isRefused_740 hl (by decide) rfl (fun ls hl => ?_)
            refine lv_iload hx hb dL_isRefused_742 (lv_at hl 0 rfl) ?_
            refine lv_if_eq (tgt := 804) hx hb dL_isRefused_744 (by decide) (fun h => absurd h (by decide)) (fun _ => ?_)
            refine lv_iload hx hb dL_isRefused_747 (lv_at hl 2 rfl) ?_
            refine lv_iconst (v := nI 1) hx hb dL_isRefused_749 (by decide) ?_
            refine lv_icmp_eq (tgt := 771) hx hb dL_isRefused_750 (by decide) (fun c750 => ?_) (fun c750 => ?_)
            · have c750 : kk = 1 := (xeq (by omega) (by omega)).mp c750
              omega
            · have c750 : ¬ kk = 1 := fun h => c750 ((xeq (by omega) (by omega)).mpr h)
              refine lv_aload_n hx hb dL_isRefused_753 rfl (lv_at hl 8 rfl) ?_
              refine lv_iconst (v := nI 4) hx hb dL_isRefused_754 (by decide) ?_
              refine lv_iload hx hb dL_isRefused_755 (lv_at hl 3 rfl) ?_
              refine lv_iconst (v := (-1)) hx hb dL_isRefused_757 (by decide) ?_
              refine lv_iconst (v := nI 0) hx hb dL_isRefused_758 (by decide) ?_
              refine xcri (vx_runSX (As := [.ref x, .int (nI 4), .int (nI j), .int ((-1)), .int (nI 0)]) (rest := []) ⟨hx, hb, hml, hown, hts⟩ (a_take_S l hst Ax x lv kp fL fK o ld b k FZ G hC (j := j) (by omega) ((-1)) (nI 0) (fun h => absurd ((xeq (by omega) (by omega)).mp (ek.symm.trans h)) (by omega))) (vx_cwSW 5 hts gL_isRefused_L_act rfl rfl rfl (by decide +kernel) ⟨(Nat.le_of_ble_eq_true rfl), (Nat.le_of_ble_eq_true rfl)⟩) ⟨XPl_blind, XPl_pre hE hT hN ⟨hPc, hDc⟩⟩ rfl rfl hl.1 rfl (lv_room (Nat.le_of_ble_eq_true rfl)) dL_isRefused_759 ⟨by first | exact Nat.le_of_ble_eq_true rfl | (show (_ : Nat) ≤ 600; omega), by first | exact Nat.le_of_ble_eq_true rfl | (show (_ : Nat) ≤ 3000; omega)⟩) (fun r9 H1 hr9 hz9 hk9 => ?_)
              subst hr9
              have hP := xkept hP hk9
              have hPc := xkept hPc hk9
              have hT := hT.kept (fun a h1 _ => hk9 a h1)
              obtain ⟨hz, hk⟩ := xk_tr hz hk hz9 hk9
              clear hz9 hk9
              generalize H1 = H at hP hPc hT hz hk ⊢
              refine lv_sipush (v := (-1163)) hx hb dL_isRefused_762 (by decide) ?_
              refine lv_icmp_ne (tgt := 804) hx hb dL_isRefused_765 (by decide) (fun h => absurd h (by decide)) (fun _ => ?_)
              refine lv_goto (tgt := 800) hx hb dL_isRefused_768 (by decide) ?_
              refine lv_iconst (v := nI 1) hx hb dL_isRefused_800 (by decide) ?_
              refine lv_goto (tgt := 805) hx hb dL_isRefused_801 (by decide) ?_
              refine lv_istore (lv' := [(8, .int (nI 1)), (11, .int (nI ((G (246 + j)).2.2.1))), (10, .int (nI kk)), (9, .int (nI j)), (6, .long (alL G (alH G o ld b) 6)), (5, .int (nI (ld + 1 + (X % 30)))), (4, .int (nI (6 + (X % 30)))), (3, .int (nI 0)), (0, .ref x), (1, .ref ma), (2, .int (nI X))]) hx hb dL_isRefused_805 hl (by decide) rfl (fun ls hl => ?_)
              refine lv_iinc (v := nI (j + 1)) (lv' := [(9, .int (nI (j + 1))), (8, .int (nI 1)), (11, .int (nI ((G (246 + j)).2.2.1))), (10, .int (nI kk)), (6, .long (alL G (alH G o ld b) 6)), (5, .int (nI (ld + 1 + (X % 30)))), (4, .int (nI (6 + (X % 30)))), (3, .int (nI 0)), (0, .ref x), (1, .ref ma), (2, .int (nI X))]) hx hb dL_isRefused_807 hl (k := 3) rfl (xinc _ 1 _ (by decide)) (by decide) rfl (fun ls hl => ?_)
              refine lv_goto (tgt := 540) hx hb dL_isRefused_810 (by decide) ?_
              refine W.widen (k := 300 + 40 * (7 - n)) (n := 1500 + 200 * (7 - n)) (by omega) (by omega) ?_
              exact ih _ _ _ ⟨j + 1, by omega, by omega, by omega, hz, hk, rfl, lv_sub hl [0, 1, 4, 5, 6, 7, 8, 9, 10] rfl⟩
          · have c647 : kk = 1 := (xeq (by omega) (by omega)).mp c647
            have hkk1 : kk = 1 := by omega
            refine lv_iload hx hb dL_isRefused_650 (lv_at hl 1 rfl) ?_
            refine lv_bipush (v := nI 12) hx hb dL_isRefused_652 (by decide) ?_
            refine lv_icmp_ne (tgt := 675) hx hb dL_isRefused_654 (by decide) (fun c654 => ?_) (fun c654 => ?_)
            · have c654 : ¬ ((G (246 + j)).2.2.1) = 12 := fun h => c654 ((xeq (by omega) (by omega)).mpr h)
              refine lv_aload_n hx hb dL_isRefused_675 rfl (lv_at hl 8 rfl) ?_
              refine lv_iconst (v := nI 3) hx hb dL_isRefused_676 (by decide) ?_
              refine lv_iload hx hb dL_isRefused_677 (lv_at hl 3 rfl) ?_
              refine lv_iload_n hx hb dL_isRefused_679 rfl (lv_at hl 7 rfl) ?_
              refine lv_if_eq (tgt := 687) hx hb dL_isRefused_680 (by decide) (fun _ => ?_) (fun h => absurd h (by decide))
              refine lv_iload hx hb dL_isRefused_687 (lv_at hl 1 rfl) ?_
              refine lv_iconst (v := nI 1) hx hb dL_isRefused_689 (by decide) ?_
              refine lv_iadd hx hb dL_isRefused_690 ?_
              refine x_top (nI (((G (246 + j)).2.2.1) + 1)) (xadd (by omega)) ?_
              refine lv_iload_n hx hb dL_isRefused_691 rfl (lv_at hl 10 rfl) ?_
              refine lv_bipush (v := nI 30) hx hb dL_isRefused_692 (by decide) ?_
              refine lv_irem hx hb dL_isRefused_694 (by decide) ?_
              refine x_top (nI (X % 30)) (pk_rem (by omega) (by omega) (by omega)) ?_
              refine lv_iadd hx hb dL_isRefused_695 ?_
              refine x_top (nI ((((G (246 + j)).2.2.1) + 1) + (X % 30))) (xadd (by omega)) ?_
              refine lv_iconst (v := nI 5) hx hb dL_isRefused_696 (by decide) ?_
              refine xcri (vx_runSX (As := [.ref x, .int (nI 3), .int (nI j), .int (nI ((((G (246 + j)).2.2.1) + 1) + (X % 30))), .int (nI 5)]) (rest := []) ⟨hx, hb, hml, hown, hts⟩ (a_put_A l hst Ax x lv kp fL fK o ld b k FZ G hC (j := j) (by omega) (nI ((((G (246 + j)).2.2.1) + 1) + (X % 30))) (nI 5) ⟨by rw [ek, hkk1], by omega⟩ (pa_sh (by omega) (by omega))) (vx_cwSW 5 hts gL_isRefused_L_act rfl rfl rfl (by decide +kernel) ⟨(Nat.le_of_ble_eq_true rfl), (Nat.le_of_ble_eq_true rfl)⟩) ⟨XPl_blind, XPl_pre hE hT hN ⟨hPc, hDc⟩⟩ rfl rfl hl.1 rfl (lv_room (Nat.le_of_ble_eq_true rfl)) dL_isRefused_697 ⟨by first | exact Nat.le_of_ble_eq_true rfl | (show (_ : Nat) ≤ 600; omega), by first | exact Nat.le_of_ble_eq_true rfl | (show (_ : Nat) ≤ 3000; omega)⟩) (fun r9 H1 hr9 hz9 hk9 => ?_)
              subst hr9
              have hP := xkept hP hk9
              have hPc := xkept hPc hk9
              have hT := hT.kept (fun a h1 _ => hk9 a h1)
              obtain ⟨hz, hk⟩ := xk_tr hz hk hz9 hk9
              clear hz9 hk9
              generalize H1 = H at hP hPc hT hz hk ⊢
              refine lv_sipush (v := (-1162)) hx hb dL_isRefused_700 (by decide) ?_
              refine lv_icmp_ne (tgt := 739) hx hb dL_isRefused_703 (by decide) (fun h => absurd h (by decide)) (fun _ => ?_)
              refine lv_aload_n hx hb dL_isRefused_706 rfl (lv_at hl 8 rfl) ?_
              refine lv_iconst (v := nI 3) hx hb dL_isRefused_707 (by decide) ?_
              refine lv_iload hx hb dL_isRefused_708 (lv_at hl 3 rfl) ?_
              refine lv_iconst (v := nI 0) hx hb dL_isRefused_710 (by decide) ?_
              refine lv_iload_n hx hb dL_isRefused_711 rfl (lv_at hl 7 rfl) ?_
              refine lv_if_eq (tgt := 719) hx hb dL_isRefused_712 (by decide) (fun _ => ?_) (fun h => absurd h (by decide))
              refine lv_bipush (v := nI 10) hx hb dL_isRefused_719 (by decide) ?_
              refine lv_iload_n hx hb dL_isRefused_721 rfl (lv_at hl 10 rfl) ?_
              refine lv_bipush (v := nI 30) hx hb dL_isRefused_722 (by decide) ?_
              refine lv_irem hx hb dL_isRefused_724 (by decide) ?_
              refine x_top (nI (X % 30)) (pk_rem (by omega) (by omega) (by omega)) ?_
              refine lv_iadd hx hb dL_isRefused_725 ?_
              refine x_top (nI (10 + (X % 30))) (xadd (by omega)) ?_
              refine xcri (vx_runSX (As := [.ref x, .int (nI 3), .int (nI j), .int (nI 0), .int (nI (10 + (X % 30)))]) (rest := []) ⟨hx, hb, hml, hown, hts⟩ (a_put_A l hst Ax x lv kp fL fK o ld b k FZ G hC (j := j) (by omega) (nI 0) (nI (10 + (X % 30))) ⟨by rw [ek, hkk1], by omega⟩ (pa_nh (by omega) (by omega))) (vx_cwSW 5 hts gL_isRefused_L_act rfl rfl rfl (by decide +kernel) ⟨(Nat.le_of_ble_eq_true rfl), (Nat.le_of_ble_eq_true rfl)⟩) ⟨XPl_blind, XPl_pre hE hT hN ⟨hPc, hDc⟩⟩ rfl rfl hl.1 rfl (lv_room (Nat.le_of_ble_eq_true rfl)) dL_isRefused_726 ⟨by first | exact Nat.le_of_ble_eq_true rfl | (show (_ : Nat) ≤ 600; omega), by first | exact Nat.le_of_ble_eq_true rfl | (show (_ : Nat) ≤ 3000; omega)⟩) (fun r9 H1 hr9 hz9 hk9 => ?_)
              subst hr9
              have hP := xkept hP hk9
              have hPc := xkept hPc hk9
              have hT := hT.kept (fun a h1 _ => hk9 a h1)
              obtain ⟨hz, hk⟩ := xk_tr hz hk hz9 hk9
              clear hz9 hk9
              generalize H1 = H at hP hPc hT hz hk ⊢
              refine lv_sipush (v := (-1162)) hx hb dL_isRefused_729 (by decide) ?_
              refine lv_icmp_ne (tgt := 739) hx hb dL_isRefused_732 (by decide) (fun h => absurd h (by decide)) (fun _ => ?_)
              refine lv_iconst (v := nI 1) hx hb dL_isRefused_735 (by decide) ?_
              refine lv_goto (tgt := 740) hx hb dL_isRefused_736 (by decide) ?_
              refine lv_istore (lv' := [(8, .int (nI 1)), (11, .int (nI ((G (246 + j)).2.2.1))), (10, .int (nI kk)), (9, .int (nI j)), (6, .long (alL G (alH G o ld b) 6)), (5, .int (nI (ld + 1 + (X % 30)))), (4, .int (nI (6 + (X % 30)))), (3, .int (nI 0)), (0, .ref x), (1, .ref ma), (2, .int (nI X))]) hx hb dL_isRefused_740 hl (by decide) rfl (fun ls hl => ?_)
              refine lv_iload hx hb dL_isRefused_742 (lv_at hl 0 rfl) ?_
              refine lv_if_eq (tgt := 804) hx hb dL_isRefused_744 (by decide) (fun h => absurd h (by decide)) (fun _ => ?_)
              refine lv_iload hx hb dL_isRefused_747 (lv_at hl 2 rfl) ?_
              refine lv_iconst (v := nI 1) hx hb dL_isRefused_749 (by decide) ?_
              refine lv_icmp_eq (tgt := 771) hx hb dL_isRefused_750 (by decide) (fun c750 => ?_) (fun c750 => ?_)
              · have c750 : kk = 1 := (xeq (by omega) (by omega)).mp c750
                refine lv_aload_n hx hb dL_isRefused_771 rfl (lv_at hl 8 rfl) ?_
                refine lv_iconst (v := nI 4) hx hb dL_isRefused_772 (by decide) ?_
                refine lv_iload hx hb dL_isRefused_773 (lv_at hl 3 rfl) ?_
                refine lv_iload_n hx hb dL_isRefused_775 rfl (lv_at hl 7 rfl) ?_
                refine lv_if_eq (tgt := 783) hx hb dL_isRefused_776 (by decide) (fun _ => ?_) (fun h => absurd h (by decide))
                refine lv_iload hx hb dL_isRefused_783 (lv_at hl 1 rfl) ?_
                refine lv_iload_n hx hb dL_isRefused_785 rfl (lv_at hl 10 rfl) ?_
                refine lv_bipush (v := nI 30) hx hb dL_isRefused_786 (by decide) ?_
                refine lv_irem hx hb dL_isRefused_788 (by decide) ?_
                refine x_top (nI (X % 30)) (pk_rem (by omega) (by omega) (by omega)) ?_
                refine lv_iadd hx hb dL_isRefused_789 ?_
                refine x_top (nI (((G (246 + j)).2.2.1) + (X % 30))) (xadd (by omega)) ?_
                refine lv_iconst (v := nI 0) hx hb dL_isRefused_790 (by decide) ?_
                refine xcri (vx_runSX (As := [.ref x, .int (nI 4), .int (nI j), .int (nI (((G (246 + j)).2.2.1) + (X % 30))), .int (nI 0)]) (rest := []) ⟨hx, hb, hml, hown, hts⟩ (a_take_A l hst Ax x lv kp fL fK o ld b k FZ G hC (j := j) (by omega) (nI (((G (246 + j)).2.2.1) + (X % 30))) (nI 0) (by rw [ek, hkk1]) (hi_nl (by omega) (by omega))) (vx_cwSW 5 hts gL_isRefused_L_act rfl rfl rfl (by decide +kernel) ⟨(Nat.le_of_ble_eq_true rfl), (Nat.le_of_ble_eq_true rfl)⟩) ⟨XPl_blind, XPl_pre hE hT hN ⟨hPc, hDc⟩⟩ rfl rfl hl.1 rfl (lv_room (Nat.le_of_ble_eq_true rfl)) dL_isRefused_791 ⟨by first | exact Nat.le_of_ble_eq_true rfl | (show (_ : Nat) ≤ 600; omega), by first | exact Nat.le_of_ble_eq_true rfl | (show (_ : Nat) ≤ 3000; omega)⟩) (fun r9 H1 hr9 hz9 hk9 => ?_)
                subst hr9
                have hP := xkept hP hk9
                have hPc := xkept hPc hk9
                have hT := hT.kept (fun a h1 _ => hk9 a h1)
                obtain ⟨hz, hk⟩ := xk_tr hz hk hz9 hk9
                clear hz9 hk9
                generalize H1 = H at hP hPc hT hz hk ⊢
                refine lv_sipush (v := (-1162)) hx hb dL_isRefused_794 (by decide) ?_
                refine lv_icmp_ne (tgt := 804) hx hb dL_isRefused_797 (by decide) (fun h => absurd h (by decide)) (fun _ => ?_)
                refine lv_iconst (v := nI 1) hx hb dL_isRefused_800 (by decide) ?_
                refine lv_goto (tgt := 805) hx hb dL_isRefused_801 (by decide) ?_
                refine lv_istore (lv' := [(8, .int (nI 1)), (11, .int (nI ((G (246 + j)).2.2.1))), (10, .int (nI kk)), (9, .int (nI j)), (6, .long (alL G (alH G o ld b) 6)), (5, .int (nI (ld + 1 + (X % 30)))), (4, .int (nI (6 + (X % 30)))), (3, .int (nI 0)), (0, .ref x), (1, .ref ma), (2, .int (nI X))]) hx hb dL_isRefused_805 hl (by decide) rfl (fun ls hl => ?_)
                refine lv_iinc (v := nI (j + 1)) (lv' := [(9, .int (nI (j + 1))), (8, .int (nI 1)), (11, .int (nI ((G (246 + j)).2.2.1))), (10, .int (nI kk)), (6, .long (alL G (alH G o ld b) 6)), (5, .int (nI (ld + 1 + (X % 30)))), (4, .int (nI (6 + (X % 30)))), (3, .int (nI 0)), (0, .ref x), (1, .ref ma), (2, .int (nI X))]) hx hb dL_isRefused_807 hl (k := 3) rfl (xinc _ 1 _ (by decide)) (by decide) rfl (fun ls hl => ?_)
                refine lv_goto (tgt := 540) hx hb dL_isRefused_810 (by decide) ?_
                refine W.widen (k := 300 + 40 * (7 - n)) (n := 1500 + 200 * (7 - n)) (by omega) (by omega) ?_
                exact ih _ _ _ ⟨j + 1, by omega, by omega, by omega, hz, hk, rfl, lv_sub hl [0, 1, 4, 5, 6, 7, 8, 9, 10] rfl⟩
              · have c750 : ¬ kk = 1 := fun h => c750 ((xeq (by omega) (by omega)).mpr h)
                omega
            · have c654 : ((G (246 + j)).2.2.1) = 12 := (xeq (by omega) (by omega)).mp c654
              refine lv_aload_n hx hb dL_isRefused_657 rfl (lv_at hl 8 rfl) ?_
              refine lv_iconst (v := nI 3) hx hb dL_isRefused_658 (by decide) ?_
              refine lv_iload hx hb dL_isRefused_659 (lv_at hl 3 rfl) ?_
              refine lv_iconst (v := (-1)) hx hb dL_isRefused_661 (by decide) ?_
              refine lv_iconst (v := (-1)) hx hb dL_isRefused_662 (by decide) ?_
              refine xcri (vx_runSX (As := [.ref x, .int (nI 3), .int (nI j), .int ((-1)), .int ((-1))]) (rest := []) ⟨hx, hb, hml, hown, hts⟩ (a_put_S l hst Ax x lv kp fL fK o ld b k FZ G hC (j := j) (by omega) ((-1)) ((-1)) (fun h => absurd h.2 (by omega))) (vx_cwSW 5 hts gL_isRefused_L_act rfl rfl rfl (by decide +kernel) ⟨(Nat.le_of_ble_eq_true rfl), (Nat.le_of_ble_eq_true rfl)⟩) ⟨XPl_blind, XPl_pre hE hT hN ⟨hPc, hDc⟩⟩ rfl rfl hl.1 rfl (lv_room (Nat.le_of_ble_eq_true rfl)) dL_isRefused_663 ⟨by first | exact Nat.le_of_ble_eq_true rfl | (show (_ : Nat) ≤ 600; omega), by first | exact Nat.le_of_ble_eq_true rfl | (show (_ : Nat) ≤ 3000; omega)⟩) (fun r9 H1 hr9 hz9 hk9 => ?_)
              subst hr9
              have hP := xkept hP hk9
              have hPc := xkept hPc hk9
              have hT := hT.kept (fun a h1 _ => hk9 a h1)
              obtain ⟨hz, hk⟩ := xk_tr hz hk hz9 hk9
              clear hz9 hk9
              generalize H1 = H at hP hPc hT hz hk ⊢
              refine lv_sipush (v := (-1163)) hx hb dL_isRefused_666 (by decide) ?_
              refine lv_icmp_ne (tgt := 739) hx hb dL_isRefused_669 (by decide) (fun h => absurd h (by decide)) (fun _ => ?_)
              refine lv_goto (tgt := 735) hx hb dL_isRefused_672 (by decide) ?_
              refine lv_iconst (v := nI 1) hx hb dL_isRefused_735 (by decide) ?_
              refine lv_goto (tgt := 740) hx hb dL_isRefused_736 (by decide) ?_
              refine lv_istore (lv' := [(8, .int (nI 1)), (11, .int (nI ((G (246 + j)).2.2.1))), (10, .int (nI kk)), (9, .int (nI j)), (6, .long (alL G (alH G o ld b) 6)), (5, .int (nI (ld + 1 + (X % 30)))), (4, .int (nI (6 + (X % 30)))), (3, .int (nI 0)), (0, .ref x), (1, .ref ma), (2, .int (nI X))]) hx hb dL_isRefused_740 hl (by decide) rfl (fun ls hl => ?_)
              refine lv_iload hx hb dL_isRefused_742 (lv_at hl 0 rfl) ?_
              refine lv_if_eq (tgt := 804) hx hb dL_isRefused_744 (by decide) (fun h => absurd h (by decide)) (fun _ => ?_)
              refine lv_iload hx hb dL_isRefused_747 (lv_at hl 2 rfl) ?_
              refine lv_iconst (v := nI 1) hx hb dL_isRefused_749 (by decide) ?_
              refine lv_icmp_eq (tgt := 771) hx hb dL_isRefused_750 (by decide) (fun c750 => ?_) (fun c750 => ?_)
              · have c750 : kk = 1 := (xeq (by omega) (by omega)).mp c750
                refine lv_aload_n hx hb dL_isRefused_771 rfl (lv_at hl 8 rfl) ?_
                refine lv_iconst (v := nI 4) hx hb dL_isRefused_772 (by decide) ?_
                refine lv_iload hx hb dL_isRefused_773 (lv_at hl 3 rfl) ?_
                refine lv_iload_n hx hb dL_isRefused_775 rfl (lv_at hl 7 rfl) ?_
                refine lv_if_eq (tgt := 783) hx hb dL_isRefused_776 (by decide) (fun _ => ?_) (fun h => absurd h (by decide))
                refine lv_iload hx hb dL_isRefused_783 (lv_at hl 1 rfl) ?_
                refine lv_iload_n hx hb dL_isRefused_785 rfl (lv_at hl 10 rfl) ?_
                refine lv_bipush (v := nI 30) hx hb dL_isRefused_786 (by decide) ?_
                refine lv_irem hx hb dL_isRefused_788 (by decide) ?_
                refine x_top (nI (X % 30)) (pk_rem (by omega) (by omega) (by omega)) ?_
                refine lv_iadd hx hb dL_isRefused_789 ?_
                refine x_top (nI (((G (246 + j)).2.2.1) + (X % 30))) (xadd (by omega)) ?_
                refine lv_iconst (v := nI 0) hx hb dL_isRefused_790 (by decide) ?_
                refine xcri (vx_runSX (As := [.ref x, .int (nI 4), .int (nI j), .int (nI (((G (246 + j)).2.2.1) + (X % 30))), .int (nI 0)]) (rest := []) ⟨hx, hb, hml, hown, hts⟩ (a_take_A l hst Ax x lv kp fL fK o ld b k FZ G hC (j := j) (by omega) (nI (((G (246 + j)).2.2.1) + (X % 30))) (nI 0) (by rw [ek, hkk1]) (hi_nl (by omega) (by omega))) (vx_cwSW 5 hts gL_isRefused_L_act rfl rfl rfl (by decide +kernel) ⟨(Nat.le_of_ble_eq_true rfl), (Nat.le_of_ble_eq_true rfl)⟩) ⟨XPl_blind, XPl_pre hE hT hN ⟨hPc, hDc⟩⟩ rfl rfl hl.1 rfl (lv_room (Nat.le_of_ble_eq_true rfl)) dL_isRefused_791 ⟨by first | exact Nat.le_of_ble_eq_true rfl | (show (_ : Nat) ≤ 600; omega), by first | exact Nat.le_of_ble_eq_true rfl | (show (_ : Nat) ≤ 3000; omega)⟩) (fun r9 H1 hr9 hz9 hk9 => ?_)
                subst hr9
                have hP := xkept hP hk9
                have hPc := xkept hPc hk9
                have hT := hT.kept (fun a h1 _ => hk9 a h1)
                obtain ⟨hz, hk⟩ := xk_tr hz hk hz9 hk9
                clear hz9 hk9
                generalize H1 = H at hP hPc hT hz hk ⊢
                refine lv_sipush (v := (-1162)) hx hb dL_isRefused_794 (by decide) ?_
                refine lv_icmp_ne (tgt := 804) hx hb dL_isRefused_797 (by decide) (fun h => absurd h (by decide)) (fun _ => ?_)
                refine lv_iconst (v := nI 1) hx hb dL_isRefused_800 (by decide) ?_
                refine lv_goto (tgt := 805) hx hb dL_isRefused_801 (by decide) ?_
                refine lv_istore (lv' := [(8, .int (nI 1)), (11, .int (nI ((G (246 + j)).2.2.1))), (10, .int (nI kk)), (9, .int (nI j)), (6, .long (alL G (alH G o ld b) 6)), (5, .int (nI (ld + 1 + (X % 30)))), (4, .int (nI (6 + (X % 30)))), (3, .int (nI 0)), (0, .ref x), (1, .ref ma), (2, .int (nI X))]) hx hb dL_isRefused_805 hl (by decide) rfl (fun ls hl => ?_)
                refine lv_iinc (v := nI (j + 1)) (lv' := [(9, .int (nI (j + 1))), (8, .int (nI 1)), (11, .int (nI ((G (246 + j)).2.2.1))), (10, .int (nI kk)), (6, .long (alL G (alH G o ld b) 6)), (5, .int (nI (ld + 1 + (X % 30)))), (4, .int (nI (6 + (X % 30)))), (3, .int (nI 0)), (0, .ref x), (1, .ref ma), (2, .int (nI X))]) hx hb dL_isRefused_807 hl (k := 3) rfl (xinc _ 1 _ (by decide)) (by decide) rfl (fun ls hl => ?_)
                refine lv_goto (tgt := 540) hx hb dL_isRefused_810 (by decide) ?_
                refine W.widen (k := 300 + 40 * (7 - n)) (n := 1500 + 200 * (7 - n)) (by omega) (by omega) ?_
                exact ih _ _ _ ⟨j + 1, by omega, by omega, by omega, hz, hk, rfl, lv_sub hl [0, 1, 4, 5, 6, 7, 8, 9, 10] rfl⟩
              · have c750 : ¬ kk = 1 := fun h => c750 ((xeq (by omega) (by omega)).mpr h)
                omega
        · have c572 : nI kk = nI 0 := c572
          have c572 : kk = 0 := (xeq (by omega) (by omega)).mp c572
          refine lv_aload_n hx hb dL_isRefused_575 rfl (lv_at hl 8 rfl) ?_
          refine lv_iconst (v := nI 5) hx hb dL_isRefused_576 (by decide) ?_
          refine lv_iload hx hb dL_isRefused_577 (lv_at hl 2 rfl) ?_
          refine lv_iconst (v := (-1)) hx hb dL_isRefused_579 (by decide) ?_
          refine lv_iconst (v := nI 0) hx hb dL_isRefused_580 (by decide) ?_
          refine xcri (vx_runSX (As := [.ref x, .int (nI 5), .int (nI j), .int ((-1)), .int (nI 0)]) (rest := []) ⟨hx, hb, hml, hown, hts⟩ (a_setRights_S l hst Ax x lv kp fL fK o ld b k FZ G hC (j := j) (by omega) ((-1)) (nI 0) (by rw [ek, c572])) (vx_cwSW 5 hts gL_isRefused_L_act rfl rfl rfl (by decide +kernel) ⟨(Nat.le_of_ble_eq_true rfl), (Nat.le_of_ble_eq_true rfl)⟩) ⟨XPl_blind, XPl_pre hE hT hN ⟨hPc, hDc⟩⟩ rfl rfl hl.1 rfl (lv_room (Nat.le_of_ble_eq_true rfl)) dL_isRefused_581 ⟨by first | exact Nat.le_of_ble_eq_true rfl | (show (_ : Nat) ≤ 600; omega), by first | exact Nat.le_of_ble_eq_true rfl | (show (_ : Nat) ≤ 3000; omega)⟩) (fun r9 H1 hr9 hz9 hk9 => ?_)
          subst hr9
          have hP := xkept hP hk9
          have hPc := xkept hPc hk9
          have hT := hT.kept (fun a h1 _ => hk9 a h1)
          obtain ⟨hz, hk⟩ := xk_tr hz hk hz9 hk9
          clear hz9 hk9
          generalize H1 = H at hP hPc hT hz hk ⊢
          refine lv_sipush (v := (-1163)) hx hb dL_isRefused_584 (by decide) ?_
          refine lv_icmp_ne (tgt := 594) hx hb dL_isRefused_587 (by decide) (fun h => absurd h (by decide)) (fun _ => ?_)
          refine lv_iconst (v := nI 1) hx hb dL_isRefused_590 (by decide) ?_
          refine lv_goto (tgt := 637) hx hb dL_isRefused_591 (by decide) ?_
          refine lv_istore (lv' := [(8, .int (nI 1)), (11, .int (nI ((G (246 + j)).2.2.1))), (10, .int (nI kk)), (9, .int (nI j)), (6, .long (alL G (alH G o ld b) 6)), (5, .int (nI (ld + 1 + (X % 30)))), (4, .int (nI (6 + (X % 30)))), (3, .int (nI 0)), (0, .ref x), (1, .ref ma), (2, .int (nI X))]) hx hb dL_isRefused_637 hl (by decide) rfl (fun ls hl => ?_)
          refine lv_iload hx hb dL_isRefused_639 (lv_at hl 0 rfl) ?_
          refine lv_if_eq (tgt := 739) hx hb dL_isRefused_641 (by decide) (fun h => absurd h (by decide)) (fun _ => ?_)
          refine lv_iload hx hb dL_isRefused_644 (lv_at hl 2 rfl) ?_
          refine lv_iconst (v := nI 1) hx hb dL_isRefused_646 (by decide) ?_
          refine lv_icmp_ne (tgt := 657) hx hb dL_isRefused_647 (by decide) (fun c647 => ?_) (fun c647 => ?_)
          · have c647 : ¬ kk = 1 := fun h => c647 ((xeq (by omega) (by omega)).mpr h)
            refine lv_aload_n hx hb dL_isRefused_657 rfl (lv_at hl 8 rfl) ?_
            refine lv_iconst (v := nI 3) hx hb dL_isRefused_658 (by decide) ?_
            refine lv_iload hx hb dL_isRefused_659 (lv_at hl 3 rfl) ?_
            refine lv_iconst (v := (-1)) hx hb dL_isRefused_661 (by decide) ?_
            refine lv_iconst (v := (-1)) hx hb dL_isRefused_662 (by decide) ?_
            refine xcri (vx_runSX (As := [.ref x, .int (nI 3), .int (nI j), .int ((-1)), .int ((-1))]) (rest := []) ⟨hx, hb, hml, hown, hts⟩ (a_put_S l hst Ax x lv kp fL fK o ld b k FZ G hC (j := j) (by omega) ((-1)) ((-1)) (fun h => absurd ((xeq (by omega) (by omega)).mp (ek.symm.trans h.1)) (by omega))) (vx_cwSW 5 hts gL_isRefused_L_act rfl rfl rfl (by decide +kernel) ⟨(Nat.le_of_ble_eq_true rfl), (Nat.le_of_ble_eq_true rfl)⟩) ⟨XPl_blind, XPl_pre hE hT hN ⟨hPc, hDc⟩⟩ rfl rfl hl.1 rfl (lv_room (Nat.le_of_ble_eq_true rfl)) dL_isRefused_663 ⟨by first | exact Nat.le_of_ble_eq_true rfl | (show (_ : Nat) ≤ 600; omega), by first | exact Nat.le_of_ble_eq_true rfl | (show (_ : Nat) ≤ 3000; omega)⟩) (fun r9 H1 hr9 hz9 hk9 => ?_)
            subst hr9
            have hP := xkept hP hk9
            have hPc := xkept hPc hk9
            have hT := hT.kept (fun a h1 _ => hk9 a h1)
            obtain ⟨hz, hk⟩ := xk_tr hz hk hz9 hk9
            clear hz9 hk9
            generalize H1 = H at hP hPc hT hz hk ⊢
            refine lv_sipush (v := (-1163)) hx hb dL_isRefused_666 (by decide) ?_
            refine lv_icmp_ne (tgt := 739) hx hb dL_isRefused_669 (by decide) (fun h => absurd h (by decide)) (fun _ => ?_)
            refine lv_goto (tgt := 735) hx hb dL_isRefused_672 (by decide) ?_
            refine lv_iconst (v := nI 1) hx hb dL_isRefused_735 (by decide) ?_
            refine lv_goto (tgt := 740) hx hb dL_isRefused_736 (by decide) ?_
            refine lv_istore (lv' := [(8, .int (nI 1)), (11, .int (nI ((G (246 + j)).2.2.1))), (10, .int (nI kk)), (9, .int (nI j)), (6, .long (alL G (alH G o ld b) 6)), (5, .int (nI (ld + 1 + (X % 30)))), (4, .int (nI (6 + (X % 30)))), (3, .int (nI 0)), (0, .ref x), (1, .ref ma), (2, .int (nI X))]) hx hb dL_isRefused_740 hl (by decide) rfl (fun ls hl => ?_)
            refine lv_iload hx hb dL_isRefused_742 (lv_at hl 0 rfl) ?_
            refine lv_if_eq (tgt := 804) hx hb dL_isRefused_744 (by decide) (fun h => absurd h (by decide)) (fun _ => ?_)
            refine lv_iload hx hb dL_isRefused_747 (lv_at hl 2 rfl) ?_
            refine lv_iconst (v := nI 1) hx hb dL_isRefused_749 (by decide) ?_
            refine lv_icmp_eq (tgt := 771) hx hb dL_isRefused_750 (by decide) (fun c750 => ?_) (fun c750 => ?_)
            · have c750 : kk = 1 := (xeq (by omega) (by omega)).mp c750
              omega
            · have c750 : ¬ kk = 1 := fun h => c750 ((xeq (by omega) (by omega)).mpr h)
              refine lv_aload_n hx hb dL_isRefused_753 rfl (lv_at hl 8 rfl) ?_
              refine lv_iconst (v := nI 4) hx hb dL_isRefused_754 (by decide) ?_
              refine lv_iload hx hb dL_isRefused_755 (lv_at hl 3 rfl) ?_
              refine lv_iconst (v := (-1)) hx hb dL_isRefused_757 (by decide) ?_
              refine lv_iconst (v := nI 0) hx hb dL_isRefused_758 (by decide) ?_
              refine xcri (vx_runSX (As := [.ref x, .int (nI 4), .int (nI j), .int ((-1)), .int (nI 0)]) (rest := []) ⟨hx, hb, hml, hown, hts⟩ (a_take_S l hst Ax x lv kp fL fK o ld b k FZ G hC (j := j) (by omega) ((-1)) (nI 0) (fun h => absurd ((xeq (by omega) (by omega)).mp (ek.symm.trans h)) (by omega))) (vx_cwSW 5 hts gL_isRefused_L_act rfl rfl rfl (by decide +kernel) ⟨(Nat.le_of_ble_eq_true rfl), (Nat.le_of_ble_eq_true rfl)⟩) ⟨XPl_blind, XPl_pre hE hT hN ⟨hPc, hDc⟩⟩ rfl rfl hl.1 rfl (lv_room (Nat.le_of_ble_eq_true rfl)) dL_isRefused_759 ⟨by first | exact Nat.le_of_ble_eq_true rfl | (show (_ : Nat) ≤ 600; omega), by first | exact Nat.le_of_ble_eq_true rfl | (show (_ : Nat) ≤ 3000; omega)⟩) (fun r9 H1 hr9 hz9 hk9 => ?_)
              subst hr9
              have hP := xkept hP hk9
              have hPc := xkept hPc hk9
              have hT := hT.kept (fun a h1 _ => hk9 a h1)
              obtain ⟨hz, hk⟩ := xk_tr hz hk hz9 hk9
              clear hz9 hk9
              generalize H1 = H at hP hPc hT hz hk ⊢
              refine lv_sipush (v := (-1163)) hx hb dL_isRefused_762 (by decide) ?_
              refine lv_icmp_ne (tgt := 804) hx hb dL_isRefused_765 (by decide) (fun h => absurd h (by decide)) (fun _ => ?_)
              refine lv_goto (tgt := 800) hx hb dL_isRefused_768 (by decide) ?_
              refine lv_iconst (v := nI 1) hx hb dL_isRefused_800 (by decide) ?_
              refine lv_goto (tgt := 805) hx hb dL_isRefused_801 (by decide) ?_
              refine lv_istore (lv' := [(8, .int (nI 1)), (11, .int (nI ((G (246 + j)).2.2.1))), (10, .int (nI kk)), (9, .int (nI j)), (6, .long (alL G (alH G o ld b) 6)), (5, .int (nI (ld + 1 + (X % 30)))), (4, .int (nI (6 + (X % 30)))), (3, .int (nI 0)), (0, .ref x), (1, .ref ma), (2, .int (nI X))]) hx hb dL_isRefused_805 hl (by decide) rfl (fun ls hl => ?_)
              refine lv_iinc (v := nI (j + 1)) (lv' := [(9, .int (nI (j + 1))), (8, .int (nI 1)), (11, .int (nI ((G (246 + j)).2.2.1))), (10, .int (nI kk)), (6, .long (alL G (alH G o ld b) 6)), (5, .int (nI (ld + 1 + (X % 30)))), (4, .int (nI (6 + (X % 30)))), (3, .int (nI 0)), (0, .ref x), (1, .ref ma), (2, .int (nI X))]) hx hb dL_isRefused_807 hl (k := 3) rfl (xinc _ 1 _ (by decide)) (by decide) rfl (fun ls hl => ?_)
              refine lv_goto (tgt := 540) hx hb dL_isRefused_810 (by decide) ?_
              refine W.widen (k := 300 + 40 * (7 - n)) (n := 1500 + 200 * (7 - n)) (by omega) (by omega) ?_
              exact ih _ _ _ ⟨j + 1, by omega, by omega, by omega, hz, hk, rfl, lv_sub hl [0, 1, 4, 5, 6, 7, 8, 9, 10] rfl⟩
          · have c647 : kk = 1 := (xeq (by omega) (by omega)).mp c647
            omega
    · refine lv_if_eq (tgt := 359) hx hb dL_isRefused_301 (by decide) (fun c301 => ?_) (fun c301 => ?_)
      · have c301 : nI o = nI 0 := c301
        have c301 : o = 0 := (xeq (by omega) (by omega)).mp c301
        refine W.widen (k := 200) (n := 1000) (Nat.le_of_ble_eq_true rfl) (Nat.le_of_ble_eq_true rfl) ?_
        exact J _ _ _ ⟨hz, hk, rfl, lv_sub hl [0, 1, 2, 3, 4, 5, 6] rfl⟩
      · have c301 : ¬ nI o = nI 0 := c301
        have c301 : ¬ o = 0 := fun h => c301 ((xeq (by omega) (by omega)).mpr h)
        refine lv_aload_n hx hb dL_isRefused_304 rfl (lv_at hl 4 rfl) ?_
        refine lv_bipush (v := nI 8) hx hb dL_isRefused_305 (by decide) ?_
        refine lv_aload_n hx hb dL_isRefused_307 rfl (lv_at hl 5 rfl) ?_
        refine lv_iconst (v := nI 1) hx hb dL_isRefused_308 (by decide) ?_
        refine va_iald hx hb hK hP 0 0 rfl rfl (xin (by omega) (by omega)) dL_isRefused_309 ?_
        refine x_top (fm 1) (by rw [nI_clamp (by omega)]) ?_
        refine x_top (nI o) (hm1) ?_
        refine lv_iconst (v := nI 1) hx hb dL_isRefused_310 (by decide) ?_
        refine lv_isub hx hb dL_isRefused_311 ?_
        refine x_top (nI (o - 1)) (xsub (by omega)) ?_
        refine lv_iconst (v := nI 0) hx hb dL_isRefused_312 (by decide) ?_
        refine lv_iconst (v := nI 0) hx hb dL_isRefused_313 (by decide) ?_
        refine xcri (vx_runSX (As := [.ref x, .int (nI 8), .int (nI (o - 1)), .int (nI 0), .int (nI 0)]) (rest := []) ⟨hx, hb, hml, hown, hts⟩ (a_restore_O l hst Ax x lv kp fL fK o ld b k FZ G hC (nI (o - 1)) (nI 0) (nI 0) (BD.num hld (by omega) (by omega)).1 hld hold) (vx_cwSW 5 hts gL_isRefused_L_act rfl rfl rfl (by decide +kernel) ⟨(Nat.le_of_ble_eq_true rfl), (Nat.le_of_ble_eq_true rfl)⟩) ⟨XPl_blind, XPl_pre hE hT hN ⟨hPc, hDc⟩⟩ rfl rfl hl.1 rfl (lv_room (Nat.le_of_ble_eq_true rfl)) dL_isRefused_314 ⟨by first | exact Nat.le_of_ble_eq_true rfl | (show (_ : Nat) ≤ 600; omega), by first | exact Nat.le_of_ble_eq_true rfl | (show (_ : Nat) ≤ 3000; omega)⟩) (fun r9 H1 hr9 hz9 hk9 => ?_)
        subst hr9
        have hP := xkept hP hk9
        have hPc := xkept hPc hk9
        have hT := hT.kept (fun a h1 _ => hk9 a h1)
        obtain ⟨hz, hk⟩ := xk_tr hz hk hz9 hk9
        clear hz9 hk9
        generalize H1 = H at hP hPc hT hz hk ⊢
        refine lv_sipush (v := (-1161)) hx hb dL_isRefused_317 (by decide) ?_
        refine lv_icmp_ne (tgt := 534) hx hb dL_isRefused_320 (by decide) (fun h => absurd h (by decide)) (fun _ => ?_)
        refine lv_aload_n hx hb dL_isRefused_323 rfl (lv_at hl 4 rfl) ?_
        refine lv_iconst (v := nI 0) hx hb dL_isRefused_324 (by decide) ?_
        refine lv_aload_n hx hb dL_isRefused_325 rfl (lv_at hl 5 rfl) ?_
        refine lv_iconst (v := nI 1) hx hb dL_isRefused_326 (by decide) ?_
        refine va_iald hx hb hK hP 0 0 rfl rfl (xin (by omega) (by omega)) dL_isRefused_327 ?_
        refine x_top (fm 1) (by rw [nI_clamp (by omega)]) ?_
        refine x_top (nI o) (hm1) ?_
        refine lv_iconst (v := nI 1) hx hb dL_isRefused_328 (by decide) ?_
        refine lv_isub hx hb dL_isRefused_329 ?_
        refine x_top (nI (o - 1)) (xsub (by omega)) ?_
        refine lv_iconst (v := nI 0) hx hb dL_isRefused_330 (by decide) ?_
        refine lv_iconst (v := nI 0) hx hb dL_isRefused_331 (by decide) ?_
        refine xcri (vx_runSX (As := [.ref x, .int (nI 0), .int (nI (o - 1)), .int (nI 0), .int (nI 0)]) (rest := []) ⟨hx, hb, hml, hown, hts⟩ (o_kindAt l hst Ax x lv kp fL fK o ld b k FZ G hC (nI (o - 1)) (nI 0) (nI 0) (BD.num hld (by omega) (by omega)).at hld hold) (vx_cwSW 5 hts gL_isRefused_L_of rfl rfl rfl (by decide +kernel) ⟨(Nat.le_of_ble_eq_true rfl), (Nat.le_of_ble_eq_true rfl)⟩) ⟨XPl_blind, XPl_pre hE hT hN hPc⟩ rfl rfl hl.1 rfl (lv_room (Nat.le_of_ble_eq_true rfl)) dL_isRefused_332 ⟨by first | exact Nat.le_of_ble_eq_true rfl | (show (_ : Nat) ≤ 600; omega), by first | exact Nat.le_of_ble_eq_true rfl | (show (_ : Nat) ≤ 3000; omega)⟩) (fun r9 H1 hr9 hz9 hk9 => ?_)
        subst hr9
        have hP := xkept hP hk9
        have hPc := xkept hPc hk9
        have hT := hT.kept (fun a h1 _ => hk9 a h1)
        obtain ⟨hz, hk⟩ := xk_tr hz hk hz9 hk9
        clear hz9 hk9
        generalize H1 = H at hP hPc hT hz hk ⊢
        refine lv_sipush (v := (-1161)) hx hb dL_isRefused_335 (by decide) ?_
        refine lv_icmp_ne (tgt := 534) hx hb dL_isRefused_338 (by decide) (fun h => absurd h (by decide)) (fun _ => ?_)
        refine lv_aload_n hx hb dL_isRefused_341 rfl (lv_at hl 4 rfl) ?_
        refine lv_iconst (v := nI 3) hx hb dL_isRefused_342 (by decide) ?_
        refine lv_aload_n hx hb dL_isRefused_343 rfl (lv_at hl 5 rfl) ?_
        refine lv_iconst (v := nI 1) hx hb dL_isRefused_344 (by decide) ?_
        refine va_iald hx hb hK hP 0 0 rfl rfl (xin (by omega) (by omega)) dL_isRefused_345 ?_
        refine x_top (fm 1) (by rw [nI_clamp (by omega)]) ?_
        refine x_top (nI o) (hm1) ?_
        refine lv_iconst (v := nI 1) hx hb dL_isRefused_346 (by decide) ?_
        refine lv_isub hx hb dL_isRefused_347 ?_
        refine x_top (nI (o - 1)) (xsub (by omega)) ?_
        refine lv_iconst (v := nI 0) hx hb dL_isRefused_348 (by decide) ?_
        refine lv_iconst (v := nI 0) hx hb dL_isRefused_349 (by decide) ?_
        refine xcri (vx_runSX (As := [.ref x, .int (nI 3), .int (nI (o - 1)), .int (nI 0), .int (nI 0)]) (rest := []) ⟨hx, hb, hml, hown, hts⟩ (o_sizeAt l hst Ax x lv kp fL fK o ld b k FZ G hC (nI (o - 1)) (nI 0) (nI 0) (BD.num hld (by omega) (by omega)).sz hld hold) (vx_cwSW 5 hts gL_isRefused_L_of rfl rfl rfl (by decide +kernel) ⟨(Nat.le_of_ble_eq_true rfl), (Nat.le_of_ble_eq_true rfl)⟩) ⟨XPl_blind, XPl_pre hE hT hN hPc⟩ rfl rfl hl.1 rfl (lv_room (Nat.le_of_ble_eq_true rfl)) dL_isRefused_350 ⟨by first | exact Nat.le_of_ble_eq_true rfl | (show (_ : Nat) ≤ 600; omega), by first | exact Nat.le_of_ble_eq_true rfl | (show (_ : Nat) ≤ 3000; omega)⟩) (fun r9 H1 hr9 hz9 hk9 => ?_)
        subst hr9
        have hP := xkept hP hk9
        have hPc := xkept hPc hk9
        have hT := hT.kept (fun a h1 _ => hk9 a h1)
        obtain ⟨hz, hk⟩ := xk_tr hz hk hz9 hk9
        clear hz9 hk9
        generalize H1 = H at hP hPc hT hz hk ⊢
        refine lv_sipush (v := (-1161)) hx hb dL_isRefused_353 (by decide) ?_
        refine lv_icmp_ne (tgt := 534) hx hb dL_isRefused_356 (by decide) (fun h => absurd h (by decide)) (fun _ => ?_)
        refine W.widen (k := 200) (n := 1000) (Nat.le_of_ble_eq_true rfl) (Nat.le_of_ble_eq_true rfl) ?_
        exact J _ _ _ ⟨hz, hk, rfl, lv_sub hl [0, 1, 2, 3, 4, 5, 6] rfl⟩
  · have c3 : nI (X % 2) = nI 0 := c3
    have c3 : (X % 2) = 0 := (xeq (by omega) (by omega)).mp c3
    omega
