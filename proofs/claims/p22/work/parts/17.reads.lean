/-! what the law reads: places, needs, sizes -/
theorem lc_eq {a b : Tv} (ha : WFT a) (hb : WFT b) (h : lg_cmp (tlL a 12) (tlL b 12) = 0) : sameB a b = true := (tl_same ha hb).mp ((lg_cmp_eq _ _).mp h)
theorem lc_ne {a b : Tv} (ha : WFT a) (hb : WFT b) (h : ¬ lg_cmp (tlL a 12) (tlL b 12) = 0) : sameB a b = false := by
  cases e : sameB a b
  · rfl
  · exact absurd ((lg_cmp_eq _ _).mpr ((tl_same ha hb).mpr e)) h
/-- the law's own number for a broken run -/
def M2 (b k : Nat) (v : Int32) : Prop := (b = 0 ∧ k = 0 ∧ v = -1) ∨ (b = 1 ∧ k ≤ 6 ∧ v = nI k)
theorem M2.neg {b k : Nat} {v : Int32} (h : M2 b k v) (c : v < 0) : b = 0 ∧ k = 0 ∧ v = -1 := by
  rcases h with h | ⟨h1, h2, rfl⟩
  · exact h
  · exact absurd c (xlt0 (by omega))
theorem M2.pos {b k : Nat} {v : Int32} (h : M2 b k v) (c : ¬ v < 0) : b = 1 ∧ k ≤ 6 ∧ v = nI k := by
  rcases h with ⟨h1, h2, rfl⟩ | h
  · exact absurd (by decide) c
  · exact h
theorem M2.le {b k : Nat} {v : Int32} (h : M2 b k v) : b ≤ 1 := by
  rcases h with ⟨h1, h2, h3⟩ | ⟨h1, h2, h3⟩ <;> omega
def alH (G : Nat → Tv) (o ld b : Nat) : Int64 := (nI ld).toInt64 + 31 * (nI o).toInt64 + 1009 * (nI (dfN G ld 6)).toInt64 + 65537 * (nI (szN G (6 * o) (6 * (ld - o)))).toInt64 + (if b = 0 then 0 else 7)
def alL (G : Nat → Tv) (h : Int64) : Nat → Int64
  | 0 => h
  | p + 1 => 1000003 * alL G h p + tlL (G (246 + p)) 12
def sumD (G : Nat → Tv) (ld k0 : Nat) : Nat → Nat
  | 0 => 0
  | n + 1 => sumD G ld k0 n + difW G ld ((k0 + n) / 6) ((k0 + n) % 6)
theorem difW_last {G : Nat → Tv} {ld d j : Nat} (h : ld ≤ d) : difW G ld d j = 0 := if_pos h
theorem difW_lt {G : Nat → Tv} {ld d j : Nat} (h : d < ld) : difW G ld d j = dif (G (6 * d + j)) (G (6 * (d + 1) + j)) := if_neg (by omega)
theorem sumD_sz {G : Nat → Tv} {o ld : Nat} : ∀ n, 6 * o + n ≤ 6 * ld → sumD G ld (6 * o) n = szN G (6 * o) n := by
  intro n
  induction n with
  | zero => intro _; rfl
  | succ n ih =>
    intro h
    simp only [sumD, szN]
    rw [ih (by omega), difW_lt (by omega), show 6 * ((6 * o + n) / 6) + (6 * o + n) % 6 = 6 * o + n by omega, show 6 * ((6 * o + n) / 6 + 1) + (6 * o + n) % 6 = 6 * o + n + 6 by omega]
theorem sumD_m {G : Nat → Tv} {o ld : Nat} (ho : o ≤ ld) : ∀ m, sumD G ld (6 * o) (6 * (ld - o) + m) = szN G (6 * o) (6 * (ld - o)) := by
  intro m
  induction m with
  | zero => exact sumD_sz _ (by omega)
  | succ m ih =>
    show sumD G ld (6 * o) (6 * (ld - o) + m) + difW G ld ((6 * o + (6 * (ld - o) + m)) / 6) ((6 * o + (6 * (ld - o) + m)) % 6) = _
    rw [ih, difW_last (by omega), Nat.add_zero]
theorem sumD_all {G : Nat → Tv} {o ld j : Nat} (ho : o ≤ ld) (hj : 6 * o + j = 6 * ld + 6) : sumD G ld (6 * o) j = szN G (6 * o) (6 * (ld - o)) := by
  rw [show j = 6 * (ld - o) + 6 by omega]; exact sumD_m ho 6
theorem tak_end {f g : Nat → Int32} {n1 n2 k s : Nat} (h : n1 ≤ s) : tak f g n1 n2 k s = 0 := by
  cases k with
  | zero => rfl
  | succ k => simp only [tak]; rw [if_neg (by omega)]
theorem tak_s1 {f g : Nat → Int32} {n1 n2 k s : Nat} (h : s < n1) (h2 : lng f g n1 n2 s n2 < 3) : tak f g n1 n2 (k + 1) s = 1 + tak f g n1 n2 k (s + 1) := by
  simp only [tak]; rw [if_pos h, if_pos h2]
theorem tak_s2 {f g : Nat → Int32} {n1 n2 k s : Nat} (h : s < n1) (h2 : ¬ lng f g n1 n2 s n2 < 3) : tak f g n1 n2 (k + 1) s = 2 + tak f g n1 n2 k (s + lng f g n1 n2 s n2) := by
  simp only [tak]; rw [if_pos h, if_neg h2]
theorem lng_s1 {f g : Nat → Int32} {n1 n2 s t : Nat} (h : lng f g n1 n2 s t < shL f g n1 n2 s t) : lng f g n1 n2 s (t + 1) = shL f g n1 n2 s t := by
  simp only [lng]; rw [if_pos h]
theorem lng_s2 {f g : Nat → Int32} {n1 n2 s t : Nat} (h : ¬ lng f g n1 n2 s t < shL f g n1 n2 s t) : lng f g n1 n2 s (t + 1) = lng f g n1 n2 s t := by
  simp only [lng]; rw [if_neg h]
theorem dif_o1 {a b : Tv} (hs : sameB a b = false) (h : ¬ a.1 = nI 1) : dif a b = 1 + (if a.2.1 = b.2.1 then 0 else 1) := by
  unfold dif
  rw [if_neg (by rw [hs]; decide), if_neg (fun q => h q.1), if_neg h]
theorem dif_o2 {a b : Tv} (hs : sameB a b = false) (h : a.1 = nI 1) (h2 : ¬ b.1 = nI 1) : dif a b = a.2.2.1 + 1 + (if a.2.1 = b.2.1 then 0 else 1) := by
  unfold dif
  rw [if_neg (by rw [hs]; decide), if_neg (fun q => h2 q.2), if_pos h]
theorem dif_o3 {a b : Tv} (hs : sameB a b = false) (h : a.1 = nI 1) (h2 : b.1 = nI 1) : dif a b = tak a.2.2.2 b.2.2.2 a.2.2.1 b.2.2.1 a.2.2.1 0 + (if a.2.1 = b.2.1 then 0 else 1) := by
  unfold dif
  rw [if_neg (by rw [hs]; decide), if_pos ⟨h, h2⟩]
theorem ite_le1 {p : Prop} [Decidable p] : (if p then 0 else 1) ≤ 1 := by
  split <;> omega

set_option maxHeartbeats 4000000 in
set_option maxRecDepth 100000 in
theorem c_L_told (l : Launch) (hst : l.stackTraces = false) {D : va_G} {cI cT cJ : ClassId} (Ax : Nat → Prop) (x lv kp : Nat) (fL fK : Nat → Option Nat) (o ld b k : Nat) (FZ : va_W) (G : Nat → Tv) (hC : CA cI FZ fL fK G) (v w : Int32) (i : Nat) (hat : AT o ld v w i) (hld : ld ≤ 40) (hold : o ≤ ld) : Met l yL_told wsL_told (rmD 9 3 18) (XPx D cI cT cJ Ax [.ref x, .int v, .int w] (fun H => va_P D vwCl (CW cT x lv kp fL fK o ld b k FZ) H)) (XSj (fun r => r = tlL (G i) 12)) 3 18 (fun _ => False) := by
  refine Met.ofW (cc := cL_told) (maxL := 6) (ret := (some .long)) (by decide) rfl ?_
  intro p e s m args below meth c s₁ B hml hv
  obtain ⟨rfl, hP, hE, hT⟩ := hv
  have hx := B.exec
  have hb := B.bytes
  have hr := B.returns
  have hts := atoms_spec (ws := wsL_told) B.pre
  have hown : s.vm.findClass RL = some m.cls := findClass_of_methodNamed B.named
  have hlocks := B.notSynchronized
  have hl := lv_entry ([.ref x, .int v, .int w]) (n := 6) (Nat.le_of_ble_eq_true rfl)
  rw [lg_entry_eq]
  generalize (lg_sl ([.ref x, .int v, .int w]) ++ List.replicate (6 - (lg_sl ([.ref x, .int v, .int w])).length) Slot.unset).toArray = ls at hl ⊢
  have hl : lv_has ls 6 [(0, .ref x), (1, .int v), (2, .int w)] := hl
  have hK := hE.1
  have hPc : va_P D vwCl (CW cT x lv kp fL fK o ld b k FZ) s.heap := hP
  refine lv_aload_n hx hb dL_told_0 rfl (lv_at hl 0 rfl) ?_
  refine lv_iload_n hx hb dL_told_1 rfl (lv_at hl 1 rfl) ?_
  refine lv_iload_n hx hb dL_told_2 rfl (lv_at hl 2 rfl) ?_
  refine xcr (vx_runV (As := [.int v, .int w]) (rest := []) ⟨hx, hb, hml, hown, hts⟩ (c_X1_kindAt l hst Ax x lv kp fL fK o ld b k FZ G hC v w hld hold) (cwV 2 hts gL_told_X1_kindAt rfl rfl rfl (by decide +kernel) ⟨(Nat.le_of_ble_eq_true rfl), (Nat.le_of_ble_eq_true rfl)⟩) ⟨XPx_blind, va_recv hK hPc (ci := 1) (q0 := 0) rfl rfl, XPx_pre hE hT hPc⟩ rfl rfl hl.1 rfl (lv_room (Nat.le_of_ble_eq_true rfl)) dL_told_3 ⟨by first | exact Nat.le_of_ble_eq_true rfl | (show _ + _ ≤ _; omega), by first | exact Nat.le_of_ble_eq_true rfl | (show _ + _ ≤ _; omega)⟩) (rq_no hat) (rq_k hld hat) ?_
  refine lv_i2l (v := ((G i).1).toInt64) hx hb dL_told_6 rfl ?_
  refine lv_ldc2 (v := 3) hx hb hown (hts (.constantLong RL 59 (3)) (by decide +kernel)) dL_told_7 ?_
  refine lv_aload_n hx hb dL_told_10 rfl (lv_at hl 0 rfl) ?_
  refine lv_iload_n hx hb dL_told_11 rfl (lv_at hl 1 rfl) ?_
  refine lv_iload_n hx hb dL_told_12 rfl (lv_at hl 2 rfl) ?_
  refine xcr (vx_runV (As := [.int v, .int w]) (rest := [.long 3, .long (((G i).1).toInt64)]) ⟨hx, hb, hml, hown, hts⟩ (c_X1_rightsAt l hst Ax x lv kp fL fK o ld b k FZ G hC v w hld hold) (cwV 2 hts gL_told_X1_rightsAt rfl rfl rfl (by decide +kernel) ⟨(Nat.le_of_ble_eq_true rfl), (Nat.le_of_ble_eq_true rfl)⟩) ⟨XPx_blind, va_recv hK hPc (ci := 1) (q0 := 0) rfl rfl, XPx_pre hE hT hPc⟩ rfl rfl hl.1 rfl (lv_room (Nat.le_of_ble_eq_true rfl)) dL_told_13 ⟨by first | exact Nat.le_of_ble_eq_true rfl | (show _ + _ ≤ _; omega), by first | exact Nat.le_of_ble_eq_true rfl | (show _ + _ ≤ _; omega)⟩) (rq_no hat) (rq_r hld hat) ?_
  refine lv_i2l (v := ((G i).2.1).toInt64) hx hb dL_told_16 rfl ?_
  refine lv_lmul hx hb dL_told_17 ?_
  refine lv_ladd hx hb dL_told_18 ?_
  refine x_topl (tlL (G i) 0) (rfl) ?_
  refine lv_lstore_n (lv' := [(3, .long (tlL (G i) 0)), (0, .ref x), (1, .int v), (2, .int w)]) hx hb dL_told_19 rfl hl (by decide) rfl (fun ls hl => ?_)
  refine lv_iconst (v := nI 0) hx hb dL_told_20 (by decide) ?_
  refine lv_istore (lv' := [(5, .int (nI 0)), (3, .long (tlL (G i) 0)), (0, .ref x), (1, .int v), (2, .int w)]) hx hb dL_told_21 hl (by decide) rfl (fun ls hl => ?_)
  refine x_loopP (fun n ls => ∃ j : Nat, (j ≤ 12) ∧ (12 < j + n) ∧ lv_has ls 6 [(5, .int (nI j)), (3, .long (tlL (G i) j)), (0, .ref x), (1, .int v), (2, .int w)]) (13) ⟨0, by omega, by omega, lv_sub hl [0, 1, 2, 3, 4] rfl⟩ (fun ls h => by obtain ⟨j, hj, hn, -⟩ := h; omega) (fun n ls h ih => ?_)
  obtain ⟨j, hj, hn, hl⟩ := h
  refine lv_iload hx hb dL_told_23 (lv_at hl 0 rfl) ?_
  refine lv_bipush (v := nI 12) hx hb dL_told_25 (by decide) ?_
  refine lv_icmp_ge (tgt := 54) hx hb dL_told_27 (by decide) (fun c27 => ?_) (fun c27 => ?_)
  · have c27 : 12 ≤ j := (xle (by omega) (by omega)).mp c27
    obtain rfl : j = 12 := by omega
    refine lv_lload_n hx hb dL_told_54 rfl (lv_at hl 1 rfl) ?_
    refine W.widen (k := 3) (n := 18) (Nat.le_of_ble_eq_true rfl) (Nat.le_of_ble_eq_true rfl) ?_
    exact W.lret hx hb hr (fun t9 ht9 hW9 => ⟨_, rfl, rfl, ht9⟩) (fun _ h => nomatch h) dL_told_55
  · have c27 : ¬ 12 ≤ j := fun h => c27 ((xle (by omega) (by omega)).mpr h)
    refine lv_ldc2 (v := 12) hx hb hown (hts (.constantLong RL 61 (12)) (by decide +kernel)) dL_told_30 ?_
    refine lv_lload_n hx hb dL_told_33 rfl (lv_at hl 1 rfl) ?_
    refine lv_lmul hx hb dL_told_34 ?_
    refine lv_aload_n hx hb dL_told_35 rfl (lv_at hl 2 rfl) ?_
    refine lv_iload_n hx hb dL_told_36 rfl (lv_at hl 3 rfl) ?_
    refine lv_iload_n hx hb dL_told_37 rfl (lv_at hl 4 rfl) ?_
    refine lv_iload hx hb dL_told_38 (lv_at hl 0 rfl) ?_
    refine xcr (vx_runV (As := [.int v, .int w, .int (nI j)]) (rest := [.long (12 * (tlL (G i) j))]) ⟨hx, hb, hml, hown, hts⟩ (c_X1_numberAt l hst Ax x lv kp fL fK o ld b k FZ G hC v w (nI j) hld hold) (cwV 3 hts gL_told_X1_numberAt rfl rfl rfl (by decide +kernel) ⟨(Nat.le_of_ble_eq_true rfl), (Nat.le_of_ble_eq_true rfl)⟩) ⟨XPx_blind, va_recv hK hPc (ci := 1) (q0 := 0) rfl rfl, XPx_pre hE hT hPc⟩ rfl rfl hl.1 rfl (lv_room (Nat.le_of_ble_eq_true rfl)) dL_told_40 ⟨by first | exact Nat.le_of_ble_eq_true rfl | (show _ + _ ≤ _; omega), by first | exact Nat.le_of_ble_eq_true rfl | (show _ + _ ≤ _; omega)⟩) (rq_nn hat (by omega)) (rq_n hld hat (by omega)) ?_
    refine lv_i2l (v := (num (G i) j).toInt64) hx hb dL_told_43 rfl ?_
    refine lv_ladd hx hb dL_told_44 ?_
    refine lv_lconst (v := 1) hx hb dL_told_45 rfl ?_
    refine lv_ladd hx hb dL_told_46 ?_
    refine x_topl (tlL (G i) (j + 1)) (rfl) ?_
    refine lv_lstore_n (lv' := [(3, .long (tlL (G i) (j + 1))), (5, .int (nI j)), (0, .ref x), (1, .int v), (2, .int w)]) hx hb dL_told_47 rfl hl (by decide) rfl (fun ls hl => ?_)
    refine lv_iinc (v := nI (j + 1)) (lv' := [(5, .int (nI (j + 1))), (3, .long (tlL (G i) (j + 1))), (0, .ref x), (1, .int v), (2, .int w)]) hx hb dL_told_48 hl (k := 1) rfl (xinc _ 1 _ (by decide)) (by decide) rfl (fun ls hl => ?_)
    refine lv_goto (tgt := 23) hx hb dL_told_51 (by decide) ?_
    exact ih _ ⟨j + 1, by omega, by omega, lv_sub hl [0, 1, 2, 3, 4] rfl⟩

set_option maxHeartbeats 4000000 in
set_option maxRecDepth 100000 in
theorem c_L_length (l : Launch) (hst : l.stackTraces = false) {D : va_G} {cI cT cJ : ClassId} (Ax : Nat → Prop) (x lv kp : Nat) (fL fK : Nat → Option Nat) (o ld b k : Nat) (FZ : va_W) (G : Nat → Tv) (hC : CA cI FZ fL fK G) (v w : Int32) (i : Nat) (hat : AT o ld v w i) (hWi : WFT (G i)) (hld : ld ≤ 40) (hold : o ≤ ld) : Met l yL_length wsL_length (rmD 9 3 18) (XPx D cI cT cJ Ax [.ref x, .int v, .int w] (fun H => va_P D vwCl (CW cT x lv kp fL fK o ld b k FZ) H)) (XSi (fun r => r = nI (G i).2.2.1)) 3 18 (fun _ => False) := by
  refine Met.ofW (cc := cL_length) (maxL := 4) (ret := (some .int)) (by decide) rfl ?_
  intro p e s m args below meth c s₁ B hml hv
  obtain ⟨rfl, hP, hE, hT⟩ := hv
  have hx := B.exec
  have hb := B.bytes
  have hr := B.returns
  have hts := atoms_spec (ws := wsL_length) B.pre
  have hown : s.vm.findClass RL = some m.cls := findClass_of_methodNamed B.named
  have hlocks := B.notSynchronized
  have hl := lv_entry ([.ref x, .int v, .int w]) (n := 4) (Nat.le_of_ble_eq_true rfl)
  rw [lg_entry_eq]
  generalize (lg_sl ([.ref x, .int v, .int w]) ++ List.replicate (4 - (lg_sl ([.ref x, .int v, .int w])).length) Slot.unset).toArray = ls at hl ⊢
  have hl : lv_has ls 4 [(0, .ref x), (1, .int v), (2, .int w)] := hl
  have hK := hE.1
  have hPc : va_P D vwCl (CW cT x lv kp fL fK o ld b k FZ) s.heap := hP
  have hWi0 := hWi
  obtain ⟨kk, rr, ek, hk2, er, hr7, hlen, hnum, hk0, hk2l⟩ := hWi
  refine lv_iconst (v := nI 0) hx hb dL_length_0 (by decide) ?_
  refine lv_istore_n (lv' := [(3, .int (nI 0)), (0, .ref x), (1, .int v), (2, .int w)]) hx hb dL_length_1 rfl hl (by decide) rfl (fun ls hl => ?_)
  refine x_loopP (fun n ls => ∃ j : Nat, (j ≤ (G i).2.2.1) ∧ (12 < j + n) ∧ lv_has ls 4 [(3, .int (nI j)), (0, .ref x), (1, .int v), (2, .int w)]) (13) ⟨0, by omega, by omega, lv_sub hl [0, 1, 2, 3] rfl⟩ (fun ls h => by obtain ⟨j, hj, hn, -⟩ := h; omega) (fun n ls h ih => ?_)
  obtain ⟨j, hj, hn, hl⟩ := h
  refine lv_iload_n hx hb dL_length_2 rfl (lv_at hl 0 rfl) ?_
  refine lv_bipush (v := nI 12) hx hb dL_length_3 (by decide) ?_
  refine lv_icmp_ge (tgt := 24) hx hb dL_length_5 (by decide) (fun c5 => ?_) (fun c5 => ?_)
  · have c5 : 12 ≤ j := (xle (by omega) (by omega)).mp c5
    refine lv_iload_n hx hb dL_length_24 rfl (lv_at hl 0 rfl) ?_
    refine W.widen (k := 3) (n := 18) (Nat.le_of_ble_eq_true rfl) (Nat.le_of_ble_eq_true rfl) ?_
    exact W.iret hx hb hr (fun t9 ht9 hW9 => ⟨_, rfl, congrArg nI (by omega), ht9⟩) (fun _ h => nomatch h) dL_length_25
  · have c5 : ¬ 12 ≤ j := fun h => c5 ((xle (by omega) (by omega)).mpr h)
    refine lv_aload_n hx hb dL_length_8 rfl (lv_at hl 1 rfl) ?_
    refine lv_iload_n hx hb dL_length_9 rfl (lv_at hl 2 rfl) ?_
    refine lv_iload_n hx hb dL_length_10 rfl (lv_at hl 3 rfl) ?_
    refine lv_iload_n hx hb dL_length_11 rfl (lv_at hl 0 rfl) ?_
    refine xcr (vx_runV (As := [.int v, .int w, .int (nI j)]) (rest := []) ⟨hx, hb, hml, hown, hts⟩ (c_X1_numberAt l hst Ax x lv kp fL fK o ld b k FZ G hC v w (nI j) hld hold) (cwV 3 hts gL_length_X1_numberAt rfl rfl rfl (by decide +kernel) ⟨(Nat.le_of_ble_eq_true rfl), (Nat.le_of_ble_eq_true rfl)⟩) ⟨XPx_blind, va_recv hK hPc (ci := 1) (q0 := 0) rfl rfl, XPx_pre hE hT hPc⟩ rfl rfl hl.1 rfl (lv_room (Nat.le_of_ble_eq_true rfl)) dL_length_12 ⟨by first | exact Nat.le_of_ble_eq_true rfl | (show _ + _ ≤ _; omega), by first | exact Nat.le_of_ble_eq_true rfl | (show _ + _ ≤ _; omega)⟩) (rq_nn hat (by omega)) (rq_n hld hat (by omega)) ?_
    refine lv_if_lt (tgt := 24) hx hb dL_length_15 (by decide) (fun c15 => ?_) (fun c15 => ?_)
    · have hq : ¬ j < (G i).2.2.1 := (num_neg hWi0).mp c15
      refine lv_iload_n hx hb dL_length_24 rfl (lv_at hl 0 rfl) ?_
      refine W.widen (k := 3) (n := 18) (Nat.le_of_ble_eq_true rfl) (Nat.le_of_ble_eq_true rfl) ?_
      exact W.iret hx hb hr (fun t9 ht9 hW9 => ⟨_, rfl, congrArg nI (by omega), ht9⟩) (fun _ h => nomatch h) dL_length_25
    · have hq : j < (G i).2.2.1 := Decidable.not_not.mp (fun q => c15 ((num_neg hWi0).mpr q))
      refine lv_iinc (v := nI (j + 1)) (lv' := [(3, .int (nI (j + 1))), (0, .ref x), (1, .int v), (2, .int w)]) hx hb dL_length_18 hl (k := 0) rfl (xinc _ 1 _ (by decide)) (by decide) rfl (fun ls hl => ?_)
      refine lv_goto (tgt := 2) hx hb dL_length_21 (by decide) ?_
      exact ih _ ⟨j + 1, by omega, by omega, lv_sub hl [0, 1, 2, 3] rfl⟩

set_option maxHeartbeats 4000000 in
set_option maxRecDepth 100000 in
theorem c_L_isOnly (l : Launch) (hst : l.stackTraces = false) {D : va_G} {cI cT cJ : ClassId} (Ax : Nat → Prop) (x lv kp : Nat) (fL fK : Nat → Option Nat) (o ld b k : Nat) (FZ : va_W) (G : Nat → Tv) (hC : CA cI FZ fL fK G) (la : Nat) (fl : Nat → Int64) (v : Int32) (hL : ∀ j, j < 6 → ¬ nI j = v → fl j = tlL (G (246 + j)) 12) (hld : ld ≤ 40) (hold : o ≤ ld) : Met l yL_isOnly wsL_isOnly (rmD 10 3 18) (XPx D cI cT cJ Ax [.ref x, .ref la, .int v] (fun H => va_P D vwCl ((la, .inl (cJ, 6, .inr (.inl fl))) :: (CW cT x lv kp fL fK o ld b k FZ)) H)) (XSi (fun r => r = nI 1)) 3 18 (fun _ => False) := by
  refine Met.ofW (cc := cL_isOnly) (maxL := 5) (ret := (some .boolean)) (by decide) rfl ?_
  intro p e s m args below meth c s₁ B hml hv
  obtain ⟨rfl, hP, hE, hT⟩ := hv
  have hx := B.exec
  have hb := B.bytes
  have hr := B.returns
  have hts := atoms_spec (ws := wsL_isOnly) B.pre
  have hown : s.vm.findClass RL = some m.cls := findClass_of_methodNamed B.named
  have hlocks := B.notSynchronized
  have hl := lv_entry ([.ref x, .ref la, .int v]) (n := 5) (Nat.le_of_ble_eq_true rfl)
  rw [lg_entry_eq]
  generalize (lg_sl ([.ref x, .ref la, .int v]) ++ List.replicate (5 - (lg_sl ([.ref x, .ref la, .int v])).length) Slot.unset).toArray = ls at hl ⊢
  have hl : lv_has ls 5 [(0, .ref x), (1, .ref la), (2, .int v)] := hl
  have hK := hE.1
  have hPc : va_P D vwCl (CW cT x lv kp fL fK o ld b k FZ) s.heap := xP_sub (fun _ h => List.mem_cons_of_mem _ h) hP
  refine lv_iconst (v := nI 1) hx hb dL_isOnly_0 (by decide) ?_
  refine lv_istore_n (lv' := [(3, .int (nI 1)), (0, .ref x), (1, .ref la), (2, .int v)]) hx hb dL_isOnly_1 rfl hl (by decide) rfl (fun ls hl => ?_)
  refine lv_iconst (v := nI 0) hx hb dL_isOnly_2 (by decide) ?_
  refine lv_istore (lv' := [(4, .int (nI 0)), (3, .int (nI 1)), (0, .ref x), (1, .ref la), (2, .int v)]) hx hb dL_isOnly_3 hl (by decide) rfl (fun ls hl => ?_)
  refine x_loopP (fun n ls => ∃ j : Nat, (j ≤ 6) ∧ (6 < j + n) ∧ lv_has ls 5 [(4, .int (nI j)), (3, .int (nI 1)), (0, .ref x), (1, .ref la), (2, .int v)]) (7) ⟨0, by omega, by omega, lv_sub hl [0, 1, 2, 3, 4] rfl⟩ (fun ls h => by obtain ⟨j, hj, hn, -⟩ := h; omega) (fun n ls h ih => ?_)
  obtain ⟨j, hj, hn, hl⟩ := h
  refine lv_iload hx hb dL_isOnly_5 (lv_at hl 0 rfl) ?_
  refine lv_bipush (v := nI 6) hx hb dL_isOnly_7 (by decide) ?_
  refine lv_icmp_ge (tgt := 49) hx hb dL_isOnly_9 (by decide) (fun c9 => ?_) (fun c9 => ?_)
  · have c9 : 6 ≤ j := (xle (by omega) (by omega)).mp c9
    refine lv_iload_n hx hb dL_isOnly_49 rfl (lv_at hl 1 rfl) ?_
    refine W.widen (k := 3) (n := 18) (Nat.le_of_ble_eq_true rfl) (Nat.le_of_ble_eq_true rfl) ?_
    exact W.zret hx hb hr (xnb _ (by omega)) (fun t9 ht9 hW9 => ⟨_, rfl, rfl, ht9⟩) (fun _ h => nomatch h) dL_isOnly_50
  · have c9 : ¬ 6 ≤ j := fun h => c9 ((xle (by omega) (by omega)).mpr h)
    refine lv_iload_n hx hb dL_isOnly_12 rfl (lv_at hl 1 rfl) ?_
    refine lv_if_eq (tgt := 49) hx hb dL_isOnly_13 (by decide) (fun h => absurd h (by decide)) (fun _ => ?_)
    refine lv_iload hx hb dL_isOnly_16 (lv_at hl 0 rfl) ?_
    refine lv_iload_n hx hb dL_isOnly_18 rfl (lv_at hl 4 rfl) ?_
    refine lv_icmp_eq (tgt := 37) hx hb dL_isOnly_19 (by decide) (fun c19 => ?_) (fun c19 => ?_)
    · refine lv_iconst (v := nI 1) hx hb dL_isOnly_37 (by decide) ?_
      refine lv_goto (tgt := 42) hx hb dL_isOnly_38 (by decide) ?_
      refine lv_istore_n (lv' := [(3, .int (nI 1)), (4, .int (nI j)), (0, .ref x), (1, .ref la), (2, .int v)]) hx hb dL_isOnly_42 rfl hl (by decide) rfl (fun ls hl => ?_)
      refine lv_iinc (v := nI (j + 1)) (lv' := [(4, .int (nI (j + 1))), (3, .int (nI 1)), (0, .ref x), (1, .ref la), (2, .int v)]) hx hb dL_isOnly_43 hl (k := 1) rfl (xinc _ 1 _ (by decide)) (by decide) rfl (fun ls hl => ?_)
      refine lv_goto (tgt := 5) hx hb dL_isOnly_46 (by decide) ?_
      exact ih _ ⟨j + 1, by omega, by omega, lv_sub hl [0, 1, 2, 3, 4] rfl⟩
    · refine lv_aload_n hx hb dL_isOnly_22 rfl (lv_at hl 2 rfl) ?_
      refine lv_iconst (v := (-1)) hx hb dL_isOnly_23 (by decide) ?_
      refine lv_iload hx hb dL_isOnly_24 (lv_at hl 0 rfl) ?_
      refine xc_sje (va_runS (As := [.ref x, .int ((-1)), .int (nI j)]) (rest := []) ⟨hx, hb, hml, hown, hts⟩ (c_L_told l hst Ax x lv kp fL fK o ld b k FZ G hC ((-1)) (nI j) (246 + j) (AT_l (by omega)) hld hold) (va_cwS 3 hts gL_isOnly_L_told rfl rfl rfl (by decide +kernel) ⟨(Nat.le_of_ble_eq_true rfl), (Nat.le_of_ble_eq_true rfl)⟩) ⟨XPx_blind, XPx_pre hE hT hPc⟩ rfl rfl hl.1 rfl (lv_room (Nat.le_of_ble_eq_true rfl)) dL_isOnly_26 ⟨by first | exact Nat.le_of_ble_eq_true rfl | (show _ + _ ≤ _; omega), by first | exact Nat.le_of_ble_eq_true rfl | (show _ + _ ≤ _; omega)⟩) ?_
      refine lv_aload_n hx hb dL_isOnly_29 rfl (lv_at hl 3 rfl) ?_
      refine lv_iload hx hb dL_isOnly_30 (lv_at hl 0 rfl) ?_
      refine va_lald hx hb hK hP 0 2 rfl rfl (xin (by omega) (by omega)) dL_isOnly_32 ?_
      refine x_topl (tlL (G (246 + j)) 12) (by rw [nI_clamp (by omega)]; exact hL j (by omega) c19) ?_
      refine W.lcmp hx hb dL_isOnly_33 ?_
      refine x_top (nI 0) (lg_self _) ?_
      refine lv_if_ne (tgt := 41) hx hb dL_isOnly_34 (by decide) (fun h => absurd h (by decide)) (fun _ => ?_)
      refine lv_iconst (v := nI 1) hx hb dL_isOnly_37 (by decide) ?_
      refine lv_goto (tgt := 42) hx hb dL_isOnly_38 (by decide) ?_
      refine lv_istore_n (lv' := [(3, .int (nI 1)), (4, .int (nI j)), (0, .ref x), (1, .ref la), (2, .int v)]) hx hb dL_isOnly_42 rfl hl (by decide) rfl (fun ls hl => ?_)
      refine lv_iinc (v := nI (j + 1)) (lv' := [(4, .int (nI (j + 1))), (3, .int (nI 1)), (0, .ref x), (1, .ref la), (2, .int v)]) hx hb dL_isOnly_43 hl (k := 1) rfl (xinc _ 1 _ (by decide)) (by decide) rfl (fun ls hl => ?_)
      refine lv_goto (tgt := 5) hx hb dL_isOnly_46 (by decide) ?_
      exact ih _ ⟨j + 1, by omega, by omega, lv_sub hl [0, 1, 2, 3, 4] rfl⟩

set_option maxHeartbeats 4000000 in
set_option maxRecDepth 100000 in
theorem c_L_all (l : Launch) (hst : l.stackTraces = false) {D : va_G} {cI cT cJ : ClassId} (Ax : Nat → Prop) (x lv kp : Nat) (fL fK : Nat → Option Nat) (o ld b k : Nat) (FZ : va_W) (G : Nat → Tv) (hC : CA cI FZ fL fK G) (hbb : b ≤ 1) (hld : ld ≤ 40) (hold : o ≤ ld) : Met l yL_all wsL_all (rmD 10 3 18) (XPx D cI cT cJ Ax [.ref x] (fun H => va_P D vwCl (CW cT x lv kp fL fK o ld b k FZ) H)) (XSj (fun r => r = alL G (alH G o ld b) 6)) 3 18 (fun _ => False) := by
  refine Met.ofW (cc := cL_all) (maxL := 4) (ret := (some .long)) (by decide) rfl ?_
  intro p e s m args below meth c s₁ B hml hv
  obtain ⟨rfl, hP, hE, hT⟩ := hv
  have hx := B.exec
  have hb := B.bytes
  have hr := B.returns
  have hts := atoms_spec (ws := wsL_all) B.pre
  have hown : s.vm.findClass RL = some m.cls := findClass_of_methodNamed B.named
  have hlocks := B.notSynchronized
  have hl := lv_entry ([.ref x]) (n := 4) (Nat.le_of_ble_eq_true rfl)
  rw [lg_entry_eq]
  generalize (lg_sl ([.ref x]) ++ List.replicate (4 - (lg_sl ([.ref x])).length) Slot.unset).toArray = ls at hl ⊢
  have hl : lv_has ls 4 [(0, .ref x)] := hl
  have hK := hE.1
  have hPc : va_P D vwCl (CW cT x lv kp fL fK o ld b k FZ) s.heap := hP
  refine lv_aload_n hx hb dL_all_0 rfl (lv_at hl 0 rfl) ?_
  refine xc_sie (va_runV (As := []) (rest := []) ⟨hx, hb, hml, hown, hts⟩ (c_X1_last l x lv kp fL fK o ld b k FZ ) (cwV 0 hts gL_all_X1_last rfl rfl rfl (by decide +kernel) ⟨(Nat.le_of_ble_eq_true rfl), (Nat.le_of_ble_eq_true rfl)⟩) ⟨XP_blind, va_recv hK hPc (ci := 1) (q0 := 0) rfl rfl, XP_pre hE hPc⟩ rfl rfl hl.1 rfl (lv_room (Nat.le_of_ble_eq_true rfl)) dL_all_1 ⟨by first | exact Nat.le_of_ble_eq_true rfl | (show _ + _ ≤ _; omega), by first | exact Nat.le_of_ble_eq_true rfl | (show _ + _ ≤ _; omega)⟩) ?_
  refine lv_i2l (v := (nI ld).toInt64) hx hb dL_all_4 rfl ?_
  refine lv_ldc2 (v := 31) hx hb hown (hts (.constantLong RL 94 (31)) (by decide +kernel)) dL_all_5 ?_
  refine lv_aload_n hx hb dL_all_8 rfl (lv_at hl 0 rfl) ?_
  refine xc_sie (va_runV (As := []) (rest := [.long 31, .long ((nI ld).toInt64)]) ⟨hx, hb, hml, hown, hts⟩ (c_X1_oldest l x lv kp fL fK o ld b k FZ ) (cwV 0 hts gL_all_X1_oldest rfl rfl rfl (by decide +kernel) ⟨(Nat.le_of_ble_eq_true rfl), (Nat.le_of_ble_eq_true rfl)⟩) ⟨XP_blind, va_recv hK hPc (ci := 1) (q0 := 0) rfl rfl, XP_pre hE hPc⟩ rfl rfl hl.1 rfl (lv_room (Nat.le_of_ble_eq_true rfl)) dL_all_9 ⟨by first | exact Nat.le_of_ble_eq_true rfl | (show _ + _ ≤ _; omega), by first | exact Nat.le_of_ble_eq_true rfl | (show _ + _ ≤ _; omega)⟩) ?_
  refine lv_i2l (v := (nI o).toInt64) hx hb dL_all_12 rfl ?_
  refine lv_lmul hx hb dL_all_13 ?_
  refine lv_ladd hx hb dL_all_14 ?_
  refine lv_ldc2 (v := 1009) hx hb hown (hts (.constantLong RL 96 (1009)) (by decide +kernel)) dL_all_15 ?_
  refine lv_aload_n hx hb dL_all_18 rfl (lv_at hl 0 rfl) ?_
  refine xc_sie (va_runV (As := []) (rest := [.long 1009, .long (((nI ld).toInt64) + (31 * ((nI o).toInt64)))]) ⟨hx, hb, hml, hown, hts⟩ (c_X1_needs l x lv kp fL fK o ld b k FZ G hC hld) (cwV 0 hts gL_all_X1_needs rfl rfl rfl (by decide +kernel) ⟨(Nat.le_of_ble_eq_true rfl), (Nat.le_of_ble_eq_true rfl)⟩) ⟨XP_blind, va_recv hK hPc (ci := 1) (q0 := 0) rfl rfl, XP_pre hE hPc⟩ rfl rfl hl.1 rfl (lv_room (Nat.le_of_ble_eq_true rfl)) dL_all_19 ⟨by first | exact Nat.le_of_ble_eq_true rfl | (show _ + _ ≤ _; omega), by first | exact Nat.le_of_ble_eq_true rfl | (show _ + _ ≤ _; omega)⟩) ?_
  refine lv_i2l (v := (nI (dfN G ld 6)).toInt64) hx hb dL_all_22 rfl ?_
  refine lv_lmul hx hb dL_all_23 ?_
  refine lv_ladd hx hb dL_all_24 ?_
  refine lv_ldc2 (v := 65537) hx hb hown (hts (.constantLong RL 98 (65537)) (by decide +kernel)) dL_all_25 ?_
  refine lv_aload_n hx hb dL_all_28 rfl (lv_at hl 0 rfl) ?_
  refine xc_sie (va_runV (As := []) (rest := [.long 65537, .long ((((nI ld).toInt64) + (31 * ((nI o).toInt64))) + (1009 * ((nI (dfN G ld 6)).toInt64)))]) ⟨hx, hb, hml, hown, hts⟩ (c_X1_size l x lv kp fL fK o ld b k FZ G hC hld hold) (cwV 0 hts gL_all_X1_size rfl rfl rfl (by decide +kernel) ⟨(Nat.le_of_ble_eq_true rfl), (Nat.le_of_ble_eq_true rfl)⟩) ⟨XP_blind, va_recv hK hPc (ci := 1) (q0 := 0) rfl rfl, XP_pre hE hPc⟩ rfl rfl hl.1 rfl (lv_room (Nat.le_of_ble_eq_true rfl)) dL_all_29 ⟨by first | exact Nat.le_of_ble_eq_true rfl | (show _ + _ ≤ _; omega), by first | exact Nat.le_of_ble_eq_true rfl | (show _ + _ ≤ _; omega)⟩) ?_
  refine lv_i2l (v := (nI (szN G (6 * o) (6 * (ld - o)))).toInt64) hx hb dL_all_32 rfl ?_
  refine lv_lmul hx hb dL_all_33 ?_
  refine lv_ladd hx hb dL_all_34 ?_
  refine lv_aload_n hx hb dL_all_35 rfl (lv_at hl 0 rfl) ?_
  refine xc_sie (va_runV (As := []) (rest := [.long (((((nI ld).toInt64) + (31 * ((nI o).toInt64))) + (1009 * ((nI (dfN G ld 6)).toInt64))) + (65537 * ((nI (szN G (6 * o) (6 * (ld - o)))).toInt64)))]) ⟨hx, hb, hml, hown, hts⟩ (c_X1_isBroken l x lv kp fL fK o ld b k FZ hbb) (cwV 0 hts gL_all_X1_isBroken rfl rfl rfl (by decide +kernel) ⟨(Nat.le_of_ble_eq_true rfl), (Nat.le_of_ble_eq_true rfl)⟩) ⟨XP_blind, va_recv hK hPc (ci := 1) (q0 := 0) rfl rfl, XP_pre hE hPc⟩ rfl rfl hl.1 rfl (lv_room (Nat.le_of_ble_eq_true rfl)) dL_all_36 ⟨by first | exact Nat.le_of_ble_eq_true rfl | (show _ + _ ≤ _; omega), by first | exact Nat.le_of_ble_eq_true rfl | (show _ + _ ≤ _; omega)⟩) ?_
  refine x_join (ls := ls) 49 [.long (if b = 0 then 0 else 7), .long (((((nI ld).toInt64) + (31 * ((nI o).toInt64))) + (1009 * ((nI (dfN G ld 6)).toInt64))) + (65537 * ((nI (szN G (6 * o) (6 * (ld - o)))).toInt64)))] ?_ (fun J => ?_)
  · refine lv_ladd hx hb dL_all_49 ?_
    refine x_topl (alL G (alH G o ld b) 0) (rfl) ?_
    refine lv_lstore_n (lv' := [(1, .long (alL G (alH G o ld b) 0)), (0, .ref x)]) hx hb dL_all_50 rfl hl (by decide) rfl (fun ls hl => ?_)
    refine lv_iconst (v := nI 0) hx hb dL_all_51 (by decide) ?_
    refine lv_istore_n (lv' := [(3, .int (nI 0)), (1, .long (alL G (alH G o ld b) 0)), (0, .ref x)]) hx hb dL_all_52 rfl hl (by decide) rfl (fun ls hl => ?_)
    refine x_loopP (fun n ls => ∃ j : Nat, (j ≤ 6) ∧ (6 < j + n) ∧ lv_has ls 4 [(3, .int (nI j)), (1, .long (alL G (alH G o ld b) j)), (0, .ref x)]) (7) ⟨0, by omega, by omega, lv_sub hl [0, 1, 2] rfl⟩ (fun ls h => by obtain ⟨j, hj, hn, -⟩ := h; omega) (fun n ls h ih => ?_)
    obtain ⟨j, hj, hn, hl⟩ := h
    refine lv_iload_n hx hb dL_all_53 rfl (lv_at hl 0 rfl) ?_
    refine lv_bipush (v := nI 6) hx hb dL_all_54 (by decide) ?_
    refine lv_icmp_ge (tgt := 78) hx hb dL_all_56 (by decide) (fun c56 => ?_) (fun c56 => ?_)
    · have c56 : 6 ≤ j := (xle (by omega) (by omega)).mp c56
      obtain rfl : j = 6 := by omega
      refine lv_lload_n hx hb dL_all_78 rfl (lv_at hl 1 rfl) ?_
      refine W.widen (k := 3) (n := 18) (Nat.le_of_ble_eq_true rfl) (Nat.le_of_ble_eq_true rfl) ?_
      exact W.lret hx hb hr (fun t9 ht9 hW9 => ⟨_, rfl, rfl, ht9⟩) (fun _ h => nomatch h) dL_all_79
    · have c56 : ¬ 6 ≤ j := fun h => c56 ((xle (by omega) (by omega)).mpr h)
      refine lv_ldc2 (v := 1000003) hx hb hown (hts (.constantLong RL 102 (1000003)) (by decide +kernel)) dL_all_59 ?_
      refine lv_lload_n hx hb dL_all_62 rfl (lv_at hl 1 rfl) ?_
      refine lv_lmul hx hb dL_all_63 ?_
      refine lv_aload_n hx hb dL_all_64 rfl (lv_at hl 2 rfl) ?_
      refine lv_iconst (v := (-1)) hx hb dL_all_65 (by decide) ?_
      refine lv_iload_n hx hb dL_all_66 rfl (lv_at hl 0 rfl) ?_
      refine xc_sje (va_runS (As := [.ref x, .int ((-1)), .int (nI j)]) (rest := [.long (1000003 * (alL G (alH G o ld b) j))]) ⟨hx, hb, hml, hown, hts⟩ (c_L_told l hst Ax x lv kp fL fK o ld b k FZ G hC ((-1)) (nI j) (246 + j) (AT_l (by omega)) hld hold) (va_cwS 3 hts gL_all_L_told rfl rfl rfl (by decide +kernel) ⟨(Nat.le_of_ble_eq_true rfl), (Nat.le_of_ble_eq_true rfl)⟩) ⟨XPx_blind, XPx_pre hE hT hPc⟩ rfl rfl hl.1 rfl (lv_room (Nat.le_of_ble_eq_true rfl)) dL_all_67 ⟨by first | exact Nat.le_of_ble_eq_true rfl | (show _ + _ ≤ _; omega), by first | exact Nat.le_of_ble_eq_true rfl | (show _ + _ ≤ _; omega)⟩) ?_
      refine lv_ladd hx hb dL_all_70 ?_
      refine x_topl (alL G (alH G o ld b) (j + 1)) (rfl) ?_
      refine lv_lstore_n (lv' := [(1, .long (alL G (alH G o ld b) (j + 1))), (3, .int (nI j)), (0, .ref x)]) hx hb dL_all_71 rfl hl (by decide) rfl (fun ls hl => ?_)
      refine lv_iinc (v := nI (j + 1)) (lv' := [(3, .int (nI (j + 1))), (1, .long (alL G (alH G o ld b) (j + 1))), (0, .ref x)]) hx hb dL_all_72 hl (k := 1) rfl (xinc _ 1 _ (by decide)) (by decide) rfl (fun ls hl => ?_)
      refine lv_goto (tgt := 53) hx hb dL_all_75 (by decide) ?_
      exact ih _ ⟨j + 1, by omega, by omega, lv_sub hl [0, 1, 2] rfl⟩
  · refine lv_if_eq (tgt := 48) hx hb dL_all_39 (by decide) (fun c39 => ?_) (fun c39 => ?_)
    · have c39 : nI b = nI 0 := c39
      have c39 : b = 0 := (xeq (by omega) (by omega)).mp c39
      refine lv_lconst (v := 0) hx hb dL_all_48 rfl ?_
      refine x_topl (if b = 0 then 0 else 7) ((if_pos c39).symm) ?_
      exact J
    · have c39 : ¬ nI b = nI 0 := c39
      have c39 : ¬ b = 0 := fun h => c39 ((xeq (by omega) (by omega)).mpr h)
      refine lv_ldc2 (v := 7) hx hb hown (hts (.constantLong RL 100 (7)) (by decide +kernel)) dL_all_42 ?_
      refine lv_goto (tgt := 49) hx hb dL_all_45 (by decide) ?_
      refine x_topl (if b = 0 then 0 else 7) ((if_neg c39).symm) ?_
      exact J

set_option maxHeartbeats 4000000 in
set_option maxRecDepth 100000 in
theorem c_L_isHead (l : Launch) (hst : l.stackTraces = false) {D : va_G} {cI cT cJ : ClassId} (Ax : Nat → Prop) (x lv kp : Nat) (fL fK : Nat → Option Nat) (o ld b k : Nat) (FZ : va_W) (G : Nat → Tv) (hC : CA cI FZ fL fK G) (ta ma : Nat) (ft : Nat → Int64) (fm : Nat → Int32) (hWG : WFG G) (ht : ∀ d p, o ≤ d → d ≤ ld → p < 6 → ft (6 * (d % 10) + p) = tlL (G (6 * d + p)) 12) (hm0 : fm 0 = nI ld) (hm1 : fm 1 = nI o) (hm2 : M2 b k (fm 2)) (hld : ld ≤ 40) (hold : o ≤ ld) : Met l yL_isHead wsL_isHead (rmD 10 3 18) (XPx D cI cT cJ Ax [.ref x, .ref ta, .ref ma] (fun H => va_P D vwCl ((ta, .inl (cJ, 60, .inr (.inl ft))) :: (ma, .inl (cI, 3, .inl fm)) :: (CW cT x lv kp fL fK o ld b k FZ)) H)) (XSi (fun r => r = nI 1)) 3 18 (fun _ => False) := by
  refine Met.ofW (cc := cL_isHead) (maxL := 5) (ret := (some .boolean)) (by decide) rfl ?_
  intro p e s m args below meth c s₁ B hml hv
  obtain ⟨rfl, hP, hE, hT⟩ := hv
  have hx := B.exec
  have hb := B.bytes
  have hr := B.returns
  have hts := atoms_spec (ws := wsL_isHead) B.pre
  have hown : s.vm.findClass RL = some m.cls := findClass_of_methodNamed B.named
  have hlocks := B.notSynchronized
  have hl := lv_entry ([.ref x, .ref ta, .ref ma]) (n := 5) (Nat.le_of_ble_eq_true rfl)
  rw [lg_entry_eq]
  generalize (lg_sl ([.ref x, .ref ta, .ref ma]) ++ List.replicate (5 - (lg_sl ([.ref x, .ref ta, .ref ma])).length) Slot.unset).toArray = ls at hl ⊢
  have hl : lv_has ls 5 [(0, .ref x), (1, .ref ta), (2, .ref ma)] := hl
  have hK := hE.1
  have hPc : va_P D vwCl (CW cT x lv kp fL fK o ld b k FZ) s.heap := xP_sub (fun _ h => List.mem_cons_of_mem _ (List.mem_cons_of_mem _ h)) hP
  have hbb := hm2.le
  refine lv_iconst (v := nI 0) hx hb dL_isHead_0 (by decide) ?_
  refine lv_istore_n (lv' := [(3, .int (nI 0)), (0, .ref x), (1, .ref ta), (2, .ref ma)]) hx hb dL_isHead_1 rfl hl (by decide) rfl (fun ls hl => ?_)
  refine lv_iconst (v := nI 0) hx hb dL_isHead_2 (by decide) ?_
  refine lv_istore (lv' := [(4, .int (nI 0)), (3, .int (nI 0)), (0, .ref x), (1, .ref ta), (2, .ref ma)]) hx hb dL_isHead_3 hl (by decide) rfl (fun ls hl => ?_)
  refine x_loopP (fun n ls => ∃ j : Nat, (j ≤ 6) ∧ (6 < j + n) ∧ lv_has ls 5 [(4, .int (nI j)), (3, .int (nI (dfN G ld j))), (0, .ref x), (1, .ref ta), (2, .ref ma)]) (7) ⟨0, by omega, by omega, lv_sub hl [0, 1, 2, 3, 4] rfl⟩ (fun ls h => by obtain ⟨j, hj, hn, -⟩ := h; omega) (fun n ls h ih => ?_)
  obtain ⟨j, hj, hn, hl⟩ := h
  refine lv_iload hx hb dL_isHead_5 (lv_at hl 0 rfl) ?_
  refine lv_bipush (v := nI 6) hx hb dL_isHead_7 (by decide) ?_
  refine lv_icmp_ge (tgt := 51) hx hb dL_isHead_9 (by decide) (fun c9 => ?_) (fun c9 => ?_)
  · have c9 : 6 ≤ j := (xle (by omega) (by omega)).mp c9
    obtain rfl : j = 6 := by omega
    refine lv_aload_n hx hb dL_isHead_51 rfl (lv_at hl 2 rfl) ?_
    refine xc_sie (va_runV (As := []) (rest := []) ⟨hx, hb, hml, hown, hts⟩ (c_X1_last l x lv kp fL fK o ld b k FZ ) (cwV 0 hts gL_isHead_X1_last rfl rfl rfl (by decide +kernel) ⟨(Nat.le_of_ble_eq_true rfl), (Nat.le_of_ble_eq_true rfl)⟩) ⟨XP_blind, va_recv hK hPc (ci := 1) (q0 := 0) rfl rfl, XP_pre hE hPc⟩ rfl rfl hl.1 rfl (lv_room (Nat.le_of_ble_eq_true rfl)) dL_isHead_52 ⟨by first | exact Nat.le_of_ble_eq_true rfl | (show _ + _ ≤ _; omega), by first | exact Nat.le_of_ble_eq_true rfl | (show _ + _ ≤ _; omega)⟩) ?_
    refine lv_aload_n hx hb dL_isHead_55 rfl (lv_at hl 4 rfl) ?_
    refine lv_iconst (v := nI 0) hx hb dL_isHead_56 (by decide) ?_
    refine va_iald hx hb hK hP 1 0 rfl rfl (xin (by omega) (by omega)) dL_isHead_57 ?_
    refine x_top (fm 0) (by rw [nI_clamp (by omega)]) ?_
    refine x_top (nI ld) (hm0) ?_
    refine lv_icmp_ne (tgt := 101) hx hb dL_isHead_58 (by decide) (fun h => absurd rfl h) (fun _ => ?_)
    refine lv_aload_n hx hb dL_isHead_61 rfl (lv_at hl 2 rfl) ?_
    refine xc_sie (va_runV (As := []) (rest := []) ⟨hx, hb, hml, hown, hts⟩ (c_X1_oldest l x lv kp fL fK o ld b k FZ ) (cwV 0 hts gL_isHead_X1_oldest rfl rfl rfl (by decide +kernel) ⟨(Nat.le_of_ble_eq_true rfl), (Nat.le_of_ble_eq_true rfl)⟩) ⟨XP_blind, va_recv hK hPc (ci := 1) (q0 := 0) rfl rfl, XP_pre hE hPc⟩ rfl rfl hl.1 rfl (lv_room (Nat.le_of_ble_eq_true rfl)) dL_isHead_62 ⟨by first | exact Nat.le_of_ble_eq_true rfl | (show _ + _ ≤ _; omega), by first | exact Nat.le_of_ble_eq_true rfl | (show _ + _ ≤ _; omega)⟩) ?_
    refine lv_aload_n hx hb dL_isHead_65 rfl (lv_at hl 4 rfl) ?_
    refine lv_iconst (v := nI 1) hx hb dL_isHead_66 (by decide) ?_
    refine va_iald hx hb hK hP 1 0 rfl rfl (xin (by omega) (by omega)) dL_isHead_67 ?_
    refine x_top (fm 1) (by rw [nI_clamp (by omega)]) ?_
    refine x_top (nI o) (hm1) ?_
    refine lv_icmp_ne (tgt := 101) hx hb dL_isHead_68 (by decide) (fun h => absurd rfl h) (fun _ => ?_)
    refine lv_aload_n hx hb dL_isHead_71 rfl (lv_at hl 2 rfl) ?_
    refine xc_sie (va_runV (As := []) (rest := []) ⟨hx, hb, hml, hown, hts⟩ (c_X1_isBroken l x lv kp fL fK o ld b k FZ hbb) (cwV 0 hts gL_isHead_X1_isBroken rfl rfl rfl (by decide +kernel) ⟨(Nat.le_of_ble_eq_true rfl), (Nat.le_of_ble_eq_true rfl)⟩) ⟨XP_blind, va_recv hK hPc (ci := 1) (q0 := 0) rfl rfl, XP_pre hE hPc⟩ rfl rfl hl.1 rfl (lv_room (Nat.le_of_ble_eq_true rfl)) dL_isHead_72 ⟨by first | exact Nat.le_of_ble_eq_true rfl | (show _ + _ ≤ _; omega), by first | exact Nat.le_of_ble_eq_true rfl | (show _ + _ ≤ _; omega)⟩) ?_
    refine lv_aload_n hx hb dL_isHead_75 rfl (lv_at hl 4 rfl) ?_
    refine lv_iconst (v := nI 2) hx hb dL_isHead_76 (by decide) ?_
    refine va_iald hx hb hK hP 1 0 rfl rfl (xin (by omega) (by omega)) dL_isHead_77 ?_
    refine x_top (fm 2) (by rw [nI_clamp (by omega)]) ?_
    refine x_join (ls := ls) 86 [.int (nI b), .int (nI b)] ?_ (fun J => ?_)
    · refine lv_icmp_ne (tgt := 101) hx hb dL_isHead_86 (by decide) (fun h => absurd rfl h) (fun _ => ?_)
      refine lv_aload_n hx hb dL_isHead_89 rfl (lv_at hl 2 rfl) ?_
      refine xc_sie (va_runV (As := []) (rest := []) ⟨hx, hb, hml, hown, hts⟩ (c_X1_needs l x lv kp fL fK o ld b k FZ G hC hld) (cwV 0 hts gL_isHead_X1_needs rfl rfl rfl (by decide +kernel) ⟨(Nat.le_of_ble_eq_true rfl), (Nat.le_of_ble_eq_true rfl)⟩) ⟨XP_blind, va_recv hK hPc (ci := 1) (q0 := 0) rfl rfl, XP_pre hE hPc⟩ rfl rfl hl.1 rfl (lv_room (Nat.le_of_ble_eq_true rfl)) dL_isHead_90 ⟨by first | exact Nat.le_of_ble_eq_true rfl | (show _ + _ ≤ _; omega), by first | exact Nat.le_of_ble_eq_true rfl | (show _ + _ ≤ _; omega)⟩) ?_
      refine lv_iload_n hx hb dL_isHead_93 rfl (lv_at hl 1 rfl) ?_
      refine lv_icmp_ne (tgt := 101) hx hb dL_isHead_94 (by decide) (fun h => absurd rfl h) (fun _ => ?_)
      refine lv_iconst (v := nI 1) hx hb dL_isHead_97 (by decide) ?_
      refine lv_goto (tgt := 102) hx hb dL_isHead_98 (by decide) ?_
      refine W.widen (k := 3) (n := 18) (Nat.le_of_ble_eq_true rfl) (Nat.le_of_ble_eq_true rfl) ?_
      exact W.zret hx hb hr (xnb _ (by omega)) (fun t9 ht9 hW9 => ⟨_, rfl, rfl, ht9⟩) (fun _ h => nomatch h) dL_isHead_102
    · refine lv_if_lt (tgt := 85) hx hb dL_isHead_78 (by decide) (fun c78 => ?_) (fun c78 => ?_)
      · refine lv_iconst (v := nI 0) hx hb dL_isHead_85 (by decide) ?_
        refine x_top (nI b) (congrArg nI (hm2.neg c78).1.symm) ?_
        exact J
      · refine lv_iconst (v := nI 1) hx hb dL_isHead_81 (by decide) ?_
        refine lv_goto (tgt := 86) hx hb dL_isHead_82 (by decide) ?_
        refine x_top (nI b) (congrArg nI (hm2.pos c78).1.symm) ?_
        exact J
  · have c9 : ¬ 6 ≤ j := fun h => c9 ((xle (by omega) (by omega)).mpr h)
    refine lv_iload_n hx hb dL_isHead_12 rfl (lv_at hl 1 rfl) ?_
    refine lv_aload_n hx hb dL_isHead_13 rfl (lv_at hl 3 rfl) ?_
    refine lv_bipush (v := nI 6) hx hb dL_isHead_14 (by decide) ?_
    refine lv_aload_n hx hb dL_isHead_16 rfl (lv_at hl 4 rfl) ?_
    refine lv_iconst (v := nI 0) hx hb dL_isHead_17 (by decide) ?_
    refine va_iald hx hb hK hP 1 0 rfl rfl (xin (by omega) (by omega)) dL_isHead_18 ?_
    refine x_top (fm 0) (by rw [nI_clamp (by omega)]) ?_
    refine x_top (nI ld) (hm0) ?_
    refine lv_bipush (v := nI 10) hx hb dL_isHead_19 (by decide) ?_
    refine lv_irem hx hb dL_isHead_21 (by decide) ?_
    refine x_top (nI (ld % 10)) (pk_rem (by omega) (by omega) (by omega)) ?_
    refine lv_imul hx hb dL_isHead_22 ?_
    refine x_top (nI (6 * (ld % 10))) (pk_mul _ _) ?_
    refine lv_iload hx hb dL_isHead_23 (lv_at hl 0 rfl) ?_
    refine lv_iadd hx hb dL_isHead_25 ?_
    refine x_top (nI ((6 * (ld % 10)) + j)) (xadd (by omega)) ?_
    refine va_lald hx hb hK hP 0 2 rfl rfl (xin (by omega) (by omega)) dL_isHead_26 ?_
    refine x_topl (tlL (G (6 * ld + j)) 12) (by rw [nI_clamp (by omega)]; exact ht ld j hold (Nat.le_refl _) (by omega)) ?_
    refine lv_aload_n hx hb dL_isHead_27 rfl (lv_at hl 2 rfl) ?_
    refine lv_iconst (v := (-1)) hx hb dL_isHead_28 (by decide) ?_
    refine lv_iload hx hb dL_isHead_29 (lv_at hl 0 rfl) ?_
    refine xc_sje (va_runS (As := [.ref x, .int ((-1)), .int (nI j)]) (rest := [.long (tlL (G (6 * ld + j)) 12), .int (nI (dfN G ld j))]) ⟨hx, hb, hml, hown, hts⟩ (c_L_told l hst Ax x lv kp fL fK o ld b k FZ G hC ((-1)) (nI j) (246 + j) (AT_l (by omega)) hld hold) (va_cwS 3 hts gL_isHead_L_told rfl rfl rfl (by decide +kernel) ⟨(Nat.le_of_ble_eq_true rfl), (Nat.le_of_ble_eq_true rfl)⟩) ⟨XPx_blind, XPx_pre hE hT hPc⟩ rfl rfl hl.1 rfl (lv_room (Nat.le_of_ble_eq_true rfl)) dL_isHead_31 ⟨by first | exact Nat.le_of_ble_eq_true rfl | (show _ + _ ≤ _; omega), by first | exact Nat.le_of_ble_eq_true rfl | (show _ + _ ≤ _; omega)⟩) ?_
    refine W.lcmp hx hb dL_isHead_34 ?_
    refine x_join (ls := ls) 43 [.int (nI (bN (!sameB (G (6 * ld + j)) (G (246 + j))))), .int (nI (dfN G ld j))] ?_ (fun J => ?_)
    · refine lv_iadd hx hb dL_isHead_43 ?_
      refine x_top (nI (dfN G ld (j + 1))) (by rw [nI_add]; rfl) ?_
      refine lv_istore_n (lv' := [(3, .int (nI (dfN G ld (j + 1)))), (4, .int (nI j)), (0, .ref x), (1, .ref ta), (2, .ref ma)]) hx hb dL_isHead_44 rfl hl (by decide) rfl (fun ls hl => ?_)
      refine lv_iinc (v := nI (j + 1)) (lv' := [(4, .int (nI (j + 1))), (3, .int (nI (dfN G ld (j + 1)))), (0, .ref x), (1, .ref ta), (2, .ref ma)]) hx hb dL_isHead_45 hl (k := 1) rfl (xinc _ 1 _ (by decide)) (by decide) rfl (fun ls hl => ?_)
      refine lv_goto (tgt := 5) hx hb dL_isHead_48 (by decide) ?_
      exact ih _ ⟨j + 1, by omega, by omega, lv_sub hl [0, 1, 2, 3, 4] rfl⟩
    · refine lv_if_ne (tgt := 42) hx hb dL_isHead_35 (by decide) (fun c35 => ?_) (fun c35 => ?_)
      · refine lv_iconst (v := nI 1) hx hb dL_isHead_42 (by decide) ?_
        refine x_top (nI (bN (!sameB (G (6 * ld + j)) (G (246 + j))))) (by rw [lc_ne (hWG _ (by omega)) (hWG _ (by omega)) c35]; rfl) ?_
        exact J
      · refine lv_iconst (v := nI 0) hx hb dL_isHead_38 (by decide) ?_
        refine lv_goto (tgt := 43) hx hb dL_isHead_39 (by decide) ?_
        refine x_top (nI (bN (!sameB (G (6 * ld + j)) (G (246 + j))))) (by rw [lc_eq (hWG _ (by omega)) (hWG _ (by omega)) c35]; rfl) ?_
        exact J

set_option maxHeartbeats 4000000 in
set_option maxRecDepth 100000 in
theorem c_L_isSum (l : Launch) (hst : l.stackTraces = false) {D : va_G} {cI cT cJ : ClassId} (Ax : Nat → Prop) (x lv kp : Nat) (fL fK : Nat → Option Nat) (o ld b k : Nat) (FZ : va_W) (G : Nat → Tv) (hC : CA cI FZ fL fK G)  (hld : ld ≤ 40) (hold : o ≤ ld) : Met l yL_isSum wsL_isSum (rmD 10 3 18) (XPx D cI cT cJ Ax [.ref x] (fun H => va_P D vwCl (CW cT x lv kp fL fK o ld b k FZ) H)) (XSi (fun r => r = nI 1)) 3 18 (fun _ => False) := by
  refine Met.ofW (cc := cL_isSum) (maxL := 3) (ret := (some .boolean)) (by decide) rfl ?_
  intro p e s m args below meth c s₁ B hml hv
  obtain ⟨rfl, hP, hE, hT⟩ := hv
  have hx := B.exec
  have hb := B.bytes
  have hr := B.returns
  have hts := atoms_spec (ws := wsL_isSum) B.pre
  have hown : s.vm.findClass RL = some m.cls := findClass_of_methodNamed B.named
  have hlocks := B.notSynchronized
  have hl := lv_entry ([.ref x]) (n := 3) (Nat.le_of_ble_eq_true rfl)
  rw [lg_entry_eq]
  generalize (lg_sl ([.ref x]) ++ List.replicate (3 - (lg_sl ([.ref x])).length) Slot.unset).toArray = ls at hl ⊢
  have hl : lv_has ls 3 [(0, .ref x)] := hl
  have hK := hE.1
  have hPc : va_P D vwCl (CW cT x lv kp fL fK o ld b k FZ) s.heap := hP
  refine lv_iconst (v := nI 0) hx hb dL_isSum_0 (by decide) ?_
  refine lv_istore_n (lv' := [(1, .int (nI 0)), (0, .ref x)]) hx hb dL_isSum_1 rfl hl (by decide) rfl (fun ls hl => ?_)
  refine lv_bipush (v := nI 6) hx hb dL_isSum_2 (by decide) ?_
  refine lv_aload_n hx hb dL_isSum_4 rfl (lv_at hl 1 rfl) ?_
  refine xc_sie (va_runV (As := []) (rest := [.int (nI 6)]) ⟨hx, hb, hml, hown, hts⟩ (c_X1_oldest l x lv kp fL fK o ld b k FZ ) (cwV 0 hts gL_isSum_X1_oldest rfl rfl rfl (by decide +kernel) ⟨(Nat.le_of_ble_eq_true rfl), (Nat.le_of_ble_eq_true rfl)⟩) ⟨XP_blind, va_recv hK hPc (ci := 1) (q0 := 0) rfl rfl, XP_pre hE hPc⟩ rfl rfl hl.1 rfl (lv_room (Nat.le_of_ble_eq_true rfl)) dL_isSum_5 ⟨by first | exact Nat.le_of_ble_eq_true rfl | (show _ + _ ≤ _; omega), by first | exact Nat.le_of_ble_eq_true rfl | (show _ + _ ≤ _; omega)⟩) ?_
  refine lv_imul hx hb dL_isSum_8 ?_
  refine x_top (nI (6 * o)) (pk_mul _ _) ?_
  refine lv_istore_n (lv' := [(2, .int (nI (6 * o))), (1, .int (nI 0)), (0, .ref x)]) hx hb dL_isSum_9 rfl hl (by decide) rfl (fun ls hl => ?_)
  refine x_loopP (fun n ls => ∃ j : Nat, (6 * o + j ≤ 6 * ld + 6) ∧ (6 * ld + 6 < 6 * o + j + n) ∧ lv_has ls 3 [(2, .int (nI (6 * o + j))), (1, .int (nI (sumD G ld (6 * o) j))), (0, .ref x)]) (6 * ld + 7) ⟨0, by omega, by omega, lv_sub hl [0, 1, 2] rfl⟩ (fun ls h => by obtain ⟨j, hj, hn, -⟩ := h; omega) (fun n ls h ih => ?_)
  obtain ⟨j, hj, hn, hl⟩ := h
  refine lv_iload_n hx hb dL_isSum_10 rfl (lv_at hl 0 rfl) ?_
  refine lv_bipush (v := nI 6) hx hb dL_isSum_11 (by decide) ?_
  refine lv_aload_n hx hb dL_isSum_13 rfl (lv_at hl 2 rfl) ?_
  refine xc_sie (va_runV (As := []) (rest := [.int (nI 6), .int (nI (6 * o + j))]) ⟨hx, hb, hml, hown, hts⟩ (c_X1_last l x lv kp fL fK o ld b k FZ ) (cwV 0 hts gL_isSum_X1_last rfl rfl rfl (by decide +kernel) ⟨(Nat.le_of_ble_eq_true rfl), (Nat.le_of_ble_eq_true rfl)⟩) ⟨XP_blind, va_recv hK hPc (ci := 1) (q0 := 0) rfl rfl, XP_pre hE hPc⟩ rfl rfl hl.1 rfl (lv_room (Nat.le_of_ble_eq_true rfl)) dL_isSum_14 ⟨by first | exact Nat.le_of_ble_eq_true rfl | (show _ + _ ≤ _; omega), by first | exact Nat.le_of_ble_eq_true rfl | (show _ + _ ≤ _; omega)⟩) ?_
  refine lv_imul hx hb dL_isSum_17 ?_
  refine x_top (nI (6 * ld)) (pk_mul _ _) ?_
  refine lv_bipush (v := nI 6) hx hb dL_isSum_18 (by decide) ?_
  refine lv_iadd hx hb dL_isSum_20 ?_
  refine x_top (nI ((6 * ld) + 6)) (xadd (by omega)) ?_
  refine lv_icmp_ge (tgt := 45) hx hb dL_isSum_21 (by decide) (fun c21 => ?_) (fun c21 => ?_)
  · have c21 : ((6 * ld) + 6) ≤ (6 * o + j) := (xle (by omega) (by omega)).mp c21
    rw [sumD_all hold (by omega)] at hl
    refine lv_aload_n hx hb dL_isSum_45 rfl (lv_at hl 2 rfl) ?_
    refine xc_sie (va_runV (As := []) (rest := []) ⟨hx, hb, hml, hown, hts⟩ (c_X1_size l x lv kp fL fK o ld b k FZ G hC hld hold) (cwV 0 hts gL_isSum_X1_size rfl rfl rfl (by decide +kernel) ⟨(Nat.le_of_ble_eq_true rfl), (Nat.le_of_ble_eq_true rfl)⟩) ⟨XP_blind, va_recv hK hPc (ci := 1) (q0 := 0) rfl rfl, XP_pre hE hPc⟩ rfl rfl hl.1 rfl (lv_room (Nat.le_of_ble_eq_true rfl)) dL_isSum_46 ⟨by first | exact Nat.le_of_ble_eq_true rfl | (show _ + _ ≤ _; omega), by first | exact Nat.le_of_ble_eq_true rfl | (show _ + _ ≤ _; omega)⟩) ?_
    refine lv_iload_n hx hb dL_isSum_49 rfl (lv_at hl 1 rfl) ?_
    refine lv_icmp_ne (tgt := 57) hx hb dL_isSum_50 (by decide) (fun h => absurd rfl h) (fun _ => ?_)
    refine lv_iconst (v := nI 1) hx hb dL_isSum_53 (by decide) ?_
    refine lv_goto (tgt := 58) hx hb dL_isSum_54 (by decide) ?_
    refine W.widen (k := 3) (n := 18) (Nat.le_of_ble_eq_true rfl) (Nat.le_of_ble_eq_true rfl) ?_
    exact W.zret hx hb hr (xnb _ (by omega)) (fun t9 ht9 hW9 => ⟨_, rfl, rfl, ht9⟩) (fun _ h => nomatch h) dL_isSum_58
  · have c21 : ¬ ((6 * ld) + 6) ≤ (6 * o + j) := fun h => c21 ((xle (by omega) (by omega)).mpr h)
    refine lv_iload_n hx hb dL_isSum_24 rfl (lv_at hl 1 rfl) ?_
    refine lv_aload_n hx hb dL_isSum_25 rfl (lv_at hl 2 rfl) ?_
    refine lv_iload_n hx hb dL_isSum_26 rfl (lv_at hl 0 rfl) ?_
    refine lv_bipush (v := nI 6) hx hb dL_isSum_27 (by decide) ?_
    refine lv_idiv hx hb dL_isSum_29 (by decide) ?_
    refine x_top (nI ((6 * o + j) / 6)) (pk_div (by omega) (by omega) (by omega)) ?_
    refine lv_iload_n hx hb dL_isSum_30 rfl (lv_at hl 0 rfl) ?_
    refine lv_bipush (v := nI 6) hx hb dL_isSum_31 (by decide) ?_
    refine lv_irem hx hb dL_isSum_33 (by decide) ?_
    refine x_top (nI ((6 * o + j) % 6)) (pk_rem (by omega) (by omega) (by omega)) ?_
    refine xcr (vx_runV (As := [.int (nI ((6 * o + j) / 6)), .int (nI ((6 * o + j) % 6))]) (rest := [.int (nI (sumD G ld (6 * o) j))]) ⟨hx, hb, hml, hown, hts⟩ (c_X1_sizeAt l hst Ax x lv kp fL fK o ld b k FZ G hC (nI ((6 * o + j) / 6)) (nI ((6 * o + j) % 6)) hld hold) (cwV 2 hts gL_isSum_X1_sizeAt rfl rfl rfl (by decide +kernel) ⟨(Nat.le_of_ble_eq_true rfl), (Nat.le_of_ble_eq_true rfl)⟩) ⟨XPx_blind, va_recv hK hPc (ci := 1) (q0 := 0) rfl rfl, XPx_pre hE hT hPc⟩ rfl rfl hl.1 rfl (lv_room (Nat.le_of_ble_eq_true rfl)) dL_isSum_34 ⟨by first | exact Nat.le_of_ble_eq_true rfl | (show _ + _ ≤ _; omega), by first | exact Nat.le_of_ble_eq_true rfl | (show _ + _ ≤ _; omega)⟩) (rq_sn (by omega) (by omega) (by omega)) (rq_s hld (by omega) (by omega) (by omega)) ?_
    refine lv_iadd hx hb dL_isSum_37 ?_
    refine x_top (nI (sumD G ld (6 * o) (j + 1))) (by rw [nI_add]; rfl) ?_
    refine lv_istore_n (lv' := [(1, .int (nI (sumD G ld (6 * o) (j + 1)))), (2, .int (nI (6 * o + j))), (0, .ref x)]) hx hb dL_isSum_38 rfl hl (by decide) rfl (fun ls hl => ?_)
    refine lv_iinc (v := nI ((6 * o + j) + 1)) (lv' := [(2, .int (nI ((6 * o + j) + 1))), (1, .int (nI (sumD G ld (6 * o) (j + 1)))), (0, .ref x)]) hx hb dL_isSum_39 hl (k := 1) rfl (xinc _ 1 _ (by decide)) (by decide) rfl (fun ls hl => ?_)
    refine lv_goto (tgt := 10) hx hb dL_isSum_42 (by decide) ?_
    exact ih _ ⟨j + 1, by omega, by omega, lv_sub hl [0, 1, 2] rfl⟩

set_option maxHeartbeats 4000000 in
set_option maxRecDepth 100000 in
theorem c_L_isSize (l : Launch) (hst : l.stackTraces = false) {D : va_G} {cI cT cJ : ClassId} (Ax : Nat → Prop) (x lv kp : Nat) (fL fK : Nat → Option Nat) (o ld b k : Nat) (FZ : va_W) (G : Nat → Tv) (hC : CA cI FZ fL fK G) (ta : Nat) (ft : Nat → Int64) (d j : Nat) (hWG : WFG G) (ht : ∀ d p, o ≤ d → d ≤ ld → p < 6 → ft (6 * (d % 10) + p) = tlL (G (6 * d + p)) 12) (hod : o ≤ d) (hdd : d < ld) (hjj : j < 6) (hld : ld ≤ 40) (hold : o ≤ ld) : Met l yL_isSize wsL_isSize (rmD 10 3 18) (XPx D cI cT cJ Ax [.ref x, .ref ta, .int (nI d), .int (nI j)] (fun H => va_P D vwCl ((ta, .inl (cJ, 60, .inr (.inl ft))) :: (CW cT x lv kp fL fK o ld b k FZ)) H)) (XSi (fun r => r = nI 1)) 3 18 (fun _ => False) := by
  refine Met.ofW (cc := cL_isSize) (maxL := 12) (ret := (some .boolean)) (by decide) rfl ?_
  intro p e s m args below meth c s₁ B hml hv
  obtain ⟨rfl, hP, hE, hT⟩ := hv
  have hx := B.exec
  have hb := B.bytes
  have hr := B.returns
  have hts := atoms_spec (ws := wsL_isSize) B.pre
  have hown : s.vm.findClass RL = some m.cls := findClass_of_methodNamed B.named
  have hlocks := B.notSynchronized
  have hl := lv_entry ([.ref x, .ref ta, .int (nI d), .int (nI j)]) (n := 12) (Nat.le_of_ble_eq_true rfl)
  rw [lg_entry_eq]
  generalize (lg_sl ([.ref x, .ref ta, .int (nI d), .int (nI j)]) ++ List.replicate (12 - (lg_sl ([.ref x, .ref ta, .int (nI d), .int (nI j)])).length) Slot.unset).toArray = ls at hl ⊢
  have hl : lv_has ls 12 [(0, .ref x), (1, .ref ta), (2, .int (nI d)), (3, .int (nI j))] := hl
  have hK := hE.1
  have hPc : va_P D vwCl (CW cT x lv kp fL fK o ld b k FZ) s.heap := xP_sub (fun _ h => List.mem_cons_of_mem _ h) hP
  have hwa : WFT (G (6 * d + j)) := hWG _ (by omega)
  have hwb : WFT (G (6 * (d + 1) + j)) := hWG _ (by omega)
  have hla : (G (6 * d + j)).2.2.1 ≤ 12 := CA.len hC (by omega)
  have hlb : (G (6 * (d + 1) + j)).2.2.1 ≤ 12 := CA.len hC (by omega)
  have hdl := dif_le (a := (G (6 * d + j))) (b := (G (6 * (d + 1) + j)))
  have hr1 := ite_le1 (p := (G (6 * d + j)).2.1 = (G (6 * (d + 1) + j)).2.1)
  refine lv_aload_n hx hb dL_isSize_0 rfl (lv_at hl 0 rfl) ?_
  refine lv_iload_n hx hb dL_isSize_1 rfl (lv_at hl 2 rfl) ?_
  refine lv_iload_n hx hb dL_isSize_2 rfl (lv_at hl 3 rfl) ?_
  refine xcr (vx_runV (As := [.int (nI d), .int (nI j)]) (rest := []) ⟨hx, hb, hml, hown, hts⟩ (c_X1_sizeAt l hst Ax x lv kp fL fK o ld b k FZ G hC (nI d) (nI j) hld hold) (cwV 2 hts gL_isSize_X1_sizeAt rfl rfl rfl (by decide +kernel) ⟨(Nat.le_of_ble_eq_true rfl), (Nat.le_of_ble_eq_true rfl)⟩) ⟨XPx_blind, va_recv hK hPc (ci := 1) (q0 := 0) rfl rfl, XPx_pre hE hT hPc⟩ rfl rfl hl.1 rfl (lv_room (Nat.le_of_ble_eq_true rfl)) dL_isSize_3 ⟨by first | exact Nat.le_of_ble_eq_true rfl | (show _ + _ ≤ _; omega), by first | exact Nat.le_of_ble_eq_true rfl | (show _ + _ ≤ _; omega)⟩) (rq_sn (by omega) (by omega) (by omega)) (rq_s hld (by omega) (by omega) (by omega)) ?_
  refine x_top (nI (dif (G (6 * d + j)) (G (6 * (d + 1) + j)))) (congrArg nI (difW_lt hdd)) ?_
  refine lv_istore (lv' := [(4, .int (nI (dif (G (6 * d + j)) (G (6 * (d + 1) + j))))), (0, .ref x), (1, .ref ta), (2, .int (nI d)), (3, .int (nI j))]) hx hb dL_isSize_6 hl (by decide) rfl (fun ls hl => ?_)
  refine lv_aload_n hx hb dL_isSize_8 rfl (lv_at hl 2 rfl) ?_
  refine lv_bipush (v := nI 6) hx hb dL_isSize_9 (by decide) ?_
  refine lv_iload_n hx hb dL_isSize_11 rfl (lv_at hl 3 rfl) ?_
  refine lv_bipush (v := nI 10) hx hb dL_isSize_12 (by decide) ?_
  refine lv_irem hx hb dL_isSize_14 (by decide) ?_
  refine x_top (nI (d % 10)) (pk_rem (by omega) (by omega) (by omega)) ?_
  refine lv_imul hx hb dL_isSize_15 ?_
  refine x_top (nI (6 * (d % 10))) (pk_mul _ _) ?_
  refine lv_iload_n hx hb dL_isSize_16 rfl (lv_at hl 4 rfl) ?_
  refine lv_iadd hx hb dL_isSize_17 ?_
  refine x_top (nI ((6 * (d % 10)) + j)) (xadd (by omega)) ?_
  refine va_lald hx hb hK hP 0 2 rfl rfl (xin (by omega) (by omega)) dL_isSize_18 ?_
  refine x_topl (tlL (G (6 * d + j)) 12) (by rw [nI_clamp (by omega)]; exact ht d j (by omega) (by omega) (by omega)) ?_
  refine lv_aload_n hx hb dL_isSize_19 rfl (lv_at hl 2 rfl) ?_
  refine lv_bipush (v := nI 6) hx hb dL_isSize_20 (by decide) ?_
  refine lv_iload_n hx hb dL_isSize_22 rfl (lv_at hl 3 rfl) ?_
  refine lv_iconst (v := nI 1) hx hb dL_isSize_23 (by decide) ?_
  refine lv_iadd hx hb dL_isSize_24 ?_
  refine x_top (nI (d + 1)) (xadd (by omega)) ?_
  refine lv_bipush (v := nI 10) hx hb dL_isSize_25 (by decide) ?_
  refine lv_irem hx hb dL_isSize_27 (by decide) ?_
  refine x_top (nI ((d + 1) % 10)) (pk_rem (by omega) (by omega) (by omega)) ?_
  refine lv_imul hx hb dL_isSize_28 ?_
  refine x_top (nI (6 * ((d + 1) % 10))) (pk_mul _ _) ?_
  refine lv_iload_n hx hb dL_isSize_29 rfl (lv_at hl 4 rfl) ?_
  refine lv_iadd hx hb dL_isSize_30 ?_
  refine x_top (nI ((6 * ((d + 1) % 10)) + j)) (xadd (by omega)) ?_
  refine va_lald hx hb hK hP 0 2 rfl rfl (xin (by omega) (by omega)) dL_isSize_31 ?_
  refine x_topl (tlL (G (6 * (d + 1) + j)) 12) (by rw [nI_clamp (by omega)]; exact ht (d + 1) j (by omega) (by omega) (by omega)) ?_
  refine W.lcmp hx hb dL_isSize_32 ?_
  refine lv_if_ne (tgt := 47) hx hb dL_isSize_33 (by decide) (fun c33 => ?_) (fun c33 => ?_)
  · have hs := lc_ne hwa hwb c33
    refine lv_aload_n hx hb dL_isSize_47 rfl (lv_at hl 1 rfl) ?_
    refine lv_iload_n hx hb dL_isSize_48 rfl (lv_at hl 3 rfl) ?_
    refine lv_iload_n hx hb dL_isSize_49 rfl (lv_at hl 4 rfl) ?_
    refine xcr (vx_runV (As := [.int (nI d), .int (nI j)]) (rest := []) ⟨hx, hb, hml, hown, hts⟩ (c_X1_rightsAt l hst Ax x lv kp fL fK o ld b k FZ G hC (nI d) (nI j) hld hold) (cwV 2 hts gL_isSize_X1_rightsAt rfl rfl rfl (by decide +kernel) ⟨(Nat.le_of_ble_eq_true rfl), (Nat.le_of_ble_eq_true rfl)⟩) ⟨XPx_blind, va_recv hK hPc (ci := 1) (q0 := 0) rfl rfl, XPx_pre hE hT hPc⟩ rfl rfl hl.1 rfl (lv_room (Nat.le_of_ble_eq_true rfl)) dL_isSize_50 ⟨by first | exact Nat.le_of_ble_eq_true rfl | (show _ + _ ≤ _; omega), by first | exact Nat.le_of_ble_eq_true rfl | (show _ + _ ≤ _; omega)⟩) (rq_no (AT_d (by omega) (by omega) (by omega))) (rq_r hld (AT_d (by omega) (by omega) (by omega))) ?_
    refine lv_aload_n hx hb dL_isSize_53 rfl (lv_at hl 1 rfl) ?_
    refine lv_iload_n hx hb dL_isSize_54 rfl (lv_at hl 3 rfl) ?_
    refine lv_iconst (v := nI 1) hx hb dL_isSize_55 (by decide) ?_
    refine lv_iadd hx hb dL_isSize_56 ?_
    refine x_top (nI (d + 1)) (xadd (by omega)) ?_
    refine lv_iload_n hx hb dL_isSize_57 rfl (lv_at hl 4 rfl) ?_
    refine xcr (vx_runV (As := [.int (nI (d + 1)), .int (nI j)]) (rest := [.int ((G (6 * d + j)).2.1)]) ⟨hx, hb, hml, hown, hts⟩ (c_X1_rightsAt l hst Ax x lv kp fL fK o ld b k FZ G hC (nI (d + 1)) (nI j) hld hold) (cwV 2 hts gL_isSize_X1_rightsAt rfl rfl rfl (by decide +kernel) ⟨(Nat.le_of_ble_eq_true rfl), (Nat.le_of_ble_eq_true rfl)⟩) ⟨XPx_blind, va_recv hK hPc (ci := 1) (q0 := 0) rfl rfl, XPx_pre hE hT hPc⟩ rfl rfl hl.1 rfl (lv_room (Nat.le_of_ble_eq_true rfl)) dL_isSize_58 ⟨by first | exact Nat.le_of_ble_eq_true rfl | (show _ + _ ≤ _; omega), by first | exact Nat.le_of_ble_eq_true rfl | (show _ + _ ≤ _; omega)⟩) (rq_no (AT_d (by omega) (by omega) (by omega))) (rq_r hld (AT_d (by omega) (by omega) (by omega))) ?_
    refine x_join (ls := ls) 69 [.int (nI ((if (G (6 * d + j)).2.1 = (G (6 * (d + 1) + j)).2.1 then 0 else 1)))] ?_ (fun J => ?_)
    · refine lv_istore (lv' := [(5, .int (nI ((if (G (6 * d + j)).2.1 = (G (6 * (d + 1) + j)).2.1 then 0 else 1)))), (4, .int (nI (dif (G (6 * d + j)) (G (6 * (d + 1) + j))))), (0, .ref x), (1, .ref ta), (2, .int (nI d)), (3, .int (nI j))]) hx hb dL_isSize_69 hl (by decide) rfl (fun ls hl => ?_)
      refine lv_aload_n hx hb dL_isSize_71 rfl (lv_at hl 2 rfl) ?_
      refine lv_iload_n hx hb dL_isSize_72 rfl (lv_at hl 4 rfl) ?_
      refine lv_iload_n hx hb dL_isSize_73 rfl (lv_at hl 5 rfl) ?_
      refine xc_si2 (va_runS (As := [.ref x, .int (nI d), .int (nI j)]) (rest := []) ⟨hx, hb, hml, hown, hts⟩ (c_L_length l hst Ax x lv kp fL fK o ld b k FZ G hC (nI d) (nI j) (6 * d + j) (AT_d (by omega) (by omega) (by omega)) (hWG _ (by omega)) hld hold) (va_cwS 3 hts gL_isSize_L_length rfl rfl rfl (by decide +kernel) ⟨(Nat.le_of_ble_eq_true rfl), (Nat.le_of_ble_eq_true rfl)⟩) ⟨XPx_blind, XPx_pre hE hT hPc⟩ rfl rfl hl.1 rfl (lv_room (Nat.le_of_ble_eq_true rfl)) dL_isSize_74 ⟨by first | exact Nat.le_of_ble_eq_true rfl | (show _ + _ ≤ _; omega), by first | exact Nat.le_of_ble_eq_true rfl | (show _ + _ ≤ _; omega)⟩) ?_
      refine lv_istore (lv' := [(6, .int (nI ((G (6 * d + j)).2.2.1))), (5, .int (nI ((if (G (6 * d + j)).2.1 = (G (6 * (d + 1) + j)).2.1 then 0 else 1)))), (4, .int (nI (dif (G (6 * d + j)) (G (6 * (d + 1) + j))))), (0, .ref x), (1, .ref ta), (2, .int (nI d)), (3, .int (nI j))]) hx hb dL_isSize_77 hl (by decide) rfl (fun ls hl => ?_)
      refine lv_aload_n hx hb dL_isSize_79 rfl (lv_at hl 3 rfl) ?_
      refine lv_iload_n hx hb dL_isSize_80 rfl (lv_at hl 5 rfl) ?_
      refine lv_iload_n hx hb dL_isSize_81 rfl (lv_at hl 6 rfl) ?_
      refine xcr (vx_runV (As := [.int (nI d), .int (nI j)]) (rest := []) ⟨hx, hb, hml, hown, hts⟩ (c_X1_kindAt l hst Ax x lv kp fL fK o ld b k FZ G hC (nI d) (nI j) hld hold) (cwV 2 hts gL_isSize_X1_kindAt rfl rfl rfl (by decide +kernel) ⟨(Nat.le_of_ble_eq_true rfl), (Nat.le_of_ble_eq_true rfl)⟩) ⟨XPx_blind, va_recv hK hPc (ci := 1) (q0 := 0) rfl rfl, XPx_pre hE hT hPc⟩ rfl rfl hl.1 rfl (lv_room (Nat.le_of_ble_eq_true rfl)) dL_isSize_82 ⟨by first | exact Nat.le_of_ble_eq_true rfl | (show _ + _ ≤ _; omega), by first | exact Nat.le_of_ble_eq_true rfl | (show _ + _ ≤ _; omega)⟩) (rq_no (AT_d (by omega) (by omega) (by omega))) (rq_k hld (AT_d (by omega) (by omega) (by omega))) ?_
      refine lv_iconst (v := nI 1) hx hb dL_isSize_85 (by decide) ?_
      refine lv_icmp_eq (tgt := 104) hx hb dL_isSize_86 (by decide) (fun c86 => ?_) (fun c86 => ?_)
      · refine lv_aload_n hx hb dL_isSize_104 rfl (lv_at hl 3 rfl) ?_
        refine lv_iload_n hx hb dL_isSize_105 rfl (lv_at hl 5 rfl) ?_
        refine lv_iconst (v := nI 1) hx hb dL_isSize_106 (by decide) ?_
        refine lv_iadd hx hb dL_isSize_107 ?_
        refine x_top (nI (d + 1)) (xadd (by omega)) ?_
        refine lv_iload_n hx hb dL_isSize_108 rfl (lv_at hl 6 rfl) ?_
        refine xcr (vx_runV (As := [.int (nI (d + 1)), .int (nI j)]) (rest := []) ⟨hx, hb, hml, hown, hts⟩ (c_X1_kindAt l hst Ax x lv kp fL fK o ld b k FZ G hC (nI (d + 1)) (nI j) hld hold) (cwV 2 hts gL_isSize_X1_kindAt rfl rfl rfl (by decide +kernel) ⟨(Nat.le_of_ble_eq_true rfl), (Nat.le_of_ble_eq_true rfl)⟩) ⟨XPx_blind, va_recv hK hPc (ci := 1) (q0 := 0) rfl rfl, XPx_pre hE hT hPc⟩ rfl rfl hl.1 rfl (lv_room (Nat.le_of_ble_eq_true rfl)) dL_isSize_109 ⟨by first | exact Nat.le_of_ble_eq_true rfl | (show _ + _ ≤ _; omega), by first | exact Nat.le_of_ble_eq_true rfl | (show _ + _ ≤ _; omega)⟩) (rq_no (AT_d (by omega) (by omega) (by omega))) (rq_k hld (AT_d (by omega) (by omega) (by omega))) ?_
        refine lv_iconst (v := nI 1) hx hb dL_isSize_112 (by decide) ?_
        refine lv_icmp_eq (tgt := 134) hx hb dL_isSize_113 (by decide) (fun c113 => ?_) (fun c113 => ?_)
        · have hd3 := dif_o3 hs c86 c113
          have htk := tak_le (f := (G (6 * d + j)).2.2.2) (g := (G (6 * (d + 1) + j)).2.2.2) (n1 := (G (6 * d + j)).2.2.1) (n2 := (G (6 * (d + 1) + j)).2.2.1) (G (6 * d + j)).2.2.1 0
          refine lv_iload hx hb dL_isSize_134 (lv_at hl 1 rfl) ?_
          refine lv_istore (lv' := [(7, .int (nI ((if (G (6 * d + j)).2.1 = (G (6 * (d + 1) + j)).2.1 then 0 else 1)))), (6, .int (nI ((G (6 * d + j)).2.2.1))), (5, .int (nI ((if (G (6 * d + j)).2.1 = (G (6 * (d + 1) + j)).2.1 then 0 else 1)))), (4, .int (nI (dif (G (6 * d + j)) (G (6 * (d + 1) + j))))), (0, .ref x), (1, .ref ta), (2, .int (nI d)), (3, .int (nI j))]) hx hb dL_isSize_136 hl (by decide) rfl (fun ls hl => ?_)
          refine lv_iconst (v := nI 0) hx hb dL_isSize_138 (by decide) ?_
          refine lv_istore (lv' := [(8, .int (nI 0)), (7, .int (nI ((if (G (6 * d + j)).2.1 = (G (6 * (d + 1) + j)).2.1 then 0 else 1)))), (6, .int (nI ((G (6 * d + j)).2.2.1))), (5, .int (nI ((if (G (6 * d + j)).2.1 = (G (6 * (d + 1) + j)).2.1 then 0 else 1)))), (4, .int (nI (dif (G (6 * d + j)) (G (6 * (d + 1) + j))))), (0, .ref x), (1, .ref ta), (2, .int (nI d)), (3, .int (nI j))]) hx hb dL_isSize_139 hl (by decide) rfl (fun ls hl => ?_)
          refine x_loopP (fun n ls => ∃ z sm q : Nat, (z ≤ (G (6 * d + j)).2.2.1) ∧ (n = q + 1) ∧ ((G (6 * d + j)).2.2.1 ≤ z + q) ∧ (sm + tak (G (6 * d + j)).2.2.2 (G (6 * (d + 1) + j)).2.2.2 (G (6 * d + j)).2.2.1 (G (6 * (d + 1) + j)).2.2.1 q z = dif (G (6 * d + j)) (G (6 * (d + 1) + j))) ∧ lv_has ls 12 [(8, .int (nI z)), (7, .int (nI sm)), (0, .ref x), (1, .ref ta), (2, .int (nI d)), (3, .int (nI j)), (4, .int (nI (dif (G (6 * d + j)) (G (6 * (d + 1) + j))))), (5, .int (nI ((if (G (6 * d + j)).2.1 = (G (6 * (d + 1) + j)).2.1 then 0 else 1)))), (6, .int (nI ((G (6 * d + j)).2.2.1)))]) ((G (6 * d + j)).2.2.1 + 1) ⟨0, (if (G (6 * d + j)).2.1 = (G (6 * (d + 1) + j)).2.1 then 0 else 1), (G (6 * d + j)).2.2.1, by omega, rfl, by omega, by rw [hd3]; exact Nat.add_comm _ _, lv_sub hl [0, 1, 5, 6, 7, 8, 4, 3, 2] rfl⟩ (fun ls h => by obtain ⟨z, sm, q, hz, hn, hq, hs9, -⟩ := h; omega) (fun n ls h ih => ?_)
          obtain ⟨z, sm, q, hz, hn, hq, hs9, hl⟩ := h
          refine lv_iload hx hb dL_isSize_141 (lv_at hl 0 rfl) ?_
          refine lv_iload hx hb dL_isSize_143 (lv_at hl 8 rfl) ?_
          refine lv_icmp_ge (tgt := 275) hx hb dL_isSize_145 (by decide) (fun c145 => ?_) (fun c145 => ?_)
          · have c145 : ((G (6 * d + j)).2.2.1) ≤ z := (xle (by omega) (by omega)).mp c145
            rw [tak_end (by omega)] at hs9
            have hsm : sm = dif (G (6 * d + j)) (G (6 * (d + 1) + j)) := by omega
            refine lv_iload hx hb dL_isSize_275 (lv_at hl 6 rfl) ?_
            refine lv_iload hx hb dL_isSize_277 (lv_at hl 1 rfl) ?_
            refine lv_icmp_ne (tgt := 286) hx hb dL_isSize_279 (by decide) (fun c279 => ?_) (fun c279 => ?_)
            · have c279 : ¬ (dif (G (6 * d + j)) (G (6 * (d + 1) + j))) = sm := fun h => c279 ((xeq (by omega) (by omega)).mpr h)
              omega
            · have c279 : (dif (G (6 * d + j)) (G (6 * (d + 1) + j))) = sm := (xeq (by omega) (by omega)).mp c279
              refine lv_iconst (v := nI 1) hx hb dL_isSize_282 (by decide) ?_
              refine lv_goto (tgt := 287) hx hb dL_isSize_283 (by decide) ?_
              refine W.widen (k := 3) (n := 18) (Nat.le_of_ble_eq_true rfl) (Nat.le_of_ble_eq_true rfl) ?_
              exact W.zret hx hb hr (xnb _ (by omega)) (fun t9 ht9 hW9 => ⟨_, rfl, rfl, ht9⟩) (fun _ h => nomatch h) dL_isSize_287
          · have c145 : ¬ ((G (6 * d + j)).2.2.1) ≤ z := fun h => c145 ((xle (by omega) (by omega)).mpr h)
            refine lv_iconst (v := nI 0) hx hb dL_isSize_148 (by decide) ?_
            refine lv_istore (lv' := [(9, .int (nI 0)), (8, .int (nI z)), (7, .int (nI sm)), (0, .ref x), (1, .ref ta), (2, .int (nI d)), (3, .int (nI j)), (4, .int (nI (dif (G (6 * d + j)) (G (6 * (d + 1) + j))))), (5, .int (nI ((if (G (6 * d + j)).2.1 = (G (6 * (d + 1) + j)).2.1 then 0 else 1)))), (6, .int (nI ((G (6 * d + j)).2.2.1)))]) hx hb dL_isSize_149 hl (by decide) rfl (fun ls hl => ?_)
            refine lv_iconst (v := nI 0) hx hb dL_isSize_151 (by decide) ?_
            refine lv_istore (lv' := [(10, .int (nI 0)), (9, .int (nI 0)), (8, .int (nI z)), (7, .int (nI sm)), (0, .ref x), (1, .ref ta), (2, .int (nI d)), (3, .int (nI j)), (4, .int (nI (dif (G (6 * d + j)) (G (6 * (d + 1) + j))))), (5, .int (nI ((if (G (6 * d + j)).2.1 = (G (6 * (d + 1) + j)).2.1 then 0 else 1)))), (6, .int (nI ((G (6 * d + j)).2.2.1)))]) hx hb dL_isSize_152 hl (by decide) rfl (fun ls hl => ?_)
            refine x_loopP (fun n9 ls => ∃ t : Nat, (t ≤ 12) ∧ (12 < t + n9) ∧ lv_has ls 12 [(10, .int (nI t)), (9, .int (nI (lng (G (6 * d + j)).2.2.2 (G (6 * (d + 1) + j)).2.2.2 (G (6 * d + j)).2.2.1 (G (6 * (d + 1) + j)).2.2.1 z t))), (8, .int (nI z)), (7, .int (nI sm)), (0, .ref x), (1, .ref ta), (2, .int (nI d)), (3, .int (nI j)), (4, .int (nI (dif (G (6 * d + j)) (G (6 * (d + 1) + j))))), (5, .int (nI ((if (G (6 * d + j)).2.1 = (G (6 * (d + 1) + j)).2.1 then 0 else 1)))), (6, .int (nI ((G (6 * d + j)).2.2.1)))]) (13) ⟨0, by omega, by omega, lv_sub hl [0, 1, 2, 3, 4, 5, 6, 7, 8, 9, 10] rfl⟩ (fun ls h => by obtain ⟨t, ht9, hn9, -⟩ := h; omega) (fun n9 ls h ih9 => ?_)
            obtain ⟨t, ht9, hn9, hl⟩ := h
            refine lv_iload hx hb dL_isSize_154 (lv_at hl 0 rfl) ?_
            refine lv_bipush (v := nI 12) hx hb dL_isSize_156 (by decide) ?_
            refine lv_icmp_ge (tgt := 239) hx hb dL_isSize_158 (by decide) (fun c158 => ?_) (fun c158 => ?_)
            · have c158 : 12 ≤ t := (xle (by omega) (by omega)).mp c158
              obtain rfl : t = 12 := by omega
              rw [lng_past (f := (G (6 * d + j)).2.2.2) (g := (G (6 * (d + 1) + j)).2.2.2) (n1 := (G (6 * d + j)).2.2.1) (n2 := (G (6 * (d + 1) + j)).2.2.1) (s := z) 12 hlb] at hl
              have hlz := lng_le (f := (G (6 * d + j)).2.2.2) (g := (G (6 * (d + 1) + j)).2.2.2) (n1 := (G (6 * d + j)).2.2.1) (n2 := (G (6 * (d + 1) + j)).2.2.1) (s := z) (by omega) (G (6 * (d + 1) + j)).2.2.1
              refine lv_iload hx hb dL_isSize_239 (lv_at hl 3 rfl) ?_
              refine lv_iload hx hb dL_isSize_241 (lv_at hl 1 rfl) ?_
              refine lv_iconst (v := nI 2) hx hb dL_isSize_243 (by decide) ?_
              refine lv_icmp_le (tgt := 251) hx hb dL_isSize_244 (by decide) (fun c244 => ?_) (fun c244 => ?_)
              · have c244 : (lng (G (6 * d + j)).2.2.2 (G (6 * (d + 1) + j)).2.2.2 (G (6 * d + j)).2.2.1 (G (6 * (d + 1) + j)).2.2.1 z (G (6 * (d + 1) + j)).2.2.1) ≤ 2 := (xle (by omega) (by omega)).mp c244
                refine lv_iconst (v := nI 1) hx hb dL_isSize_251 (by decide) ?_
                refine lv_iadd hx hb dL_isSize_252 ?_
                refine x_top (nI (sm + 1)) (xadd (by omega)) ?_
                refine lv_istore (lv' := [(7, .int (nI (sm + 1))), (10, .int (nI 12)), (9, .int (nI (lng (G (6 * d + j)).2.2.2 (G (6 * (d + 1) + j)).2.2.2 (G (6 * d + j)).2.2.1 (G (6 * (d + 1) + j)).2.2.1 z (G (6 * (d + 1) + j)).2.2.1))), (8, .int (nI z)), (0, .ref x), (1, .ref ta), (2, .int (nI d)), (3, .int (nI j)), (4, .int (nI (dif (G (6 * d + j)) (G (6 * (d + 1) + j))))), (5, .int (nI ((if (G (6 * d + j)).2.1 = (G (6 * (d + 1) + j)).2.1 then 0 else 1)))), (6, .int (nI ((G (6 * d + j)).2.2.1)))]) hx hb dL_isSize_253 hl (by decide) rfl (fun ls hl => ?_)
                refine lv_iload hx hb dL_isSize_255 (lv_at hl 3 rfl) ?_
                refine lv_iload hx hb dL_isSize_257 (lv_at hl 2 rfl) ?_
                refine lv_iconst (v := nI 2) hx hb dL_isSize_259 (by decide) ?_
                refine lv_icmp_le (tgt := 268) hx hb dL_isSize_260 (by decide) (fun c260 => ?_) (fun c260 => ?_)
                · have c260 : (lng (G (6 * d + j)).2.2.2 (G (6 * (d + 1) + j)).2.2.2 (G (6 * d + j)).2.2.1 (G (6 * (d + 1) + j)).2.2.1 z (G (6 * (d + 1) + j)).2.2.1) ≤ 2 := (xle (by omega) (by omega)).mp c260
                  refine lv_iconst (v := nI 1) hx hb dL_isSize_268 (by decide) ?_
                  refine lv_iadd hx hb dL_isSize_269 ?_
                  refine x_top (nI (z + 1)) (xadd (by omega)) ?_
                  refine lv_istore (lv' := [(8, .int (nI (z + 1))), (7, .int (nI (sm + 1))), (10, .int (nI 12)), (9, .int (nI (lng (G (6 * d + j)).2.2.2 (G (6 * (d + 1) + j)).2.2.2 (G (6 * d + j)).2.2.1 (G (6 * (d + 1) + j)).2.2.1 z (G (6 * (d + 1) + j)).2.2.1))), (0, .ref x), (1, .ref ta), (2, .int (nI d)), (3, .int (nI j)), (4, .int (nI (dif (G (6 * d + j)) (G (6 * (d + 1) + j))))), (5, .int (nI ((if (G (6 * d + j)).2.1 = (G (6 * (d + 1) + j)).2.1 then 0 else 1)))), (6, .int (nI ((G (6 * d + j)).2.2.1)))]) hx hb dL_isSize_270 hl (by decide) rfl (fun ls hl => ?_)
                  refine lv_goto (tgt := 141) hx hb dL_isSize_272 (by decide) ?_
                  obtain ⟨q2, rfl⟩ : ∃ q2, q = q2 + 1 := ⟨q - 1, by omega⟩
                  have hlz := lng_le (f := (G (6 * d + j)).2.2.2) (g := (G (6 * (d + 1) + j)).2.2.2) (n1 := (G (6 * d + j)).2.2.1) (n2 := (G (6 * (d + 1) + j)).2.2.1) (s := z) (by omega) (G (6 * (d + 1) + j)).2.2.1
                  rw [tak_s1 (by omega) (by omega)] at hs9
                  exact ih _ ⟨z + 1, sm + 1, q2, by omega, by omega, by omega, by omega, lv_sub hl [0, 1, 4, 5, 6, 7, 8, 9, 10] rfl⟩
                · have c260 : ¬ (lng (G (6 * d + j)).2.2.2 (G (6 * (d + 1) + j)).2.2.2 (G (6 * d + j)).2.2.1 (G (6 * (d + 1) + j)).2.2.1 z (G (6 * (d + 1) + j)).2.2.1) ≤ 2 := fun h => c260 ((xle (by omega) (by omega)).mpr h)
                  omega
              · have c244 : ¬ (lng (G (6 * d + j)).2.2.2 (G (6 * (d + 1) + j)).2.2.2 (G (6 * d + j)).2.2.1 (G (6 * (d + 1) + j)).2.2.1 z (G (6 * (d + 1) + j)).2.2.1) ≤ 2 := fun h => c244 ((xle (by omega) (by omega)).mpr h)
                refine lv_iconst (v := nI 2) hx hb dL_isSize_247 (by decide) ?_
                refine lv_goto (tgt := 252) hx hb dL_isSize_248 (by decide) ?_
                refine lv_iadd hx hb dL_isSize_252 ?_
                refine x_top (nI (sm + 2)) (xadd (by omega)) ?_
                refine lv_istore (lv' := [(7, .int (nI (sm + 2))), (10, .int (nI 12)), (9, .int (nI (lng (G (6 * d + j)).2.2.2 (G (6 * (d + 1) + j)).2.2.2 (G (6 * d + j)).2.2.1 (G (6 * (d + 1) + j)).2.2.1 z (G (6 * (d + 1) + j)).2.2.1))), (8, .int (nI z)), (0, .ref x), (1, .ref ta), (2, .int (nI d)), (3, .int (nI j)), (4, .int (nI (dif (G (6 * d + j)) (G (6 * (d + 1) + j))))), (5, .int (nI ((if (G (6 * d + j)).2.1 = (G (6 * (d + 1) + j)).2.1 then 0 else 1)))), (6, .int (nI ((G (6 * d + j)).2.2.1)))]) hx hb dL_isSize_253 hl (by decide) rfl (fun ls hl => ?_)
                refine lv_iload hx hb dL_isSize_255 (lv_at hl 3 rfl) ?_
                refine lv_iload hx hb dL_isSize_257 (lv_at hl 2 rfl) ?_
                refine lv_iconst (v := nI 2) hx hb dL_isSize_259 (by decide) ?_
                refine lv_icmp_le (tgt := 268) hx hb dL_isSize_260 (by decide) (fun c260 => ?_) (fun c260 => ?_)
                · have c260 : (lng (G (6 * d + j)).2.2.2 (G (6 * (d + 1) + j)).2.2.2 (G (6 * d + j)).2.2.1 (G (6 * (d + 1) + j)).2.2.1 z (G (6 * (d + 1) + j)).2.2.1) ≤ 2 := (xle (by omega) (by omega)).mp c260
                  omega
                · have c260 : ¬ (lng (G (6 * d + j)).2.2.2 (G (6 * (d + 1) + j)).2.2.2 (G (6 * d + j)).2.2.1 (G (6 * (d + 1) + j)).2.2.1 z (G (6 * (d + 1) + j)).2.2.1) ≤ 2 := fun h => c260 ((xle (by omega) (by omega)).mpr h)
                  refine lv_iload hx hb dL_isSize_263 (lv_at hl 2 rfl) ?_
                  refine lv_goto (tgt := 269) hx hb dL_isSize_265 (by decide) ?_
                  refine lv_iadd hx hb dL_isSize_269 ?_
                  refine x_top (nI (z + (lng (G (6 * d + j)).2.2.2 (G (6 * (d + 1) + j)).2.2.2 (G (6 * d + j)).2.2.1 (G (6 * (d + 1) + j)).2.2.1 z (G (6 * (d + 1) + j)).2.2.1))) (xadd (by omega)) ?_
                  refine lv_istore (lv' := [(8, .int (nI (z + (lng (G (6 * d + j)).2.2.2 (G (6 * (d + 1) + j)).2.2.2 (G (6 * d + j)).2.2.1 (G (6 * (d + 1) + j)).2.2.1 z (G (6 * (d + 1) + j)).2.2.1)))), (7, .int (nI (sm + 2))), (10, .int (nI 12)), (9, .int (nI (lng (G (6 * d + j)).2.2.2 (G (6 * (d + 1) + j)).2.2.2 (G (6 * d + j)).2.2.1 (G (6 * (d + 1) + j)).2.2.1 z (G (6 * (d + 1) + j)).2.2.1))), (0, .ref x), (1, .ref ta), (2, .int (nI d)), (3, .int (nI j)), (4, .int (nI (dif (G (6 * d + j)) (G (6 * (d + 1) + j))))), (5, .int (nI ((if (G (6 * d + j)).2.1 = (G (6 * (d + 1) + j)).2.1 then 0 else 1)))), (6, .int (nI ((G (6 * d + j)).2.2.1)))]) hx hb dL_isSize_270 hl (by decide) rfl (fun ls hl => ?_)
                  refine lv_goto (tgt := 141) hx hb dL_isSize_272 (by decide) ?_
                  obtain ⟨q2, rfl⟩ : ∃ q2, q = q2 + 1 := ⟨q - 1, by omega⟩
                  have hlz := lng_le (f := (G (6 * d + j)).2.2.2) (g := (G (6 * (d + 1) + j)).2.2.2) (n1 := (G (6 * d + j)).2.2.1) (n2 := (G (6 * (d + 1) + j)).2.2.1) (s := z) (by omega) (G (6 * (d + 1) + j)).2.2.1
                  rw [tak_s2 (by omega) (by omega)] at hs9
                  exact ih _ ⟨z + lng (G (6 * d + j)).2.2.2 (G (6 * (d + 1) + j)).2.2.2 (G (6 * d + j)).2.2.1 (G (6 * (d + 1) + j)).2.2.1 z (G (6 * (d + 1) + j)).2.2.1, sm + 2, q2, by omega, by omega, by omega, by omega, lv_sub hl [0, 1, 4, 5, 6, 7, 8, 9, 10] rfl⟩
            · have c158 : ¬ 12 ≤ t := fun h => c158 ((xle (by omega) (by omega)).mpr h)
              have hlt := lng_le (f := (G (6 * d + j)).2.2.2) (g := (G (6 * (d + 1) + j)).2.2.2) (n1 := (G (6 * d + j)).2.2.1) (n2 := (G (6 * (d + 1) + j)).2.2.1) (s := z) (by omega) t
              refine lv_iconst (v := nI 0) hx hb dL_isSize_161 (by decide) ?_
              refine lv_istore (lv' := [(11, .int (nI 0)), (10, .int (nI t)), (9, .int (nI (lng (G (6 * d + j)).2.2.2 (G (6 * (d + 1) + j)).2.2.2 (G (6 * d + j)).2.2.1 (G (6 * (d + 1) + j)).2.2.1 z t))), (8, .int (nI z)), (7, .int (nI sm)), (0, .ref x), (1, .ref ta), (2, .int (nI d)), (3, .int (nI j)), (4, .int (nI (dif (G (6 * d + j)) (G (6 * (d + 1) + j))))), (5, .int (nI ((if (G (6 * d + j)).2.1 = (G (6 * (d + 1) + j)).2.1 then 0 else 1)))), (6, .int (nI ((G (6 * d + j)).2.2.1)))]) hx hb dL_isSize_162 hl (by decide) rfl (fun ls hl => ?_)
              refine x_loopP (fun n8 ls => ∃ i9 q9 : Nat, (z + i9 ≤ (G (6 * d + j)).2.2.1) ∧ (n8 = q9 + 1) ∧ ((G (6 * d + j)).2.2.1 ≤ z + i9 + q9) ∧ (shl (G (6 * d + j)).2.2.2 (G (6 * (d + 1) + j)).2.2.2 (G (6 * d + j)).2.2.1 (G (6 * (d + 1) + j)).2.2.1 z t q9 i9 = shL (G (6 * d + j)).2.2.2 (G (6 * (d + 1) + j)).2.2.2 (G (6 * d + j)).2.2.1 (G (6 * (d + 1) + j)).2.2.1 z t) ∧ lv_has ls 12 [(11, .int (nI i9)), (10, .int (nI t)), (9, .int (nI (lng (G (6 * d + j)).2.2.2 (G (6 * (d + 1) + j)).2.2.2 (G (6 * d + j)).2.2.1 (G (6 * (d + 1) + j)).2.2.1 z t))), (8, .int (nI z)), (7, .int (nI sm)), (0, .ref x), (1, .ref ta), (2, .int (nI d)), (3, .int (nI j)), (4, .int (nI (dif (G (6 * d + j)) (G (6 * (d + 1) + j))))), (5, .int (nI ((if (G (6 * d + j)).2.1 = (G (6 * (d + 1) + j)).2.1 then 0 else 1)))), (6, .int (nI ((G (6 * d + j)).2.2.1)))]) ((G (6 * d + j)).2.2.1 + 1) ⟨0, (G (6 * d + j)).2.2.1, by omega, rfl, by omega, rfl, lv_sub hl [0, 1, 2, 3, 4, 5, 6, 7, 8, 9, 10, 11] rfl⟩ (fun ls h => by obtain ⟨i9, q9, hi9, hn8, hq9, hs8, -⟩ := h; omega) (fun n8 ls h ih8 => ?_)
              obtain ⟨i9, q9, hi9, hn8, hq9, hs8, hl⟩ := h
              refine lv_iload hx hb dL_isSize_164 (lv_at hl 3 rfl) ?_
              refine lv_iload hx hb dL_isSize_166 (lv_at hl 0 rfl) ?_
              refine lv_iadd hx hb dL_isSize_168 ?_
              refine x_top (nI (z + i9)) (xadd (by omega)) ?_
              refine lv_iload hx hb dL_isSize_169 (lv_at hl 11 rfl) ?_
              refine lv_icmp_ge (tgt := 217) hx hb dL_isSize_171 (by decide) (fun c171 => ?_) (fun c171 => ?_)
              · have c171 : ((G (6 * d + j)).2.2.1) ≤ (z + i9) := (xle (by omega) (by omega)).mp c171
                rw [shl_stop _ _ (fun h => by omega)] at hs8
                subst hs8
                refine lv_iload hx hb dL_isSize_217 (lv_at hl 0 rfl) ?_
                refine lv_iload hx hb dL_isSize_219 (lv_at hl 2 rfl) ?_
                refine lv_icmp_le (tgt := 229) hx hb dL_isSize_221 (by decide) (fun c221 => ?_) (fun c221 => ?_)
                · have c221 : (shL (G (6 * d + j)).2.2.2 (G (6 * (d + 1) + j)).2.2.2 (G (6 * d + j)).2.2.1 (G (6 * (d + 1) + j)).2.2.1 z t) ≤ (lng (G (6 * d + j)).2.2.2 (G (6 * (d + 1) + j)).2.2.2 (G (6 * d + j)).2.2.1 (G (6 * (d + 1) + j)).2.2.1 z t) := (xle (by omega) (by omega)).mp c221
                  refine lv_iload hx hb dL_isSize_229 (lv_at hl 2 rfl) ?_
                  refine x_top (nI (lng (G (6 * d + j)).2.2.2 (G (6 * (d + 1) + j)).2.2.2 (G (6 * d + j)).2.2.1 (G (6 * (d + 1) + j)).2.2.1 z (t + 1))) (by rw [lng_s2 (by omega)]) ?_
                  refine lv_istore (lv' := [(9, .int (nI (lng (G (6 * d + j)).2.2.2 (G (6 * (d + 1) + j)).2.2.2 (G (6 * d + j)).2.2.1 (G (6 * (d + 1) + j)).2.2.1 z (t + 1)))), (11, .int (nI (shL (G (6 * d + j)).2.2.2 (G (6 * (d + 1) + j)).2.2.2 (G (6 * d + j)).2.2.1 (G (6 * (d + 1) + j)).2.2.1 z t))), (10, .int (nI t)), (8, .int (nI z)), (7, .int (nI sm)), (0, .ref x), (1, .ref ta), (2, .int (nI d)), (3, .int (nI j)), (4, .int (nI (dif (G (6 * d + j)) (G (6 * (d + 1) + j))))), (5, .int (nI ((if (G (6 * d + j)).2.1 = (G (6 * (d + 1) + j)).2.1 then 0 else 1)))), (6, .int (nI ((G (6 * d + j)).2.2.1)))]) hx hb dL_isSize_231 hl (by decide) rfl (fun ls hl => ?_)
                  refine lv_iinc (v := nI (t + 1)) (lv' := [(10, .int (nI (t + 1))), (9, .int (nI (lng (G (6 * d + j)).2.2.2 (G (6 * (d + 1) + j)).2.2.2 (G (6 * d + j)).2.2.1 (G (6 * (d + 1) + j)).2.2.1 z (t + 1)))), (11, .int (nI (shL (G (6 * d + j)).2.2.2 (G (6 * (d + 1) + j)).2.2.2 (G (6 * d + j)).2.2.1 (G (6 * (d + 1) + j)).2.2.1 z t))), (8, .int (nI z)), (7, .int (nI sm)), (0, .ref x), (1, .ref ta), (2, .int (nI d)), (3, .int (nI j)), (4, .int (nI (dif (G (6 * d + j)) (G (6 * (d + 1) + j))))), (5, .int (nI ((if (G (6 * d + j)).2.1 = (G (6 * (d + 1) + j)).2.1 then 0 else 1)))), (6, .int (nI ((G (6 * d + j)).2.2.1)))]) hx hb dL_isSize_233 hl (k := 2) rfl (xinc _ 1 _ (by decide)) (by decide) rfl (fun ls hl => ?_)
                  refine lv_goto (tgt := 154) hx hb dL_isSize_236 (by decide) ?_
                  exact ih9 _ ⟨t + 1, by omega, by omega, lv_sub hl [0, 1, 3, 4, 5, 6, 7, 8, 9, 10, 11] rfl⟩
                · have c221 : ¬ (shL (G (6 * d + j)).2.2.2 (G (6 * (d + 1) + j)).2.2.2 (G (6 * d + j)).2.2.1 (G (6 * (d + 1) + j)).2.2.1 z t) ≤ (lng (G (6 * d + j)).2.2.2 (G (6 * (d + 1) + j)).2.2.2 (G (6 * d + j)).2.2.1 (G (6 * (d + 1) + j)).2.2.1 z t) := fun h => c221 ((xle (by omega) (by omega)).mpr h)
                  refine lv_iload hx hb dL_isSize_224 (lv_at hl 0 rfl) ?_
                  refine lv_goto (tgt := 231) hx hb dL_isSize_226 (by decide) ?_
                  refine x_top (nI (lng (G (6 * d + j)).2.2.2 (G (6 * (d + 1) + j)).2.2.2 (G (6 * d + j)).2.2.1 (G (6 * (d + 1) + j)).2.2.1 z (t + 1))) (by rw [lng_s1 (by omega)]) ?_
                  refine lv_istore (lv' := [(9, .int (nI (lng (G (6 * d + j)).2.2.2 (G (6 * (d + 1) + j)).2.2.2 (G (6 * d + j)).2.2.1 (G (6 * (d + 1) + j)).2.2.1 z (t + 1)))), (11, .int (nI (shL (G (6 * d + j)).2.2.2 (G (6 * (d + 1) + j)).2.2.2 (G (6 * d + j)).2.2.1 (G (6 * (d + 1) + j)).2.2.1 z t))), (10, .int (nI t)), (8, .int (nI z)), (7, .int (nI sm)), (0, .ref x), (1, .ref ta), (2, .int (nI d)), (3, .int (nI j)), (4, .int (nI (dif (G (6 * d + j)) (G (6 * (d + 1) + j))))), (5, .int (nI ((if (G (6 * d + j)).2.1 = (G (6 * (d + 1) + j)).2.1 then 0 else 1)))), (6, .int (nI ((G (6 * d + j)).2.2.1)))]) hx hb dL_isSize_231 hl (by decide) rfl (fun ls hl => ?_)
                  refine lv_iinc (v := nI (t + 1)) (lv' := [(10, .int (nI (t + 1))), (9, .int (nI (lng (G (6 * d + j)).2.2.2 (G (6 * (d + 1) + j)).2.2.2 (G (6 * d + j)).2.2.1 (G (6 * (d + 1) + j)).2.2.1 z (t + 1)))), (11, .int (nI (shL (G (6 * d + j)).2.2.2 (G (6 * (d + 1) + j)).2.2.2 (G (6 * d + j)).2.2.1 (G (6 * (d + 1) + j)).2.2.1 z t))), (8, .int (nI z)), (7, .int (nI sm)), (0, .ref x), (1, .ref ta), (2, .int (nI d)), (3, .int (nI j)), (4, .int (nI (dif (G (6 * d + j)) (G (6 * (d + 1) + j))))), (5, .int (nI ((if (G (6 * d + j)).2.1 = (G (6 * (d + 1) + j)).2.1 then 0 else 1)))), (6, .int (nI ((G (6 * d + j)).2.2.1)))]) hx hb dL_isSize_233 hl (k := 2) rfl (xinc _ 1 _ (by decide)) (by decide) rfl (fun ls hl => ?_)
                  refine lv_goto (tgt := 154) hx hb dL_isSize_236 (by decide) ?_
                  exact ih9 _ ⟨t + 1, by omega, by omega, lv_sub hl [0, 1, 3, 4, 5, 6, 7, 8, 9, 10, 11] rfl⟩
              · have c171 : ¬ ((G (6 * d + j)).2.2.1) ≤ (z + i9) := fun h => c171 ((xle (by omega) (by omega)).mpr h)
                refine lv_iload hx hb dL_isSize_174 (lv_at hl 1 rfl) ?_
                refine lv_iload hx hb dL_isSize_176 (lv_at hl 0 rfl) ?_
                refine lv_iadd hx hb dL_isSize_178 ?_
                refine x_top (nI (t + i9)) (xadd (by omega)) ?_
                refine lv_bipush (v := nI 12) hx hb dL_isSize_179 (by decide) ?_
                refine lv_icmp_ge (tgt := 217) hx hb dL_isSize_181 (by decide) (fun c181 => ?_) (fun c181 => ?_)
                · have c181 : 12 ≤ (t + i9) := (xle (by omega) (by omega)).mp c181
                  rw [shl_stop _ _ (fun h => by have := h.2.1; omega)] at hs8
                  subst hs8
                  refine lv_iload hx hb dL_isSize_217 (lv_at hl 0 rfl) ?_
                  refine lv_iload hx hb dL_isSize_219 (lv_at hl 2 rfl) ?_
                  refine lv_icmp_le (tgt := 229) hx hb dL_isSize_221 (by decide) (fun c221 => ?_) (fun c221 => ?_)
                  · have c221 : (shL (G (6 * d + j)).2.2.2 (G (6 * (d + 1) + j)).2.2.2 (G (6 * d + j)).2.2.1 (G (6 * (d + 1) + j)).2.2.1 z t) ≤ (lng (G (6 * d + j)).2.2.2 (G (6 * (d + 1) + j)).2.2.2 (G (6 * d + j)).2.2.1 (G (6 * (d + 1) + j)).2.2.1 z t) := (xle (by omega) (by omega)).mp c221
                    refine lv_iload hx hb dL_isSize_229 (lv_at hl 2 rfl) ?_
                    refine x_top (nI (lng (G (6 * d + j)).2.2.2 (G (6 * (d + 1) + j)).2.2.2 (G (6 * d + j)).2.2.1 (G (6 * (d + 1) + j)).2.2.1 z (t + 1))) (by rw [lng_s2 (by omega)]) ?_
                    refine lv_istore (lv' := [(9, .int (nI (lng (G (6 * d + j)).2.2.2 (G (6 * (d + 1) + j)).2.2.2 (G (6 * d + j)).2.2.1 (G (6 * (d + 1) + j)).2.2.1 z (t + 1)))), (11, .int (nI (shL (G (6 * d + j)).2.2.2 (G (6 * (d + 1) + j)).2.2.2 (G (6 * d + j)).2.2.1 (G (6 * (d + 1) + j)).2.2.1 z t))), (10, .int (nI t)), (8, .int (nI z)), (7, .int (nI sm)), (0, .ref x), (1, .ref ta), (2, .int (nI d)), (3, .int (nI j)), (4, .int (nI (dif (G (6 * d + j)) (G (6 * (d + 1) + j))))), (5, .int (nI ((if (G (6 * d + j)).2.1 = (G (6 * (d + 1) + j)).2.1 then 0 else 1)))), (6, .int (nI ((G (6 * d + j)).2.2.1)))]) hx hb dL_isSize_231 hl (by decide) rfl (fun ls hl => ?_)
                    refine lv_iinc (v := nI (t + 1)) (lv' := [(10, .int (nI (t + 1))), (9, .int (nI (lng (G (6 * d + j)).2.2.2 (G (6 * (d + 1) + j)).2.2.2 (G (6 * d + j)).2.2.1 (G (6 * (d + 1) + j)).2.2.1 z (t + 1)))), (11, .int (nI (shL (G (6 * d + j)).2.2.2 (G (6 * (d + 1) + j)).2.2.2 (G (6 * d + j)).2.2.1 (G (6 * (d + 1) + j)).2.2.1 z t))), (8, .int (nI z)), (7, .int (nI sm)), (0, .ref x), (1, .ref ta), (2, .int (nI d)), (3, .int (nI j)), (4, .int (nI (dif (G (6 * d + j)) (G (6 * (d + 1) + j))))), (5, .int (nI ((if (G (6 * d + j)).2.1 = (G (6 * (d + 1) + j)).2.1 then 0 else 1)))), (6, .int (nI ((G (6 * d + j)).2.2.1)))]) hx hb dL_isSize_233 hl (k := 2) rfl (xinc _ 1 _ (by decide)) (by decide) rfl (fun ls hl => ?_)
                    refine lv_goto (tgt := 154) hx hb dL_isSize_236 (by decide) ?_
                    exact ih9 _ ⟨t + 1, by omega, by omega, lv_sub hl [0, 1, 3, 4, 5, 6, 7, 8, 9, 10, 11] rfl⟩
                  · have c221 : ¬ (shL (G (6 * d + j)).2.2.2 (G (6 * (d + 1) + j)).2.2.2 (G (6 * d + j)).2.2.1 (G (6 * (d + 1) + j)).2.2.1 z t) ≤ (lng (G (6 * d + j)).2.2.2 (G (6 * (d + 1) + j)).2.2.2 (G (6 * d + j)).2.2.1 (G (6 * (d + 1) + j)).2.2.1 z t) := fun h => c221 ((xle (by omega) (by omega)).mpr h)
                    refine lv_iload hx hb dL_isSize_224 (lv_at hl 0 rfl) ?_
                    refine lv_goto (tgt := 231) hx hb dL_isSize_226 (by decide) ?_
                    refine x_top (nI (lng (G (6 * d + j)).2.2.2 (G (6 * (d + 1) + j)).2.2.2 (G (6 * d + j)).2.2.1 (G (6 * (d + 1) + j)).2.2.1 z (t + 1))) (by rw [lng_s1 (by omega)]) ?_
                    refine lv_istore (lv' := [(9, .int (nI (lng (G (6 * d + j)).2.2.2 (G (6 * (d + 1) + j)).2.2.2 (G (6 * d + j)).2.2.1 (G (6 * (d + 1) + j)).2.2.1 z (t + 1)))), (11, .int (nI (shL (G (6 * d + j)).2.2.2 (G (6 * (d + 1) + j)).2.2.2 (G (6 * d + j)).2.2.1 (G (6 * (d + 1) + j)).2.2.1 z t))), (10, .int (nI t)), (8, .int (nI z)), (7, .int (nI sm)), (0, .ref x), (1, .ref ta), (2, .int (nI d)), (3, .int (nI j)), (4, .int (nI (dif (G (6 * d + j)) (G (6 * (d + 1) + j))))), (5, .int (nI ((if (G (6 * d + j)).2.1 = (G (6 * (d + 1) + j)).2.1 then 0 else 1)))), (6, .int (nI ((G (6 * d + j)).2.2.1)))]) hx hb dL_isSize_231 hl (by decide) rfl (fun ls hl => ?_)
                    refine lv_iinc (v := nI (t + 1)) (lv' := [(10, .int (nI (t + 1))), (9, .int (nI (lng (G (6 * d + j)).2.2.2 (G (6 * (d + 1) + j)).2.2.2 (G (6 * d + j)).2.2.1 (G (6 * (d + 1) + j)).2.2.1 z (t + 1)))), (11, .int (nI (shL (G (6 * d + j)).2.2.2 (G (6 * (d + 1) + j)).2.2.2 (G (6 * d + j)).2.2.1 (G (6 * (d + 1) + j)).2.2.1 z t))), (8, .int (nI z)), (7, .int (nI sm)), (0, .ref x), (1, .ref ta), (2, .int (nI d)), (3, .int (nI j)), (4, .int (nI (dif (G (6 * d + j)) (G (6 * (d + 1) + j))))), (5, .int (nI ((if (G (6 * d + j)).2.1 = (G (6 * (d + 1) + j)).2.1 then 0 else 1)))), (6, .int (nI ((G (6 * d + j)).2.2.1)))]) hx hb dL_isSize_233 hl (k := 2) rfl (xinc _ 1 _ (by decide)) (by decide) rfl (fun ls hl => ?_)
                    refine lv_goto (tgt := 154) hx hb dL_isSize_236 (by decide) ?_
                    exact ih9 _ ⟨t + 1, by omega, by omega, lv_sub hl [0, 1, 3, 4, 5, 6, 7, 8, 9, 10, 11] rfl⟩
                · have c181 : ¬ 12 ≤ (t + i9) := fun h => c181 ((xle (by omega) (by omega)).mpr h)
                  refine lv_aload_n hx hb dL_isSize_184 rfl (lv_at hl 5 rfl) ?_
                  refine lv_iload_n hx hb dL_isSize_185 rfl (lv_at hl 7 rfl) ?_
                  refine lv_iload_n hx hb dL_isSize_186 rfl (lv_at hl 8 rfl) ?_
                  refine lv_iload hx hb dL_isSize_187 (lv_at hl 3 rfl) ?_
                  refine lv_iload hx hb dL_isSize_189 (lv_at hl 0 rfl) ?_
                  refine lv_iadd hx hb dL_isSize_191 ?_
                  refine x_top (nI (z + i9)) (xadd (by omega)) ?_
                  refine xcr (vx_runV (As := [.int (nI d), .int (nI j), .int (nI (z + i9))]) (rest := []) ⟨hx, hb, hml, hown, hts⟩ (c_X1_numberAt l hst Ax x lv kp fL fK o ld b k FZ G hC (nI d) (nI j) (nI (z + i9)) hld hold) (cwV 3 hts gL_isSize_X1_numberAt rfl rfl rfl (by decide +kernel) ⟨(Nat.le_of_ble_eq_true rfl), (Nat.le_of_ble_eq_true rfl)⟩) ⟨XPx_blind, va_recv hK hPc (ci := 1) (q0 := 0) rfl rfl, XPx_pre hE hT hPc⟩ rfl rfl hl.1 rfl (lv_room (Nat.le_of_ble_eq_true rfl)) dL_isSize_192 ⟨by first | exact Nat.le_of_ble_eq_true rfl | (show _ + _ ≤ _; omega), by first | exact Nat.le_of_ble_eq_true rfl | (show _ + _ ≤ _; omega)⟩) (rq_nn (AT_d (by omega) (by omega) (by omega)) (by omega)) (rq_n hld (AT_d (by omega) (by omega) (by omega)) (by omega)) ?_
                  refine lv_aload_n hx hb dL_isSize_195 rfl (lv_at hl 5 rfl) ?_
                  refine lv_iload_n hx hb dL_isSize_196 rfl (lv_at hl 7 rfl) ?_
                  refine lv_iconst (v := nI 1) hx hb dL_isSize_197 (by decide) ?_
                  refine lv_iadd hx hb dL_isSize_198 ?_
                  refine x_top (nI (d + 1)) (xadd (by omega)) ?_
                  refine lv_iload_n hx hb dL_isSize_199 rfl (lv_at hl 8 rfl) ?_
                  refine lv_iload hx hb dL_isSize_200 (lv_at hl 1 rfl) ?_
                  refine lv_iload hx hb dL_isSize_202 (lv_at hl 0 rfl) ?_
                  refine lv_iadd hx hb dL_isSize_204 ?_
                  refine x_top (nI (t + i9)) (xadd (by omega)) ?_
                  refine xcr (vx_runV (As := [.int (nI (d + 1)), .int (nI j), .int (nI (t + i9))]) (rest := [.int (num (G (6 * d + j)) (z + i9))]) ⟨hx, hb, hml, hown, hts⟩ (c_X1_numberAt l hst Ax x lv kp fL fK o ld b k FZ G hC (nI (d + 1)) (nI j) (nI (t + i9)) hld hold) (cwV 3 hts gL_isSize_X1_numberAt rfl rfl rfl (by decide +kernel) ⟨(Nat.le_of_ble_eq_true rfl), (Nat.le_of_ble_eq_true rfl)⟩) ⟨XPx_blind, va_recv hK hPc (ci := 1) (q0 := 0) rfl rfl, XPx_pre hE hT hPc⟩ rfl rfl hl.1 rfl (lv_room (Nat.le_of_ble_eq_true rfl)) dL_isSize_205 ⟨by first | exact Nat.le_of_ble_eq_true rfl | (show _ + _ ≤ _; omega), by first | exact Nat.le_of_ble_eq_true rfl | (show _ + _ ≤ _; omega)⟩) (rq_nn (AT_d (by omega) (by omega) (by omega)) (by omega)) (rq_n hld (AT_d (by omega) (by omega) (by omega)) (by omega)) ?_
                  refine lv_icmp_ne (tgt := 217) hx hb dL_isSize_208 (by decide) (fun c208 => ?_) (fun c208 => ?_)
                  · rw [shl_stop _ _ (fun h => c208 ((num_eq hwa (by omega)).mpr ⟨h.2.1, h.2.2⟩))] at hs8
                    subst hs8
                    refine lv_iload hx hb dL_isSize_217 (lv_at hl 0 rfl) ?_
                    refine lv_iload hx hb dL_isSize_219 (lv_at hl 2 rfl) ?_
                    refine lv_icmp_le (tgt := 229) hx hb dL_isSize_221 (by decide) (fun c221 => ?_) (fun c221 => ?_)
                    · have c221 : (shL (G (6 * d + j)).2.2.2 (G (6 * (d + 1) + j)).2.2.2 (G (6 * d + j)).2.2.1 (G (6 * (d + 1) + j)).2.2.1 z t) ≤ (lng (G (6 * d + j)).2.2.2 (G (6 * (d + 1) + j)).2.2.2 (G (6 * d + j)).2.2.1 (G (6 * (d + 1) + j)).2.2.1 z t) := (xle (by omega) (by omega)).mp c221
                      refine lv_iload hx hb dL_isSize_229 (lv_at hl 2 rfl) ?_
                      refine x_top (nI (lng (G (6 * d + j)).2.2.2 (G (6 * (d + 1) + j)).2.2.2 (G (6 * d + j)).2.2.1 (G (6 * (d + 1) + j)).2.2.1 z (t + 1))) (by rw [lng_s2 (by omega)]) ?_
                      refine lv_istore (lv' := [(9, .int (nI (lng (G (6 * d + j)).2.2.2 (G (6 * (d + 1) + j)).2.2.2 (G (6 * d + j)).2.2.1 (G (6 * (d + 1) + j)).2.2.1 z (t + 1)))), (11, .int (nI (shL (G (6 * d + j)).2.2.2 (G (6 * (d + 1) + j)).2.2.2 (G (6 * d + j)).2.2.1 (G (6 * (d + 1) + j)).2.2.1 z t))), (10, .int (nI t)), (8, .int (nI z)), (7, .int (nI sm)), (0, .ref x), (1, .ref ta), (2, .int (nI d)), (3, .int (nI j)), (4, .int (nI (dif (G (6 * d + j)) (G (6 * (d + 1) + j))))), (5, .int (nI ((if (G (6 * d + j)).2.1 = (G (6 * (d + 1) + j)).2.1 then 0 else 1)))), (6, .int (nI ((G (6 * d + j)).2.2.1)))]) hx hb dL_isSize_231 hl (by decide) rfl (fun ls hl => ?_)
                      refine lv_iinc (v := nI (t + 1)) (lv' := [(10, .int (nI (t + 1))), (9, .int (nI (lng (G (6 * d + j)).2.2.2 (G (6 * (d + 1) + j)).2.2.2 (G (6 * d + j)).2.2.1 (G (6 * (d + 1) + j)).2.2.1 z (t + 1)))), (11, .int (nI (shL (G (6 * d + j)).2.2.2 (G (6 * (d + 1) + j)).2.2.2 (G (6 * d + j)).2.2.1 (G (6 * (d + 1) + j)).2.2.1 z t))), (8, .int (nI z)), (7, .int (nI sm)), (0, .ref x), (1, .ref ta), (2, .int (nI d)), (3, .int (nI j)), (4, .int (nI (dif (G (6 * d + j)) (G (6 * (d + 1) + j))))), (5, .int (nI ((if (G (6 * d + j)).2.1 = (G (6 * (d + 1) + j)).2.1 then 0 else 1)))), (6, .int (nI ((G (6 * d + j)).2.2.1)))]) hx hb dL_isSize_233 hl (k := 2) rfl (xinc _ 1 _ (by decide)) (by decide) rfl (fun ls hl => ?_)
                      refine lv_goto (tgt := 154) hx hb dL_isSize_236 (by decide) ?_
                      exact ih9 _ ⟨t + 1, by omega, by omega, lv_sub hl [0, 1, 3, 4, 5, 6, 7, 8, 9, 10, 11] rfl⟩
                    · have c221 : ¬ (shL (G (6 * d + j)).2.2.2 (G (6 * (d + 1) + j)).2.2.2 (G (6 * d + j)).2.2.1 (G (6 * (d + 1) + j)).2.2.1 z t) ≤ (lng (G (6 * d + j)).2.2.2 (G (6 * (d + 1) + j)).2.2.2 (G (6 * d + j)).2.2.1 (G (6 * (d + 1) + j)).2.2.1 z t) := fun h => c221 ((xle (by omega) (by omega)).mpr h)
                      refine lv_iload hx hb dL_isSize_224 (lv_at hl 0 rfl) ?_
                      refine lv_goto (tgt := 231) hx hb dL_isSize_226 (by decide) ?_
                      refine x_top (nI (lng (G (6 * d + j)).2.2.2 (G (6 * (d + 1) + j)).2.2.2 (G (6 * d + j)).2.2.1 (G (6 * (d + 1) + j)).2.2.1 z (t + 1))) (by rw [lng_s1 (by omega)]) ?_
                      refine lv_istore (lv' := [(9, .int (nI (lng (G (6 * d + j)).2.2.2 (G (6 * (d + 1) + j)).2.2.2 (G (6 * d + j)).2.2.1 (G (6 * (d + 1) + j)).2.2.1 z (t + 1)))), (11, .int (nI (shL (G (6 * d + j)).2.2.2 (G (6 * (d + 1) + j)).2.2.2 (G (6 * d + j)).2.2.1 (G (6 * (d + 1) + j)).2.2.1 z t))), (10, .int (nI t)), (8, .int (nI z)), (7, .int (nI sm)), (0, .ref x), (1, .ref ta), (2, .int (nI d)), (3, .int (nI j)), (4, .int (nI (dif (G (6 * d + j)) (G (6 * (d + 1) + j))))), (5, .int (nI ((if (G (6 * d + j)).2.1 = (G (6 * (d + 1) + j)).2.1 then 0 else 1)))), (6, .int (nI ((G (6 * d + j)).2.2.1)))]) hx hb dL_isSize_231 hl (by decide) rfl (fun ls hl => ?_)
                      refine lv_iinc (v := nI (t + 1)) (lv' := [(10, .int (nI (t + 1))), (9, .int (nI (lng (G (6 * d + j)).2.2.2 (G (6 * (d + 1) + j)).2.2.2 (G (6 * d + j)).2.2.1 (G (6 * (d + 1) + j)).2.2.1 z (t + 1)))), (11, .int (nI (shL (G (6 * d + j)).2.2.2 (G (6 * (d + 1) + j)).2.2.2 (G (6 * d + j)).2.2.1 (G (6 * (d + 1) + j)).2.2.1 z t))), (8, .int (nI z)), (7, .int (nI sm)), (0, .ref x), (1, .ref ta), (2, .int (nI d)), (3, .int (nI j)), (4, .int (nI (dif (G (6 * d + j)) (G (6 * (d + 1) + j))))), (5, .int (nI ((if (G (6 * d + j)).2.1 = (G (6 * (d + 1) + j)).2.1 then 0 else 1)))), (6, .int (nI ((G (6 * d + j)).2.2.1)))]) hx hb dL_isSize_233 hl (k := 2) rfl (xinc _ 1 _ (by decide)) (by decide) rfl (fun ls hl => ?_)
                      refine lv_goto (tgt := 154) hx hb dL_isSize_236 (by decide) ?_
                      exact ih9 _ ⟨t + 1, by omega, by omega, lv_sub hl [0, 1, 3, 4, 5, 6, 7, 8, 9, 10, 11] rfl⟩
                  · refine lv_iinc (v := nI (i9 + 1)) (lv' := [(11, .int (nI (i9 + 1))), (10, .int (nI t)), (9, .int (nI (lng (G (6 * d + j)).2.2.2 (G (6 * (d + 1) + j)).2.2.2 (G (6 * d + j)).2.2.1 (G (6 * (d + 1) + j)).2.2.1 z t))), (8, .int (nI z)), (7, .int (nI sm)), (0, .ref x), (1, .ref ta), (2, .int (nI d)), (3, .int (nI j)), (4, .int (nI (dif (G (6 * d + j)) (G (6 * (d + 1) + j))))), (5, .int (nI ((if (G (6 * d + j)).2.1 = (G (6 * (d + 1) + j)).2.1 then 0 else 1)))), (6, .int (nI ((G (6 * d + j)).2.2.1)))]) hx hb dL_isSize_211 hl (k := 0) rfl (xinc _ 1 _ (by decide)) (by decide) rfl (fun ls hl => ?_)
                    refine lv_goto (tgt := 164) hx hb dL_isSize_214 (by decide) ?_
                    obtain ⟨q8, rfl⟩ : ∃ q8, q9 = q8 + 1 := ⟨q9 - 1, by omega⟩
                    have h208 := (num_eq hwa (by omega)).mp c208
                    rw [shl_step q8 i9 ⟨by omega, h208.1, h208.2⟩] at hs8
                    exact ih8 _ ⟨i9 + 1, q8, by omega, by omega, by omega, hs8, lv_sub hl [0, 1, 2, 3, 4, 5, 6, 7, 8, 9, 10, 11] rfl⟩
        · refine lv_iload hx hb dL_isSize_116 (lv_at hl 2 rfl) ?_
          refine lv_iload hx hb dL_isSize_118 (lv_at hl 0 rfl) ?_
          refine lv_iconst (v := nI 1) hx hb dL_isSize_120 (by decide) ?_
          refine lv_iadd hx hb dL_isSize_121 ?_
          refine x_top (nI (((G (6 * d + j)).2.2.1) + 1)) (xadd (by omega)) ?_
          refine lv_iload hx hb dL_isSize_122 (lv_at hl 1 rfl) ?_
          refine lv_iadd hx hb dL_isSize_124 ?_
          refine x_top (nI ((((G (6 * d + j)).2.2.1) + 1) + ((if (G (6 * d + j)).2.1 = (G (6 * (d + 1) + j)).2.1 then 0 else 1)))) (xadd (by omega)) ?_
          refine lv_icmp_ne (tgt := 132) hx hb dL_isSize_125 (by decide) (fun c125 => ?_) (fun c125 => ?_)
          · have c125 : ¬ (dif (G (6 * d + j)) (G (6 * (d + 1) + j))) = ((((G (6 * d + j)).2.2.1) + 1) + ((if (G (6 * d + j)).2.1 = (G (6 * (d + 1) + j)).2.1 then 0 else 1))) := fun h => c125 ((xeq (by omega) (by omega)).mpr h)
            exact absurd (dif_o2 hs c86 c113) c125
          · have c125 : (dif (G (6 * d + j)) (G (6 * (d + 1) + j))) = ((((G (6 * d + j)).2.2.1) + 1) + ((if (G (6 * d + j)).2.1 = (G (6 * (d + 1) + j)).2.1 then 0 else 1))) := (xeq (by omega) (by omega)).mp c125
            refine lv_iconst (v := nI 1) hx hb dL_isSize_128 (by decide) ?_
            refine lv_goto (tgt := 133) hx hb dL_isSize_129 (by decide) ?_
            refine W.widen (k := 3) (n := 18) (Nat.le_of_ble_eq_true rfl) (Nat.le_of_ble_eq_true rfl) ?_
            exact W.zret hx hb hr (xnb _ (by omega)) (fun t9 ht9 hW9 => ⟨_, rfl, rfl, ht9⟩) (fun _ h => nomatch h) dL_isSize_133
      · refine lv_iload hx hb dL_isSize_89 (lv_at hl 2 rfl) ?_
        refine lv_iconst (v := nI 1) hx hb dL_isSize_91 (by decide) ?_
        refine lv_iload hx hb dL_isSize_92 (lv_at hl 1 rfl) ?_
        refine lv_iadd hx hb dL_isSize_94 ?_
        refine x_top (nI (1 + ((if (G (6 * d + j)).2.1 = (G (6 * (d + 1) + j)).2.1 then 0 else 1)))) (xadd (by omega)) ?_
        refine lv_icmp_ne (tgt := 102) hx hb dL_isSize_95 (by decide) (fun c95 => ?_) (fun c95 => ?_)
        · have c95 : ¬ (dif (G (6 * d + j)) (G (6 * (d + 1) + j))) = (1 + ((if (G (6 * d + j)).2.1 = (G (6 * (d + 1) + j)).2.1 then 0 else 1))) := fun h => c95 ((xeq (by omega) (by omega)).mpr h)
          exact absurd (dif_o1 hs c86) c95
        · have c95 : (dif (G (6 * d + j)) (G (6 * (d + 1) + j))) = (1 + ((if (G (6 * d + j)).2.1 = (G (6 * (d + 1) + j)).2.1 then 0 else 1))) := (xeq (by omega) (by omega)).mp c95
          refine lv_iconst (v := nI 1) hx hb dL_isSize_98 (by decide) ?_
          refine lv_goto (tgt := 103) hx hb dL_isSize_99 (by decide) ?_
          refine W.widen (k := 3) (n := 18) (Nat.le_of_ble_eq_true rfl) (Nat.le_of_ble_eq_true rfl) ?_
          exact W.zret hx hb hr (xnb _ (by omega)) (fun t9 ht9 hW9 => ⟨_, rfl, rfl, ht9⟩) (fun _ h => nomatch h) dL_isSize_103
    · refine lv_icmp_ne (tgt := 68) hx hb dL_isSize_61 (by decide) (fun c61 => ?_) (fun c61 => ?_)
      · refine lv_iconst (v := nI 1) hx hb dL_isSize_68 (by decide) ?_
        refine x_top (nI ((if (G (6 * d + j)).2.1 = (G (6 * (d + 1) + j)).2.1 then 0 else 1))) (by rw [if_neg c61]) ?_
        exact J
      · refine lv_iconst (v := nI 0) hx hb dL_isSize_64 (by decide) ?_
        refine lv_goto (tgt := 69) hx hb dL_isSize_65 (by decide) ?_
        refine x_top (nI ((if (G (6 * d + j)).2.1 = (G (6 * (d + 1) + j)).2.1 then 0 else 1))) (by rw [if_pos c61]) ?_
        exact J
  · have hd0 := dif_same (lc_eq hwa hwb c33)
    refine lv_iload hx hb dL_isSize_36 (lv_at hl 0 rfl) ?_
    refine lv_if_ne (tgt := 45) hx hb dL_isSize_38 (by decide) (fun c38 => ?_) (fun c38 => ?_)
    · have c38 : ¬ nI (dif (G (6 * d + j)) (G (6 * (d + 1) + j))) = nI 0 := c38
      have c38 : ¬ (dif (G (6 * d + j)) (G (6 * (d + 1) + j))) = 0 := fun h => c38 ((xeq (by omega) (by omega)).mpr h)
      omega
    · have c38 : nI (dif (G (6 * d + j)) (G (6 * (d + 1) + j))) = nI 0 := c38
      have c38 : (dif (G (6 * d + j)) (G (6 * (d + 1) + j))) = 0 := (xeq (by omega) (by omega)).mp c38
      refine lv_iconst (v := nI 1) hx hb dL_isSize_41 (by decide) ?_
      refine lv_goto (tgt := 46) hx hb dL_isSize_42 (by decide) ?_
      refine W.widen (k := 3) (n := 18) (Nat.le_of_ble_eq_true rfl) (Nat.le_of_ble_eq_true rfl) ?_
      exact W.zret hx hb hr (xnb _ (by omega)) (fun t9 ht9 hW9 => ⟨_, rfl, rfl, ht9⟩) (fun _ h => nomatch h) dL_isSize_46

set_option maxHeartbeats 4000000 in
set_option maxRecDepth 100000 in
theorem c_L_isDate (l : Launch) (hst : l.stackTraces = false) {D : va_G} {cI cT cJ : ClassId} (Ax : Nat → Prop) (x lv kp : Nat) (fL fK : Nat → Option Nat) (o ld b k : Nat) (FZ : va_W) (G : Nat → Tv) (hC : CA cI FZ fL fK G) (ta ma : Nat) (ft : Nat → Int64) (fm : Nat → Int32) (d : Nat) (hWG : WFG G) (ht : ∀ d p, o ≤ d → d ≤ ld → p < 6 → ft (6 * (d % 10) + p) = tlL (G (6 * d + p)) 12) (hm0 : fm 0 = nI ld) (hod : o ≤ d) (hdd : d ≤ ld) (hld : ld ≤ 40) (hold : o ≤ ld) : Met l yL_isDate wsL_isDate (rmD 12 3 18) (XPx D cI cT cJ Ax [.ref x, .ref ta, .ref ma, .int (nI d)] (fun H => va_P D vwCl ((ta, .inl (cJ, 60, .inr (.inl ft))) :: (ma, .inl (cI, 3, .inl fm)) :: (CW cT x lv kp fL fK o ld b k FZ)) H)) (XSi (fun r => r = nI 1)) 3 18 (fun _ => False) := by
  refine Met.ofW (cc := cL_isDate) (maxL := 7) (ret := (some .boolean)) (by decide) rfl ?_
  intro p e s m args below meth c s₁ B hml hv
  obtain ⟨rfl, hP, hE, hT⟩ := hv
  have hx := B.exec
  have hb := B.bytes
  have hr := B.returns
  have hts := atoms_spec (ws := wsL_isDate) B.pre
  have hown : s.vm.findClass RL = some m.cls := findClass_of_methodNamed B.named
  have hlocks := B.notSynchronized
  have hl := lv_entry ([.ref x, .ref ta, .ref ma, .int (nI d)]) (n := 7) (Nat.le_of_ble_eq_true rfl)
  rw [lg_entry_eq]
  generalize (lg_sl ([.ref x, .ref ta, .ref ma, .int (nI d)]) ++ List.replicate (7 - (lg_sl ([.ref x, .ref ta, .ref ma, .int (nI d)])).length) Slot.unset).toArray = ls at hl ⊢
  have hl : lv_has ls 7 [(0, .ref x), (1, .ref ta), (2, .ref ma), (3, .int (nI d))] := hl
  have hK := hE.1
  have hPc : va_P D vwCl (CW cT x lv kp fL fK o ld b k FZ) s.heap := xP_sub (fun _ h => List.mem_cons_of_mem _ (List.mem_cons_of_mem _ h)) hP
  refine lv_iconst (v := nI 1) hx hb dL_isDate_0 (by decide) ?_
  refine lv_istore (lv' := [(4, .int (nI 1)), (0, .ref x), (1, .ref ta), (2, .ref ma), (3, .int (nI d))]) hx hb dL_isDate_1 hl (by decide) rfl (fun ls hl => ?_)
  refine lv_iconst (v := nI 0) hx hb dL_isDate_3 (by decide) ?_
  refine lv_istore (lv' := [(5, .int (nI 0)), (4, .int (nI 1)), (0, .ref x), (1, .ref ta), (2, .ref ma), (3, .int (nI d))]) hx hb dL_isDate_4 hl (by decide) rfl (fun ls hl => ?_)
  refine x_loopP (fun n ls => ∃ j : Nat, (j ≤ 6) ∧ (6 < j + n) ∧ lv_has ls 7 [(5, .int (nI j)), (4, .int (nI 1)), (0, .ref x), (1, .ref ta), (2, .ref ma), (3, .int (nI d))]) (7) ⟨0, by omega, by omega, lv_sub hl [0, 1, 2, 3, 4, 5] rfl⟩ (fun ls h => by obtain ⟨j, hj, hn, -⟩ := h; omega) (fun n ls h ih => ?_)
  obtain ⟨j, hj, hn, hl⟩ := h
  refine lv_iload hx hb dL_isDate_6 (lv_at hl 0 rfl) ?_
  refine lv_bipush (v := nI 6) hx hb dL_isDate_8 (by decide) ?_
  refine lv_icmp_ge (tgt := 149) hx hb dL_isDate_10 (by decide) (fun c10 => ?_) (fun c10 => ?_)
  · have c10 : 6 ≤ j := (xle (by omega) (by omega)).mp c10
    refine lv_iload hx hb dL_isDate_149 (lv_at hl 1 rfl) ?_
    refine W.widen (k := 3) (n := 18) (Nat.le_of_ble_eq_true rfl) (Nat.le_of_ble_eq_true rfl) ?_
    exact W.zret hx hb hr (xnb _ (by omega)) (fun t9 ht9 hW9 => ⟨_, rfl, rfl, ht9⟩) (fun _ h => nomatch h) dL_isDate_151
  · have c10 : ¬ 6 ≤ j := fun h => c10 ((xle (by omega) (by omega)).mpr h)
    obtain ⟨kk, rr, ek, hk2, er, hr7, hlen, hnum, hk0, hk2l⟩ := hWG (6 * d + j) (by omega)
    refine lv_iload hx hb dL_isDate_13 (lv_at hl 1 rfl) ?_
    refine lv_if_eq (tgt := 149) hx hb dL_isDate_15 (by decide) (fun h => absurd h (by decide)) (fun _ => ?_)
    refine lv_aload_n hx hb dL_isDate_18 rfl (lv_at hl 2 rfl) ?_
    refine lv_iload_n hx hb dL_isDate_19 rfl (lv_at hl 5 rfl) ?_
    refine lv_iload hx hb dL_isDate_20 (lv_at hl 0 rfl) ?_
    refine xcr (vx_runV (As := [.int (nI d), .int (nI j)]) (rest := []) ⟨hx, hb, hml, hown, hts⟩ (c_X1_kindAt l hst Ax x lv kp fL fK o ld b k FZ G hC (nI d) (nI j) hld hold) (cwV 2 hts gL_isDate_X1_kindAt rfl rfl rfl (by decide +kernel) ⟨(Nat.le_of_ble_eq_true rfl), (Nat.le_of_ble_eq_true rfl)⟩) ⟨XPx_blind, va_recv hK hPc (ci := 1) (q0 := 0) rfl rfl, XPx_pre hE hT hPc⟩ rfl rfl hl.1 rfl (lv_room (Nat.le_of_ble_eq_true rfl)) dL_isDate_22 ⟨by first | exact Nat.le_of_ble_eq_true rfl | (show _ + _ ≤ _; omega), by first | exact Nat.le_of_ble_eq_true rfl | (show _ + _ ≤ _; omega)⟩) (rq_no (AT_d (by omega) (by omega) (by omega))) (rq_k hld (AT_d (by omega) (by omega) (by omega))) ?_
    refine x_top (nI kk) (ek) ?_
    refine lv_istore (lv' := [(6, .int (nI kk)), (5, .int (nI j)), (4, .int (nI 1)), (0, .ref x), (1, .ref ta), (2, .ref ma), (3, .int (nI d))]) hx hb dL_isDate_25 hl (by decide) rfl (fun ls hl => ?_)
    refine lv_aload_n hx hb dL_isDate_27 rfl (lv_at hl 3 rfl) ?_
    refine lv_iload_n hx hb dL_isDate_28 rfl (lv_at hl 6 rfl) ?_
    refine lv_iload hx hb dL_isDate_29 (lv_at hl 1 rfl) ?_
    refine xc_sje (va_runS (As := [.ref x, .int (nI d), .int (nI j)]) (rest := []) ⟨hx, hb, hml, hown, hts⟩ (c_L_told l hst Ax x lv kp fL fK o ld b k FZ G hC (nI d) (nI j) (6 * d + j) (AT_d (by omega) (by omega) (by omega)) hld hold) (va_cwS 3 hts gL_isDate_L_told rfl rfl rfl (by decide +kernel) ⟨(Nat.le_of_ble_eq_true rfl), (Nat.le_of_ble_eq_true rfl)⟩) ⟨XPx_blind, XPx_pre hE hT hPc⟩ rfl rfl hl.1 rfl (lv_room (Nat.le_of_ble_eq_true rfl)) dL_isDate_31 ⟨by first | exact Nat.le_of_ble_eq_true rfl | (show _ + _ ≤ _; omega), by first | exact Nat.le_of_ble_eq_true rfl | (show _ + _ ≤ _; omega)⟩) ?_
    refine lv_aload_n hx hb dL_isDate_34 rfl (lv_at hl 4 rfl) ?_
    refine lv_bipush (v := nI 6) hx hb dL_isDate_35 (by decide) ?_
    refine lv_iload_n hx hb dL_isDate_37 rfl (lv_at hl 6 rfl) ?_
    refine lv_bipush (v := nI 10) hx hb dL_isDate_38 (by decide) ?_
    refine lv_irem hx hb dL_isDate_40 (by decide) ?_
    refine x_top (nI (d % 10)) (pk_rem (by omega) (by omega) (by omega)) ?_
    refine lv_imul hx hb dL_isDate_41 ?_
    refine x_top (nI (6 * (d % 10))) (pk_mul _ _) ?_
    refine lv_iload hx hb dL_isDate_42 (lv_at hl 1 rfl) ?_
    refine lv_iadd hx hb dL_isDate_44 ?_
    refine x_top (nI ((6 * (d % 10)) + j)) (xadd (by omega)) ?_
    refine va_lald hx hb hK hP 0 2 rfl rfl (xin (by omega) (by omega)) dL_isDate_45 ?_
    refine x_topl (tlL (G (6 * d + j)) 12) (by rw [nI_clamp (by omega)]; exact ht d j (by omega) (by omega) (by omega)) ?_
    refine W.lcmp hx hb dL_isDate_46 ?_
    refine x_top (nI 0) (lg_self _) ?_
    refine lv_if_ne (tgt := 140) hx hb dL_isDate_47 (by decide) (fun h => absurd h (by decide)) (fun _ => ?_)
    refine lv_iload hx hb dL_isDate_50 (lv_at hl 0 rfl) ?_
    refine lv_if_lt (tgt := 140) hx hb dL_isDate_52 (by decide) (fun c52 => ?_) (fun c52 => ?_)
    · have c52 : nI kk < nI 0 := c52
      have c52 : kk < 0 := (xlt (by omega) (by omega)).mp c52
      omega
    · have c52 : ¬ nI kk < nI 0 := c52
      have c52 : ¬ kk < 0 := fun h => c52 ((xlt (by omega) (by omega)).mpr h)
      refine lv_iload hx hb dL_isDate_55 (lv_at hl 0 rfl) ?_
      refine lv_iconst (v := nI 2) hx hb dL_isDate_57 (by decide) ?_
      refine lv_icmp_gt (tgt := 140) hx hb dL_isDate_58 (by decide) (fun c58 => ?_) (fun c58 => ?_)
      · have c58 : 2 < kk := (xlt (by omega) (by omega)).mp c58
        omega
      · have c58 : ¬ 2 < kk := fun h => c58 ((xlt (by omega) (by omega)).mpr h)
        refine lv_iload hx hb dL_isDate_61 (lv_at hl 0 rfl) ?_
        refine lv_if_gt (tgt := 88) hx hb dL_isDate_63 (by decide) (fun c63 => ?_) (fun c63 => ?_)
        · have c63 : nI 0 < nI kk := c63
          have c63 : 0 < kk := (xlt (by omega) (by omega)).mp c63
          refine lv_iload hx hb dL_isDate_88 (lv_at hl 0 rfl) ?_
          refine lv_iconst (v := nI 2) hx hb dL_isDate_90 (by decide) ?_
          refine lv_icmp_ne (tgt := 105) hx hb dL_isDate_91 (by decide) (fun c91 => ?_) (fun c91 => ?_)
          · have c91 : ¬ kk = 2 := fun h => c91 ((xeq (by omega) (by omega)).mpr h)
            refine lv_iload_n hx hb dL_isDate_105 rfl (lv_at hl 6 rfl) ?_
            refine lv_aload_n hx hb dL_isDate_106 rfl (lv_at hl 5 rfl) ?_
            refine lv_iconst (v := nI 0) hx hb dL_isDate_107 (by decide) ?_
            refine va_iald hx hb hK hP 1 0 rfl rfl (xin (by omega) (by omega)) dL_isDate_108 ?_
            refine x_top (fm 0) (by rw [nI_clamp (by omega)]) ?_
            refine x_top (nI ld) (hm0) ?_
            refine lv_icmp_ne (tgt := 125) hx hb dL_isDate_109 (by decide) (fun c109 => ?_) (fun c109 => ?_)
            · have c109 : ¬ d = ld := fun h => c109 ((xeq (by omega) (by omega)).mpr h)
              refine lv_aload_n hx hb dL_isDate_125 rfl (lv_at hl 3 rfl) ?_
              refine lv_aload_n hx hb dL_isDate_126 rfl (lv_at hl 4 rfl) ?_
              refine lv_iload_n hx hb dL_isDate_127 rfl (lv_at hl 6 rfl) ?_
              refine lv_iload hx hb dL_isDate_128 (lv_at hl 1 rfl) ?_
              have hPz : va_P D vwCl ((ta, .inl (cJ, 60, .inr (.inl ft))) :: (CW cT x lv kp fL fK o ld b k FZ)) s.heap := xP_sub (fun _ h => by rcases List.mem_cons.mp h with rfl | h; exact List.mem_cons_self; exact List.mem_cons_of_mem _ (List.mem_cons_of_mem _ h)) hP
              refine xc_si2 (va_runS (As := [.ref x, .ref ta, .int (nI d), .int (nI j)]) (rest := []) ⟨hx, hb, hml, hown, hts⟩ (c_L_isSize l hst Ax x lv kp fL fK o ld b k FZ G hC ta ft d j hWG ht (by omega) (by omega) (by omega) hld hold) (va_cwS 4 hts gL_isDate_L_isSize rfl rfl rfl (by decide +kernel) ⟨(Nat.le_of_ble_eq_true rfl), (Nat.le_of_ble_eq_true rfl)⟩) ⟨XPx_blind, XPx_pre hE hT hPz⟩ rfl rfl hl.1 rfl (lv_room (Nat.le_of_ble_eq_true rfl)) dL_isDate_130 ⟨by first | exact Nat.le_of_ble_eq_true rfl | (show _ + _ ≤ _; omega), by first | exact Nat.le_of_ble_eq_true rfl | (show _ + _ ≤ _; omega)⟩) ?_
              refine lv_if_eq (tgt := 140) hx hb dL_isDate_133 (by decide) (fun h => absurd h (by decide)) (fun _ => ?_)
              refine lv_iconst (v := nI 1) hx hb dL_isDate_136 (by decide) ?_
              refine lv_goto (tgt := 141) hx hb dL_isDate_137 (by decide) ?_
              refine lv_istore (lv' := [(4, .int (nI 1)), (6, .int (nI kk)), (5, .int (nI j)), (0, .ref x), (1, .ref ta), (2, .ref ma), (3, .int (nI d))]) hx hb dL_isDate_141 hl (by decide) rfl (fun ls hl => ?_)
              refine lv_iinc (v := nI (j + 1)) (lv' := [(5, .int (nI (j + 1))), (4, .int (nI 1)), (6, .int (nI kk)), (0, .ref x), (1, .ref ta), (2, .ref ma), (3, .int (nI d))]) hx hb dL_isDate_143 hl (k := 2) rfl (xinc _ 1 _ (by decide)) (by decide) rfl (fun ls hl => ?_)
              refine lv_goto (tgt := 6) hx hb dL_isDate_146 (by decide) ?_
              exact ih _ ⟨j + 1, by omega, by omega, lv_sub hl [0, 1, 3, 4, 5, 6] rfl⟩
            · have c109 : d = ld := (xeq (by omega) (by omega)).mp c109
              refine lv_aload_n hx hb dL_isDate_112 rfl (lv_at hl 3 rfl) ?_
              refine lv_iload_n hx hb dL_isDate_113 rfl (lv_at hl 6 rfl) ?_
              refine lv_iload hx hb dL_isDate_114 (lv_at hl 1 rfl) ?_
              refine xcr (vx_runV (As := [.int (nI d), .int (nI j)]) (rest := []) ⟨hx, hb, hml, hown, hts⟩ (c_X1_sizeAt l hst Ax x lv kp fL fK o ld b k FZ G hC (nI d) (nI j) hld hold) (cwV 2 hts gL_isDate_X1_sizeAt rfl rfl rfl (by decide +kernel) ⟨(Nat.le_of_ble_eq_true rfl), (Nat.le_of_ble_eq_true rfl)⟩) ⟨XPx_blind, va_recv hK hPc (ci := 1) (q0 := 0) rfl rfl, XPx_pre hE hT hPc⟩ rfl rfl hl.1 rfl (lv_room (Nat.le_of_ble_eq_true rfl)) dL_isDate_116 ⟨by first | exact Nat.le_of_ble_eq_true rfl | (show _ + _ ≤ _; omega), by first | exact Nat.le_of_ble_eq_true rfl | (show _ + _ ≤ _; omega)⟩) (rq_sn (by omega) (by omega) (by omega)) (rq_s hld (by omega) (by omega) (by omega)) ?_
              refine x_top (nI 0) (congrArg nI (difW_last (by omega))) ?_
              refine lv_if_ne (tgt := 140) hx hb dL_isDate_119 (by decide) (fun h => absurd h (by decide)) (fun _ => ?_)
              refine lv_goto (tgt := 136) hx hb dL_isDate_122 (by decide) ?_
              refine lv_iconst (v := nI 1) hx hb dL_isDate_136 (by decide) ?_
              refine lv_goto (tgt := 141) hx hb dL_isDate_137 (by decide) ?_
              refine lv_istore (lv' := [(4, .int (nI 1)), (6, .int (nI kk)), (5, .int (nI j)), (0, .ref x), (1, .ref ta), (2, .ref ma), (3, .int (nI d))]) hx hb dL_isDate_141 hl (by decide) rfl (fun ls hl => ?_)
              refine lv_iinc (v := nI (j + 1)) (lv' := [(5, .int (nI (j + 1))), (4, .int (nI 1)), (6, .int (nI kk)), (0, .ref x), (1, .ref ta), (2, .ref ma), (3, .int (nI d))]) hx hb dL_isDate_143 hl (k := 2) rfl (xinc _ 1 _ (by decide)) (by decide) rfl (fun ls hl => ?_)
              refine lv_goto (tgt := 6) hx hb dL_isDate_146 (by decide) ?_
              exact ih _ ⟨j + 1, by omega, by omega, lv_sub hl [0, 1, 3, 4, 5, 6] rfl⟩
          · have c91 : kk = 2 := (xeq (by omega) (by omega)).mp c91
            refine lv_aload_n hx hb dL_isDate_94 rfl (lv_at hl 3 rfl) ?_
            refine lv_iload_n hx hb dL_isDate_95 rfl (lv_at hl 6 rfl) ?_
            refine lv_iload hx hb dL_isDate_96 (lv_at hl 1 rfl) ?_
            refine xc_si2 (va_runS (As := [.ref x, .int (nI d), .int (nI j)]) (rest := []) ⟨hx, hb, hml, hown, hts⟩ (c_L_length l hst Ax x lv kp fL fK o ld b k FZ G hC (nI d) (nI j) (6 * d + j) (AT_d (by omega) (by omega) (by omega)) (hWG _ (by omega)) hld hold) (va_cwS 3 hts gL_isDate_L_length rfl rfl rfl (by decide +kernel) ⟨(Nat.le_of_ble_eq_true rfl), (Nat.le_of_ble_eq_true rfl)⟩) ⟨XPx_blind, XPx_pre hE hT hPc⟩ rfl rfl hl.1 rfl (lv_room (Nat.le_of_ble_eq_true rfl)) dL_isDate_98 ⟨by first | exact Nat.le_of_ble_eq_true rfl | (show _ + _ ≤ _; omega), by first | exact Nat.le_of_ble_eq_true rfl | (show _ + _ ≤ _; omega)⟩) ?_
            refine x_top (nI 1) (by rw [hk2l (by omega)]) ?_
            refine lv_iconst (v := nI 1) hx hb dL_isDate_101 (by decide) ?_
            refine lv_icmp_ne (tgt := 140) hx hb dL_isDate_102 (by decide) (fun h => absurd h (by decide)) (fun _ => ?_)
            refine lv_iload_n hx hb dL_isDate_105 rfl (lv_at hl 6 rfl) ?_
            refine lv_aload_n hx hb dL_isDate_106 rfl (lv_at hl 5 rfl) ?_
            refine lv_iconst (v := nI 0) hx hb dL_isDate_107 (by decide) ?_
            refine va_iald hx hb hK hP 1 0 rfl rfl (xin (by omega) (by omega)) dL_isDate_108 ?_
            refine x_top (fm 0) (by rw [nI_clamp (by omega)]) ?_
            refine x_top (nI ld) (hm0) ?_
            refine lv_icmp_ne (tgt := 125) hx hb dL_isDate_109 (by decide) (fun c109 => ?_) (fun c109 => ?_)
            · have c109 : ¬ d = ld := fun h => c109 ((xeq (by omega) (by omega)).mpr h)
              refine lv_aload_n hx hb dL_isDate_125 rfl (lv_at hl 3 rfl) ?_
              refine lv_aload_n hx hb dL_isDate_126 rfl (lv_at hl 4 rfl) ?_
              refine lv_iload_n hx hb dL_isDate_127 rfl (lv_at hl 6 rfl) ?_
              refine lv_iload hx hb dL_isDate_128 (lv_at hl 1 rfl) ?_
              have hPz : va_P D vwCl ((ta, .inl (cJ, 60, .inr (.inl ft))) :: (CW cT x lv kp fL fK o ld b k FZ)) s.heap := xP_sub (fun _ h => by rcases List.mem_cons.mp h with rfl | h; exact List.mem_cons_self; exact List.mem_cons_of_mem _ (List.mem_cons_of_mem _ h)) hP
              refine xc_si2 (va_runS (As := [.ref x, .ref ta, .int (nI d), .int (nI j)]) (rest := []) ⟨hx, hb, hml, hown, hts⟩ (c_L_isSize l hst Ax x lv kp fL fK o ld b k FZ G hC ta ft d j hWG ht (by omega) (by omega) (by omega) hld hold) (va_cwS 4 hts gL_isDate_L_isSize rfl rfl rfl (by decide +kernel) ⟨(Nat.le_of_ble_eq_true rfl), (Nat.le_of_ble_eq_true rfl)⟩) ⟨XPx_blind, XPx_pre hE hT hPz⟩ rfl rfl hl.1 rfl (lv_room (Nat.le_of_ble_eq_true rfl)) dL_isDate_130 ⟨by first | exact Nat.le_of_ble_eq_true rfl | (show _ + _ ≤ _; omega), by first | exact Nat.le_of_ble_eq_true rfl | (show _ + _ ≤ _; omega)⟩) ?_
              refine lv_if_eq (tgt := 140) hx hb dL_isDate_133 (by decide) (fun h => absurd h (by decide)) (fun _ => ?_)
              refine lv_iconst (v := nI 1) hx hb dL_isDate_136 (by decide) ?_
              refine lv_goto (tgt := 141) hx hb dL_isDate_137 (by decide) ?_
              refine lv_istore (lv' := [(4, .int (nI 1)), (6, .int (nI kk)), (5, .int (nI j)), (0, .ref x), (1, .ref ta), (2, .ref ma), (3, .int (nI d))]) hx hb dL_isDate_141 hl (by decide) rfl (fun ls hl => ?_)
              refine lv_iinc (v := nI (j + 1)) (lv' := [(5, .int (nI (j + 1))), (4, .int (nI 1)), (6, .int (nI kk)), (0, .ref x), (1, .ref ta), (2, .ref ma), (3, .int (nI d))]) hx hb dL_isDate_143 hl (k := 2) rfl (xinc _ 1 _ (by decide)) (by decide) rfl (fun ls hl => ?_)
              refine lv_goto (tgt := 6) hx hb dL_isDate_146 (by decide) ?_
              exact ih _ ⟨j + 1, by omega, by omega, lv_sub hl [0, 1, 3, 4, 5, 6] rfl⟩
            · have c109 : d = ld := (xeq (by omega) (by omega)).mp c109
              refine lv_aload_n hx hb dL_isDate_112 rfl (lv_at hl 3 rfl) ?_
              refine lv_iload_n hx hb dL_isDate_113 rfl (lv_at hl 6 rfl) ?_
              refine lv_iload hx hb dL_isDate_114 (lv_at hl 1 rfl) ?_
              refine xcr (vx_runV (As := [.int (nI d), .int (nI j)]) (rest := []) ⟨hx, hb, hml, hown, hts⟩ (c_X1_sizeAt l hst Ax x lv kp fL fK o ld b k FZ G hC (nI d) (nI j) hld hold) (cwV 2 hts gL_isDate_X1_sizeAt rfl rfl rfl (by decide +kernel) ⟨(Nat.le_of_ble_eq_true rfl), (Nat.le_of_ble_eq_true rfl)⟩) ⟨XPx_blind, va_recv hK hPc (ci := 1) (q0 := 0) rfl rfl, XPx_pre hE hT hPc⟩ rfl rfl hl.1 rfl (lv_room (Nat.le_of_ble_eq_true rfl)) dL_isDate_116 ⟨by first | exact Nat.le_of_ble_eq_true rfl | (show _ + _ ≤ _; omega), by first | exact Nat.le_of_ble_eq_true rfl | (show _ + _ ≤ _; omega)⟩) (rq_sn (by omega) (by omega) (by omega)) (rq_s hld (by omega) (by omega) (by omega)) ?_
              refine x_top (nI 0) (congrArg nI (difW_last (by omega))) ?_
              refine lv_if_ne (tgt := 140) hx hb dL_isDate_119 (by decide) (fun h => absurd h (by decide)) (fun _ => ?_)
              refine lv_goto (tgt := 136) hx hb dL_isDate_122 (by decide) ?_
              refine lv_iconst (v := nI 1) hx hb dL_isDate_136 (by decide) ?_
              refine lv_goto (tgt := 141) hx hb dL_isDate_137 (by decide) ?_
              refine lv_istore (lv' := [(4, .int (nI 1)), (6, .int (nI kk)), (5, .int (nI j)), (0, .ref x), (1, .ref ta), (2, .ref ma), (3, .int (nI d))]) hx hb dL_isDate_141 hl (by decide) rfl (fun ls hl => ?_)
              refine lv_iinc (v := nI (j + 1)) (lv' := [(5, .int (nI (j + 1))), (4, .int (nI 1)), (6, .int (nI kk)), (0, .ref x), (1, .ref ta), (2, .ref ma), (3, .int (nI d))]) hx hb dL_isDate_143 hl (k := 2) rfl (xinc _ 1 _ (by decide)) (by decide) rfl (fun ls hl => ?_)
              refine lv_goto (tgt := 6) hx hb dL_isDate_146 (by decide) ?_
              exact ih _ ⟨j + 1, by omega, by omega, lv_sub hl [0, 1, 3, 4, 5, 6] rfl⟩
        · have c63 : ¬ nI 0 < nI kk := c63
          have c63 : ¬ 0 < kk := fun h => c63 ((xlt (by omega) (by omega)).mpr h)
          refine lv_aload_n hx hb dL_isDate_66 rfl (lv_at hl 3 rfl) ?_
          refine lv_iload_n hx hb dL_isDate_67 rfl (lv_at hl 6 rfl) ?_
          refine lv_iload hx hb dL_isDate_68 (lv_at hl 1 rfl) ?_
          refine xcr (vx_runV (As := [.int (nI d), .int (nI j)]) (rest := []) ⟨hx, hb, hml, hown, hts⟩ (c_X1_rightsAt l hst Ax x lv kp fL fK o ld b k FZ G hC (nI d) (nI j) hld hold) (cwV 2 hts gL_isDate_X1_rightsAt rfl rfl rfl (by decide +kernel) ⟨(Nat.le_of_ble_eq_true rfl), (Nat.le_of_ble_eq_true rfl)⟩) ⟨XPx_blind, va_recv hK hPc (ci := 1) (q0 := 0) rfl rfl, XPx_pre hE hT hPc⟩ rfl rfl hl.1 rfl (lv_room (Nat.le_of_ble_eq_true rfl)) dL_isDate_70 ⟨by first | exact Nat.le_of_ble_eq_true rfl | (show _ + _ ≤ _; omega), by first | exact Nat.le_of_ble_eq_true rfl | (show _ + _ ≤ _; omega)⟩) (rq_no (AT_d (by omega) (by omega) (by omega))) (rq_r hld (AT_d (by omega) (by omega) (by omega))) ?_
          refine x_top (nI rr) (er) ?_
          refine lv_if_ne (tgt := 140) hx hb dL_isDate_73 (by decide) (fun c73 => ?_) (fun c73 => ?_)
          · have c73 : ¬ nI rr = nI 0 := c73
            have c73 : ¬ rr = 0 := fun h => c73 ((xeq (by omega) (by omega)).mpr h)
            have h00 := hk0 (by omega); omega
          · have c73 : nI rr = nI 0 := c73
            have c73 : rr = 0 := (xeq (by omega) (by omega)).mp c73
            refine lv_aload_n hx hb dL_isDate_76 rfl (lv_at hl 3 rfl) ?_
            refine lv_iload_n hx hb dL_isDate_77 rfl (lv_at hl 6 rfl) ?_
            refine lv_iload hx hb dL_isDate_78 (lv_at hl 1 rfl) ?_
            refine lv_iconst (v := nI 0) hx hb dL_isDate_80 (by decide) ?_
            refine xcr (vx_runV (As := [.int (nI d), .int (nI j), .int (nI 0)]) (rest := []) ⟨hx, hb, hml, hown, hts⟩ (c_X1_numberAt l hst Ax x lv kp fL fK o ld b k FZ G hC (nI d) (nI j) (nI 0) hld hold) (cwV 3 hts gL_isDate_X1_numberAt rfl rfl rfl (by decide +kernel) ⟨(Nat.le_of_ble_eq_true rfl), (Nat.le_of_ble_eq_true rfl)⟩) ⟨XPx_blind, va_recv hK hPc (ci := 1) (q0 := 0) rfl rfl, XPx_pre hE hT hPc⟩ rfl rfl hl.1 rfl (lv_room (Nat.le_of_ble_eq_true rfl)) dL_isDate_81 ⟨by first | exact Nat.le_of_ble_eq_true rfl | (show _ + _ ≤ _; omega), by first | exact Nat.le_of_ble_eq_true rfl | (show _ + _ ≤ _; omega)⟩) (rq_nn (AT_d (by omega) (by omega) (by omega)) (by omega)) (rq_n hld (AT_d (by omega) (by omega) (by omega)) (by omega)) ?_
            refine x_top ((-1)) (num_out (by have h00 := hk0 (by omega); omega)) ?_
            refine lv_iconst (v := (-1)) hx hb dL_isDate_84 (by decide) ?_
            refine lv_icmp_ne (tgt := 140) hx hb dL_isDate_85 (by decide) (fun h => absurd h (by decide)) (fun _ => ?_)
            refine lv_iload hx hb dL_isDate_88 (lv_at hl 0 rfl) ?_
            refine lv_iconst (v := nI 2) hx hb dL_isDate_90 (by decide) ?_
            refine lv_icmp_ne (tgt := 105) hx hb dL_isDate_91 (by decide) (fun c91 => ?_) (fun c91 => ?_)
            · have c91 : ¬ kk = 2 := fun h => c91 ((xeq (by omega) (by omega)).mpr h)
              refine lv_iload_n hx hb dL_isDate_105 rfl (lv_at hl 6 rfl) ?_
              refine lv_aload_n hx hb dL_isDate_106 rfl (lv_at hl 5 rfl) ?_
              refine lv_iconst (v := nI 0) hx hb dL_isDate_107 (by decide) ?_
              refine va_iald hx hb hK hP 1 0 rfl rfl (xin (by omega) (by omega)) dL_isDate_108 ?_
              refine x_top (fm 0) (by rw [nI_clamp (by omega)]) ?_
              refine x_top (nI ld) (hm0) ?_
              refine lv_icmp_ne (tgt := 125) hx hb dL_isDate_109 (by decide) (fun c109 => ?_) (fun c109 => ?_)
              · have c109 : ¬ d = ld := fun h => c109 ((xeq (by omega) (by omega)).mpr h)
                refine lv_aload_n hx hb dL_isDate_125 rfl (lv_at hl 3 rfl) ?_
                refine lv_aload_n hx hb dL_isDate_126 rfl (lv_at hl 4 rfl) ?_
                refine lv_iload_n hx hb dL_isDate_127 rfl (lv_at hl 6 rfl) ?_
                refine lv_iload hx hb dL_isDate_128 (lv_at hl 1 rfl) ?_
                have hPz : va_P D vwCl ((ta, .inl (cJ, 60, .inr (.inl ft))) :: (CW cT x lv kp fL fK o ld b k FZ)) s.heap := xP_sub (fun _ h => by rcases List.mem_cons.mp h with rfl | h; exact List.mem_cons_self; exact List.mem_cons_of_mem _ (List.mem_cons_of_mem _ h)) hP
                refine xc_si2 (va_runS (As := [.ref x, .ref ta, .int (nI d), .int (nI j)]) (rest := []) ⟨hx, hb, hml, hown, hts⟩ (c_L_isSize l hst Ax x lv kp fL fK o ld b k FZ G hC ta ft d j hWG ht (by omega) (by omega) (by omega) hld hold) (va_cwS 4 hts gL_isDate_L_isSize rfl rfl rfl (by decide +kernel) ⟨(Nat.le_of_ble_eq_true rfl), (Nat.le_of_ble_eq_true rfl)⟩) ⟨XPx_blind, XPx_pre hE hT hPz⟩ rfl rfl hl.1 rfl (lv_room (Nat.le_of_ble_eq_true rfl)) dL_isDate_130 ⟨by first | exact Nat.le_of_ble_eq_true rfl | (show _ + _ ≤ _; omega), by first | exact Nat.le_of_ble_eq_true rfl | (show _ + _ ≤ _; omega)⟩) ?_
                refine lv_if_eq (tgt := 140) hx hb dL_isDate_133 (by decide) (fun h => absurd h (by decide)) (fun _ => ?_)
                refine lv_iconst (v := nI 1) hx hb dL_isDate_136 (by decide) ?_
                refine lv_goto (tgt := 141) hx hb dL_isDate_137 (by decide) ?_
                refine lv_istore (lv' := [(4, .int (nI 1)), (6, .int (nI kk)), (5, .int (nI j)), (0, .ref x), (1, .ref ta), (2, .ref ma), (3, .int (nI d))]) hx hb dL_isDate_141 hl (by decide) rfl (fun ls hl => ?_)
                refine lv_iinc (v := nI (j + 1)) (lv' := [(5, .int (nI (j + 1))), (4, .int (nI 1)), (6, .int (nI kk)), (0, .ref x), (1, .ref ta), (2, .ref ma), (3, .int (nI d))]) hx hb dL_isDate_143 hl (k := 2) rfl (xinc _ 1 _ (by decide)) (by decide) rfl (fun ls hl => ?_)
                refine lv_goto (tgt := 6) hx hb dL_isDate_146 (by decide) ?_
                exact ih _ ⟨j + 1, by omega, by omega, lv_sub hl [0, 1, 3, 4, 5, 6] rfl⟩
              · have c109 : d = ld := (xeq (by omega) (by omega)).mp c109
                refine lv_aload_n hx hb dL_isDate_112 rfl (lv_at hl 3 rfl) ?_
                refine lv_iload_n hx hb dL_isDate_113 rfl (lv_at hl 6 rfl) ?_
                refine lv_iload hx hb dL_isDate_114 (lv_at hl 1 rfl) ?_
                refine xcr (vx_runV (As := [.int (nI d), .int (nI j)]) (rest := []) ⟨hx, hb, hml, hown, hts⟩ (c_X1_sizeAt l hst Ax x lv kp fL fK o ld b k FZ G hC (nI d) (nI j) hld hold) (cwV 2 hts gL_isDate_X1_sizeAt rfl rfl rfl (by decide +kernel) ⟨(Nat.le_of_ble_eq_true rfl), (Nat.le_of_ble_eq_true rfl)⟩) ⟨XPx_blind, va_recv hK hPc (ci := 1) (q0 := 0) rfl rfl, XPx_pre hE hT hPc⟩ rfl rfl hl.1 rfl (lv_room (Nat.le_of_ble_eq_true rfl)) dL_isDate_116 ⟨by first | exact Nat.le_of_ble_eq_true rfl | (show _ + _ ≤ _; omega), by first | exact Nat.le_of_ble_eq_true rfl | (show _ + _ ≤ _; omega)⟩) (rq_sn (by omega) (by omega) (by omega)) (rq_s hld (by omega) (by omega) (by omega)) ?_
                refine x_top (nI 0) (congrArg nI (difW_last (by omega))) ?_
                refine lv_if_ne (tgt := 140) hx hb dL_isDate_119 (by decide) (fun h => absurd h (by decide)) (fun _ => ?_)
                refine lv_goto (tgt := 136) hx hb dL_isDate_122 (by decide) ?_
                refine lv_iconst (v := nI 1) hx hb dL_isDate_136 (by decide) ?_
                refine lv_goto (tgt := 141) hx hb dL_isDate_137 (by decide) ?_
                refine lv_istore (lv' := [(4, .int (nI 1)), (6, .int (nI kk)), (5, .int (nI j)), (0, .ref x), (1, .ref ta), (2, .ref ma), (3, .int (nI d))]) hx hb dL_isDate_141 hl (by decide) rfl (fun ls hl => ?_)
                refine lv_iinc (v := nI (j + 1)) (lv' := [(5, .int (nI (j + 1))), (4, .int (nI 1)), (6, .int (nI kk)), (0, .ref x), (1, .ref ta), (2, .ref ma), (3, .int (nI d))]) hx hb dL_isDate_143 hl (k := 2) rfl (xinc _ 1 _ (by decide)) (by decide) rfl (fun ls hl => ?_)
                refine lv_goto (tgt := 6) hx hb dL_isDate_146 (by decide) ?_
                exact ih _ ⟨j + 1, by omega, by omega, lv_sub hl [0, 1, 3, 4, 5, 6] rfl⟩
            · have c91 : kk = 2 := (xeq (by omega) (by omega)).mp c91
              refine lv_aload_n hx hb dL_isDate_94 rfl (lv_at hl 3 rfl) ?_
              refine lv_iload_n hx hb dL_isDate_95 rfl (lv_at hl 6 rfl) ?_
              refine lv_iload hx hb dL_isDate_96 (lv_at hl 1 rfl) ?_
              refine xc_si2 (va_runS (As := [.ref x, .int (nI d), .int (nI j)]) (rest := []) ⟨hx, hb, hml, hown, hts⟩ (c_L_length l hst Ax x lv kp fL fK o ld b k FZ G hC (nI d) (nI j) (6 * d + j) (AT_d (by omega) (by omega) (by omega)) (hWG _ (by omega)) hld hold) (va_cwS 3 hts gL_isDate_L_length rfl rfl rfl (by decide +kernel) ⟨(Nat.le_of_ble_eq_true rfl), (Nat.le_of_ble_eq_true rfl)⟩) ⟨XPx_blind, XPx_pre hE hT hPc⟩ rfl rfl hl.1 rfl (lv_room (Nat.le_of_ble_eq_true rfl)) dL_isDate_98 ⟨by first | exact Nat.le_of_ble_eq_true rfl | (show _ + _ ≤ _; omega), by first | exact Nat.le_of_ble_eq_true rfl | (show _ + _ ≤ _; omega)⟩) ?_
              refine x_top (nI 1) (by rw [hk2l (by omega)]) ?_
              refine lv_iconst (v := nI 1) hx hb dL_isDate_101 (by decide) ?_
              refine lv_icmp_ne (tgt := 140) hx hb dL_isDate_102 (by decide) (fun h => absurd h (by decide)) (fun _ => ?_)
              refine lv_iload_n hx hb dL_isDate_105 rfl (lv_at hl 6 rfl) ?_
              refine lv_aload_n hx hb dL_isDate_106 rfl (lv_at hl 5 rfl) ?_
              refine lv_iconst (v := nI 0) hx hb dL_isDate_107 (by decide) ?_
              refine va_iald hx hb hK hP 1 0 rfl rfl (xin (by omega) (by omega)) dL_isDate_108 ?_
              refine x_top (fm 0) (by rw [nI_clamp (by omega)]) ?_
              refine x_top (nI ld) (hm0) ?_
              refine lv_icmp_ne (tgt := 125) hx hb dL_isDate_109 (by decide) (fun c109 => ?_) (fun c109 => ?_)
              · have c109 : ¬ d = ld := fun h => c109 ((xeq (by omega) (by omega)).mpr h)
                refine lv_aload_n hx hb dL_isDate_125 rfl (lv_at hl 3 rfl) ?_
                refine lv_aload_n hx hb dL_isDate_126 rfl (lv_at hl 4 rfl) ?_
                refine lv_iload_n hx hb dL_isDate_127 rfl (lv_at hl 6 rfl) ?_
                refine lv_iload hx hb dL_isDate_128 (lv_at hl 1 rfl) ?_
                have hPz : va_P D vwCl ((ta, .inl (cJ, 60, .inr (.inl ft))) :: (CW cT x lv kp fL fK o ld b k FZ)) s.heap := xP_sub (fun _ h => by rcases List.mem_cons.mp h with rfl | h; exact List.mem_cons_self; exact List.mem_cons_of_mem _ (List.mem_cons_of_mem _ h)) hP
                refine xc_si2 (va_runS (As := [.ref x, .ref ta, .int (nI d), .int (nI j)]) (rest := []) ⟨hx, hb, hml, hown, hts⟩ (c_L_isSize l hst Ax x lv kp fL fK o ld b k FZ G hC ta ft d j hWG ht (by omega) (by omega) (by omega) hld hold) (va_cwS 4 hts gL_isDate_L_isSize rfl rfl rfl (by decide +kernel) ⟨(Nat.le_of_ble_eq_true rfl), (Nat.le_of_ble_eq_true rfl)⟩) ⟨XPx_blind, XPx_pre hE hT hPz⟩ rfl rfl hl.1 rfl (lv_room (Nat.le_of_ble_eq_true rfl)) dL_isDate_130 ⟨by first | exact Nat.le_of_ble_eq_true rfl | (show _ + _ ≤ _; omega), by first | exact Nat.le_of_ble_eq_true rfl | (show _ + _ ≤ _; omega)⟩) ?_
                refine lv_if_eq (tgt := 140) hx hb dL_isDate_133 (by decide) (fun h => absurd h (by decide)) (fun _ => ?_)
                refine lv_iconst (v := nI 1) hx hb dL_isDate_136 (by decide) ?_
                refine lv_goto (tgt := 141) hx hb dL_isDate_137 (by decide) ?_
                refine lv_istore (lv' := [(4, .int (nI 1)), (6, .int (nI kk)), (5, .int (nI j)), (0, .ref x), (1, .ref ta), (2, .ref ma), (3, .int (nI d))]) hx hb dL_isDate_141 hl (by decide) rfl (fun ls hl => ?_)
                refine lv_iinc (v := nI (j + 1)) (lv' := [(5, .int (nI (j + 1))), (4, .int (nI 1)), (6, .int (nI kk)), (0, .ref x), (1, .ref ta), (2, .ref ma), (3, .int (nI d))]) hx hb dL_isDate_143 hl (k := 2) rfl (xinc _ 1 _ (by decide)) (by decide) rfl (fun ls hl => ?_)
                refine lv_goto (tgt := 6) hx hb dL_isDate_146 (by decide) ?_
                exact ih _ ⟨j + 1, by omega, by omega, lv_sub hl [0, 1, 3, 4, 5, 6] rfl⟩
              · have c109 : d = ld := (xeq (by omega) (by omega)).mp c109
                refine lv_aload_n hx hb dL_isDate_112 rfl (lv_at hl 3 rfl) ?_
                refine lv_iload_n hx hb dL_isDate_113 rfl (lv_at hl 6 rfl) ?_
                refine lv_iload hx hb dL_isDate_114 (lv_at hl 1 rfl) ?_
                refine xcr (vx_runV (As := [.int (nI d), .int (nI j)]) (rest := []) ⟨hx, hb, hml, hown, hts⟩ (c_X1_sizeAt l hst Ax x lv kp fL fK o ld b k FZ G hC (nI d) (nI j) hld hold) (cwV 2 hts gL_isDate_X1_sizeAt rfl rfl rfl (by decide +kernel) ⟨(Nat.le_of_ble_eq_true rfl), (Nat.le_of_ble_eq_true rfl)⟩) ⟨XPx_blind, va_recv hK hPc (ci := 1) (q0 := 0) rfl rfl, XPx_pre hE hT hPc⟩ rfl rfl hl.1 rfl (lv_room (Nat.le_of_ble_eq_true rfl)) dL_isDate_116 ⟨by first | exact Nat.le_of_ble_eq_true rfl | (show _ + _ ≤ _; omega), by first | exact Nat.le_of_ble_eq_true rfl | (show _ + _ ≤ _; omega)⟩) (rq_sn (by omega) (by omega) (by omega)) (rq_s hld (by omega) (by omega) (by omega)) ?_
                refine x_top (nI 0) (congrArg nI (difW_last (by omega))) ?_
                refine lv_if_ne (tgt := 140) hx hb dL_isDate_119 (by decide) (fun h => absurd h (by decide)) (fun _ => ?_)
                refine lv_goto (tgt := 136) hx hb dL_isDate_122 (by decide) ?_
                refine lv_iconst (v := nI 1) hx hb dL_isDate_136 (by decide) ?_
                refine lv_goto (tgt := 141) hx hb dL_isDate_137 (by decide) ?_
                refine lv_istore (lv' := [(4, .int (nI 1)), (6, .int (nI kk)), (5, .int (nI j)), (0, .ref x), (1, .ref ta), (2, .ref ma), (3, .int (nI d))]) hx hb dL_isDate_141 hl (by decide) rfl (fun ls hl => ?_)
                refine lv_iinc (v := nI (j + 1)) (lv' := [(5, .int (nI (j + 1))), (4, .int (nI 1)), (6, .int (nI kk)), (0, .ref x), (1, .ref ta), (2, .ref ma), (3, .int (nI d))]) hx hb dL_isDate_143 hl (k := 2) rfl (xinc _ 1 _ (by decide)) (by decide) rfl (fun ls hl => ?_)
                refine lv_goto (tgt := 6) hx hb dL_isDate_146 (by decide) ?_
                exact ih _ ⟨j + 1, by omega, by omega, lv_sub hl [0, 1, 3, 4, 5, 6] rfl⟩
