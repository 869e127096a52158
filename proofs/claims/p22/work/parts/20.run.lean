/-! one run: what the law asks of it holds -/
/-- what the law's own numbers say of the state -/
def INV (u : Sv) (ft : Nat → Int64) (fm : Nat → Int32) : Prop := WFG u.1 ∧ u.2.1 ≤ u.2.2.1 ∧ u.2.2.1 ≤ 40 ∧ u.2.2.1 ≤ u.2.1 + 9 ∧ M2 u.2.2.2.1 u.2.2.2.2 (fm 2) ∧ fm 0 = nI u.2.2.1 ∧ fm 1 = nI u.2.1 ∧ ∀ d p, u.2.1 ≤ d → d ≤ u.2.2.1 → p < 6 → ft (6 * (d % 10) + p) = tlL (u.1 (6 * d + p)) 12
abbrev W3 (cI cT cJ : ClassId) (ta la ma : Nat) (ft fl : Nat → Int64) (fm : Nat → Int32) (x lv kp : Nat) (fL fK : Nat → Option Nat) (o ld b k : Nat) (FZ : va_W) : va_W := (ta, .inl (cJ, 60, .inr (.inl ft))) :: (la, .inl (cJ, 6, .inr (.inl fl))) :: (ma, .inl (cI, 3, .inl fm)) :: CW cT x lv kp fL fK o ld b k FZ
def LB3 (D : va_G) (cI cT cJ : ClassId) (ta la ma : Nat) (fl : Nat → Int64) (x lv kp : Nat) (A : Nat → Prop) (u : Sv) (ft : Nat → Int64) (fm : Nat → Int32) (H : Heap) : Prop := ∃ (fL fK : Nat → Option Nat) (FZ : va_W), va_P D vwCl (W3 cI cT cJ ta la ma ft fl fm x lv kp fL fK u.2.1 u.2.2.1 u.2.2.2.1 u.2.2.2.2 FZ) H ∧ va_D A (W3 cI cT cJ ta la ma ft fl fm x lv kp fL fK u.2.1 u.2.2.1 u.2.2.2.1 u.2.2.2.2 FZ) ∧ CA cI FZ fL fK u.1
theorem m3c {α : Type} {a b c q : α} {l : List α} (h : q ∈ l) : q ∈ a :: b :: c :: l := List.mem_cons_of_mem _ (List.mem_cons_of_mem _ (List.mem_cons_of_mem _ h))
theorem m3o {α : Type} {a b c q : α} {l : List α} (h : q ∈ b :: l) : q ∈ a :: b :: c :: l := by
  rcases List.mem_cons.mp h with rfl | h
  · exact List.mem_cons_of_mem _ List.mem_cons_self
  · exact m3c h
theorem run_t {G : Nat → Tv} {o ld : Nat} {ft ft2 : Nat → Int64} (h8 : ld ≤ o + 8) (ht : ∀ d p, o ≤ d → d ≤ ld → p < 6 → ft (6 * (d % 10) + p) = tlL (G (6 * d + p)) 12) (h1 : ∀ i, i < 6 → ft2 (6 * ((ld + 1) % 10) + i) = tlL (G (246 + i)) 12) (h2 : ∀ q, (q < 6 * ((ld + 1) % 10) ∨ 6 * ((ld + 1) % 10) + 6 ≤ q) → ft2 q = ft q) : ∀ d p, o ≤ d → d ≤ ld + 1 → p < 6 → ft2 (6 * (d % 10) + p) = tlL (cpD G (ld + 1) 6 (6 * d + p)) 12 := by
  intro d p a1 a2 a3
  by_cases e : d = ld + 1
  · subst e; rw [cpD_at a3]; exact h1 p a3
  · rw [h2 _ (by omega), cpD_other (Or.inl (by omega))]; exact ht d p a1 (by omega) a3
theorem run_l1 {G : Nat → Tv} {k i : Nat} {f : Nat → Int64} (h : ∀ q, q < i → f (k + q) = tlL (G (246 + q)) 12) : ∀ q, q < i + 1 → vp_updL f (k + i) (tlL (G (246 + i)) 12) (k + q) = tlL (G (246 + q)) 12 := by
  intro q hq
  by_cases e : q = i
  · subst e; exact pk_uLs
  · rw [pk_uLn (by omega)]; exact h q (by omega)
theorem run_l2 {k i : Nat} {f ft : Nat → Int64} {z : Int64} (hi : i < 6) (h : ∀ q, (q < k ∨ k + 6 ≤ q) → f q = ft q) : ∀ q, (q < k ∨ k + 6 ≤ q) → vp_updL f (k + i) z q = ft q := by
  intro q hq
  rw [pk_uLn (by omega)]; exact h q hq
theorem upd20 {fm : Nat → Int32} {v w : Int32} : upd (upd fm 2 v) 0 w 2 = v := by rw [pk_un (by decide), pk_us]
theorem upd21 {fm : Nat → Int32} {v w : Int32} : upd (upd fm 2 v) 0 w 1 = fm 1 := by rw [pk_un (by decide), pk_un (by decide)]
theorem INV.of {G : Nat → Tv} {o ld b k : Nat} {ft : Nat → Int64} {fm : Nat → Int32} (h1 : WFG G) (h2 : o ≤ ld) (h3 : ld ≤ 40) (h4 : ld ≤ o + 9) (h5 : M2 b k (fm 2)) (h6 : fm 0 = nI ld) (h7 : fm 1 = nI o) (h8 : ∀ d p, o ≤ d → d ≤ ld → p < 6 → ft (6 * (d % 10) + p) = tlL (G (6 * d + p)) 12) : INV (G, o, ld, b, k) ft fm := ⟨h1, h2, h3, h4, h5, h6, h7, h8⟩

set_option maxHeartbeats 4000000 in
set_option maxRecDepth 100000 in
theorem c_L_isRun (l : Launch) (hst : l.stackTraces = false) {D : va_G} {cI cT cJ : ClassId} (Ax : Nat → Prop) (x lv kp : Nat) (fL fK : Nat → Option Nat) (o ld b k : Nat) (FZ : va_W) (G : Nat → Tv) (hC : CA cI FZ fL fK G) (ta la ma s9 : Nat) (ft fl : Nat → Int64) (fm : Nat → Int32) (hs : s9 ≤ 6) (hlt : ld < 40) (hl8 : ld ≤ o + 8) (hWG : WFG G) (ht : ∀ d p, o ≤ d → d ≤ ld → p < 6 → ft (6 * (d % 10) + p) = tlL (G (6 * d + p)) 12) (hL : ∀ i, i < 6 → fl i = tlL (G (246 + i)) 12) (hm0 : fm 0 = nI ld) (hm1 : fm 1 = nI o) (hold : o ≤ ld) (sz : Nat) : Met l yL_isRun wsL_isRun (rmD 11 32 160) (XPl D cI cT cJ Ax [.ref x, .ref ta, .ref la, .ref ma, .int (nI s9)] (fun H => H.size = sz ∧ va_P D vwCl (W3 cI cT cJ ta la ma ft fl fm x lv kp fL fK o ld b k FZ) H ∧ va_D (fun _ => True) (W3 cI cT cJ ta la ma ft fl fm x lv kp fL fK o ld b k FZ) ∧ ∀ q, va_A (W3 cI cT cJ ta la ma ft fl fm x lv kp fL fK o ld b k FZ) sz q → Ax q)) (va_Qi (S := Sv × (Nat → Int64) × (Nat → Int32)) (fun r u => r = nI 1 ∧ INV u.1 u.2.1 u.2.2) (fun u t => LB3 D cI cT cJ ta la ma fl x lv kp (va_A (W3 cI cT cJ ta la ma ft fl fm x lv kp fL fK o ld b k FZ) sz) u.1 u.2.1 u.2.2 t.heap) (va_A (W3 cI cT cJ ta la ma ft fl fm x lv kp fL fK o ld b k FZ) sz)) 32 160 (va_A (W3 cI cT cJ ta la ma ft fl fm x lv kp fL fK o ld b k FZ) sz) := by
  refine Met.ofW (cc := cL_isRun) (maxL := 10) (ret := (some .boolean)) (by decide) rfl ?_
  intro p e s m args below meth c s₁ B hml hv
  obtain ⟨rfl, ⟨hsz, hP, hD0, hAx⟩, hE, hT0, hN⟩ := hv
  have hx := B.exec
  have hb := B.bytes
  have hr := B.returns
  have hts := atoms_spec (ws := wsL_isRun) B.pre
  have hown : s.vm.findClass RL = some m.cls := findClass_of_methodNamed B.named
  have hlocks := B.notSynchronized
  have hl := lv_entry ([.ref x, .ref ta, .ref la, .ref ma, .int (nI s9)]) (n := 10) (Nat.le_of_ble_eq_true rfl)
  rw [lg_entry_eq]
  generalize (lg_sl ([.ref x, .ref ta, .ref la, .ref ma, .int (nI s9)]) ++ List.replicate (10 - (lg_sl ([.ref x, .ref ta, .ref la, .ref ma, .int (nI s9)])).length) Slot.unset).toArray = ls at hl ⊢
  have hl : lv_has ls 10 [(0, .ref x), (1, .ref ta), (2, .ref la), (3, .ref ma), (4, .int (nI s9))] := hl
  have hK := hE.1
  have hT := hT0
  subst hsz
  have hD := hD0.self (sz := s.heap.size)
  generalize hAe : va_A (W3 cI cT cJ ta la ma ft fl fm x lv kp fL fK o ld b k FZ) s.heap.size = A at hD hAx ⊢
  have hA : ∀ q : Nat, s.heap.size ≤ q → A q := fun q h => by rw [← hAe]; exact Or.inr h
  have hS : va_S A s.heap s.heap [] := va_S.rf
  have hPc : va_P D vwCl (CW cT x lv kp fL fK o ld b k FZ) s.heap := xP_sub (fun _ h => m3c h) hP
  have hld1 : ld + 1 ≤ 40 := by omega
  have hold1 : o ≤ ld + 1 := by omega
  have hld : ld ≤ 40 := by omega
  have hdf := dfN_le (G := G) (d := ld) 6
  refine lv_aload_n hx hb dL_isRun_0 rfl (lv_at hl 0 rfl) ?_
  refine xc_sie (va_runV (As := []) (rest := []) ⟨hx, hb, hml, hown, hts⟩ (c_X1_needs l x lv kp fL fK o ld b k FZ G hC hld) (cwV 0 hts gL_isRun_X1_needs rfl rfl rfl (by decide +kernel) ⟨(Nat.le_of_ble_eq_true rfl), (Nat.le_of_ble_eq_true rfl)⟩) ⟨XP_blind, va_recv hK hPc (ci := 1) (q0 := 0) rfl rfl, XP_pre hE hPc⟩ rfl rfl hl.1 rfl (lv_room (Nat.le_of_ble_eq_true rfl)) dL_isRun_1 ⟨by first | exact Nat.le_of_ble_eq_true rfl | (show _ + _ ≤ _; omega), by first | exact Nat.le_of_ble_eq_true rfl | (show _ + _ ≤ _; omega)⟩) ?_
  refine lv_istore (lv' := [(5, .int (nI (dfN G ld 6))), (0, .ref x), (1, .ref ta), (2, .ref la), (3, .ref ma), (4, .int (nI s9))]) hx hb dL_isRun_4 hl (by decide) rfl (fun ls hl => ?_)
  refine lv_aload_n hx hb dL_isRun_6 rfl (lv_at hl 1 rfl) ?_
  refine xc_sie (va_runV (As := []) (rest := []) ⟨hx, hb, hml, hown, hts⟩ (c_X1_size l x lv kp fL fK o ld b k FZ G hC hld hold) (cwV 0 hts gL_isRun_X1_size rfl rfl rfl (by decide +kernel) ⟨(Nat.le_of_ble_eq_true rfl), (Nat.le_of_ble_eq_true rfl)⟩) ⟨XP_blind, va_recv hK hPc (ci := 1) (q0 := 0) rfl rfl, XP_pre hE hPc⟩ rfl rfl hl.1 rfl (lv_room (Nat.le_of_ble_eq_true rfl)) dL_isRun_7 ⟨by first | exact Nat.le_of_ble_eq_true rfl | (show _ + _ ≤ _; omega), by first | exact Nat.le_of_ble_eq_true rfl | (show _ + _ ≤ _; omega)⟩) ?_
  refine lv_istore (lv' := [(6, .int (nI (szN G (6 * o) (6 * (ld - o))))), (5, .int (nI (dfN G ld 6))), (0, .ref x), (1, .ref ta), (2, .ref la), (3, .ref ma), (4, .int (nI s9))]) hx hb dL_isRun_10 hl (by decide) rfl (fun ls hl => ?_)
  refine lv_iload hx hb dL_isRun_12 (lv_at hl 6 rfl) ?_
  refine lv_iload hx hb dL_isRun_14 (lv_at hl 1 rfl) ?_
  refine lv_icmp_lt (tgt := 23) hx hb dL_isRun_16 (by decide) (fun c16 => ?_) (fun c16 => ?_)
  · have c16 : s9 < (dfN G ld 6) := (xlt (by omega) (by omega)).mp c16
    refine lv_iconst (v := nI 0) hx hb dL_isRun_23 (by decide) ?_
    refine lv_istore (lv' := [(7, .int (nI 0)), (6, .int (nI (szN G (6 * o) (6 * (ld - o))))), (5, .int (nI (dfN G ld 6))), (0, .ref x), (1, .ref ta), (2, .ref la), (3, .ref ma), (4, .int (nI s9))]) hx hb dL_isRun_24 hl (by decide) rfl (fun ls hl => ?_)
    refine lv_aload_n hx hb dL_isRun_26 rfl (lv_at hl 3 rfl) ?_
    refine lv_bipush (v := nI 6) hx hb dL_isRun_27 (by decide) ?_
    refine lv_iload hx hb dL_isRun_29 (lv_at hl 7 rfl) ?_
    refine lv_iconst (v := nI 0) hx hb dL_isRun_31 (by decide) ?_
    refine lv_iconst (v := nI 0) hx hb dL_isRun_32 (by decide) ?_
    have hP : va_P D vwCl ([(ta, .inl (cJ, 60, .inr (.inl ft))), (la, .inl (cJ, 6, .inr (.inl fl))), (ma, .inl (cI, 3, .inl fm))] ++ (CW cT x lv kp fL fK o ld b k FZ)) s.heap := hP
    have hD : va_D A ([(ta, .inl (cJ, 60, .inr (.inl ft))), (la, .inl (cJ, 6, .inr (.inl fl))), (ma, .inl (cI, 3, .inl fm))] ++ (CW cT x lv kp fL fK o ld b k FZ)) := hD
    have hDc : va_D (fun _ => True) (CW cT x lv kp fL fK o ld b k FZ) := (xD_sub (List.sublist_append_right _ _) hD).weaken (fun _ _ _ _ => trivial)
    have hFc := xfree (wc := (CW cT x lv kp fL fK o ld b k FZ)) hD hS hA (fun _ h => List.mem_append_right _ h)
    refine xcw (vx_runSX (As := [.ref x, .int (nI 6), .int (nI s9), .int (nI 0), .int (nI 0)]) (rest := []) ⟨hx, hb, hml, hown, hts⟩ (g_run_b l hst Ax x lv kp fL fK o ld b k FZ G hC (s9 := s9) hs hlt (by omega) (nI 0) (nI 0) (s.heap).size) (vx_cwSW 5 hts gL_isRun_L_act rfl rfl rfl (by decide +kernel) ⟨(Nat.le_of_ble_eq_true rfl), (Nat.le_of_ble_eq_true rfl)⟩) ⟨XPl_blind, XPl_pre hE hT hN ⟨rfl, hPc, hDc⟩⟩ rfl rfl hl.1 rfl (lv_room (Nat.le_of_ble_eq_true rfl)) dL_isRun_33 ⟨by first | exact Nat.le_of_ble_eq_true rfl | (show _ + _ ≤ _; omega), by first | exact Nat.le_of_ble_eq_true rfl | (show _ + _ ≤ _; omega)⟩) hS (fun q9 _ h => hFc q9 h) hFc (fun _ _ _ _ _ hp9 _ _ _ _ _ _ => False.elim hp9) (fun r9 u t9 H1 locs ht9 hvm9 hw9 hB9 hzc hkc hS => ?_)
    obtain ⟨hr9, hu9⟩ := hw9
    subst hr9 hu9
    obtain ⟨fL1, fK1, FZ1, hP1, hD1, hC1⟩ := hB9
    rw [ht9] at hP1
    have hP1 : va_P D vwCl (CW cT x lv kp fL1 fK1 o ld 1 s9 FZ1) H1 := hP1
    have hD1 : va_D (va_A (CW cT x lv kp fL fK o ld b k FZ) (s.heap).size) (CW cT x lv kp fL1 fK1 o ld 1 s9 FZ1) := hD1
    obtain ⟨hP, hD⟩ := xjoin (wr := [(ta, .inl (cJ, 60, .inr (.inl ft))), (la, .inl (cJ, 6, .inr (.inl fl))), (ma, .inl (cI, 3, .inl fm))]) (wc := (CW cT x lv kp fL fK o ld b k FZ)) (w1 := (CW cT x lv kp fL1 fK1 o ld 1 s9 FZ1)) hP hD hkc hFc hP1 hD1
    have hPc := hP1
    clear hP1 hD1 hzc hkc hFc hvm9 ht9
    generalize H1 = H at hP hS hPc ⊢
    have hT := hT0.kept (fun a h1 h2 => hS.2.1 a h1 (fun z => h2 (hAx a z)))
    have hP : va_P D vwCl ((ta, .inl (cJ, 60, .inr (.inl ft))) :: (la, .inl (cJ, 6, .inr (.inl fl))) :: (ma, .inl (cI, 3, .inl fm)) :: (x, .inr (1, [.ref lv, .ref kp, .int (nI o), .int (nI ld), .int (nI 1), .int (nI s9)])) :: (lv, .inl (cT, 6, .inr (.inr (.inr (.inr fL1))))) :: (kp, .inl (cT, 246, .inr (.inr (.inr (.inr fK1))))) :: FZ1) H := hP
    have hD : va_D A ((ta, .inl (cJ, 60, .inr (.inl ft))) :: (la, .inl (cJ, 6, .inr (.inl fl))) :: (ma, .inl (cI, 3, .inl fm)) :: (x, .inr (1, [.ref lv, .ref kp, .int (nI o), .int (nI ld), .int (nI 1), .int (nI s9)])) :: (lv, .inl (cT, 6, .inr (.inr (.inr (.inr fL1))))) :: (kp, .inl (cT, 246, .inr (.inr (.inr (.inr fK1))))) :: FZ1) := hD
    have hC1 : CA cI FZ1 fL1 fK1 G := hC1
    refine lv_istore (lv' := [(8, .int ((-1))), (7, .int (nI 0)), (6, .int (nI (szN G (6 * o) (6 * (ld - o))))), (5, .int (nI (dfN G ld 6))), (0, .ref x), (1, .ref ta), (2, .ref la), (3, .ref ma), (4, .int (nI s9))]) hx hb dL_isRun_36 hl (by decide) rfl (fun ls hl => ?_)
    refine lv_aload_n hx hb dL_isRun_38 rfl (lv_at hl 7 rfl) ?_
    refine lv_iconst (v := nI 2) hx hb dL_isRun_39 (by decide) ?_
    refine lv_iload hx hb dL_isRun_40 (lv_at hl 1 rfl) ?_
    refine lv_if_eq (tgt := 49) hx hb dL_isRun_42 (by decide) (fun _ => ?_) (fun h => absurd h (by decide))
    refine lv_iload hx hb dL_isRun_49 (lv_at hl 8 rfl) ?_
    refine va_iast hx hb hK hP hD hS 2 0 rfl rfl (xin (by omega) (by omega)) dL_isRun_51 (fun H locs hP hD hS => ?_)
    rw [nI_clamp (show 2 < 2 ^ 31 by omega)] at hP hD
    have hP : va_P D vwCl ((ta, .inl (cJ, 60, .inr (.inl ft))) :: (la, .inl (cJ, 6, .inr (.inl fl))) :: (ma, .inl (cI, 3, .inl (upd fm 2 (nI s9)))) :: (x, .inr (1, [.ref lv, .ref kp, .int (nI o), .int (nI ld), .int (nI 1), .int (nI s9)])) :: (lv, .inl (cT, 6, .inr (.inr (.inr (.inr fL1))))) :: (kp, .inl (cT, 246, .inr (.inr (.inr (.inr fK1))))) :: FZ1) H := hP
    have hD : va_D A ((ta, .inl (cJ, 60, .inr (.inl ft))) :: (la, .inl (cJ, 6, .inr (.inl fl))) :: (ma, .inl (cI, 3, .inl (upd fm 2 (nI s9)))) :: (x, .inr (1, [.ref lv, .ref kp, .int (nI o), .int (nI ld), .int (nI 1), .int (nI s9)])) :: (lv, .inl (cT, 6, .inr (.inr (.inr (.inr fL1))))) :: (kp, .inl (cT, 246, .inr (.inr (.inr (.inr fK1))))) :: FZ1) := hD
    have hT := hT0.kept (fun a h1 h2 => hS.2.1 a h1 (fun z => h2 (hAx a z)))
    have hPc : va_P D vwCl (CW cT x lv kp fL1 fK1 o ld 1 s9 FZ1) H := xP_sub (fun _ h => m3c h) hP
    refine lv_aload_n hx hb dL_isRun_52 rfl (lv_at hl 7 rfl) ?_
    refine lv_iconst (v := nI 0) hx hb dL_isRun_53 (by decide) ?_
    refine lv_dup2_11 hx hb dL_isRun_54 rfl rfl ?_
    refine va_iald hx hb hK hP 2 0 rfl rfl (xin (by omega) (by omega)) dL_isRun_55 ?_
    refine x_top ((upd fm 2 (nI s9)) 0) (by rw [nI_clamp (by omega)]) ?_
    refine x_top (nI ld) (by rw [pk_un (by decide)]; exact hm0) ?_
    refine lv_iload hx hb dL_isRun_56 (lv_at hl 1 rfl) ?_
    refine lv_if_eq (tgt := 65) hx hb dL_isRun_58 (by decide) (fun _ => ?_) (fun h => absurd h (by decide))
    refine lv_iconst (v := nI 0) hx hb dL_isRun_65 (by decide) ?_
    refine lv_iadd hx hb dL_isRun_66 ?_
    refine x_top (nI ld) (xadd (by omega)) ?_
    refine va_iast hx hb hK hP hD hS 2 0 rfl rfl (xin (by omega) (by omega)) dL_isRun_67 (fun H locs hP hD hS => ?_)
    rw [nI_clamp (show 0 < 2 ^ 31 by omega)] at hP hD
    have hP : va_P D vwCl ((ta, .inl (cJ, 60, .inr (.inl ft))) :: (la, .inl (cJ, 6, .inr (.inl fl))) :: (ma, .inl (cI, 3, .inl (upd (upd fm 2 (nI s9)) 0 (nI ld)))) :: (x, .inr (1, [.ref lv, .ref kp, .int (nI o), .int (nI ld), .int (nI 1), .int (nI s9)])) :: (lv, .inl (cT, 6, .inr (.inr (.inr (.inr fL1))))) :: (kp, .inl (cT, 246, .inr (.inr (.inr (.inr fK1))))) :: FZ1) H := hP
    have hD : va_D A ((ta, .inl (cJ, 60, .inr (.inl ft))) :: (la, .inl (cJ, 6, .inr (.inl fl))) :: (ma, .inl (cI, 3, .inl (upd (upd fm 2 (nI s9)) 0 (nI ld)))) :: (x, .inr (1, [.ref lv, .ref kp, .int (nI o), .int (nI ld), .int (nI 1), .int (nI s9)])) :: (lv, .inl (cT, 6, .inr (.inr (.inr (.inr fL1))))) :: (kp, .inl (cT, 246, .inr (.inr (.inr (.inr fK1))))) :: FZ1) := hD
    have hT := hT0.kept (fun a h1 h2 => hS.2.1 a h1 (fun z => h2 (hAx a z)))
    have hPc : va_P D vwCl (CW cT x lv kp fL1 fK1 o ld 1 s9 FZ1) H := xP_sub (fun _ h => m3c h) hP
    refine lv_iconst (v := nI 0) hx hb dL_isRun_68 (by decide) ?_
    refine lv_istore (lv' := [(9, .int (nI 0)), (8, .int ((-1))), (7, .int (nI 0)), (6, .int (nI (szN G (6 * o) (6 * (ld - o))))), (5, .int (nI (dfN G ld 6))), (0, .ref x), (1, .ref ta), (2, .ref la), (3, .ref ma), (4, .int (nI s9))]) hx hb dL_isRun_69 hl (by decide) rfl (fun ls hl => ?_)
    refine lv_iload hx hb dL_isRun_71 (lv_at hl 0 rfl) ?_
    refine lv_bipush (v := nI 6) hx hb dL_isRun_73 (by decide) ?_
    refine lv_icmp_ge (tgt := 107) hx hb dL_isRun_75 (by decide) (fun h => absurd h (by decide)) (fun _ => ?_)
    refine lv_iload hx hb dL_isRun_78 (lv_at hl 2 rfl) ?_
    refine lv_if_eq (tgt := 107) hx hb dL_isRun_80 (by decide) (fun _ => ?_) (fun h => absurd h (by decide))
    refine lv_iload hx hb dL_isRun_107 (lv_at hl 1 rfl) ?_
    refine lv_iload hx hb dL_isRun_109 (lv_at hl 2 rfl) ?_
    refine lv_if_eq (tgt := 120) hx hb dL_isRun_111 (by decide) (fun _ => ?_) (fun h => absurd h (by decide))
    refine lv_iconst (v := (-1)) hx hb dL_isRun_120 (by decide) ?_
    refine lv_icmp_ne (tgt := 193) hx hb dL_isRun_121 (by decide) (fun h => absurd h (by decide)) (fun _ => ?_)
    refine lv_aload_n hx hb dL_isRun_124 rfl (lv_at hl 5 rfl) ?_
    refine lv_aload_n hx hb dL_isRun_125 rfl (lv_at hl 7 rfl) ?_
    refine lv_iconst (v := (-1)) hx hb dL_isRun_126 (by decide) ?_
    have hPo : va_P D vwCl ((la, .inl (cJ, 6, .inr (.inl fl))) :: (CW cT x lv kp fL1 fK1 o ld 1 s9 FZ1)) H := xP_sub (fun _ h => m3o h) hP
    refine xc_si2 (va_runS (As := [.ref x, .ref la, .int ((-1))]) (rest := []) ⟨hx, hb, hml, hown, hts⟩ (c_L_isOnly l hst Ax x lv kp fL1 fK1 o ld 1 s9 FZ1 G hC1 la fl ((-1)) (fun i hi _ => hL i hi) hld hold) (va_cwS 3 hts gL_isRun_L_isOnly rfl rfl rfl (by decide +kernel) ⟨(Nat.le_of_ble_eq_true rfl), (Nat.le_of_ble_eq_true rfl)⟩) ⟨XPx_blind, XPx_pre hE hT hPo⟩ rfl rfl hl.1 rfl (lv_room (Nat.le_of_ble_eq_true rfl)) dL_isRun_127 ⟨by first | exact Nat.le_of_ble_eq_true rfl | (show _ + _ ≤ _; omega), by first | exact Nat.le_of_ble_eq_true rfl | (show _ + _ ≤ _; omega)⟩) ?_
    refine lv_if_eq (tgt := 193) hx hb dL_isRun_130 (by decide) (fun h => absurd h (by decide)) (fun _ => ?_)
    refine lv_iload hx hb dL_isRun_133 (lv_at hl 2 rfl) ?_
    refine lv_if_eq (tgt := 171) hx hb dL_isRun_135 (by decide) (fun _ => ?_) (fun h => absurd h (by decide))
    refine lv_aload_n hx hb dL_isRun_171 rfl (lv_at hl 5 rfl) ?_
    refine xc_sie (va_runV (As := []) (rest := []) ⟨hx, hb, hml, hown, hts⟩ (c_X1_needs l x lv kp fL1 fK1 o ld 1 s9 FZ1 G hC1 hld) (cwV 0 hts gL_isRun_X1_needs rfl rfl rfl (by decide +kernel) ⟨(Nat.le_of_ble_eq_true rfl), (Nat.le_of_ble_eq_true rfl)⟩) ⟨XP_blind, va_recv hK hPc (ci := 1) (q0 := 0) rfl rfl, XP_pre hE hPc⟩ rfl rfl hl.1 rfl (lv_room (Nat.le_of_ble_eq_true rfl)) dL_isRun_172 ⟨by first | exact Nat.le_of_ble_eq_true rfl | (show _ + _ ≤ _; omega), by first | exact Nat.le_of_ble_eq_true rfl | (show _ + _ ≤ _; omega)⟩) ?_
    refine lv_iload hx hb dL_isRun_175 (lv_at hl 4 rfl) ?_
    refine lv_icmp_ne (tgt := 193) hx hb dL_isRun_177 (by decide) (fun h => absurd rfl h) (fun _ => ?_)
    refine lv_aload_n hx hb dL_isRun_180 rfl (lv_at hl 5 rfl) ?_
    refine xc_sie (va_runV (As := []) (rest := []) ⟨hx, hb, hml, hown, hts⟩ (c_X1_size l x lv kp fL1 fK1 o ld 1 s9 FZ1 G hC1 hld hold) (cwV 0 hts gL_isRun_X1_size rfl rfl rfl (by decide +kernel) ⟨(Nat.le_of_ble_eq_true rfl), (Nat.le_of_ble_eq_true rfl)⟩) ⟨XP_blind, va_recv hK hPc (ci := 1) (q0 := 0) rfl rfl, XP_pre hE hPc⟩ rfl rfl hl.1 rfl (lv_room (Nat.le_of_ble_eq_true rfl)) dL_isRun_181 ⟨by first | exact Nat.le_of_ble_eq_true rfl | (show _ + _ ≤ _; omega), by first | exact Nat.le_of_ble_eq_true rfl | (show _ + _ ≤ _; omega)⟩) ?_
    refine lv_iload hx hb dL_isRun_184 (lv_at hl 3 rfl) ?_
    refine lv_icmp_ne (tgt := 193) hx hb dL_isRun_186 (by decide) (fun h => absurd rfl h) (fun _ => ?_)
    refine lv_iconst (v := nI 1) hx hb dL_isRun_189 (by decide) ?_
    refine lv_goto (tgt := 194) hx hb dL_isRun_190 (by decide) ?_
    refine W.widen (k := 32) (n := 160) (Nat.le_of_ble_eq_true rfl) (Nat.le_of_ble_eq_true rfl) ?_
    have hI9 : INV (G, o, ld, 1, s9) ft (upd (upd fm 2 (nI s9)) 0 (nI ld)) := INV.of hWG hold hld (by omega) (by rw [upd20]; exact Or.inr ⟨rfl, hs, rfl⟩) pk_us (by rw [upd21]; exact hm1) ht
    exact W.zret hx hb hr (xnb _ (by omega)) (fun t9 ht9 hW9 => ⟨⟨_, ((G, o, ld, 1, s9), ft, upd (upd fm 2 (nI s9)) 0 (nI ld)), rfl, ⟨rfl, hI9⟩, fL1, fK1, FZ1, by rw [ht9]; exact hP, hD, hC1⟩, hS.F ht9⟩) hS.2.2 dL_isRun_194
  · have c16 : ¬ s9 < (dfN G ld 6) := fun h => c16 ((xlt (by omega) (by omega)).mpr h)
    refine lv_iconst (v := nI 1) hx hb dL_isRun_19 (by decide) ?_
    refine lv_goto (tgt := 24) hx hb dL_isRun_20 (by decide) ?_
    refine lv_istore (lv' := [(7, .int (nI 1)), (6, .int (nI (szN G (6 * o) (6 * (ld - o))))), (5, .int (nI (dfN G ld 6))), (0, .ref x), (1, .ref ta), (2, .ref la), (3, .ref ma), (4, .int (nI s9))]) hx hb dL_isRun_24 hl (by decide) rfl (fun ls hl => ?_)
    refine lv_aload_n hx hb dL_isRun_26 rfl (lv_at hl 3 rfl) ?_
    refine lv_bipush (v := nI 6) hx hb dL_isRun_27 (by decide) ?_
    refine lv_iload hx hb dL_isRun_29 (lv_at hl 7 rfl) ?_
    refine lv_iconst (v := nI 0) hx hb dL_isRun_31 (by decide) ?_
    refine lv_iconst (v := nI 0) hx hb dL_isRun_32 (by decide) ?_
    have hP : va_P D vwCl ([(ta, .inl (cJ, 60, .inr (.inl ft))), (la, .inl (cJ, 6, .inr (.inl fl))), (ma, .inl (cI, 3, .inl fm))] ++ (CW cT x lv kp fL fK o ld b k FZ)) s.heap := hP
    have hD : va_D A ([(ta, .inl (cJ, 60, .inr (.inl ft))), (la, .inl (cJ, 6, .inr (.inl fl))), (ma, .inl (cI, 3, .inl fm))] ++ (CW cT x lv kp fL fK o ld b k FZ)) := hD
    have hDc : va_D (fun _ => True) (CW cT x lv kp fL fK o ld b k FZ) := (xD_sub (List.sublist_append_right _ _) hD).weaken (fun _ _ _ _ => trivial)
    have hFc := xfree (wc := (CW cT x lv kp fL fK o ld b k FZ)) hD hS hA (fun _ h => List.mem_append_right _ h)
    refine xcw (vx_runSX (As := [.ref x, .int (nI 6), .int (nI s9), .int (nI 0), .int (nI 0)]) (rest := []) ⟨hx, hb, hml, hown, hts⟩ (g_run_w l hst Ax x lv kp fL fK o ld b k FZ G hC (s9 := s9) hs hlt (by omega) (nI 0) (nI 0) (s.heap).size) (vx_cwSW 5 hts gL_isRun_L_act rfl rfl rfl (by decide +kernel) ⟨(Nat.le_of_ble_eq_true rfl), (Nat.le_of_ble_eq_true rfl)⟩) ⟨XPl_blind, XPl_pre hE hT hN ⟨rfl, hPc, hDc⟩⟩ rfl rfl hl.1 rfl (lv_room (Nat.le_of_ble_eq_true rfl)) dL_isRun_33 ⟨by first | exact Nat.le_of_ble_eq_true rfl | (show _ + _ ≤ _; omega), by first | exact Nat.le_of_ble_eq_true rfl | (show _ + _ ≤ _; omega)⟩) hS (fun q9 _ h => hFc q9 h) hFc (fun _ _ _ _ _ hp9 _ _ _ _ _ _ => False.elim hp9) (fun r9 u t9 H1 locs ht9 hvm9 hw9 hB9 hzc hkc hS => ?_)
    obtain ⟨hr9, hu9⟩ := hw9
    subst hr9 hu9
    obtain ⟨fL1, fK1, FZ1, hP1, hD1, hC1⟩ := hB9
    rw [ht9] at hP1
    have hP1 : va_P D vwCl (CW cT x lv kp fL1 fK1 o (ld + 1) 0 0 FZ1) H1 := hP1
    have hD1 : va_D (va_A (CW cT x lv kp fL fK o ld b k FZ) (s.heap).size) (CW cT x lv kp fL1 fK1 o (ld + 1) 0 0 FZ1) := hD1
    obtain ⟨hP, hD⟩ := xjoin (wr := [(ta, .inl (cJ, 60, .inr (.inl ft))), (la, .inl (cJ, 6, .inr (.inl fl))), (ma, .inl (cI, 3, .inl fm))]) (wc := (CW cT x lv kp fL fK o ld b k FZ)) (w1 := (CW cT x lv kp fL1 fK1 o (ld + 1) 0 0 FZ1)) hP hD hkc hFc hP1 hD1
    have hPc := hP1
    clear hP1 hD1 hzc hkc hFc hvm9 ht9
    generalize H1 = H at hP hS hPc ⊢
    have hT := hT0.kept (fun a h1 h2 => hS.2.1 a h1 (fun z => h2 (hAx a z)))
    have hP : va_P D vwCl ((ta, .inl (cJ, 60, .inr (.inl ft))) :: (la, .inl (cJ, 6, .inr (.inl fl))) :: (ma, .inl (cI, 3, .inl fm)) :: (x, .inr (1, [.ref lv, .ref kp, .int (nI o), .int (nI (ld + 1)), .int (nI 0), .int (nI 0)])) :: (lv, .inl (cT, 6, .inr (.inr (.inr (.inr fL1))))) :: (kp, .inl (cT, 246, .inr (.inr (.inr (.inr fK1))))) :: FZ1) H := hP
    have hD : va_D A ((ta, .inl (cJ, 60, .inr (.inl ft))) :: (la, .inl (cJ, 6, .inr (.inl fl))) :: (ma, .inl (cI, 3, .inl fm)) :: (x, .inr (1, [.ref lv, .ref kp, .int (nI o), .int (nI (ld + 1)), .int (nI 0), .int (nI 0)])) :: (lv, .inl (cT, 6, .inr (.inr (.inr (.inr fL1))))) :: (kp, .inl (cT, 246, .inr (.inr (.inr (.inr fK1))))) :: FZ1) := hD
    have hC1 : CA cI FZ1 fL1 fK1 ((cpD G (ld + 1) 6)) := hC1
    refine lv_istore (lv' := [(8, .int (nI (ld + 1))), (7, .int (nI 1)), (6, .int (nI (szN G (6 * o) (6 * (ld - o))))), (5, .int (nI (dfN G ld 6))), (0, .ref x), (1, .ref ta), (2, .ref la), (3, .ref ma), (4, .int (nI s9))]) hx hb dL_isRun_36 hl (by decide) rfl (fun ls hl => ?_)
    refine lv_aload_n hx hb dL_isRun_38 rfl (lv_at hl 7 rfl) ?_
    refine lv_iconst (v := nI 2) hx hb dL_isRun_39 (by decide) ?_
    refine lv_iload hx hb dL_isRun_40 (lv_at hl 1 rfl) ?_
    refine lv_if_eq (tgt := 49) hx hb dL_isRun_42 (by decide) (fun h => absurd h (by decide)) (fun _ => ?_)
    refine lv_iconst (v := (-1)) hx hb dL_isRun_45 (by decide) ?_
    refine lv_goto (tgt := 51) hx hb dL_isRun_46 (by decide) ?_
    refine va_iast hx hb hK hP hD hS 2 0 rfl rfl (xin (by omega) (by omega)) dL_isRun_51 (fun H locs hP hD hS => ?_)
    rw [nI_clamp (show 2 < 2 ^ 31 by omega)] at hP hD
    have hP : va_P D vwCl ((ta, .inl (cJ, 60, .inr (.inl ft))) :: (la, .inl (cJ, 6, .inr (.inl fl))) :: (ma, .inl (cI, 3, .inl (upd fm 2 ((-1))))) :: (x, .inr (1, [.ref lv, .ref kp, .int (nI o), .int (nI (ld + 1)), .int (nI 0), .int (nI 0)])) :: (lv, .inl (cT, 6, .inr (.inr (.inr (.inr fL1))))) :: (kp, .inl (cT, 246, .inr (.inr (.inr (.inr fK1))))) :: FZ1) H := hP
    have hD : va_D A ((ta, .inl (cJ, 60, .inr (.inl ft))) :: (la, .inl (cJ, 6, .inr (.inl fl))) :: (ma, .inl (cI, 3, .inl (upd fm 2 ((-1))))) :: (x, .inr (1, [.ref lv, .ref kp, .int (nI o), .int (nI (ld + 1)), .int (nI 0), .int (nI 0)])) :: (lv, .inl (cT, 6, .inr (.inr (.inr (.inr fL1))))) :: (kp, .inl (cT, 246, .inr (.inr (.inr (.inr fK1))))) :: FZ1) := hD
    have hT := hT0.kept (fun a h1 h2 => hS.2.1 a h1 (fun z => h2 (hAx a z)))
    have hPc : va_P D vwCl (CW cT x lv kp fL1 fK1 o (ld + 1) 0 0 FZ1) H := xP_sub (fun _ h => m3c h) hP
    refine lv_aload_n hx hb dL_isRun_52 rfl (lv_at hl 7 rfl) ?_
    refine lv_iconst (v := nI 0) hx hb dL_isRun_53 (by decide) ?_
    refine lv_dup2_11 hx hb dL_isRun_54 rfl rfl ?_
    refine va_iald hx hb hK hP 2 0 rfl rfl (xin (by omega) (by omega)) dL_isRun_55 ?_
    refine x_top ((upd fm 2 ((-1))) 0) (by rw [nI_clamp (by omega)]) ?_
    refine x_top (nI ld) (by rw [pk_un (by decide)]; exact hm0) ?_
    refine lv_iload hx hb dL_isRun_56 (lv_at hl 1 rfl) ?_
    refine lv_if_eq (tgt := 65) hx hb dL_isRun_58 (by decide) (fun h => absurd h (by decide)) (fun _ => ?_)
    refine lv_iconst (v := nI 1) hx hb dL_isRun_61 (by decide) ?_
    refine lv_goto (tgt := 66) hx hb dL_isRun_62 (by decide) ?_
    refine lv_iadd hx hb dL_isRun_66 ?_
    refine x_top (nI (ld + 1)) (xadd (by omega)) ?_
    refine va_iast hx hb hK hP hD hS 2 0 rfl rfl (xin (by omega) (by omega)) dL_isRun_67 (fun H locs hP hD hS => ?_)
    rw [nI_clamp (show 0 < 2 ^ 31 by omega)] at hP hD
    have hP : va_P D vwCl ((ta, .inl (cJ, 60, .inr (.inl ft))) :: (la, .inl (cJ, 6, .inr (.inl fl))) :: (ma, .inl (cI, 3, .inl (upd (upd fm 2 ((-1))) 0 (nI (ld + 1))))) :: (x, .inr (1, [.ref lv, .ref kp, .int (nI o), .int (nI (ld + 1)), .int (nI 0), .int (nI 0)])) :: (lv, .inl (cT, 6, .inr (.inr (.inr (.inr fL1))))) :: (kp, .inl (cT, 246, .inr (.inr (.inr (.inr fK1))))) :: FZ1) H := hP
    have hD : va_D A ((ta, .inl (cJ, 60, .inr (.inl ft))) :: (la, .inl (cJ, 6, .inr (.inl fl))) :: (ma, .inl (cI, 3, .inl (upd (upd fm 2 ((-1))) 0 (nI (ld + 1))))) :: (x, .inr (1, [.ref lv, .ref kp, .int (nI o), .int (nI (ld + 1)), .int (nI 0), .int (nI 0)])) :: (lv, .inl (cT, 6, .inr (.inr (.inr (.inr fL1))))) :: (kp, .inl (cT, 246, .inr (.inr (.inr (.inr fK1))))) :: FZ1) := hD
    have hT := hT0.kept (fun a h1 h2 => hS.2.1 a h1 (fun z => h2 (hAx a z)))
    have hPc : va_P D vwCl (CW cT x lv kp fL1 fK1 o (ld + 1) 0 0 FZ1) H := xP_sub (fun _ h => m3c h) hP
    refine lv_iconst (v := nI 0) hx hb dL_isRun_68 (by decide) ?_
    refine lv_istore (lv' := [(9, .int (nI 0)), (8, .int (nI (ld + 1))), (7, .int (nI 1)), (6, .int (nI (szN G (6 * o) (6 * (ld - o))))), (5, .int (nI (dfN G ld 6))), (0, .ref x), (1, .ref ta), (2, .ref la), (3, .ref ma), (4, .int (nI s9))]) hx hb dL_isRun_69 hl (by decide) rfl (fun ls hl => ?_)
    refine x_loop (fun n H locs ls => ∃ (i9 : Nat) (ft2 : Nat → Int64), (i9 ≤ 6) ∧ (6 < i9 + n) ∧ (∀ q, q < i9 → ft2 (6 * ((ld + 1) % 10) + q) = tlL (G (246 + q)) 12) ∧ (∀ q, (q < 6 * ((ld + 1) % 10) ∨ 6 * ((ld + 1) % 10) + 6 ≤ q) → ft2 q = ft q) ∧ va_P D vwCl ((ta, .inl (cJ, 60, .inr (.inl ft2))) :: (la, .inl (cJ, 6, .inr (.inl fl))) :: (ma, .inl (cI, 3, .inl (upd (upd fm 2 ((-1))) 0 (nI (ld + 1))))) :: (x, .inr (1, [.ref lv, .ref kp, .int (nI o), .int (nI (ld + 1)), .int (nI 0), .int (nI 0)])) :: (lv, .inl (cT, 6, .inr (.inr (.inr (.inr fL1))))) :: (kp, .inl (cT, 246, .inr (.inr (.inr (.inr fK1))))) :: FZ1) H ∧ va_D A ((ta, .inl (cJ, 60, .inr (.inl ft2))) :: (la, .inl (cJ, 6, .inr (.inl fl))) :: (ma, .inl (cI, 3, .inl (upd (upd fm 2 ((-1))) 0 (nI (ld + 1))))) :: (x, .inr (1, [.ref lv, .ref kp, .int (nI o), .int (nI (ld + 1)), .int (nI 0), .int (nI 0)])) :: (lv, .inl (cT, 6, .inr (.inr (.inr (.inr fL1))))) :: (kp, .inl (cT, 246, .inr (.inr (.inr (.inr fK1))))) :: FZ1) ∧ va_S A s.heap H locs ∧ lv_has ls 10 [(9, .int (nI i9)), (8, .int (nI (ld + 1))), (7, .int (nI 1)), (6, .int (nI (szN G (6 * o) (6 * (ld - o))))), (5, .int (nI (dfN G ld 6))), (0, .ref x), (1, .ref ta), (2, .ref la), (3, .ref ma), (4, .int (nI s9))]) (7) ⟨0, ft, by omega, by omega, fun q hq => absurd hq (Nat.not_lt_zero q), fun q _ => rfl, hP, hD, hS, lv_sub hl [0, 1, 2, 3, 4, 5, 6, 7, 8, 9] rfl⟩ (fun H locs ls h => by obtain ⟨i9, ft2, hi9, hn9, h1, h2, -⟩ := h; omega) (fun n H locs ls h ih => ?_)
    obtain ⟨i9, ft2, hi9, hn9, h1, h2, hP, hD, hS, hl⟩ := h
    have hT := hT0.kept (fun a h1 h2 => hS.2.1 a h1 (fun z => h2 (hAx a z)))
    have hPc : va_P D vwCl (CW cT x lv kp fL1 fK1 o (ld + 1) 0 0 FZ1) H := xP_sub (fun _ h => m3c h) hP
    refine lv_iload hx hb dL_isRun_71 (lv_at hl 0 rfl) ?_
    refine lv_bipush (v := nI 6) hx hb dL_isRun_73 (by decide) ?_
    refine lv_icmp_ge (tgt := 107) hx hb dL_isRun_75 (by decide) (fun c75 => ?_) (fun c75 => ?_)
    · have c75 : 6 ≤ i9 := (xle (by omega) (by omega)).mp c75
      refine lv_iload hx hb dL_isRun_107 (lv_at hl 1 rfl) ?_
      refine lv_iload hx hb dL_isRun_109 (lv_at hl 2 rfl) ?_
      refine lv_if_eq (tgt := 120) hx hb dL_isRun_111 (by decide) (fun h => absurd h (by decide)) (fun _ => ?_)
      refine lv_aload_n hx hb dL_isRun_114 rfl (lv_at hl 8 rfl) ?_
      refine lv_iconst (v := nI 0) hx hb dL_isRun_115 (by decide) ?_
      refine va_iald hx hb hK hP 2 0 rfl rfl (xin (by omega) (by omega)) dL_isRun_116 ?_
      refine x_top ((upd (upd fm 2 ((-1))) 0 (nI (ld + 1))) 0) (by rw [nI_clamp (by omega)]) ?_
      refine x_top (nI (ld + 1)) (pk_us) ?_
      refine lv_goto (tgt := 121) hx hb dL_isRun_117 (by decide) ?_
      refine lv_icmp_ne (tgt := 193) hx hb dL_isRun_121 (by decide) (fun h => absurd rfl h) (fun _ => ?_)
      refine lv_aload_n hx hb dL_isRun_124 rfl (lv_at hl 5 rfl) ?_
      refine lv_aload_n hx hb dL_isRun_125 rfl (lv_at hl 7 rfl) ?_
      refine lv_iconst (v := (-1)) hx hb dL_isRun_126 (by decide) ?_
      have hPo : va_P D vwCl ((la, .inl (cJ, 6, .inr (.inl fl))) :: (CW cT x lv kp fL1 fK1 o (ld + 1) 0 0 FZ1)) H := xP_sub (fun _ h => m3o h) hP
      refine xc_si2 (va_runS (As := [.ref x, .ref la, .int ((-1))]) (rest := []) ⟨hx, hb, hml, hown, hts⟩ (c_L_isOnly l hst Ax x lv kp fL1 fK1 o (ld + 1) 0 0 FZ1 ((cpD G (ld + 1) 6)) hC1 la fl ((-1)) (fun i hi _ => by rw [hL i hi, cpD_live (by omega) (Nat.le_refl 6) (by omega)]) hld1 hold1) (va_cwS 3 hts gL_isRun_L_isOnly rfl rfl rfl (by decide +kernel) ⟨(Nat.le_of_ble_eq_true rfl), (Nat.le_of_ble_eq_true rfl)⟩) ⟨XPx_blind, XPx_pre hE hT hPo⟩ rfl rfl hl.1 rfl (lv_room (Nat.le_of_ble_eq_true rfl)) dL_isRun_127 ⟨by first | exact Nat.le_of_ble_eq_true rfl | (show _ + _ ≤ _; omega), by first | exact Nat.le_of_ble_eq_true rfl | (show _ + _ ≤ _; omega)⟩) ?_
      refine lv_if_eq (tgt := 193) hx hb dL_isRun_130 (by decide) (fun h => absurd h (by decide)) (fun _ => ?_)
      refine lv_iload hx hb dL_isRun_133 (lv_at hl 2 rfl) ?_
      refine lv_if_eq (tgt := 171) hx hb dL_isRun_135 (by decide) (fun h => absurd h (by decide)) (fun _ => ?_)
      obtain ⟨z9, hz9, hz0⟩ := run_size (G := G) hold
      have hb9 := szN_le (G := cpD G (ld + 1) 6) (fun i hi => CA.len hC1 hi) (k0 := 6 * o) (6 * (ld + 1 - o)) (by omega)
      rw [hz9] at hb9
      refine lv_aload_n hx hb dL_isRun_138 rfl (lv_at hl 5 rfl) ?_
      refine xc_sie (va_runV (As := []) (rest := []) ⟨hx, hb, hml, hown, hts⟩ (c_X1_needs l x lv kp fL1 fK1 o (ld + 1) 0 0 FZ1 ((cpD G (ld + 1) 6)) hC1 hld1) (cwV 0 hts gL_isRun_X1_needs rfl rfl rfl (by decide +kernel) ⟨(Nat.le_of_ble_eq_true rfl), (Nat.le_of_ble_eq_true rfl)⟩) ⟨XP_blind, va_recv hK hPc (ci := 1) (q0 := 0) rfl rfl, XP_pre hE hPc⟩ rfl rfl hl.1 rfl (lv_room (Nat.le_of_ble_eq_true rfl)) dL_isRun_139 ⟨by first | exact Nat.le_of_ble_eq_true rfl | (show _ + _ ≤ _; omega), by first | exact Nat.le_of_ble_eq_true rfl | (show _ + _ ≤ _; omega)⟩) ?_
      refine x_top (nI 0) (congrArg nI (run_needs hld1)) ?_
      refine lv_if_ne (tgt := 193) hx hb dL_isRun_142 (by decide) (fun h => absurd h (by decide)) (fun _ => ?_)
      refine lv_aload_n hx hb dL_isRun_145 rfl (lv_at hl 5 rfl) ?_
      refine xc_sie (va_runV (As := []) (rest := []) ⟨hx, hb, hml, hown, hts⟩ (c_X1_size l x lv kp fL1 fK1 o (ld + 1) 0 0 FZ1 ((cpD G (ld + 1) 6)) hC1 hld1 hold1) (cwV 0 hts gL_isRun_X1_size rfl rfl rfl (by decide +kernel) ⟨(Nat.le_of_ble_eq_true rfl), (Nat.le_of_ble_eq_true rfl)⟩) ⟨XP_blind, va_recv hK hPc (ci := 1) (q0 := 0) rfl rfl, XP_pre hE hPc⟩ rfl rfl hl.1 rfl (lv_room (Nat.le_of_ble_eq_true rfl)) dL_isRun_146 ⟨by first | exact Nat.le_of_ble_eq_true rfl | (show _ + _ ≤ _; omega), by first | exact Nat.le_of_ble_eq_true rfl | (show _ + _ ≤ _; omega)⟩) ?_
      refine x_top (nI (szN G (6 * o) (6 * (ld - o)) + z9)) (congrArg nI hz9) ?_
      refine lv_iload hx hb dL_isRun_149 (lv_at hl 3 rfl) ?_
      refine lv_icmp_lt (tgt := 193) hx hb dL_isRun_151 (by decide) (fun c151 => ?_) (fun c151 => ?_)
      · have c151 : (szN G (6 * o) (6 * (ld - o)) + z9) < (szN G (6 * o) (6 * (ld - o))) := (xlt (by omega) (by omega)).mp c151
        omega
      · have c151 : ¬ (szN G (6 * o) (6 * (ld - o)) + z9) < (szN G (6 * o) (6 * (ld - o))) := fun h => c151 ((xlt (by omega) (by omega)).mpr h)
        refine lv_iload hx hb dL_isRun_154 (lv_at hl 4 rfl) ?_
        refine lv_if_gt (tgt := 189) hx hb dL_isRun_156 (by decide) (fun c156 => ?_) (fun c156 => ?_)
        · have c156 : nI 0 < nI (dfN G ld 6) := c156
          have c156 : 0 < (dfN G ld 6) := (xlt (by omega) (by omega)).mp c156
          refine lv_iconst (v := nI 1) hx hb dL_isRun_189 (by decide) ?_
          refine lv_goto (tgt := 194) hx hb dL_isRun_190 (by decide) ?_
          refine W.widen (k := 32) (n := 160) (Nat.le_of_ble_eq_true rfl) (Nat.le_of_ble_eq_true rfl) ?_
          have hI9 : INV ((cpD G (ld + 1) 6), o, ld + 1, 0, 0) ft2 (upd (upd fm 2 ((-1))) 0 (nI (ld + 1))) := INV.of hWG.cpD hold1 hld1 (by omega) (by rw [upd20]; exact Or.inl ⟨rfl, rfl, rfl⟩) pk_us (by rw [upd21]; exact hm1) (run_t hl8 ht (fun i hi => h1 i (by omega)) h2)
          exact W.zret hx hb hr (xnb _ (by omega)) (fun t9 ht9 hW9 => ⟨⟨_, (((cpD G (ld + 1) 6), o, ld + 1, 0, 0), ft2, upd (upd fm 2 ((-1))) 0 (nI (ld + 1))), rfl, ⟨rfl, hI9⟩, fL1, fK1, FZ1, by rw [ht9]; exact hP, hD, hC1⟩, hS.F ht9⟩) hS.2.2 dL_isRun_194
        · have c156 : ¬ nI 0 < nI (dfN G ld 6) := c156
          have c156 : ¬ 0 < (dfN G ld 6) := fun h => c156 ((xlt (by omega) (by omega)).mpr h)
          refine lv_aload_n hx hb dL_isRun_159 rfl (lv_at hl 5 rfl) ?_
          refine xc_sie (va_runV (As := []) (rest := []) ⟨hx, hb, hml, hown, hts⟩ (c_X1_size l x lv kp fL1 fK1 o (ld + 1) 0 0 FZ1 ((cpD G (ld + 1) 6)) hC1 hld1 hold1) (cwV 0 hts gL_isRun_X1_size rfl rfl rfl (by decide +kernel) ⟨(Nat.le_of_ble_eq_true rfl), (Nat.le_of_ble_eq_true rfl)⟩) ⟨XP_blind, va_recv hK hPc (ci := 1) (q0 := 0) rfl rfl, XP_pre hE hPc⟩ rfl rfl hl.1 rfl (lv_room (Nat.le_of_ble_eq_true rfl)) dL_isRun_160 ⟨by first | exact Nat.le_of_ble_eq_true rfl | (show _ + _ ≤ _; omega), by first | exact Nat.le_of_ble_eq_true rfl | (show _ + _ ≤ _; omega)⟩) ?_
          refine x_top (nI (szN G (6 * o) (6 * (ld - o)) + z9)) (congrArg nI hz9) ?_
          refine lv_iload hx hb dL_isRun_163 (lv_at hl 3 rfl) ?_
          refine lv_icmp_ne (tgt := 193) hx hb dL_isRun_165 (by decide) (fun c165 => ?_) (fun c165 => ?_)
          · have c165 : ¬ (szN G (6 * o) (6 * (ld - o)) + z9) = (szN G (6 * o) (6 * (ld - o))) := fun h => c165 ((xeq (by omega) (by omega)).mpr h)
            have h00 := hz0 (by omega); omega
          · have c165 : (szN G (6 * o) (6 * (ld - o)) + z9) = (szN G (6 * o) (6 * (ld - o))) := (xeq (by omega) (by omega)).mp c165
            refine lv_goto (tgt := 189) hx hb dL_isRun_168 (by decide) ?_
            refine lv_iconst (v := nI 1) hx hb dL_isRun_189 (by decide) ?_
            refine lv_goto (tgt := 194) hx hb dL_isRun_190 (by decide) ?_
            refine W.widen (k := 32) (n := 160) (Nat.le_of_ble_eq_true rfl) (Nat.le_of_ble_eq_true rfl) ?_
            have hI9 : INV ((cpD G (ld + 1) 6), o, ld + 1, 0, 0) ft2 (upd (upd fm 2 ((-1))) 0 (nI (ld + 1))) := INV.of hWG.cpD hold1 hld1 (by omega) (by rw [upd20]; exact Or.inl ⟨rfl, rfl, rfl⟩) pk_us (by rw [upd21]; exact hm1) (run_t hl8 ht (fun i hi => h1 i (by omega)) h2)
            exact W.zret hx hb hr (xnb _ (by omega)) (fun t9 ht9 hW9 => ⟨⟨_, (((cpD G (ld + 1) 6), o, ld + 1, 0, 0), ft2, upd (upd fm 2 ((-1))) 0 (nI (ld + 1))), rfl, ⟨rfl, hI9⟩, fL1, fK1, FZ1, by rw [ht9]; exact hP, hD, hC1⟩, hS.F ht9⟩) hS.2.2 dL_isRun_194
    · have c75 : ¬ 6 ≤ i9 := fun h => c75 ((xle (by omega) (by omega)).mpr h)
      refine lv_iload hx hb dL_isRun_78 (lv_at hl 2 rfl) ?_
      refine lv_if_eq (tgt := 107) hx hb dL_isRun_80 (by decide) (fun h => absurd h (by decide)) (fun _ => ?_)
      refine lv_aload_n hx hb dL_isRun_83 rfl (lv_at hl 6 rfl) ?_
      refine lv_bipush (v := nI 6) hx hb dL_isRun_84 (by decide) ?_
      refine lv_aload_n hx hb dL_isRun_86 rfl (lv_at hl 8 rfl) ?_
      refine lv_iconst (v := nI 0) hx hb dL_isRun_87 (by decide) ?_
      refine va_iald hx hb hK hP 2 0 rfl rfl (xin (by omega) (by omega)) dL_isRun_88 ?_
      refine x_top ((upd (upd fm 2 ((-1))) 0 (nI (ld + 1))) 0) (by rw [nI_clamp (by omega)]) ?_
      refine x_top (nI (ld + 1)) (pk_us) ?_
      refine lv_bipush (v := nI 10) hx hb dL_isRun_89 (by decide) ?_
      refine lv_irem hx hb dL_isRun_91 (by decide) ?_
      refine x_top (nI ((ld + 1) % 10)) (pk_rem (by omega) (by omega) (by omega)) ?_
      refine lv_imul hx hb dL_isRun_92 ?_
      refine x_top (nI (6 * ((ld + 1) % 10))) (pk_mul _ _) ?_
      refine lv_iload hx hb dL_isRun_93 (lv_at hl 0 rfl) ?_
      refine lv_iadd hx hb dL_isRun_95 ?_
      refine x_top (nI ((6 * ((ld + 1) % 10)) + i9)) (xadd (by omega)) ?_
      refine lv_aload_n hx hb dL_isRun_96 rfl (lv_at hl 7 rfl) ?_
      refine lv_iload hx hb dL_isRun_97 (lv_at hl 0 rfl) ?_
      refine va_lald hx hb hK hP 1 2 rfl rfl (xin (by omega) (by omega)) dL_isRun_99 ?_
      refine x_topl (tlL (G (246 + i9)) 12) (by rw [nI_clamp (by omega)]; exact hL i9 (by omega)) ?_
      refine va_last hx hb hK hP hD hS 0 2 rfl rfl (xin (by omega) (by omega)) dL_isRun_100 (fun H locs hP hD hS => ?_)
      rw [nI_clamp (show (6 * ((ld + 1) % 10)) + i9 < 2 ^ 31 by omega)] at hP hD
      have hP : va_P D vwCl ((ta, .inl (cJ, 60, .inr (.inl (vp_updL ft2 ((6 * ((ld + 1) % 10)) + i9) (tlL (G (246 + i9)) 12))))) :: (la, .inl (cJ, 6, .inr (.inl fl))) :: (ma, .inl (cI, 3, .inl (upd (upd fm 2 ((-1))) 0 (nI (ld + 1))))) :: (x, .inr (1, [.ref lv, .ref kp, .int (nI o), .int (nI (ld + 1)), .int (nI 0), .int (nI 0)])) :: (lv, .inl (cT, 6, .inr (.inr (.inr (.inr fL1))))) :: (kp, .inl (cT, 246, .inr (.inr (.inr (.inr fK1))))) :: FZ1) H := hP
      have hD : va_D A ((ta, .inl (cJ, 60, .inr (.inl (vp_updL ft2 ((6 * ((ld + 1) % 10)) + i9) (tlL (G (246 + i9)) 12))))) :: (la, .inl (cJ, 6, .inr (.inl fl))) :: (ma, .inl (cI, 3, .inl (upd (upd fm 2 ((-1))) 0 (nI (ld + 1))))) :: (x, .inr (1, [.ref lv, .ref kp, .int (nI o), .int (nI (ld + 1)), .int (nI 0), .int (nI 0)])) :: (lv, .inl (cT, 6, .inr (.inr (.inr (.inr fL1))))) :: (kp, .inl (cT, 246, .inr (.inr (.inr (.inr fK1))))) :: FZ1) := hD
      have hT := hT0.kept (fun a h1 h2 => hS.2.1 a h1 (fun z => h2 (hAx a z)))
      have hPc : va_P D vwCl (CW cT x lv kp fL1 fK1 o (ld + 1) 0 0 FZ1) H := xP_sub (fun _ h => m3c h) hP
      refine lv_iinc (v := nI (i9 + 1)) (lv' := [(9, .int (nI (i9 + 1))), (8, .int (nI (ld + 1))), (7, .int (nI 1)), (6, .int (nI (szN G (6 * o) (6 * (ld - o))))), (5, .int (nI (dfN G ld 6))), (0, .ref x), (1, .ref ta), (2, .ref la), (3, .ref ma), (4, .int (nI s9))]) hx hb dL_isRun_101 hl (k := 0) rfl (xinc _ 1 _ (by decide)) (by decide) rfl (fun ls hl => ?_)
      refine lv_goto (tgt := 71) hx hb dL_isRun_104 (by decide) ?_
      exact ih _ _ _ ⟨i9 + 1, _, by omega, by omega, run_l1 h1, run_l2 (by omega) h2, hP, hD, hS, lv_sub hl [0, 1, 2, 3, 4, 5, 6, 7, 8, 9] rfl⟩
