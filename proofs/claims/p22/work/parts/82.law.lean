/-! the law: its loop and its start -/
theorem pm_t {α : Type} {a b c : α} {l : List α} : (a :: b :: c :: l).Perm ([a, c] ++ (b :: l)) := (List.Perm.swap c b l).cons a
theorem pm_w {α : Type} (A : List α) (t l m : α) : (((A ++ [t]) ++ [l]) ++ [m]).Perm (t :: l :: m :: A) := by
  rw [List.append_assoc, List.append_assoc]
  exact List.perm_append_comm (l₁ := A) (l₂ := [t] ++ ([l] ++ [m]))
/-- what the law's body stands on -/
def LCX (p : Program) (l : Launch) (s : State) (m : MethodId) (c : Code) (D : va_G) (cI cT cJ : ClassId) (A : Nat → Prop) (sb Ls : Nat) (xs : Nat → Int32) : Prop :=
  p.tables.exec = Jvm.exec ∧ c.code = cL_law ∧ c.maxLocals = 14 ∧ s.vm.findClass RL = some m.cls ∧ (∀ w ∈ wsL_law, w.before #[Value.ref sb] s = true) ∧ va_X sb Ls xs s s.heap ∧ sb < s.heap.size ∧ Ls ≤ 260 ∧ l.stackTraces = false ∧ XE D cI cT cJ s ∧ XT A s s.heap ∧ XN s ∧ (∀ q, s.heap.size ≤ q → A q) ∧ ¬ A sb
/-- what holds at the loop's head -/
def LI (D : va_G) (cI cT cJ : ClassId) (ta la ma x lv kp : Nat) (A : Nat → Prop) (s : State) (u : Sv) (H : Heap) (locs : List Loc) : Prop := ∃ (ft fl : Nat → Int64) (fm : Nat → Int32) (fL fK : Nat → Option Nat) (FZ : va_W), va_P D vwCl (W3 cI cT cJ ta la ma ft fl fm x lv kp fL fK u.2.1 u.2.2.1 u.2.2.2.1 u.2.2.2.2 FZ) H ∧ va_D A (W3 cI cT cJ ta la ma ft fl fm x lv kp fL fK u.2.1 u.2.2.1 u.2.2.2.1 u.2.2.2.2 FZ) ∧ CA cI FZ fL fK u.1 ∧ INV u ft fm ∧ va_S A s.heap H locs
theorem INV.up {G : Nat → Tv} {o ld b k j : Nat} {v : Tv} {ft : Nat → Int64} {fm : Nat → Int32} (h : INV (G, o, ld, b, k) ft fm) (hv : WFT v) : INV (va_up G (246 + j) v, o, ld, b, k) ft fm := by
  obtain ⟨h1, h2, h3, h4, h5, h6, h7, h8⟩ := h
  dsimp only at h2 h3 h4 h5 h6 h7 h8
  exact INV.of (h1.up hv) h2 h3 h4 h5 h6 h7 fun d p a1 a2 a3 => by rw [va_up_n (by omega)]; exact h8 d p a1 a2 a3
theorem INV.mend {G : Nat → Tv} {o ld b k : Nat} {ft : Nat → Int64} {fm : Nat → Int32} (h : INV (G, o, ld, b, k) ft fm) : INV (G, o, ld, 0, 0) ft (upd fm 2 (-1)) := by
  obtain ⟨h1, h2, h3, h4, h5, h6, h7, h8⟩ := h
  exact INV.of h1 h2 h3 h4 (Or.inl ⟨rfl, rfl, pk_us⟩) (by rw [pk_un (by decide)]; exact h6) (by rw [pk_un (by decide)]; exact h7) h8
theorem INV.thin {G : Nat → Tv} {o ld b k z : Nat} {ft : Nat → Int64} {fm : Nat → Int32} (h : INV (G, o, ld, b, k) ft fm) (hz : o + z ≤ ld) : INV (G, o + z, ld, 0, 0) ft (upd (upd fm 1 (nI (o + z))) 2 (-1)) := by
  obtain ⟨h1, h2, h3, h4, h5, h6, h7, h8⟩ := h
  dsimp only at h2 h3 h4 h5 h6 h7 h8
  exact INV.of h1 hz h3 (by omega) (Or.inl ⟨rfl, rfl, pk_us⟩) (by rw [pk_un (by decide), pk_un (by decide)]; exact h6) (by rw [pk_un (by decide)]; exact pk_us) fun d p a1 a2 a3 => h8 d p (by omega) a2 a3
theorem INV.thinN {G : Nat → Tv} {o ld b k : Nat} {ft : Nat → Int64} {fm : Nat → Int32} (h : INV (G, o, ld, b, k) ft fm) : INV (G, o, ld, b, k) ft (upd (upd fm 1 (nI o)) 2 (fm 2)) := by
  obtain ⟨h1, h2, h3, h4, h5, h6, h7, h8⟩ := h
  exact INV.of h1 h2 h3 h4 (by rw [pk_us]; exact h5) (by rw [pk_un (by decide), pk_un (by decide)]; exact h6) (by rw [pk_un (by decide)]; exact pk_us) h8
theorem INV.restore {G : Nat → Tv} {o ld b k d : Nat} {ft : Nat → Int64} {fm : Nat → Int32} (h : INV (G, o, ld, b, k) ft fm) (hd : d ≤ ld) : INV (cpL G d 6, o, ld, 0, 0) ft (upd fm 2 (-1)) := by
  obtain ⟨h1, h2, h3, h4, h5, h6, h7, h8⟩ := h
  dsimp only at h2 h3 h4 h5 h6 h7 h8
  exact INV.of (h1.cpL (by omega)) h2 h3 h4 (Or.inl ⟨rfl, rfl, pk_us⟩) (by rw [pk_un (by decide)]; exact h6) (by rw [pk_un (by decide)]; exact h7) fun e p a1 a2 a3 => by rw [cpL_kept (by omega)]; exact h8 e p a1 a2 a3
theorem INV.g0 {ft : Nat → Int64} (h : ∀ q, q < 6 → ft q = tlL (G0 (246 + q)) 12) : INV (G0, 0, 0, 0, 0) ft (upd (fun _ => 0) 2 (-1)) := by
  refine INV.of WFG.g0 (Nat.le_refl _) (by decide) (by decide) (Or.inl ⟨rfl, rfl, pk_us⟩) (by rw [pk_un (by decide)]; rfl) (by rw [pk_un (by decide)]; rfl) fun d p a1 a2 a3 => ?_
  obtain rfl : d = 0 := by omega
  rw [show 6 * (0 % 10) + p = p by omega]
  exact h p a3
theorem c_L_isRefused (l : Launch) (hst : l.stackTraces = false) {D : va_G} {cI cT cJ : ClassId} (Ax : Nat → Prop) (x lv kp : Nat) (fL fK : Nat → Option Nat) (o ld b k : Nat) (FZ : va_W) (G : Nat → Tv) (hC : CA cI FZ fL fK G) (ma X : Nat) (fm : Nat → Int32) (hX : X < 2 ^ 31) (hWG : WFG G) (hm0 : fm 0 = nI ld) (hm1 : fm 1 = nI o) (hbb : b ≤ 1) (hl9 : ld ≤ o + 9) (hld : ld ≤ 40) (hold : o ≤ ld) : Met l yL_isRefused wsL_isRefused (rmD 11 600 3000) (XPl D cI cT cJ Ax [.ref x, .ref ma, .int (nI X)] (fun H => va_P D vwCl ((ma, .inl (cI, 3, .inl fm)) :: (CW cT x lv kp fL fK o ld b k FZ)) H ∧ va_D (fun _ => True) ((ma, .inl (cI, 3, .inl fm)) :: (CW cT x lv kp fL fK o ld b k FZ)))) (XRi (fun r => r = nI 1)) 600 3000 (fun _ => False) := by
  by_cases h : X % 2 = 0
  · exact c_L_isRefused_lo l hst Ax x lv kp fL fK o ld b k FZ G hC ma X fm hX h hWG hm0 hm1 hbb hl9 hld hold
  · exact c_L_isRefused_hi l hst Ax x lv kp fL fK o ld b k FZ G hC ma X fm hX h hWG hm0 hm1 hbb hl9 hld hold
theorem m3h {α : Type} {a b c q : α} {l : List α} (h : q ∈ a :: c :: l) : q ∈ a :: b :: c :: l := by
  rcases List.mem_cons.mp h with rfl | h
  · exact List.mem_cons_self
  · exact List.mem_cons_of_mem _ (List.mem_cons_of_mem _ h)

set_option maxHeartbeats 4000000 in
set_option maxRecDepth 100000 in
theorem law_loop {p : Program} {l : Launch} {e : Env} {s : State} {m : MethodId} {below : List Frame} {meth : Method} {c : Code} {D : va_G} {cI cT cJ : ClassId} {A : Nat → Prop} {sb Ls : Nat} {xs : Nat → Int32} {ta la ma x lv kp : Nat} (hr : meth.sig.returnType = ret) (hlocks : meth.locks = false) (hX0 : LCX p l s m c D cI cT cJ A sb Ls xs) (hAq : ∀ q, A q → s.heap.size ≤ q) {H : Heap} {locs : List Loc} {ls : Array Slot} {u0 : Sv} (hI : LI D cI cT cJ ta la ma x lv kp A s u0 H locs) (hl : lv_has ls 14 [(6, .int (nI 0)), (5, .int (nI 1)), (0, .ref sb), (1, .ref x), (2, .ref ta), (3, .ref la), (4, .ref ma)]) : W p l e room_1 s m #[Value.ref sb] below meth c H locs (4000 + 700 * (91 - 91)) (20000 + 4000 * (91 - 91)) (lw_Z below #[Value.ref sb] s) (F0 m 94 ls []) := by
  have hX1 := hX0
  obtain ⟨hx, hb, hml, hown, hts, hX, hbl, hL9, hst, hE, hT0, hN, hA, hbA⟩ := hX1
  have hK := hE.1
  have hAx : ∀ q, A q → A q := fun _ h => h
  refine x_loopC (fun n => 4000 + 700 * (91 - n)) (fun n => 20000 + 4000 * (91 - n)) (fun n H locs ls => ∃ (i : Nat) (u : Sv), i ≤ 90 ∧ 90 < i + n ∧ n ≤ 91 ∧ LI D cI cT cJ ta la ma x lv kp A s u H locs ∧ lv_has ls 14 [(6, .int (nI i)), (5, .int (nI 1)), (0, .ref sb), (1, .ref x), (2, .ref ta), (3, .ref la), (4, .ref ma)]) 91 ⟨0, u0, by omega, by omega, by omega, hI, hl⟩ (fun H locs ls h => by obtain ⟨i, u, h1, h2, -⟩ := h; omega) (fun n H locs ls h ih => ?_)
  obtain ⟨i, ⟨G, o, ld, b, k⟩, hi, hn, hn9, ⟨ft, fl0, fm, fL, fK, FZ, hP, hD, hC, hI, hS⟩, hl⟩ := h
  dsimp only at hP hD hC
  have hI0 := hI
  obtain ⟨hWG, hold, hld, hl9, hm2, hm0, hm1, ht⟩ := hI
  dsimp only at hWG hold hld hl9 hm2 hm0 hm1 ht
  have hbb := hm2.le
  show W p l e room_1 s m #[Value.ref sb] below meth c H locs (4000 + 700 * (91 - (n + 1))) (20000 + 4000 * (91 - (n + 1))) (lw_Z below #[Value.ref sb] s) (F0 m 94 ls [])
  have hT := hT0.kept (fun a h1 h2 => hS.2.1 a h1 (fun z => h2 (hAx a z)))
  have hPc : va_P D vwCl (CW cT x lv kp fL fK o ld b k FZ) H := xP_sub (fun _ h => m3c h) hP
  refine lv_iload hx hb dL_law_94 (lv_at hl 0 rfl) ?_
  refine lv_bipush (v := nI 90) hx hb dL_law_96 (by decide) ?_
  refine lv_icmp_ge (tgt := 687) hx hb dL_law_98 (by decide) (fun c98 => ?_) (fun c98 => ?_)
  · have c98 : 90 ≤ i := (xle (by omega) (by omega)).mp c98
    refine lv_iload hx hb dL_law_687 (lv_at hl 1 rfl) ?_
    refine lv_if_eq (tgt := 703) hx hb dL_law_689 (by decide) (fun h => absurd h (by decide)) (fun _ => ?_)
    refine lv_aload_n hx hb dL_law_692 rfl (lv_at hl 3 rfl) ?_
    refine xc_si2 (va_runS (As := [.ref x]) (rest := []) ⟨hx, hb, hml, hown, hts⟩ (c_L_isSum l hst A x lv kp fL fK o ld b k FZ G hC hld hold) (va_cwS 1 hts gL_law_L_isSum rfl rfl rfl (by decide +kernel) ⟨(Nat.le_of_ble_eq_true rfl), (Nat.le_of_ble_eq_true rfl)⟩) ⟨XPx_blind, XPx_pre hE hT hPc⟩ rfl rfl hl.1 rfl (lv_room (Nat.le_of_ble_eq_true rfl)) dL_law_693 ⟨by show (_ : Nat) ≤ 864847; omega, by show (_ : Nat) ≤ 6506927; omega⟩) ?_
    refine lv_if_eq (tgt := 703) hx hb dL_law_696 (by decide) (fun h => absurd h (by decide)) (fun _ => ?_)
    refine lv_iconst (v := nI 1) hx hb dL_law_699 (by decide) ?_
    refine lv_goto (tgt := 704) hx hb dL_law_700 (by decide) ?_
    refine va_forget (fun q hq => hAq _ (hS.2.2 q hq)) ?_
    refine W.widen (k := 864847) (n := 6506927) (by omega) (by omega) ?_
    exact lw_ret hx hb hr hlocks dL_law_704
  · have c98 : ¬ 90 ≤ i := fun h => c98 ((xle (by omega) (by omega)).mpr h)
    refine lv_iload hx hb dL_law_101 (lv_at hl 1 rfl) ?_
    refine lv_if_eq (tgt := 687) hx hb dL_law_103 (by decide) (fun h => absurd h (by decide)) (fun _ => ?_)
    refine lv_aload_n hx hb dL_law_106 rfl (lv_at hl 2 rfl) ?_
    refine lv_iload hx hb dL_law_107 (lv_at hl 0 rfl) ?_
    refine xc_si (va_runS (As := [.ref sb, .int (nI i)]) (rest := []) ⟨hx, hb, hml, hown, hts⟩ (c_L_dice l sb Ls i xs (by omega) hL9) (va_cwS 2 hts gL_law_L_dice rfl rfl rfl (by decide +kernel) ⟨(Nat.le_of_ble_eq_true rfl), (Nat.le_of_ble_eq_true rfl)⟩) ⟨XPd_blind, XPd_pre (hX.kept (hS.2.1 sb hbl hbA))⟩ rfl rfl hl.1 rfl (lv_room (Nat.le_of_ble_eq_true rfl)) dL_law_109 ⟨by show (_ : Nat) ≤ 864847; omega, by show (_ : Nat) ≤ 6506927; omega⟩) (fun r9 hr9 => ?_)
    obtain ⟨z, hz, rfl⟩ := hr9
    refine lv_istore (lv' := [(7, .int (nI z)), (6, .int (nI i)), (5, .int (nI 1)), (0, .ref sb), (1, .ref x), (2, .ref ta), (3, .ref la), (4, .ref ma)]) hx hb dL_law_112 hl (by decide) rfl (fun ls hl => ?_)
    refine lv_iload hx hb dL_law_114 (lv_at hl 0 rfl) ?_
    refine lv_bipush (v := nI 32) hx hb dL_law_116 (by decide) ?_
    refine lv_idiv hx hb dL_law_118 (by decide) ?_
    refine x_top (nI (z / 32)) (pk_div (by omega) (by omega) (by omega)) ?_
    refine lv_istore (lv' := [(8, .int (nI (z / 32))), (7, .int (nI z)), (6, .int (nI i)), (5, .int (nI 1)), (0, .ref sb), (1, .ref x), (2, .ref ta), (3, .ref la), (4, .ref ma)]) hx hb dL_law_119 hl (by decide) rfl (fun ls hl => ?_)
    refine lv_iload hx hb dL_law_121 (lv_at hl 1 rfl) ?_
    refine lv_bipush (v := nI 32) hx hb dL_law_123 (by decide) ?_
    refine lv_irem hx hb dL_law_125 (by decide) ?_
    refine x_top (nI (z % 32)) (pk_rem (by omega) (by omega) (by omega)) ?_
    refine lv_istore (lv' := [(9, .int (nI (z % 32))), (8, .int (nI (z / 32))), (7, .int (nI z)), (6, .int (nI i)), (5, .int (nI 1)), (0, .ref sb), (1, .ref x), (2, .ref ta), (3, .ref la), (4, .ref ma)]) hx hb dL_law_126 hl (by decide) rfl (fun ls hl => ?_)
    refine lv_iload hx hb dL_law_128 (lv_at hl 1 rfl) ?_
    refine lv_bipush (v := nI 12) hx hb dL_law_130 (by decide) ?_
    refine lv_idiv hx hb dL_law_132 (by decide) ?_
    refine x_top (nI ((z / 32) / 12)) (pk_div (by omega) (by omega) (by omega)) ?_
    refine lv_istore (lv' := [(10, .int (nI ((z / 32) / 12))), (9, .int (nI (z % 32))), (8, .int (nI (z / 32))), (7, .int (nI z)), (6, .int (nI i)), (5, .int (nI 1)), (0, .ref sb), (1, .ref x), (2, .ref ta), (3, .ref la), (4, .ref ma)]) hx hb dL_law_133 hl (by decide) rfl (fun ls hl => ?_)
    refine lv_aload_n hx hb dL_law_135 rfl (lv_at hl 7 rfl) ?_
    refine lv_aload_n hx hb dL_law_136 rfl (lv_at hl 9 rfl) ?_
    have hP := xP_perm pm_t hP
    have hD := xD_perm pm_t hD
    have hP : va_P D vwCl ([(ta, .inl (cJ, 60, .inr (.inl ft))), (ma, .inl (cI, 3, .inl fm))] ++ ((la, .inl (cJ, 6, .inr (.inl fl0))) :: (CW cT x lv kp fL fK o ld b k FZ))) H := hP
    have hD : va_D A ([(ta, .inl (cJ, 60, .inr (.inl ft))), (ma, .inl (cI, 3, .inl fm))] ++ ((la, .inl (cJ, 6, .inr (.inl fl0))) :: (CW cT x lv kp fL fK o ld b k FZ))) := hD
    have hPw : va_P D vwCl ((la, .inl (cJ, 6, .inr (.inl fl0))) :: (CW cT x lv kp fL fK o ld b k FZ)) H := xP_sub (fun _ h => List.mem_append_right _ h) hP
    have hDw : va_D (fun _ => True) ((la, .inl (cJ, 6, .inr (.inl fl0))) :: (CW cT x lv kp fL fK o ld b k FZ)) := (xD_sub (List.sublist_append_right _ _) hD).weaken (fun _ _ _ _ => trivial)
    have hFc := xfree (wc := ((la, .inl (cJ, 6, .inr (.inl fl0))) :: (CW cT x lv kp fL fK o ld b k FZ))) hD hS hA (fun _ h => List.mem_append_right _ h)
    refine va_callv (va_runS (As := [.ref x, .ref la]) (rest := []) ⟨hx, hb, hml, hown, hts⟩ (c_L_takes l hst A x lv kp fL fK o ld b k FZ G hC la fl0 hld hold H.size) (va_cwS 2 hts gL_law_L_takes rfl rfl rfl (by decide +kernel) ⟨(Nat.le_of_ble_eq_true rfl), (Nat.le_of_ble_eq_true rfl)⟩) ⟨XPx_blind, XPx_pre hE hT ⟨rfl, hPw, hDw, hFc⟩⟩ rfl rfl hl.1 rfl (lv_room (Nat.le_of_ble_eq_true rfl)) dL_law_137 ⟨by show (_ : Nat) ≤ 864847; omega, by show (_ : Nat) ≤ 6506927; omega⟩) hS (fun q9 _ h => hFc q9 h) hFc (fun fl t9 H1 locs ht9 hvm9 hL hB9 hzc hkc hS => ?_)
    obtain ⟨hP1, hD1⟩ := hB9
    rw [ht9] at hP1
    have hP1 : va_P D vwCl ((la, .inl (cJ, 6, .inr (.inl fl))) :: (CW cT x lv kp fL fK o ld b k FZ)) H1 := hP1
    have hD1 : va_D (va_A ((la, .inl (cJ, 6, .inr (.inl fl0))) :: (CW cT x lv kp fL fK o ld b k FZ)) H.size) ((la, .inl (cJ, 6, .inr (.inl fl))) :: (CW cT x lv kp fL fK o ld b k FZ)) := hD1
    obtain ⟨hP, hD⟩ := xjoin (wr := [(ta, .inl (cJ, 60, .inr (.inl ft))), (ma, .inl (cI, 3, .inl fm))]) (wc := ((la, .inl (cJ, 6, .inr (.inl fl0))) :: (CW cT x lv kp fL fK o ld b k FZ))) (w1 := ((la, .inl (cJ, 6, .inr (.inl fl))) :: (CW cT x lv kp fL fK o ld b k FZ))) hP hD hkc hFc hP1 hD1
    have hP := xP_perm pm_t.symm hP
    have hD := xD_perm pm_t.symm hD
    clear hP1 hD1 hzc hkc hFc hvm9 ht9
    generalize H1 = H at hP hS ⊢
    have hP : va_P D vwCl ((ta, .inl (cJ, 60, .inr (.inl ft))) :: (la, .inl (cJ, 6, .inr (.inl fl))) :: (ma, .inl (cI, 3, .inl fm)) :: (x, .inr (1, [.ref lv, .ref kp, .int (nI o), .int (nI ld), .int (nI b), .int (nI k)])) :: (lv, .inl (cT, 6, .inr (.inr (.inr (.inr fL))))) :: (kp, .inl (cT, 246, .inr (.inr (.inr (.inr fK))))) :: FZ) H := hP
    have hD : va_D A ((ta, .inl (cJ, 60, .inr (.inl ft))) :: (la, .inl (cJ, 6, .inr (.inl fl))) :: (ma, .inl (cI, 3, .inl fm)) :: (x, .inr (1, [.ref lv, .ref kp, .int (nI o), .int (nI ld), .int (nI b), .int (nI k)])) :: (lv, .inl (cT, 6, .inr (.inr (.inr (.inr fL))))) :: (kp, .inl (cT, 246, .inr (.inr (.inr (.inr fK))))) :: FZ) := hD
    have hT := hT0.kept (fun a h1 h2 => hS.2.1 a h1 (fun z => h2 (hAx a z)))
    have hPc : va_P D vwCl (CW cT x lv kp fL fK o ld b k FZ) H := xP_sub (fun _ h => m3c h) hP
    refine x_joinG (fun H locs ls => ∃ u : Sv, LI D cI cT cJ ta la ma x lv kp A s u H locs ∧ lv_has ls 14 [(5, .int (nI 1)), (6, .int (nI i)), (7, .int (nI z)), (8, .int (nI (z / 32))), (0, .ref sb), (1, .ref x), (2, .ref ta), (3, .ref la), (4, .ref ma)]) (4000 + 700 * (91 - (n + 1)) + 64) (20000 + 4000 * (91 - (n + 1)) + 400) 587 [] ?_ (fun J => ?_)
    · clear hP hD hC hI0 hWG hold hld hl9 hm2 hm0 hm1 ht hbb hS hL hl hT hPc
      intro H locs ls hJ
      obtain ⟨⟨G, o, ld, b, k⟩, ⟨ft, fl, fm, fL, fK, FZ, hP, hD, hC, hI, hS⟩, hl⟩ := hJ
      dsimp only at hP hD hC
      have hI0 := hI
      obtain ⟨hWG, hold, hld, hl9, hm2, hm0, hm1, ht⟩ := hI
      dsimp only at hWG hold hld hl9 hm2 hm0 hm1 ht
      have hbb := hm2.le
      have hT := hT0.kept (fun a h1 h2 => hS.2.1 a h1 (fun z => h2 (hAx a z)))
      have hPc : va_P D vwCl (CW cT x lv kp fL fK o ld b k FZ) H := xP_sub (fun _ h => m3c h) hP
      refine lv_iload hx hb dL_law_587 (lv_at hl 0 rfl) ?_
      refine lv_if_eq (tgt := 678) hx hb dL_law_589 (by decide) (fun h => absurd h (by decide)) (fun _ => ?_)
      refine lv_aload_n hx hb dL_law_592 rfl (lv_at hl 5 rfl) ?_
      refine lv_aload_n hx hb dL_law_593 rfl (lv_at hl 6 rfl) ?_
      refine lv_aload hx hb dL_law_594 (lv_at hl 8 rfl) ?_
      have hPh : va_P D vwCl ((ta, .inl (cJ, 60, .inr (.inl ft))) :: (ma, .inl (cI, 3, .inl fm)) :: (CW cT x lv kp fL fK o ld b k FZ)) H := xP_sub (fun _ h => m3h h) hP
      refine xc_si2 (va_runS (As := [.ref x, .ref ta, .ref ma]) (rest := []) ⟨hx, hb, hml, hown, hts⟩ (c_L_isHead l hst A x lv kp fL fK o ld b k FZ G hC ta ma ft fm hWG ht hm0 hm1 hm2 hld hold) (va_cwS 3 hts gL_law_L_isHead rfl rfl rfl (by decide +kernel) ⟨(Nat.le_of_ble_eq_true rfl), (Nat.le_of_ble_eq_true rfl)⟩) ⟨XPx_blind, XPx_pre hE hT hPh⟩ rfl rfl hl.1 rfl (lv_room (Nat.le_of_ble_eq_true rfl)) dL_law_596 ⟨by show (_ : Nat) ≤ 864847; omega, by show (_ : Nat) ≤ 6506927; omega⟩) ?_
      refine lv_if_eq (tgt := 678) hx hb dL_law_599 (by decide) (fun h => absurd h (by decide)) (fun _ => ?_)
      refine lv_iload hx hb dL_law_602 (lv_at hl 1 rfl) ?_
      refine lv_iconst (v := nI 3) hx hb dL_law_604 (by decide) ?_
      refine lv_irem hx hb dL_law_605 (by decide) ?_
      refine x_top (nI (i % 3)) (pk_rem (by omega) (by omega) (by omega)) ?_
      refine x_join (ls := ls) 638 [] ?_ (fun J => ?_)
      · refine lv_iload hx hb dL_law_638 (lv_at hl 1 rfl) ?_
        refine lv_bipush (v := nI 6) hx hb dL_law_640 (by decide) ?_
        refine lv_irem hx hb dL_law_642 (by decide) ?_
        refine x_top (nI (i % 6)) (pk_rem (by omega) (by omega) (by omega)) ?_
        refine x_join (ls := ls) 653 [] ?_ (fun J => ?_)
        · refine lv_iload hx hb dL_law_653 (lv_at hl 1 rfl) ?_
          refine lv_bipush (v := nI 20) hx hb dL_law_655 (by decide) ?_
          refine lv_irem hx hb dL_law_657 (by decide) ?_
          refine x_top (nI (i % 20)) (pk_rem (by omega) (by omega) (by omega)) ?_
          refine lv_if_gt (tgt := 674) hx hb dL_law_658 (by decide) (fun c658 => ?_) (fun c658 => ?_)
          · have c658 : nI 0 < nI (i % 20) := c658
            have c658 : 0 < (i % 20) := (xlt (by omega) (by omega)).mp c658
            refine lv_iconst (v := nI 1) hx hb dL_law_674 (by decide) ?_
            refine lv_goto (tgt := 679) hx hb dL_law_675 (by decide) ?_
            refine lv_istore (lv' := [(5, .int (nI 1)), (6, .int (nI i)), (7, .int (nI z)), (8, .int (nI (z / 32))), (0, .ref sb), (1, .ref x), (2, .ref ta), (3, .ref la), (4, .ref ma)]) hx hb dL_law_679 hl (by decide) rfl (fun ls hl => ?_)
            refine lv_iinc (v := nI (i + 1)) (lv' := [(6, .int (nI (i + 1))), (5, .int (nI 1)), (7, .int (nI z)), (8, .int (nI (z / 32))), (0, .ref sb), (1, .ref x), (2, .ref ta), (3, .ref la), (4, .ref ma)]) hx hb dL_law_681 hl (k := 1) rfl (xinc _ 1 _ (by decide)) (by decide) rfl (fun ls hl => ?_)
            refine lv_goto (tgt := 94) hx hb dL_law_684 (by decide) ?_
            refine W.widen (k := 4000 + 700 * (91 - n)) (n := 20000 + 4000 * (91 - n)) (by omega) (by omega) ?_
            exact ih _ _ _ ⟨i + 1, (G, o, ld, b, k), by omega, by omega, by omega, ⟨ft, fl, fm, fL, fK, FZ, hP, hD, hC, hI0, hS⟩, lv_sub hl [0, 1, 4, 5, 6, 7, 8] rfl⟩
          · have c658 : ¬ nI 0 < nI (i % 20) := c658
            have c658 : ¬ 0 < (i % 20) := fun h => c658 ((xlt (by omega) (by omega)).mpr h)
            refine lv_aload_n hx hb dL_law_661 rfl (lv_at hl 5 rfl) ?_
            refine lv_aload hx hb dL_law_662 (lv_at hl 8 rfl) ?_
            refine lv_iload hx hb dL_law_664 (lv_at hl 2 rfl) ?_
            refine lv_iconst (v := nI 3) hx hb dL_law_666 (by decide) ?_
            refine lv_idiv hx hb dL_law_667 (by decide) ?_
            refine x_top (nI (z / 3)) (pk_div (by omega) (by omega) (by omega)) ?_
            have hPr : va_P D vwCl ((ma, .inl (cI, 3, .inl fm)) :: (CW cT x lv kp fL fK o ld b k FZ)) H := xP_sub (fun _ h => List.mem_cons_of_mem _ (List.mem_cons_of_mem _ h)) hP
            have hDr : va_D (fun _ => True) ((ma, .inl (cI, 3, .inl fm)) :: (CW cT x lv kp fL fK o ld b k FZ)) := (xD_sub ((List.Sublist.refl _).cons _ |>.cons _) hD).weaken (fun _ _ _ _ => trivial)
            refine xcrv (va_runS (As := [.ref x, .ref ma, .int (nI (z / 3))]) (rest := []) ⟨hx, hb, hml, hown, hts⟩ (c_L_isRefused l hst A x lv kp fL fK o ld b k FZ G hC ma (z / 3) fm (by omega) hWG hm0 hm1 hbb hl9 hld hold) (va_cwS 3 hts gL_law_L_isRefused rfl rfl rfl (by decide +kernel) ⟨(Nat.le_of_ble_eq_true rfl), (Nat.le_of_ble_eq_true rfl)⟩) ⟨XPl_blind, XPl_pre hE hT hN ⟨hPr, hDr⟩⟩ rfl rfl hl.1 rfl (lv_room (Nat.le_of_ble_eq_true rfl)) dL_law_668 ⟨by show (_ : Nat) ≤ 864847; omega, by show (_ : Nat) ≤ 6506927; omega⟩) (fun r9 H1 hr9 hz9 hk9 => ?_)
            subst hr9
            have hP := xkept hP hk9
            have hS := xS_kept hS hz9 hk9
            clear hz9 hk9 hPr
            generalize H1 = H at hP hS ⊢
            have hP : va_P D vwCl ((ta, .inl (cJ, 60, .inr (.inl ft))) :: (la, .inl (cJ, 6, .inr (.inl fl))) :: (ma, .inl (cI, 3, .inl fm)) :: (x, .inr (1, [.ref lv, .ref kp, .int (nI o), .int (nI ld), .int (nI b), .int (nI k)])) :: (lv, .inl (cT, 6, .inr (.inr (.inr (.inr fL))))) :: (kp, .inl (cT, 246, .inr (.inr (.inr (.inr fK))))) :: FZ) H := hP
            have hD : va_D A ((ta, .inl (cJ, 60, .inr (.inl ft))) :: (la, .inl (cJ, 6, .inr (.inl fl))) :: (ma, .inl (cI, 3, .inl fm)) :: (x, .inr (1, [.ref lv, .ref kp, .int (nI o), .int (nI ld), .int (nI b), .int (nI k)])) :: (lv, .inl (cT, 6, .inr (.inr (.inr (.inr fL))))) :: (kp, .inl (cT, 246, .inr (.inr (.inr (.inr fK))))) :: FZ) := hD
            have hT := hT0.kept (fun a h1 h2 => hS.2.1 a h1 (fun z => h2 (hAx a z)))
            have hPc : va_P D vwCl (CW cT x lv kp fL fK o ld b k FZ) H := xP_sub (fun _ h => m3c h) hP
            refine lv_if_eq (tgt := 678) hx hb dL_law_671 (by decide) (fun h => absurd h (by decide)) (fun _ => ?_)
            refine lv_iconst (v := nI 1) hx hb dL_law_674 (by decide) ?_
            refine lv_goto (tgt := 679) hx hb dL_law_675 (by decide) ?_
            refine lv_istore (lv' := [(5, .int (nI 1)), (6, .int (nI i)), (7, .int (nI z)), (8, .int (nI (z / 32))), (0, .ref sb), (1, .ref x), (2, .ref ta), (3, .ref la), (4, .ref ma)]) hx hb dL_law_679 hl (by decide) rfl (fun ls hl => ?_)
            refine lv_iinc (v := nI (i + 1)) (lv' := [(6, .int (nI (i + 1))), (5, .int (nI 1)), (7, .int (nI z)), (8, .int (nI (z / 32))), (0, .ref sb), (1, .ref x), (2, .ref ta), (3, .ref la), (4, .ref ma)]) hx hb dL_law_681 hl (k := 1) rfl (xinc _ 1 _ (by decide)) (by decide) rfl (fun ls hl => ?_)
            refine lv_goto (tgt := 94) hx hb dL_law_684 (by decide) ?_
            refine W.widen (k := 4000 + 700 * (91 - n)) (n := 20000 + 4000 * (91 - n)) (by omega) (by omega) ?_
            exact ih _ _ _ ⟨i + 1, (G, o, ld, b, k), by omega, by omega, by omega, ⟨ft, fl, fm, fL, fK, FZ, hP, hD, hC, hI0, hS⟩, lv_sub hl [0, 1, 4, 5, 6, 7, 8] rfl⟩
        · refine lv_if_gt (tgt := 653) hx hb dL_law_643 (by decide) (fun c643 => ?_) (fun c643 => ?_)
          · have c643 : nI 0 < nI (i % 6) := c643
            have c643 : 0 < (i % 6) := (xlt (by omega) (by omega)).mp c643
            exact J
          · have c643 : ¬ nI 0 < nI (i % 6) := c643
            have c643 : ¬ 0 < (i % 6) := fun h => c643 ((xlt (by omega) (by omega)).mpr h)
            refine lv_aload_n hx hb dL_law_646 rfl (lv_at hl 5 rfl) ?_
            refine xc_si2 (va_runS (As := [.ref x]) (rest := []) ⟨hx, hb, hml, hown, hts⟩ (c_L_isSum l hst A x lv kp fL fK o ld b k FZ G hC hld hold) (va_cwS 1 hts gL_law_L_isSum rfl rfl rfl (by decide +kernel) ⟨(Nat.le_of_ble_eq_true rfl), (Nat.le_of_ble_eq_true rfl)⟩) ⟨XPx_blind, XPx_pre hE hT hPc⟩ rfl rfl hl.1 rfl (lv_room (Nat.le_of_ble_eq_true rfl)) dL_law_647 ⟨by show (_ : Nat) ≤ 864847; omega, by show (_ : Nat) ≤ 6506927; omega⟩) ?_
            refine lv_if_eq (tgt := 678) hx hb dL_law_650 (by decide) (fun h => absurd h (by decide)) (fun _ => ?_)
            exact J
      · refine lv_if_gt (tgt := 638) hx hb dL_law_606 (by decide) (fun c606 => ?_) (fun c606 => ?_)
        · have c606 : nI 0 < nI (i % 3) := c606
          have c606 : 0 < (i % 3) := (xlt (by omega) (by omega)).mp c606
          exact J
        · have c606 : ¬ nI 0 < nI (i % 3) := c606
          have c606 : ¬ 0 < (i % 3) := fun h => c606 ((xlt (by omega) (by omega)).mpr h)
          refine lv_aload_n hx hb dL_law_609 rfl (lv_at hl 5 rfl) ?_
          refine lv_aload_n hx hb dL_law_610 rfl (lv_at hl 6 rfl) ?_
          refine lv_aload hx hb dL_law_611 (lv_at hl 8 rfl) ?_
          refine lv_aload hx hb dL_law_613 (lv_at hl 8 rfl) ?_
          refine lv_iconst (v := nI 1) hx hb dL_law_615 (by decide) ?_
          refine va_iald hx hb hK hP 2 0 rfl rfl (xin (by omega) (by omega)) dL_law_616 ?_
          refine x_top (fm 1) (by rw [nI_clamp (by omega)]) ?_
          refine x_top (nI o) (hm1) ?_
          refine lv_iload hx hb dL_law_617 (lv_at hl 3 rfl) ?_
          refine lv_aload hx hb dL_law_619 (lv_at hl 8 rfl) ?_
          refine lv_iconst (v := nI 0) hx hb dL_law_621 (by decide) ?_
          refine va_iald hx hb hK hP 2 0 rfl rfl (xin (by omega) (by omega)) dL_law_622 ?_
          refine x_top (fm 0) (by rw [nI_clamp (by omega)]) ?_
          refine x_top (nI ld) (hm0) ?_
          refine lv_aload hx hb dL_law_623 (lv_at hl 8 rfl) ?_
          refine lv_iconst (v := nI 1) hx hb dL_law_625 (by decide) ?_
          refine va_iald hx hb hK hP 2 0 rfl rfl (xin (by omega) (by omega)) dL_law_626 ?_
          refine x_top (fm 1) (by rw [nI_clamp (by omega)]) ?_
          refine x_top (nI o) (hm1) ?_
          refine lv_isub hx hb dL_law_627 ?_
          refine x_top (nI (ld - o)) (xsub (by omega)) ?_
          refine lv_iconst (v := nI 1) hx hb dL_law_628 (by decide) ?_
          refine lv_iadd hx hb dL_law_629 ?_
          refine x_top (nI ((ld - o) + 1)) (xadd (by omega)) ?_
          refine lv_irem hx hb dL_law_630 (nI_ne0 (by omega) (by omega)) ?_
          refine x_top (nI ((z / 32) % ((ld - o) + 1))) (pk_rem (by omega) (by omega) (by omega)) ?_
          refine lv_iadd hx hb dL_law_631 ?_
          refine x_top (nI (o + ((z / 32) % ((ld - o) + 1)))) (xadd (by omega)) ?_
          have hmd := Nat.mod_lt (z / 32) (show 0 < (ld - o) + 1 by omega)
          have hPh : va_P D vwCl ((ta, .inl (cJ, 60, .inr (.inl ft))) :: (ma, .inl (cI, 3, .inl fm)) :: (CW cT x lv kp fL fK o ld b k FZ)) H := xP_sub (fun _ h => m3h h) hP
          refine xc_si2 (va_runS (As := [.ref x, .ref ta, .ref ma, .int (nI (o + ((z / 32) % ((ld - o) + 1))))]) (rest := []) ⟨hx, hb, hml, hown, hts⟩ (c_L_isDate l hst A x lv kp fL fK o ld b k FZ G hC ta ma ft fm (o + ((z / 32) % ((ld - o) + 1))) hWG ht hm0 (by omega) (by omega) hld hold) (va_cwS 4 hts gL_law_L_isDate rfl rfl rfl (by decide +kernel) ⟨(Nat.le_of_ble_eq_true rfl), (Nat.le_of_ble_eq_true rfl)⟩) ⟨XPx_blind, XPx_pre hE hT hPh⟩ rfl rfl hl.1 rfl (lv_room (Nat.le_of_ble_eq_true rfl)) dL_law_632 ⟨by show (_ : Nat) ≤ 864847; omega, by show (_ : Nat) ≤ 6506927; omega⟩) ?_
          refine lv_if_eq (tgt := 678) hx hb dL_law_635 (by decide) (fun h => absurd h (by decide)) (fun _ => ?_)
          exact J
    · refine lv_iload hx hb dL_law_140 (lv_at hl 1 rfl) ?_
      refine lv_bipush (v := nI 22) hx hb dL_law_142 (by decide) ?_
      refine lv_icmp_ge (tgt := 185) hx hb dL_law_144 (by decide) (fun c144 => ?_) (fun c144 => ?_)
      · have c144 : 22 ≤ (z % 32) := (xle (by omega) (by omega)).mp c144
        refine lv_iload hx hb dL_law_185 (lv_at hl 1 rfl) ?_
        refine lv_bipush (v := nI 27) hx hb dL_law_187 (by decide) ?_
        refine lv_icmp_ge (tgt := 255) hx hb dL_law_189 (by decide) (fun c189 => ?_) (fun c189 => ?_)
        · have c189 : 27 ≤ (z % 32) := (xle (by omega) (by omega)).mp c189
          refine lv_iload hx hb dL_law_255 (lv_at hl 1 rfl) ?_
          refine lv_bipush (v := nI 29) hx hb dL_law_257 (by decide) ?_
          refine lv_icmp_ge (tgt := 319) hx hb dL_law_259 (by decide) (fun c259 => ?_) (fun c259 => ?_)
          · have c259 : 29 ≤ (z % 32) := (xle (by omega) (by omega)).mp c259
            refine lv_iload hx hb dL_law_319 (lv_at hl 1 rfl) ?_
            refine lv_bipush (v := nI 29) hx hb dL_law_321 (by decide) ?_
            refine lv_icmp_ne (tgt := 437) hx hb dL_law_323 (by decide) (fun c323 => ?_) (fun c323 => ?_)
            · have c323 : ¬ (z % 32) = 29 := fun h => c323 ((xeq (by omega) (by omega)).mpr h)
              refine lv_aload hx hb dL_law_437 (lv_at hl 10 rfl) ?_
              refine lv_iconst (v := nI 1) hx hb dL_law_439 (by decide) ?_
              refine va_iald hx hb hK hP 2 0 rfl rfl (xin (by omega) (by omega)) dL_law_440 ?_
              refine x_top (fm 1) (by rw [nI_clamp (by omega)]) ?_
              refine x_top (nI o) (hm1) ?_
              refine lv_iload hx hb dL_law_441 (lv_at hl 0 rfl) ?_
              refine lv_aload hx hb dL_law_443 (lv_at hl 10 rfl) ?_
              refine lv_iconst (v := nI 0) hx hb dL_law_445 (by decide) ?_
              refine va_iald hx hb hK hP 2 0 rfl rfl (xin (by omega) (by omega)) dL_law_446 ?_
              refine x_top (fm 0) (by rw [nI_clamp (by omega)]) ?_
              refine x_top (nI ld) (hm0) ?_
              refine lv_aload hx hb dL_law_447 (lv_at hl 10 rfl) ?_
              refine lv_iconst (v := nI 1) hx hb dL_law_449 (by decide) ?_
              refine va_iald hx hb hK hP 2 0 rfl rfl (xin (by omega) (by omega)) dL_law_450 ?_
              refine x_top (fm 1) (by rw [nI_clamp (by omega)]) ?_
              refine x_top (nI o) (hm1) ?_
              refine lv_isub hx hb dL_law_451 ?_
              refine x_top (nI (ld - o)) (xsub (by omega)) ?_
              refine lv_iconst (v := nI 1) hx hb dL_law_452 (by decide) ?_
              refine lv_iadd hx hb dL_law_453 ?_
              refine x_top (nI ((ld - o) + 1)) (xadd (by omega)) ?_
              refine lv_irem hx hb dL_law_454 (nI_ne0 (by omega) (by omega)) ?_
              refine x_top (nI (((z / 32) / 12) % ((ld - o) + 1))) (pk_rem (by omega) (by omega) (by omega)) ?_
              refine lv_iadd hx hb dL_law_455 ?_
              refine x_top (nI (o + (((z / 32) / 12) % ((ld - o) + 1)))) (xadd (by omega)) ?_
              have hmd := Nat.mod_lt (z / 32 / 12) (show 0 < (ld - o) + 1 by omega)
              obtain ⟨d, hd1, hd2, ed⟩ : ∃ d, o ≤ d ∧ d ≤ ld ∧ o + (((z / 32) / 12) % ((ld - o) + 1)) = d := ⟨_, by omega, by omega, rfl⟩
              refine x_top (nI d) (congrArg nI ed) ?_
              refine lv_istore (lv' := [(11, .int (nI d)), (10, .int (nI ((z / 32) / 12))), (9, .int (nI (z % 32))), (8, .int (nI (z / 32))), (7, .int (nI z)), (6, .int (nI i)), (5, .int (nI 1)), (0, .ref sb), (1, .ref x), (2, .ref ta), (3, .ref la), (4, .ref ma)]) hx hb dL_law_456 hl (by decide) rfl (fun ls hl => ?_)
              refine lv_iconst (v := nI 0) hx hb dL_law_458 (by decide) ?_
              refine lv_istore (lv' := [(12, .int (nI 0)), (11, .int (nI d)), (10, .int (nI ((z / 32) / 12))), (9, .int (nI (z % 32))), (8, .int (nI (z / 32))), (7, .int (nI z)), (6, .int (nI i)), (5, .int (nI 1)), (0, .ref sb), (1, .ref x), (2, .ref ta), (3, .ref la), (4, .ref ma)]) hx hb dL_law_459 hl (by decide) rfl (fun ls hl => ?_)
              refine lv_iconst (v := nI 0) hx hb dL_law_461 (by decide) ?_
              refine lv_istore (lv' := [(13, .int (nI 0)), (12, .int (nI 0)), (11, .int (nI d)), (10, .int (nI ((z / 32) / 12))), (9, .int (nI (z % 32))), (8, .int (nI (z / 32))), (7, .int (nI z)), (6, .int (nI i)), (5, .int (nI 1)), (0, .ref sb), (1, .ref x), (2, .ref ta), (3, .ref la), (4, .ref ma)]) hx hb dL_law_462 hl (by decide) rfl (fun ls hl => ?_)
              refine x_loopP (fun n2 ls => ∃ p9 : Nat, (p9 ≤ 6) ∧ (6 < p9 + n2) ∧ lv_has ls 14 [(13, .int (nI p9)), (12, .int (nI (dfN G d p9))), (11, .int (nI d)), (10, .int (nI ((z / 32) / 12))), (9, .int (nI (z % 32))), (8, .int (nI (z / 32))), (7, .int (nI z)), (6, .int (nI i)), (5, .int (nI 1)), (0, .ref sb), (1, .ref x), (2, .ref ta), (3, .ref la), (4, .ref ma)]) (7) ⟨0, by omega, by omega, lv_sub hl [0, 1, 2, 3, 4, 5, 6, 7, 8, 9, 10, 11, 12, 13] rfl⟩ (fun ls h => by obtain ⟨p9, hp9, hnp, -⟩ := h; omega) (fun n2 ls h ih2 => ?_)
              obtain ⟨p9, hp9, hnp, hl⟩ := h
              refine lv_iload hx hb dL_law_464 (lv_at hl 0 rfl) ?_
              refine lv_bipush (v := nI 6) hx hb dL_law_466 (by decide) ?_
              refine lv_icmp_ge (tgt := 508) hx hb dL_law_468 (by decide) (fun c468 => ?_) (fun c468 => ?_)
              · have c468 : 6 ≤ p9 := (xle (by omega) (by omega)).mp c468
                obtain rfl : p9 = 6 := by omega
                refine lv_aload hx hb dL_law_508 (lv_at hl 13 rfl) ?_
                refine lv_iconst (v := nI 2) hx hb dL_law_510 (by decide) ?_
                refine lv_iconst (v := (-1)) hx hb dL_law_511 (by decide) ?_
                refine va_iast hx hb hK hP hD hS 2 0 rfl rfl (xin (by omega) (by omega)) dL_law_512 (fun H locs hP hD hS => ?_)
                rw [nI_clamp (show 2 < 2 ^ 31 by omega)] at hP hD
                have hP : va_P D vwCl ((ta, .inl (cJ, 60, .inr (.inl ft))) :: (la, .inl (cJ, 6, .inr (.inl fl))) :: (ma, .inl (cI, 3, .inl (upd fm 2 ((-1))))) :: (x, .inr (1, [.ref lv, .ref kp, .int (nI o), .int (nI ld), .int (nI b), .int (nI k)])) :: (lv, .inl (cT, 6, .inr (.inr (.inr (.inr fL))))) :: (kp, .inl (cT, 246, .inr (.inr (.inr (.inr fK))))) :: FZ) H := hP
                have hD : va_D A ((ta, .inl (cJ, 60, .inr (.inl ft))) :: (la, .inl (cJ, 6, .inr (.inl fl))) :: (ma, .inl (cI, 3, .inl (upd fm 2 ((-1))))) :: (x, .inr (1, [.ref lv, .ref kp, .int (nI o), .int (nI ld), .int (nI b), .int (nI k)])) :: (lv, .inl (cT, 6, .inr (.inr (.inr (.inr fL))))) :: (kp, .inl (cT, 246, .inr (.inr (.inr (.inr fK))))) :: FZ) := hD
                have hT := hT0.kept (fun a h1 h2 => hS.2.1 a h1 (fun z => h2 (hAx a z)))
                have hPc : va_P D vwCl (CW cT x lv kp fL fK o ld b k FZ) H := xP_sub (fun _ h => m3c h) hP
                refine lv_aload_n hx hb dL_law_513 rfl (lv_at hl 10 rfl) ?_
                refine lv_bipush (v := nI 8) hx hb dL_law_514 (by decide) ?_
                refine lv_iload hx hb dL_law_516 (lv_at hl 2 rfl) ?_
                refine lv_iconst (v := nI 0) hx hb dL_law_518 (by decide) ?_
                refine lv_iconst (v := nI 0) hx hb dL_law_519 (by decide) ?_
                have hP : va_P D vwCl ([(ta, .inl (cJ, 60, .inr (.inl ft))), (la, .inl (cJ, 6, .inr (.inl fl))), (ma, .inl (cI, 3, .inl (upd fm 2 ((-1)))))] ++ (CW cT x lv kp fL fK o ld b k FZ)) H := hP
                have hD : va_D A ([(ta, .inl (cJ, 60, .inr (.inl ft))), (la, .inl (cJ, 6, .inr (.inl fl))), (ma, .inl (cI, 3, .inl (upd fm 2 ((-1)))))] ++ (CW cT x lv kp fL fK o ld b k FZ)) := hD
                have hDc : va_D (fun _ => True) (CW cT x lv kp fL fK o ld b k FZ) := (xD_sub (List.sublist_append_right _ _) hD).weaken (fun _ _ _ _ => trivial)
                have hFc := xfree (wc := (CW cT x lv kp fL fK o ld b k FZ)) hD hS hA (fun _ h => List.mem_append_right _ h)
                refine xcw (vx_runSX (As := [.ref x, .int (nI 8), .int (nI d), .int (nI 0), .int (nI 0)]) (rest := []) ⟨hx, hb, hml, hown, hts⟩ (g_restore l hst A x lv kp fL fK o ld b k FZ G hC (d := d) (by omega) (by omega) (nI 0) (nI 0) hld hold (H).size) (vx_cwSW 5 hts gL_law_L_act rfl rfl rfl (by decide +kernel) ⟨(Nat.le_of_ble_eq_true rfl), (Nat.le_of_ble_eq_true rfl)⟩) ⟨XPl_blind, XPl_pre hE hT hN ⟨rfl, hPc, hDc⟩⟩ rfl rfl hl.1 rfl (lv_room (Nat.le_of_ble_eq_true rfl)) dL_law_520 ⟨by show (_ : Nat) ≤ 864847; omega, by show (_ : Nat) ≤ 6506927; omega⟩) hS (fun q9 _ h => hFc q9 h) hFc (fun _ _ _ _ _ hp9 _ _ _ _ _ _ => False.elim hp9) (fun r9 u t9 H1 locs ht9 hvm9 hw9 hB9 hzc hkc hS => ?_)
                obtain ⟨hr9, hu9⟩ := hw9
                subst hr9 hu9
                obtain ⟨fL1, fK1, FZ1, hP1, hD1, hC1⟩ := hB9
                rw [ht9] at hP1
                have hP1 : va_P D vwCl (CW cT x lv kp fL1 fK1 o ld 0 0 FZ1) H1 := hP1
                have hD1 : va_D (va_A (CW cT x lv kp fL fK o ld b k FZ) (H).size) (CW cT x lv kp fL1 fK1 o ld 0 0 FZ1) := hD1
                obtain ⟨hP, hD⟩ := xjoin (wr := [(ta, .inl (cJ, 60, .inr (.inl ft))), (la, .inl (cJ, 6, .inr (.inl fl))), (ma, .inl (cI, 3, .inl (upd fm 2 ((-1)))))]) (wc := (CW cT x lv kp fL fK o ld b k FZ)) (w1 := (CW cT x lv kp fL1 fK1 o ld 0 0 FZ1)) hP hD hkc hFc hP1 hD1
                have hPc := hP1
                clear hP1 hD1 hzc hkc hFc hvm9 ht9
                generalize H1 = H at hP hS hPc ⊢
                have hT := hT0.kept (fun a h1 h2 => hS.2.1 a h1 (fun z => h2 (hAx a z)))
                have hP : va_P D vwCl ((ta, .inl (cJ, 60, .inr (.inl ft))) :: (la, .inl (cJ, 6, .inr (.inl fl))) :: (ma, .inl (cI, 3, .inl (upd fm 2 ((-1))))) :: (x, .inr (1, [.ref lv, .ref kp, .int (nI o), .int (nI ld), .int (nI 0), .int (nI 0)])) :: (lv, .inl (cT, 6, .inr (.inr (.inr (.inr fL1))))) :: (kp, .inl (cT, 246, .inr (.inr (.inr (.inr fK1))))) :: FZ1) H := hP
                have hD : va_D A ((ta, .inl (cJ, 60, .inr (.inl ft))) :: (la, .inl (cJ, 6, .inr (.inl fl))) :: (ma, .inl (cI, 3, .inl (upd fm 2 ((-1))))) :: (x, .inr (1, [.ref lv, .ref kp, .int (nI o), .int (nI ld), .int (nI 0), .int (nI 0)])) :: (lv, .inl (cT, 6, .inr (.inr (.inr (.inr fL1))))) :: (kp, .inl (cT, 246, .inr (.inr (.inr (.inr fK1))))) :: FZ1) := hD
                have hC1 : CA cI FZ1 fL1 fK1 ((cpL G d 6)) := hC1
                have hT := hT0.kept (fun a h1 h2 => hS.2.1 a h1 (fun z => h2 (hAx a z)))
                have hPc : va_P D vwCl (CW cT x lv kp fL1 fK1 o ld 0 0 FZ1) H := xP_sub (fun _ h => m3c h) hP
                refine lv_iload hx hb dL_law_523 (lv_at hl 1 rfl) ?_
                refine lv_icmp_ne (tgt := 532) hx hb dL_law_525 (by decide) (fun h => absurd rfl h) (fun _ => ?_)
                refine lv_iconst (v := nI 1) hx hb dL_law_528 (by decide) ?_
                refine lv_goto (tgt := 533) hx hb dL_law_529 (by decide) ?_
                refine lv_istore (lv' := [(5, .int (nI 1)), (13, .int (nI 6)), (12, .int (nI (dfN G d 6))), (11, .int (nI d)), (10, .int (nI ((z / 32) / 12))), (9, .int (nI (z % 32))), (8, .int (nI (z / 32))), (7, .int (nI z)), (6, .int (nI i)), (0, .ref sb), (1, .ref x), (2, .ref ta), (3, .ref la), (4, .ref ma)]) hx hb dL_law_533 hl (by decide) rfl (fun ls hl => ?_)
                refine lv_iconst (v := nI 0) hx hb dL_law_535 (by decide) ?_
                refine lv_istore (lv' := [(13, .int (nI 0)), (5, .int (nI 1)), (12, .int (nI (dfN G d 6))), (11, .int (nI d)), (10, .int (nI ((z / 32) / 12))), (9, .int (nI (z % 32))), (8, .int (nI (z / 32))), (7, .int (nI z)), (6, .int (nI i)), (0, .ref sb), (1, .ref x), (2, .ref ta), (3, .ref la), (4, .ref ma)]) hx hb dL_law_536 hl (by decide) rfl (fun ls hl => ?_)
                refine x_loopP (fun n3 ls => ∃ p8 : Nat, (p8 ≤ 6) ∧ (6 < p8 + n3) ∧ lv_has ls 14 [(13, .int (nI p8)), (5, .int (nI 1)), (12, .int (nI (dfN G d 6))), (11, .int (nI d)), (10, .int (nI ((z / 32) / 12))), (9, .int (nI (z % 32))), (8, .int (nI (z / 32))), (7, .int (nI z)), (6, .int (nI i)), (0, .ref sb), (1, .ref x), (2, .ref ta), (3, .ref la), (4, .ref ma)]) (7) ⟨0, by omega, by omega, lv_sub hl [0, 1, 2, 3, 4, 5, 6, 7, 8, 9, 10, 11, 12, 13] rfl⟩ (fun ls h => by obtain ⟨p8, hp8, hnp, -⟩ := h; omega) (fun n3 ls h ih3 => ?_)
                obtain ⟨p8, hp8, hnp, hl⟩ := h
                refine lv_iload hx hb dL_law_538 (lv_at hl 0 rfl) ?_
                refine lv_bipush (v := nI 6) hx hb dL_law_540 (by decide) ?_
                refine lv_icmp_ge (tgt := 587) hx hb dL_law_542 (by decide) (fun c542 => ?_) (fun c542 => ?_)
                · have c542 : 6 ≤ p8 := (xle (by omega) (by omega)).mp c542
                  refine W.widen (k := 4000 + 700 * (91 - (n + 1)) + 64) (n := 20000 + 4000 * (91 - (n + 1)) + 400) (by omega) (by omega) ?_
                  exact J _ _ _ ⟨(cpL G d 6, o, ld, 0, 0), ⟨ft, fl, upd fm 2 ((-1)), fL1, fK1, FZ1, hP, hD, hC1, hI0.restore (by omega), hS⟩, lv_sub hl [1, 8, 7, 6, 9, 10, 11, 12, 13] rfl⟩
                · have c542 : ¬ 6 ≤ p8 := fun h => c542 ((xle (by omega) (by omega)).mpr h)
                  refine lv_iload hx hb dL_law_545 (lv_at hl 1 rfl) ?_
                  refine lv_if_eq (tgt := 587) hx hb dL_law_547 (by decide) (fun h => absurd h (by decide)) (fun _ => ?_)
                  refine lv_aload_n hx hb dL_law_550 rfl (lv_at hl 10 rfl) ?_
                  refine lv_iconst (v := (-1)) hx hb dL_law_551 (by decide) ?_
                  refine lv_iload hx hb dL_law_552 (lv_at hl 0 rfl) ?_
                  refine xc_sje (va_runS (As := [.ref x, .int ((-1)), .int (nI p8)]) (rest := []) ⟨hx, hb, hml, hown, hts⟩ (c_L_told l hst A x lv kp fL1 fK1 o ld 0 0 FZ1 ((cpL G d 6)) hC1 ((-1)) (nI p8) (246 + p8) (AT_l (by omega)) hld hold) (va_cwS 3 hts gL_law_L_told rfl rfl rfl (by decide +kernel) ⟨(Nat.le_of_ble_eq_true rfl), (Nat.le_of_ble_eq_true rfl)⟩) ⟨XPx_blind, XPx_pre hE hT hPc⟩ rfl rfl hl.1 rfl (lv_room (Nat.le_of_ble_eq_true rfl)) dL_law_554 ⟨by show (_ : Nat) ≤ 864847; omega, by show (_ : Nat) ≤ 6506927; omega⟩) ?_
                  refine x_topl (tlL (G (6 * d + p8)) 12) (by rw [cpL_live (by omega)]) ?_
                  refine lv_aload_n hx hb dL_law_557 rfl (lv_at hl 11 rfl) ?_
                  refine lv_bipush (v := nI 6) hx hb dL_law_558 (by decide) ?_
                  refine lv_iload hx hb dL_law_560 (lv_at hl 3 rfl) ?_
                  refine lv_bipush (v := nI 10) hx hb dL_law_562 (by decide) ?_
                  refine lv_irem hx hb dL_law_564 (by decide) ?_
                  refine x_top (nI (d % 10)) (pk_rem (by omega) (by omega) (by omega)) ?_
                  refine lv_imul hx hb dL_law_565 ?_
                  refine x_top (nI (6 * (d % 10))) (pk_mul _ _) ?_
                  refine lv_iload hx hb dL_law_566 (lv_at hl 0 rfl) ?_
                  refine lv_iadd hx hb dL_law_568 ?_
                  refine x_top (nI ((6 * (d % 10)) + p8)) (xadd (by omega)) ?_
                  refine va_lald hx hb hK hP 0 2 rfl rfl (xin (by omega) (by omega)) dL_law_569 ?_
                  refine x_topl (tlL (G (6 * d + p8)) 12) (by rw [nI_clamp (by omega)]; exact ht d p8 hd1 hd2 (by omega)) ?_
                  refine W.lcmp hx hb dL_law_570 ?_
                  refine x_top (nI 0) (lg_self _) ?_
                  refine lv_if_ne (tgt := 578) hx hb dL_law_571 (by decide) (fun h => absurd h (by decide)) (fun _ => ?_)
                  refine lv_iconst (v := nI 1) hx hb dL_law_574 (by decide) ?_
                  refine lv_goto (tgt := 579) hx hb dL_law_575 (by decide) ?_
                  refine lv_istore (lv' := [(5, .int (nI 1)), (13, .int (nI p8)), (12, .int (nI (dfN G d 6))), (11, .int (nI d)), (10, .int (nI ((z / 32) / 12))), (9, .int (nI (z % 32))), (8, .int (nI (z / 32))), (7, .int (nI z)), (6, .int (nI i)), (0, .ref sb), (1, .ref x), (2, .ref ta), (3, .ref la), (4, .ref ma)]) hx hb dL_law_579 hl (by decide) rfl (fun ls hl => ?_)
                  refine lv_iinc (v := nI (p8 + 1)) (lv' := [(13, .int (nI (p8 + 1))), (5, .int (nI 1)), (12, .int (nI (dfN G d 6))), (11, .int (nI d)), (10, .int (nI ((z / 32) / 12))), (9, .int (nI (z % 32))), (8, .int (nI (z / 32))), (7, .int (nI z)), (6, .int (nI i)), (0, .ref sb), (1, .ref x), (2, .ref ta), (3, .ref la), (4, .ref ma)]) hx hb dL_law_581 hl (k := 1) rfl (xinc _ 1 _ (by decide)) (by decide) rfl (fun ls hl => ?_)
                  refine lv_goto (tgt := 538) hx hb dL_law_584 (by decide) ?_
                  exact ih3 _ ⟨p8 + 1, by omega, by omega, lv_sub hl [0, 1, 2, 3, 4, 5, 6, 7, 8, 9, 10, 11, 12, 13] rfl⟩
              · have c468 : ¬ 6 ≤ p9 := fun h => c468 ((xle (by omega) (by omega)).mpr h)
                refine lv_iload hx hb dL_law_471 (lv_at hl 1 rfl) ?_
                refine lv_aload_n hx hb dL_law_473 rfl (lv_at hl 11 rfl) ?_
                refine lv_bipush (v := nI 6) hx hb dL_law_474 (by decide) ?_
                refine lv_iload hx hb dL_law_476 (lv_at hl 2 rfl) ?_
                refine lv_bipush (v := nI 10) hx hb dL_law_478 (by decide) ?_
                refine lv_irem hx hb dL_law_480 (by decide) ?_
                refine x_top (nI (d % 10)) (pk_rem (by omega) (by omega) (by omega)) ?_
                refine lv_imul hx hb dL_law_481 ?_
                refine x_top (nI (6 * (d % 10))) (pk_mul _ _) ?_
                refine lv_iload hx hb dL_law_482 (lv_at hl 0 rfl) ?_
                refine lv_iadd hx hb dL_law_484 ?_
                refine x_top (nI ((6 * (d % 10)) + p9)) (xadd (by omega)) ?_
                refine va_lald hx hb hK hP 0 2 rfl rfl (xin (by omega) (by omega)) dL_law_485 ?_
                refine x_topl (tlL (G (6 * d + p9)) 12) (by rw [nI_clamp (by omega)]; exact ht d p9 hd1 hd2 (by omega)) ?_
                refine lv_aload_n hx hb dL_law_486 rfl (lv_at hl 12 rfl) ?_
                refine lv_iload hx hb dL_law_487 (lv_at hl 0 rfl) ?_
                refine va_lald hx hb hK hP 1 2 rfl rfl (xin (by omega) (by omega)) dL_law_489 ?_
                refine x_topl (tlL (G (246 + p9)) 12) (by rw [nI_clamp (by omega)]; exact hL p9 (by omega)) ?_
                refine W.lcmp hx hb dL_law_490 ?_
                refine x_join (ls := ls) 499 [.int (nI (bN (!sameB (G (6 * d + p9)) (G (246 + p9))))), .int (nI (dfN G d p9))] ?_ (fun J => ?_)
                · refine lv_iadd hx hb dL_law_499 ?_
                  refine x_top (nI (dfN G d (p9 + 1))) (by rw [nI_add]; rfl) ?_
                  refine lv_istore (lv' := [(12, .int (nI (dfN G d (p9 + 1)))), (13, .int (nI p9)), (11, .int (nI d)), (10, .int (nI ((z / 32) / 12))), (9, .int (nI (z % 32))), (8, .int (nI (z / 32))), (7, .int (nI z)), (6, .int (nI i)), (5, .int (nI 1)), (0, .ref sb), (1, .ref x), (2, .ref ta), (3, .ref la), (4, .ref ma)]) hx hb dL_law_500 hl (by decide) rfl (fun ls hl => ?_)
                  refine lv_iinc (v := nI (p9 + 1)) (lv' := [(13, .int (nI (p9 + 1))), (12, .int (nI (dfN G d (p9 + 1)))), (11, .int (nI d)), (10, .int (nI ((z / 32) / 12))), (9, .int (nI (z % 32))), (8, .int (nI (z / 32))), (7, .int (nI z)), (6, .int (nI i)), (5, .int (nI 1)), (0, .ref sb), (1, .ref x), (2, .ref ta), (3, .ref la), (4, .ref ma)]) hx hb dL_law_502 hl (k := 1) rfl (xinc _ 1 _ (by decide)) (by decide) rfl (fun ls hl => ?_)
                  refine lv_goto (tgt := 464) hx hb dL_law_505 (by decide) ?_
                  exact ih2 _ ⟨p9 + 1, by omega, by omega, lv_sub hl [0, 1, 2, 3, 4, 5, 6, 7, 8, 9, 10, 11, 12, 13] rfl⟩
                · refine lv_if_ne (tgt := 498) hx hb dL_law_491 (by decide) (fun c491 => ?_) (fun c491 => ?_)
                  · refine lv_iconst (v := nI 1) hx hb dL_law_498 (by decide) ?_
                    refine x_top (nI (bN (!sameB (G (6 * d + p9)) (G (246 + p9))))) (by rw [lc_ne (hWG _ (by omega)) (hWG _ (by omega)) c491]; rfl) ?_
                    exact J
                  · refine lv_iconst (v := nI 0) hx hb dL_law_494 (by decide) ?_
                    refine lv_goto (tgt := 499) hx hb dL_law_495 (by decide) ?_
                    refine x_top (nI (bN (!sameB (G (6 * d + p9)) (G (246 + p9))))) (by rw [lc_eq (hWG _ (by omega)) (hWG _ (by omega)) c491]; rfl) ?_
                    exact J
            · have c323 : (z % 32) = 29 := (xeq (by omega) (by omega)).mp c323
              refine lv_iconst (v := nI 1) hx hb dL_law_326 (by decide) ?_
              refine lv_iload hx hb dL_law_327 (lv_at hl 0 rfl) ?_
              refine lv_iconst (v := nI 3) hx hb dL_law_329 (by decide) ?_
              refine lv_irem hx hb dL_law_330 (by decide) ?_
              refine x_top (nI (((z / 32) / 12) % 3)) (pk_rem (by omega) (by omega) (by omega)) ?_
              refine lv_iadd hx hb dL_law_331 ?_
              refine x_top (nI (1 + (((z / 32) / 12) % 3))) (xadd (by omega)) ?_
              refine lv_istore (lv' := [(11, .int (nI (1 + (((z / 32) / 12) % 3)))), (10, .int (nI ((z / 32) / 12))), (9, .int (nI (z % 32))), (8, .int (nI (z / 32))), (7, .int (nI z)), (6, .int (nI i)), (5, .int (nI 1)), (0, .ref sb), (1, .ref x), (2, .ref ta), (3, .ref la), (4, .ref ma)]) hx hb dL_law_332 hl (by decide) rfl (fun ls hl => ?_)
              refine lv_aload hx hb dL_law_334 (lv_at hl 11 rfl) ?_
              refine lv_iconst (v := nI 1) hx hb dL_law_336 (by decide) ?_
              refine va_iald hx hb hK hP 2 0 rfl rfl (xin (by omega) (by omega)) dL_law_337 ?_
              refine x_top (fm 1) (by rw [nI_clamp (by omega)]) ?_
              refine x_top (nI o) (hm1) ?_
              refine lv_iload hx hb dL_law_338 (lv_at hl 0 rfl) ?_
              refine lv_iadd hx hb dL_law_340 ?_
              refine x_top (nI (o + (1 + (((z / 32) / 12) % 3)))) (xadd (by omega)) ?_
              refine lv_aload hx hb dL_law_341 (lv_at hl 11 rfl) ?_
              refine lv_iconst (v := nI 0) hx hb dL_law_343 (by decide) ?_
              refine va_iald hx hb hK hP 2 0 rfl rfl (xin (by omega) (by omega)) dL_law_344 ?_
              refine x_top (fm 0) (by rw [nI_clamp (by omega)]) ?_
              refine x_top (nI ld) (hm0) ?_
              refine lv_icmp_gt (tgt := 352) hx hb dL_law_345 (by decide) (fun c345 => ?_) (fun c345 => ?_)
              · have c345 : ld < (o + (1 + (((z / 32) / 12) % 3))) := (xlt (by omega) (by omega)).mp c345
                refine lv_iconst (v := nI 0) hx hb dL_law_352 (by decide) ?_
                refine lv_istore (lv' := [(12, .int (nI 0)), (11, .int (nI (1 + (((z / 32) / 12) % 3)))), (10, .int (nI ((z / 32) / 12))), (9, .int (nI (z % 32))), (8, .int (nI (z / 32))), (7, .int (nI z)), (6, .int (nI i)), (5, .int (nI 1)), (0, .ref sb), (1, .ref x), (2, .ref ta), (3, .ref la), (4, .ref ma)]) hx hb dL_law_353 hl (by decide) rfl (fun ls hl => ?_)
                refine lv_aload hx hb dL_law_355 (lv_at hl 12 rfl) ?_
                refine lv_iconst (v := nI 1) hx hb dL_law_357 (by decide) ?_
                refine lv_dup2_11 hx hb dL_law_358 rfl rfl ?_
                refine va_iald hx hb hK hP 2 0 rfl rfl (xin (by omega) (by omega)) dL_law_359 ?_
                refine x_top (fm 1) (by rw [nI_clamp (by omega)]) ?_
                refine x_top (nI o) (hm1) ?_
                refine lv_iload hx hb dL_law_360 (lv_at hl 0 rfl) ?_
                refine lv_if_eq (tgt := 370) hx hb dL_law_362 (by decide) (fun _ => ?_) (fun h => absurd h (by decide))
                refine lv_iconst (v := nI 0) hx hb dL_law_370 (by decide) ?_
                refine lv_iadd hx hb dL_law_371 ?_
                refine x_top (nI o) (xadd (by omega)) ?_
                refine va_iast hx hb hK hP hD hS 2 0 rfl rfl (xin (by omega) (by omega)) dL_law_372 (fun H locs hP hD hS => ?_)
                rw [nI_clamp (show 1 < 2 ^ 31 by omega)] at hP hD
                have hP : va_P D vwCl ((ta, .inl (cJ, 60, .inr (.inl ft))) :: (la, .inl (cJ, 6, .inr (.inl fl))) :: (ma, .inl (cI, 3, .inl (upd fm 1 (nI o)))) :: (x, .inr (1, [.ref lv, .ref kp, .int (nI o), .int (nI ld), .int (nI b), .int (nI k)])) :: (lv, .inl (cT, 6, .inr (.inr (.inr (.inr fL))))) :: (kp, .inl (cT, 246, .inr (.inr (.inr (.inr fK))))) :: FZ) H := hP
                have hD : va_D A ((ta, .inl (cJ, 60, .inr (.inl ft))) :: (la, .inl (cJ, 6, .inr (.inl fl))) :: (ma, .inl (cI, 3, .inl (upd fm 1 (nI o)))) :: (x, .inr (1, [.ref lv, .ref kp, .int (nI o), .int (nI ld), .int (nI b), .int (nI k)])) :: (lv, .inl (cT, 6, .inr (.inr (.inr (.inr fL))))) :: (kp, .inl (cT, 246, .inr (.inr (.inr (.inr fK))))) :: FZ) := hD
                have hT := hT0.kept (fun a h1 h2 => hS.2.1 a h1 (fun z => h2 (hAx a z)))
                have hPc : va_P D vwCl (CW cT x lv kp fL fK o ld b k FZ) H := xP_sub (fun _ h => m3c h) hP
                refine lv_aload hx hb dL_law_373 (lv_at hl 12 rfl) ?_
                refine lv_iconst (v := nI 2) hx hb dL_law_375 (by decide) ?_
                refine lv_iload hx hb dL_law_376 (lv_at hl 0 rfl) ?_
                refine lv_if_eq (tgt := 385) hx hb dL_law_378 (by decide) (fun _ => ?_) (fun h => absurd h (by decide))
                refine lv_aload hx hb dL_law_385 (lv_at hl 12 rfl) ?_
                refine lv_iconst (v := nI 2) hx hb dL_law_387 (by decide) ?_
                refine va_iald hx hb hK hP 2 0 rfl rfl (xin (by omega) (by omega)) dL_law_388 ?_
                refine x_top ((upd fm 1 (nI o)) 2) (by rw [nI_clamp (by omega)]) ?_
                refine x_top (fm 2) (pk_un (by decide)) ?_
                refine va_iast hx hb hK hP hD hS 2 0 rfl rfl (xin (by omega) (by omega)) dL_law_389 (fun H locs hP hD hS => ?_)
                rw [nI_clamp (show 2 < 2 ^ 31 by omega)] at hP hD
                have hP : va_P D vwCl ((ta, .inl (cJ, 60, .inr (.inl ft))) :: (la, .inl (cJ, 6, .inr (.inl fl))) :: (ma, .inl (cI, 3, .inl (upd (upd fm 1 (nI o)) 2 (fm 2)))) :: (x, .inr (1, [.ref lv, .ref kp, .int (nI o), .int (nI ld), .int (nI b), .int (nI k)])) :: (lv, .inl (cT, 6, .inr (.inr (.inr (.inr fL))))) :: (kp, .inl (cT, 246, .inr (.inr (.inr (.inr fK))))) :: FZ) H := hP
                have hD : va_D A ((ta, .inl (cJ, 60, .inr (.inl ft))) :: (la, .inl (cJ, 6, .inr (.inl fl))) :: (ma, .inl (cI, 3, .inl (upd (upd fm 1 (nI o)) 2 (fm 2)))) :: (x, .inr (1, [.ref lv, .ref kp, .int (nI o), .int (nI ld), .int (nI b), .int (nI k)])) :: (lv, .inl (cT, 6, .inr (.inr (.inr (.inr fL))))) :: (kp, .inl (cT, 246, .inr (.inr (.inr (.inr fK))))) :: FZ) := hD
                have hT := hT0.kept (fun a h1 h2 => hS.2.1 a h1 (fun z => h2 (hAx a z)))
                have hPc : va_P D vwCl (CW cT x lv kp fL fK o ld b k FZ) H := xP_sub (fun _ h => m3c h) hP
                refine lv_aload_n hx hb dL_law_390 rfl (lv_at hl 9 rfl) ?_
                refine lv_bipush (v := nI 7) hx hb dL_law_391 (by decide) ?_
                refine lv_iload hx hb dL_law_393 (lv_at hl 1 rfl) ?_
                refine lv_iconst (v := nI 0) hx hb dL_law_395 (by decide) ?_
                refine lv_iconst (v := nI 0) hx hb dL_law_396 (by decide) ?_
                have hDc : va_D (fun _ => True) (CW cT x lv kp fL fK o ld b k FZ) := (xD_sub (List.sublist_append_right [(ta, .inl (cJ, 60, .inr (.inl ft))), (la, .inl (cJ, 6, .inr (.inl fl))), (ma, .inl (cI, 3, .inl (upd (upd fm 1 (nI o)) 2 (fm 2))))] _) hD).weaken (fun _ _ _ _ => trivial)
                refine xcri (vx_runSX (As := [.ref x, .int (nI 7), .int (nI (1 + (((z / 32) / 12) % 3))), .int (nI 0), .int (nI 0)]) (rest := []) ⟨hx, hb, hml, hown, hts⟩ (a_thin_S l hst A x lv kp fL fK o ld b k FZ G hC (1 + (((z / 32) / 12) % 3)) (nI 0) (nI 0) (by omega) (by omega) (by omega) hld hold) (vx_cwSW 5 hts gL_law_L_act rfl rfl rfl (by decide +kernel) ⟨(Nat.le_of_ble_eq_true rfl), (Nat.le_of_ble_eq_true rfl)⟩) ⟨XPl_blind, XPl_pre hE hT hN ⟨hPc, hDc⟩⟩ rfl rfl hl.1 rfl (lv_room (Nat.le_of_ble_eq_true rfl)) dL_law_397 ⟨by show (_ : Nat) ≤ 864847; omega, by show (_ : Nat) ≤ 6506927; omega⟩) (fun r9 H1 hr9 hz9 hk9 => ?_)
                subst hr9
                have hP := xkept hP hk9
                have hPc := xkept hPc hk9
                have hS := xS_kept hS hz9 hk9
                clear hz9 hk9
                generalize H1 = H at hP hPc hS ⊢
                have hT := hT0.kept (fun a h1 h2 => hS.2.1 a h1 (fun z => h2 (hAx a z)))
                refine lv_iload hx hb dL_law_400 (lv_at hl 0 rfl) ?_
                refine lv_if_eq (tgt := 412) hx hb dL_law_402 (by decide) (fun _ => ?_) (fun h => absurd h (by decide))
                refine lv_sipush (v := (-1163)) hx hb dL_law_412 (by decide) ?_
                refine lv_icmp_ne (tgt := 431) hx hb dL_law_415 (by decide) (fun h => absurd h (by decide)) (fun _ => ?_)
                refine lv_aload_n hx hb dL_law_418 rfl (lv_at hl 9 rfl) ?_
                refine lv_aload_n hx hb dL_law_419 rfl (lv_at hl 11 rfl) ?_
                refine lv_iconst (v := (-1)) hx hb dL_law_420 (by decide) ?_
                have hPo : va_P D vwCl ((la, .inl (cJ, 6, .inr (.inl fl))) :: (CW cT x lv kp fL fK o ld b k FZ)) H := xP_sub (fun _ h => m3o h) hP
                refine xc_si2 (va_runS (As := [.ref x, .ref la, .int ((-1))]) (rest := []) ⟨hx, hb, hml, hown, hts⟩ (c_L_isOnly l hst A x lv kp fL fK o ld b k FZ G hC la fl ((-1)) (fun i hi _ => hL i hi) hld hold) (va_cwS 3 hts gL_law_L_isOnly rfl rfl rfl (by decide +kernel) ⟨(Nat.le_of_ble_eq_true rfl), (Nat.le_of_ble_eq_true rfl)⟩) ⟨XPx_blind, XPx_pre hE hT hPo⟩ rfl rfl hl.1 rfl (lv_room (Nat.le_of_ble_eq_true rfl)) dL_law_421 ⟨by show (_ : Nat) ≤ 864847; omega, by show (_ : Nat) ≤ 6506927; omega⟩) ?_
                refine lv_if_eq (tgt := 431) hx hb dL_law_424 (by decide) (fun h => absurd h (by decide)) (fun _ => ?_)
                refine lv_iconst (v := nI 1) hx hb dL_law_427 (by decide) ?_
                refine lv_goto (tgt := 432) hx hb dL_law_428 (by decide) ?_
                refine lv_istore (lv' := [(5, .int (nI 1)), (12, .int (nI 0)), (11, .int (nI (1 + (((z / 32) / 12) % 3)))), (10, .int (nI ((z / 32) / 12))), (9, .int (nI (z % 32))), (8, .int (nI (z / 32))), (7, .int (nI z)), (6, .int (nI i)), (0, .ref sb), (1, .ref x), (2, .ref ta), (3, .ref la), (4, .ref ma)]) hx hb dL_law_432 hl (by decide) rfl (fun ls hl => ?_)
                refine lv_goto (tgt := 587) hx hb dL_law_434 (by decide) ?_
                refine W.widen (k := 4000 + 700 * (91 - (n + 1)) + 64) (n := 20000 + 4000 * (91 - (n + 1)) + 400) (by omega) (by omega) ?_
                exact J _ _ _ ⟨(G, o, ld, b, k), ⟨ft, fl, upd (upd fm 1 (nI o)) 2 (fm 2), fL, fK, FZ, hP, hD, hC, hI0.thinN, hS⟩, lv_sub hl [0, 7, 6, 5, 8, 9, 10, 11, 12] rfl⟩
              · have c345 : ¬ ld < (o + (1 + (((z / 32) / 12) % 3))) := fun h => c345 ((xlt (by omega) (by omega)).mpr h)
                refine lv_iconst (v := nI 1) hx hb dL_law_348 (by decide) ?_
                refine lv_goto (tgt := 353) hx hb dL_law_349 (by decide) ?_
                refine lv_istore (lv' := [(12, .int (nI 1)), (11, .int (nI (1 + (((z / 32) / 12) % 3)))), (10, .int (nI ((z / 32) / 12))), (9, .int (nI (z % 32))), (8, .int (nI (z / 32))), (7, .int (nI z)), (6, .int (nI i)), (5, .int (nI 1)), (0, .ref sb), (1, .ref x), (2, .ref ta), (3, .ref la), (4, .ref ma)]) hx hb dL_law_353 hl (by decide) rfl (fun ls hl => ?_)
                refine lv_aload hx hb dL_law_355 (lv_at hl 12 rfl) ?_
                refine lv_iconst (v := nI 1) hx hb dL_law_357 (by decide) ?_
                refine lv_dup2_11 hx hb dL_law_358 rfl rfl ?_
                refine va_iald hx hb hK hP 2 0 rfl rfl (xin (by omega) (by omega)) dL_law_359 ?_
                refine x_top (fm 1) (by rw [nI_clamp (by omega)]) ?_
                refine x_top (nI o) (hm1) ?_
                refine lv_iload hx hb dL_law_360 (lv_at hl 0 rfl) ?_
                refine lv_if_eq (tgt := 370) hx hb dL_law_362 (by decide) (fun h => absurd h (by decide)) (fun _ => ?_)
                refine lv_iload hx hb dL_law_365 (lv_at hl 1 rfl) ?_
                refine lv_goto (tgt := 371) hx hb dL_law_367 (by decide) ?_
                refine lv_iadd hx hb dL_law_371 ?_
                refine x_top (nI (o + (1 + (((z / 32) / 12) % 3)))) (xadd (by omega)) ?_
                refine va_iast hx hb hK hP hD hS 2 0 rfl rfl (xin (by omega) (by omega)) dL_law_372 (fun H locs hP hD hS => ?_)
                rw [nI_clamp (show 1 < 2 ^ 31 by omega)] at hP hD
                have hP : va_P D vwCl ((ta, .inl (cJ, 60, .inr (.inl ft))) :: (la, .inl (cJ, 6, .inr (.inl fl))) :: (ma, .inl (cI, 3, .inl (upd fm 1 (nI (o + (1 + (((z / 32) / 12) % 3))))))) :: (x, .inr (1, [.ref lv, .ref kp, .int (nI o), .int (nI ld), .int (nI b), .int (nI k)])) :: (lv, .inl (cT, 6, .inr (.inr (.inr (.inr fL))))) :: (kp, .inl (cT, 246, .inr (.inr (.inr (.inr fK))))) :: FZ) H := hP
                have hD : va_D A ((ta, .inl (cJ, 60, .inr (.inl ft))) :: (la, .inl (cJ, 6, .inr (.inl fl))) :: (ma, .inl (cI, 3, .inl (upd fm 1 (nI (o + (1 + (((z / 32) / 12) % 3))))))) :: (x, .inr (1, [.ref lv, .ref kp, .int (nI o), .int (nI ld), .int (nI b), .int (nI k)])) :: (lv, .inl (cT, 6, .inr (.inr (.inr (.inr fL))))) :: (kp, .inl (cT, 246, .inr (.inr (.inr (.inr fK))))) :: FZ) := hD
                have hT := hT0.kept (fun a h1 h2 => hS.2.1 a h1 (fun z => h2 (hAx a z)))
                have hPc : va_P D vwCl (CW cT x lv kp fL fK o ld b k FZ) H := xP_sub (fun _ h => m3c h) hP
                refine lv_aload hx hb dL_law_373 (lv_at hl 12 rfl) ?_
                refine lv_iconst (v := nI 2) hx hb dL_law_375 (by decide) ?_
                refine lv_iload hx hb dL_law_376 (lv_at hl 0 rfl) ?_
                refine lv_if_eq (tgt := 385) hx hb dL_law_378 (by decide) (fun h => absurd h (by decide)) (fun _ => ?_)
                refine lv_iconst (v := (-1)) hx hb dL_law_381 (by decide) ?_
                refine lv_goto (tgt := 389) hx hb dL_law_382 (by decide) ?_
                refine va_iast hx hb hK hP hD hS 2 0 rfl rfl (xin (by omega) (by omega)) dL_law_389 (fun H locs hP hD hS => ?_)
                rw [nI_clamp (show 2 < 2 ^ 31 by omega)] at hP hD
                have hP : va_P D vwCl ((ta, .inl (cJ, 60, .inr (.inl ft))) :: (la, .inl (cJ, 6, .inr (.inl fl))) :: (ma, .inl (cI, 3, .inl (upd (upd fm 1 (nI (o + (1 + (((z / 32) / 12) % 3))))) 2 ((-1))))) :: (x, .inr (1, [.ref lv, .ref kp, .int (nI o), .int (nI ld), .int (nI b), .int (nI k)])) :: (lv, .inl (cT, 6, .inr (.inr (.inr (.inr fL))))) :: (kp, .inl (cT, 246, .inr (.inr (.inr (.inr fK))))) :: FZ) H := hP
                have hD : va_D A ((ta, .inl (cJ, 60, .inr (.inl ft))) :: (la, .inl (cJ, 6, .inr (.inl fl))) :: (ma, .inl (cI, 3, .inl (upd (upd fm 1 (nI (o + (1 + (((z / 32) / 12) % 3))))) 2 ((-1))))) :: (x, .inr (1, [.ref lv, .ref kp, .int (nI o), .int (nI ld), .int (nI b), .int (nI k)])) :: (lv, .inl (cT, 6, .inr (.inr (.inr (.inr fL))))) :: (kp, .inl (cT, 246, .inr (.inr (.inr (.inr fK))))) :: FZ) := hD
                have hT := hT0.kept (fun a h1 h2 => hS.2.1 a h1 (fun z => h2 (hAx a z)))
                have hPc : va_P D vwCl (CW cT x lv kp fL fK o ld b k FZ) H := xP_sub (fun _ h => m3c h) hP
                refine lv_aload_n hx hb dL_law_390 rfl (lv_at hl 9 rfl) ?_
                refine lv_bipush (v := nI 7) hx hb dL_law_391 (by decide) ?_
                refine lv_iload hx hb dL_law_393 (lv_at hl 1 rfl) ?_
                refine lv_iconst (v := nI 0) hx hb dL_law_395 (by decide) ?_
                refine lv_iconst (v := nI 0) hx hb dL_law_396 (by decide) ?_
                have hP : va_P D vwCl ([(ta, .inl (cJ, 60, .inr (.inl ft))), (la, .inl (cJ, 6, .inr (.inl fl))), (ma, .inl (cI, 3, .inl (upd (upd fm 1 (nI (o + (1 + (((z / 32) / 12) % 3))))) 2 ((-1)))))] ++ (CW cT x lv kp fL fK o ld b k FZ)) H := hP
                have hD : va_D A ([(ta, .inl (cJ, 60, .inr (.inl ft))), (la, .inl (cJ, 6, .inr (.inl fl))), (ma, .inl (cI, 3, .inl (upd (upd fm 1 (nI (o + (1 + (((z / 32) / 12) % 3))))) 2 ((-1)))))] ++ (CW cT x lv kp fL fK o ld b k FZ)) := hD
                have hDc : va_D (fun _ => True) (CW cT x lv kp fL fK o ld b k FZ) := (xD_sub (List.sublist_append_right _ _) hD).weaken (fun _ _ _ _ => trivial)
                have hFc := xfree (wc := (CW cT x lv kp fL fK o ld b k FZ)) hD hS hA (fun _ h => List.mem_append_right _ h)
                refine xcw (vx_runSX (As := [.ref x, .int (nI 7), .int (nI (1 + (((z / 32) / 12) % 3))), .int (nI 0), .int (nI 0)]) (rest := []) ⟨hx, hb, hml, hown, hts⟩ (g_thin l hst A x lv kp fL fK o ld b k FZ G hC (s9 := (1 + (((z / 32) / 12) % 3))) (by omega) (by omega) (by omega) (nI 0) (nI 0) hld hold (H).size) (vx_cwSW 5 hts gL_law_L_act rfl rfl rfl (by decide +kernel) ⟨(Nat.le_of_ble_eq_true rfl), (Nat.le_of_ble_eq_true rfl)⟩) ⟨XPl_blind, XPl_pre hE hT hN ⟨rfl, hPc, hDc⟩⟩ rfl rfl hl.1 rfl (lv_room (Nat.le_of_ble_eq_true rfl)) dL_law_397 ⟨by show (_ : Nat) ≤ 864847; omega, by show (_ : Nat) ≤ 6506927; omega⟩) hS (fun q9 _ h => hFc q9 h) hFc (fun _ _ _ _ _ hp9 _ _ _ _ _ _ => False.elim hp9) (fun r9 u t9 H1 locs ht9 hvm9 hw9 hB9 hzc hkc hS => ?_)
                obtain ⟨hr9, hu9⟩ := hw9
                subst hr9 hu9
                obtain ⟨fL1, fK1, FZ1, hP1, hD1, hC1⟩ := hB9
                rw [ht9] at hP1
                have hP1 : va_P D vwCl (CW cT x lv kp fL1 fK1 (o + (1 + (((z / 32) / 12) % 3))) ld 0 0 FZ1) H1 := hP1
                have hD1 : va_D (va_A (CW cT x lv kp fL fK o ld b k FZ) (H).size) (CW cT x lv kp fL1 fK1 (o + (1 + (((z / 32) / 12) % 3))) ld 0 0 FZ1) := hD1
                obtain ⟨hP, hD⟩ := xjoin (wr := [(ta, .inl (cJ, 60, .inr (.inl ft))), (la, .inl (cJ, 6, .inr (.inl fl))), (ma, .inl (cI, 3, .inl (upd (upd fm 1 (nI (o + (1 + (((z / 32) / 12) % 3))))) 2 ((-1)))))]) (wc := (CW cT x lv kp fL fK o ld b k FZ)) (w1 := (CW cT x lv kp fL1 fK1 (o + (1 + (((z / 32) / 12) % 3))) ld 0 0 FZ1)) hP hD hkc hFc hP1 hD1
                have hPc := hP1
                clear hP1 hD1 hzc hkc hFc hvm9 ht9
                generalize H1 = H at hP hS hPc ⊢
                have hT := hT0.kept (fun a h1 h2 => hS.2.1 a h1 (fun z => h2 (hAx a z)))
                have hP : va_P D vwCl ((ta, .inl (cJ, 60, .inr (.inl ft))) :: (la, .inl (cJ, 6, .inr (.inl fl))) :: (ma, .inl (cI, 3, .inl (upd (upd fm 1 (nI (o + (1 + (((z / 32) / 12) % 3))))) 2 ((-1))))) :: (x, .inr (1, [.ref lv, .ref kp, .int (nI (o + (1 + (((z / 32) / 12) % 3)))), .int (nI ld), .int (nI 0), .int (nI 0)])) :: (lv, .inl (cT, 6, .inr (.inr (.inr (.inr fL1))))) :: (kp, .inl (cT, 246, .inr (.inr (.inr (.inr fK1))))) :: FZ1) H := hP
                have hD : va_D A ((ta, .inl (cJ, 60, .inr (.inl ft))) :: (la, .inl (cJ, 6, .inr (.inl fl))) :: (ma, .inl (cI, 3, .inl (upd (upd fm 1 (nI (o + (1 + (((z / 32) / 12) % 3))))) 2 ((-1))))) :: (x, .inr (1, [.ref lv, .ref kp, .int (nI (o + (1 + (((z / 32) / 12) % 3)))), .int (nI ld), .int (nI 0), .int (nI 0)])) :: (lv, .inl (cT, 6, .inr (.inr (.inr (.inr fL1))))) :: (kp, .inl (cT, 246, .inr (.inr (.inr (.inr fK1))))) :: FZ1) := hD
                have hC1 : CA cI FZ1 fL1 fK1 G := hC1
                have hT := hT0.kept (fun a h1 h2 => hS.2.1 a h1 (fun z => h2 (hAx a z)))
                have hPc : va_P D vwCl (CW cT x lv kp fL1 fK1 (o + (1 + (((z / 32) / 12) % 3))) ld 0 0 FZ1) H := xP_sub (fun _ h => m3c h) hP
                have hold2 : o + (1 + (((z / 32) / 12) % 3)) ≤ ld := by omega
                refine lv_iload hx hb dL_law_400 (lv_at hl 0 rfl) ?_
                refine lv_if_eq (tgt := 412) hx hb dL_law_402 (by decide) (fun h => absurd h (by decide)) (fun _ => ?_)
                refine lv_aload hx hb dL_law_405 (lv_at hl 12 rfl) ?_
                refine lv_iconst (v := nI 1) hx hb dL_law_407 (by decide) ?_
                refine va_iald hx hb hK hP 2 0 rfl rfl (xin (by omega) (by omega)) dL_law_408 ?_
                refine x_top ((upd (upd fm 1 (nI (o + (1 + (((z / 32) / 12) % 3))))) 2 ((-1))) 1) (by rw [nI_clamp (by omega)]) ?_
                refine x_top (nI (o + (1 + (((z / 32) / 12) % 3)))) (by rw [pk_un (by decide)]; exact pk_us) ?_
                refine lv_goto (tgt := 415) hx hb dL_law_409 (by decide) ?_
                refine lv_icmp_ne (tgt := 431) hx hb dL_law_415 (by decide) (fun h => absurd rfl h) (fun _ => ?_)
                refine lv_aload_n hx hb dL_law_418 rfl (lv_at hl 9 rfl) ?_
                refine lv_aload_n hx hb dL_law_419 rfl (lv_at hl 11 rfl) ?_
                refine lv_iconst (v := (-1)) hx hb dL_law_420 (by decide) ?_
                have hPo : va_P D vwCl ((la, .inl (cJ, 6, .inr (.inl fl))) :: (CW cT x lv kp fL1 fK1 (o + (1 + (((z / 32) / 12) % 3))) ld 0 0 FZ1)) H := xP_sub (fun _ h => m3o h) hP
                refine xc_si2 (va_runS (As := [.ref x, .ref la, .int ((-1))]) (rest := []) ⟨hx, hb, hml, hown, hts⟩ (c_L_isOnly l hst A x lv kp fL1 fK1 (o + (1 + (((z / 32) / 12) % 3))) ld 0 0 FZ1 G hC1 la fl ((-1)) (fun i hi _ => hL i hi) hld hold2) (va_cwS 3 hts gL_law_L_isOnly rfl rfl rfl (by decide +kernel) ⟨(Nat.le_of_ble_eq_true rfl), (Nat.le_of_ble_eq_true rfl)⟩) ⟨XPx_blind, XPx_pre hE hT hPo⟩ rfl rfl hl.1 rfl (lv_room (Nat.le_of_ble_eq_true rfl)) dL_law_421 ⟨by show (_ : Nat) ≤ 864847; omega, by show (_ : Nat) ≤ 6506927; omega⟩) ?_
                refine lv_if_eq (tgt := 431) hx hb dL_law_424 (by decide) (fun h => absurd h (by decide)) (fun _ => ?_)
                refine lv_iconst (v := nI 1) hx hb dL_law_427 (by decide) ?_
                refine lv_goto (tgt := 432) hx hb dL_law_428 (by decide) ?_
                refine lv_istore (lv' := [(5, .int (nI 1)), (12, .int (nI 1)), (11, .int (nI (1 + (((z / 32) / 12) % 3)))), (10, .int (nI ((z / 32) / 12))), (9, .int (nI (z % 32))), (8, .int (nI (z / 32))), (7, .int (nI z)), (6, .int (nI i)), (0, .ref sb), (1, .ref x), (2, .ref ta), (3, .ref la), (4, .ref ma)]) hx hb dL_law_432 hl (by decide) rfl (fun ls hl => ?_)
                refine lv_goto (tgt := 587) hx hb dL_law_434 (by decide) ?_
                refine W.widen (k := 4000 + 700 * (91 - (n + 1)) + 64) (n := 20000 + 4000 * (91 - (n + 1)) + 400) (by omega) (by omega) ?_
                exact J _ _ _ ⟨(G, o + (1 + (((z / 32) / 12) % 3)), ld, 0, 0), ⟨ft, fl, upd (upd fm 1 (nI (o + (1 + (((z / 32) / 12) % 3))))) 2 ((-1)), fL1, fK1, FZ1, hP, hD, hC1, hI0.thin (by omega), hS⟩, lv_sub hl [0, 7, 6, 5, 8, 9, 10, 11, 12] rfl⟩
          · have c259 : ¬ 29 ≤ (z % 32) := fun h => c259 ((xle (by omega) (by omega)).mpr h)
            refine lv_aload hx hb dL_law_262 (lv_at hl 10 rfl) ?_
            refine lv_iconst (v := nI 2) hx hb dL_law_264 (by decide) ?_
            refine va_iald hx hb hK hP 2 0 rfl rfl (xin (by omega) (by omega)) dL_law_265 ?_
            refine x_top (fm 2) (by rw [nI_clamp (by omega)]) ?_
            refine x_join (ls := ls) 277 [.int (nI k)] ?_ (fun J => ?_)
            · refine lv_istore (lv' := [(11, .int (nI k)), (10, .int (nI ((z / 32) / 12))), (9, .int (nI (z % 32))), (8, .int (nI (z / 32))), (7, .int (nI z)), (6, .int (nI i)), (5, .int (nI 1)), (0, .ref sb), (1, .ref x), (2, .ref ta), (3, .ref la), (4, .ref ma)]) hx hb dL_law_277 hl (by decide) rfl (fun ls hl => ?_)
              refine lv_aload hx hb dL_law_279 (lv_at hl 11 rfl) ?_
              refine lv_iconst (v := nI 2) hx hb dL_law_281 (by decide) ?_
              refine lv_iconst (v := (-1)) hx hb dL_law_282 (by decide) ?_
              refine va_iast hx hb hK hP hD hS 2 0 rfl rfl (xin (by omega) (by omega)) dL_law_283 (fun H locs hP hD hS => ?_)
              rw [nI_clamp (show 2 < 2 ^ 31 by omega)] at hP hD
              have hP : va_P D vwCl ((ta, .inl (cJ, 60, .inr (.inl ft))) :: (la, .inl (cJ, 6, .inr (.inl fl))) :: (ma, .inl (cI, 3, .inl (upd fm 2 ((-1))))) :: (x, .inr (1, [.ref lv, .ref kp, .int (nI o), .int (nI ld), .int (nI b), .int (nI k)])) :: (lv, .inl (cT, 6, .inr (.inr (.inr (.inr fL))))) :: (kp, .inl (cT, 246, .inr (.inr (.inr (.inr fK))))) :: FZ) H := hP
              have hD : va_D A ((ta, .inl (cJ, 60, .inr (.inl ft))) :: (la, .inl (cJ, 6, .inr (.inl fl))) :: (ma, .inl (cI, 3, .inl (upd fm 2 ((-1))))) :: (x, .inr (1, [.ref lv, .ref kp, .int (nI o), .int (nI ld), .int (nI b), .int (nI k)])) :: (lv, .inl (cT, 6, .inr (.inr (.inr (.inr fL))))) :: (kp, .inl (cT, 246, .inr (.inr (.inr (.inr fK))))) :: FZ) := hD
              have hT := hT0.kept (fun a h1 h2 => hS.2.1 a h1 (fun z => h2 (hAx a z)))
              have hPc : va_P D vwCl (CW cT x lv kp fL fK o ld b k FZ) H := xP_sub (fun _ h => m3c h) hP
              refine lv_aload_n hx hb dL_law_284 rfl (lv_at hl 8 rfl) ?_
              have hP : va_P D vwCl ([(ta, .inl (cJ, 60, .inr (.inl ft))), (la, .inl (cJ, 6, .inr (.inl fl))), (ma, .inl (cI, 3, .inl (upd fm 2 ((-1)))))] ++ (CW cT x lv kp fL fK o ld b k FZ)) H := hP
              have hD : va_D A ([(ta, .inl (cJ, 60, .inr (.inl ft))), (la, .inl (cJ, 6, .inr (.inl fl))), (ma, .inl (cI, 3, .inl (upd fm 2 ((-1)))))] ++ (CW cT x lv kp fL fK o ld b k FZ)) := hD
              have hPw : va_P D vwCl (CW cT x lv kp fL fK o ld b k FZ) H := xP_sub (fun _ h => List.mem_append_right _ h) hP
              have hDw : va_D (fun _ => True) (CW cT x lv kp fL fK o ld b k FZ) := (xD_sub (List.sublist_append_right _ _) hD).weaken (fun _ _ _ _ => trivial)
              have hFc := xfree (wc := (CW cT x lv kp fL fK o ld b k FZ)) hD hS hA (fun _ h => List.mem_append_right _ h)
              refine va_calli (va_runV (As := []) (rest := []) ⟨hx, hb, hml, hown, hts⟩ (c_X1_mend l x lv kp fL fK o ld b k FZ H.size) (cwV 0 hts gL_law_X1_mend rfl rfl rfl (by decide +kernel) ⟨(Nat.le_of_ble_eq_true rfl), (Nat.le_of_ble_eq_true rfl)⟩) ⟨XP_blind, va_recv hK hPw (ci := 1) (q0 := 0) rfl rfl, XP_pre hE ⟨rfl, hPw, hDw⟩⟩ rfl rfl hl.1 rfl (lv_room (Nat.le_of_ble_eq_true rfl)) dL_law_285 ⟨by show (_ : Nat) ≤ 864847; omega, by show (_ : Nat) ≤ 6506927; omega⟩) hS (fun q9 _ h => hFc q9 h) hFc (fun r9 u9 t9 H1 locs ht9 hvm9 hw9 hB9 hzc hkc hS => ?_)
              subst hw9
              obtain ⟨hP1, hD1⟩ := hB9
              rw [ht9] at hP1
              have hP1 : va_P D vwCl (CW cT x lv kp fL fK o ld 0 0 FZ) H1 := hP1
              have hD1 : va_D (va_A (CW cT x lv kp fL fK o ld b k FZ) H.size) (CW cT x lv kp fL fK o ld 0 0 FZ) := hD1
              obtain ⟨hP, hD⟩ := xjoin (wr := [(ta, .inl (cJ, 60, .inr (.inl ft))), (la, .inl (cJ, 6, .inr (.inl fl))), (ma, .inl (cI, 3, .inl (upd fm 2 ((-1)))))]) (wc := (CW cT x lv kp fL fK o ld b k FZ)) (w1 := (CW cT x lv kp fL fK o ld 0 0 FZ)) hP hD hkc hFc hP1 hD1
              clear hP1 hD1 hzc hkc hFc hvm9 ht9
              generalize H1 = H at hP hS ⊢
              have hP : va_P D vwCl ((ta, .inl (cJ, 60, .inr (.inl ft))) :: (la, .inl (cJ, 6, .inr (.inl fl))) :: (ma, .inl (cI, 3, .inl (upd fm 2 ((-1))))) :: (x, .inr (1, [.ref lv, .ref kp, .int (nI o), .int (nI ld), .int (nI 0), .int (nI 0)])) :: (lv, .inl (cT, 6, .inr (.inr (.inr (.inr fL))))) :: (kp, .inl (cT, 246, .inr (.inr (.inr (.inr fK))))) :: FZ) H := hP
              have hD : va_D A ((ta, .inl (cJ, 60, .inr (.inl ft))) :: (la, .inl (cJ, 6, .inr (.inl fl))) :: (ma, .inl (cI, 3, .inl (upd fm 2 ((-1))))) :: (x, .inr (1, [.ref lv, .ref kp, .int (nI o), .int (nI ld), .int (nI 0), .int (nI 0)])) :: (lv, .inl (cT, 6, .inr (.inr (.inr (.inr fL))))) :: (kp, .inl (cT, 246, .inr (.inr (.inr (.inr fK))))) :: FZ) := hD
              have hT := hT0.kept (fun a h1 h2 => hS.2.1 a h1 (fun z => h2 (hAx a z)))
              have hPc : va_P D vwCl (CW cT x lv kp fL fK o ld 0 0 FZ) H := xP_sub (fun _ h => m3c h) hP
              refine lv_iload hx hb dL_law_288 (lv_at hl 0 rfl) ?_
              refine lv_icmp_ne (tgt := 313) hx hb dL_law_290 (by decide) (fun h => absurd rfl h) (fun _ => ?_)
              refine lv_aload_n hx hb dL_law_293 rfl (lv_at hl 8 rfl) ?_
              refine lv_aload_n hx hb dL_law_294 rfl (lv_at hl 10 rfl) ?_
              refine lv_iconst (v := (-1)) hx hb dL_law_295 (by decide) ?_
              have hPo : va_P D vwCl ((la, .inl (cJ, 6, .inr (.inl fl))) :: (CW cT x lv kp fL fK o ld 0 0 FZ)) H := xP_sub (fun _ h => m3o h) hP
              refine xc_si2 (va_runS (As := [.ref x, .ref la, .int ((-1))]) (rest := []) ⟨hx, hb, hml, hown, hts⟩ (c_L_isOnly l hst A x lv kp fL fK o ld 0 0 FZ G hC la fl ((-1)) (fun i hi _ => hL i hi) hld hold) (va_cwS 3 hts gL_law_L_isOnly rfl rfl rfl (by decide +kernel) ⟨(Nat.le_of_ble_eq_true rfl), (Nat.le_of_ble_eq_true rfl)⟩) ⟨XPx_blind, XPx_pre hE hT hPo⟩ rfl rfl hl.1 rfl (lv_room (Nat.le_of_ble_eq_true rfl)) dL_law_296 ⟨by show (_ : Nat) ≤ 864847; omega, by show (_ : Nat) ≤ 6506927; omega⟩) ?_
              refine lv_if_eq (tgt := 313) hx hb dL_law_299 (by decide) (fun h => absurd h (by decide)) (fun _ => ?_)
              refine lv_aload_n hx hb dL_law_302 rfl (lv_at hl 8 rfl) ?_
              have hP : va_P D vwCl ([(ta, .inl (cJ, 60, .inr (.inl ft))), (la, .inl (cJ, 6, .inr (.inl fl))), (ma, .inl (cI, 3, .inl (upd fm 2 ((-1)))))] ++ (CW cT x lv kp fL fK o ld 0 0 FZ)) H := hP
              have hD : va_D A ([(ta, .inl (cJ, 60, .inr (.inl ft))), (la, .inl (cJ, 6, .inr (.inl fl))), (ma, .inl (cI, 3, .inl (upd fm 2 ((-1)))))] ++ (CW cT x lv kp fL fK o ld 0 0 FZ)) := hD
              have hPw : va_P D vwCl (CW cT x lv kp fL fK o ld 0 0 FZ) H := xP_sub (fun _ h => List.mem_append_right _ h) hP
              have hDw : va_D (fun _ => True) (CW cT x lv kp fL fK o ld 0 0 FZ) := (xD_sub (List.sublist_append_right _ _) hD).weaken (fun _ _ _ _ => trivial)
              have hFc := xfree (wc := (CW cT x lv kp fL fK o ld 0 0 FZ)) hD hS hA (fun _ h => List.mem_append_right _ h)
              refine va_calli (va_runV (As := []) (rest := []) ⟨hx, hb, hml, hown, hts⟩ (c_X1_mend l x lv kp fL fK o ld 0 0 FZ H.size) (cwV 0 hts gL_law_X1_mend rfl rfl rfl (by decide +kernel) ⟨(Nat.le_of_ble_eq_true rfl), (Nat.le_of_ble_eq_true rfl)⟩) ⟨XP_blind, va_recv hK hPw (ci := 1) (q0 := 0) rfl rfl, XP_pre hE ⟨rfl, hPw, hDw⟩⟩ rfl rfl hl.1 rfl (lv_room (Nat.le_of_ble_eq_true rfl)) dL_law_303 ⟨by show (_ : Nat) ≤ 864847; omega, by show (_ : Nat) ≤ 6506927; omega⟩) hS (fun q9 _ h => hFc q9 h) hFc (fun r9 u9 t9 H1 locs ht9 hvm9 hw9 hB9 hzc hkc hS => ?_)
              subst hw9
              obtain ⟨hP1, hD1⟩ := hB9
              rw [ht9] at hP1
              have hP1 : va_P D vwCl (CW cT x lv kp fL fK o ld 0 0 FZ) H1 := hP1
              have hD1 : va_D (va_A (CW cT x lv kp fL fK o ld 0 0 FZ) H.size) (CW cT x lv kp fL fK o ld 0 0 FZ) := hD1
              obtain ⟨hP, hD⟩ := xjoin (wr := [(ta, .inl (cJ, 60, .inr (.inl ft))), (la, .inl (cJ, 6, .inr (.inl fl))), (ma, .inl (cI, 3, .inl (upd fm 2 ((-1)))))]) (wc := (CW cT x lv kp fL fK o ld 0 0 FZ)) (w1 := (CW cT x lv kp fL fK o ld 0 0 FZ)) hP hD hkc hFc hP1 hD1
              clear hP1 hD1 hzc hkc hFc hvm9 ht9
              generalize H1 = H at hP hS ⊢
              have hP : va_P D vwCl ((ta, .inl (cJ, 60, .inr (.inl ft))) :: (la, .inl (cJ, 6, .inr (.inl fl))) :: (ma, .inl (cI, 3, .inl (upd fm 2 ((-1))))) :: (x, .inr (1, [.ref lv, .ref kp, .int (nI o), .int (nI ld), .int (nI 0), .int (nI 0)])) :: (lv, .inl (cT, 6, .inr (.inr (.inr (.inr fL))))) :: (kp, .inl (cT, 246, .inr (.inr (.inr (.inr fK))))) :: FZ) H := hP
              have hD : va_D A ((ta, .inl (cJ, 60, .inr (.inl ft))) :: (la, .inl (cJ, 6, .inr (.inl fl))) :: (ma, .inl (cI, 3, .inl (upd fm 2 ((-1))))) :: (x, .inr (1, [.ref lv, .ref kp, .int (nI o), .int (nI ld), .int (nI 0), .int (nI 0)])) :: (lv, .inl (cT, 6, .inr (.inr (.inr (.inr fL))))) :: (kp, .inl (cT, 246, .inr (.inr (.inr (.inr fK))))) :: FZ) := hD
              have hT := hT0.kept (fun a h1 h2 => hS.2.1 a h1 (fun z => h2 (hAx a z)))
              have hPc : va_P D vwCl (CW cT x lv kp fL fK o ld 0 0 FZ) H := xP_sub (fun _ h => m3c h) hP
              refine lv_if_ne (tgt := 313) hx hb dL_law_306 (by decide) (fun h => absurd h (by decide)) (fun _ => ?_)
              refine lv_iconst (v := nI 1) hx hb dL_law_309 (by decide) ?_
              refine lv_goto (tgt := 314) hx hb dL_law_310 (by decide) ?_
              refine lv_istore (lv' := [(5, .int (nI 1)), (11, .int (nI k)), (10, .int (nI ((z / 32) / 12))), (9, .int (nI (z % 32))), (8, .int (nI (z / 32))), (7, .int (nI z)), (6, .int (nI i)), (0, .ref sb), (1, .ref x), (2, .ref ta), (3, .ref la), (4, .ref ma)]) hx hb dL_law_314 hl (by decide) rfl (fun ls hl => ?_)
              refine lv_goto (tgt := 587) hx hb dL_law_316 (by decide) ?_
              refine W.widen (k := 4000 + 700 * (91 - (n + 1)) + 64) (n := 20000 + 4000 * (91 - (n + 1)) + 400) (by omega) (by omega) ?_
              exact J _ _ _ ⟨(G, o, ld, 0, 0), ⟨ft, fl, upd fm 2 ((-1)), fL, fK, FZ, hP, hD, hC, hI0.mend, hS⟩, lv_sub hl [0, 6, 5, 4, 7, 8, 9, 10, 11] rfl⟩
            · refine lv_if_ge (tgt := 273) hx hb dL_law_266 (by decide) (fun c266 => ?_) (fun c266 => ?_)
              · refine lv_aload hx hb dL_law_273 (lv_at hl 10 rfl) ?_
                refine lv_iconst (v := nI 2) hx hb dL_law_275 (by decide) ?_
                refine va_iald hx hb hK hP 2 0 rfl rfl (xin (by omega) (by omega)) dL_law_276 ?_
                refine x_top (fm 2) (by rw [nI_clamp (by omega)]) ?_
                refine x_top (nI k) ((hm2.pos (Int32.not_lt.mpr c266)).2.2) ?_
                exact J
              · refine lv_iconst (v := nI 0) hx hb dL_law_269 (by decide) ?_
                refine lv_goto (tgt := 277) hx hb dL_law_270 (by decide) ?_
                refine x_top (nI k) (congrArg nI (hm2.neg (Int32.not_le.mp c266)).2.1.symm) ?_
                exact J
        · have c189 : ¬ 27 ≤ (z % 32) := fun h => c189 ((xle (by omega) (by omega)).mpr h)
          refine lv_aload hx hb dL_law_192 (lv_at hl 10 rfl) ?_
          refine lv_iconst (v := nI 0) hx hb dL_law_194 (by decide) ?_
          refine va_iald hx hb hK hP 2 0 rfl rfl (xin (by omega) (by omega)) dL_law_195 ?_
          refine x_top (fm 0) (by rw [nI_clamp (by omega)]) ?_
          refine x_top (nI ld) (hm0) ?_
          refine lv_aload hx hb dL_law_196 (lv_at hl 10 rfl) ?_
          refine lv_iconst (v := nI 1) hx hb dL_law_198 (by decide) ?_
          refine va_iald hx hb hK hP 2 0 rfl rfl (xin (by omega) (by omega)) dL_law_199 ?_
          refine x_top (fm 1) (by rw [nI_clamp (by omega)]) ?_
          refine x_top (nI o) (hm1) ?_
          refine lv_isub hx hb dL_law_200 ?_
          refine x_top (nI (ld - o)) (xsub (by omega)) ?_
          refine lv_bipush (v := nI 8) hx hb dL_law_201 (by decide) ?_
          refine lv_icmp_gt (tgt := 245) hx hb dL_law_203 (by decide) (fun c203 => ?_) (fun c203 => ?_)
          · have c203 : 8 < (ld - o) := (xlt (by omega) (by omega)).mp c203
            refine lv_iconst (v := nI 1) hx hb dL_law_245 (by decide) ?_
            refine lv_goto (tgt := 250) hx hb dL_law_246 (by decide) ?_
            refine lv_istore (lv' := [(5, .int (nI 1)), (10, .int (nI ((z / 32) / 12))), (9, .int (nI (z % 32))), (8, .int (nI (z / 32))), (7, .int (nI z)), (6, .int (nI i)), (0, .ref sb), (1, .ref x), (2, .ref ta), (3, .ref la), (4, .ref ma)]) hx hb dL_law_250 hl (by decide) rfl (fun ls hl => ?_)
            refine lv_goto (tgt := 587) hx hb dL_law_252 (by decide) ?_
            refine W.widen (k := 4000 + 700 * (91 - (n + 1)) + 64) (n := 20000 + 4000 * (91 - (n + 1)) + 400) (by omega) (by omega) ?_
            exact J _ _ _ ⟨(G, o, ld, b, k), ⟨ft, fl, fm, fL, fK, FZ, hP, hD, hC, hI0, hS⟩, lv_sub hl [0, 5, 4, 3, 6, 7, 8, 9, 10] rfl⟩
          · have c203 : ¬ 8 < (ld - o) := fun h => c203 ((xlt (by omega) (by omega)).mpr h)
            refine lv_aload hx hb dL_law_206 (lv_at hl 10 rfl) ?_
            refine lv_iconst (v := nI 0) hx hb dL_law_208 (by decide) ?_
            refine va_iald hx hb hK hP 2 0 rfl rfl (xin (by omega) (by omega)) dL_law_209 ?_
            refine x_top (fm 0) (by rw [nI_clamp (by omega)]) ?_
            refine x_top (nI ld) (hm0) ?_
            refine lv_bipush (v := nI 40) hx hb dL_law_210 (by decide) ?_
            refine lv_icmp_eq (tgt := 245) hx hb dL_law_212 (by decide) (fun c212 => ?_) (fun c212 => ?_)
            · have c212 : ld = 40 := (xeq (by omega) (by omega)).mp c212
              refine lv_iconst (v := nI 1) hx hb dL_law_245 (by decide) ?_
              refine lv_goto (tgt := 250) hx hb dL_law_246 (by decide) ?_
              refine lv_istore (lv' := [(5, .int (nI 1)), (10, .int (nI ((z / 32) / 12))), (9, .int (nI (z % 32))), (8, .int (nI (z / 32))), (7, .int (nI z)), (6, .int (nI i)), (0, .ref sb), (1, .ref x), (2, .ref ta), (3, .ref la), (4, .ref ma)]) hx hb dL_law_250 hl (by decide) rfl (fun ls hl => ?_)
              refine lv_goto (tgt := 587) hx hb dL_law_252 (by decide) ?_
              refine W.widen (k := 4000 + 700 * (91 - (n + 1)) + 64) (n := 20000 + 4000 * (91 - (n + 1)) + 400) (by omega) (by omega) ?_
              exact J _ _ _ ⟨(G, o, ld, b, k), ⟨ft, fl, fm, fL, fK, FZ, hP, hD, hC, hI0, hS⟩, lv_sub hl [0, 5, 4, 3, 6, 7, 8, 9, 10] rfl⟩
            · have c212 : ¬ ld = 40 := fun h => c212 ((xeq (by omega) (by omega)).mpr h)
              refine lv_aload_n hx hb dL_law_215 rfl (lv_at hl 7 rfl) ?_
              refine lv_aload_n hx hb dL_law_216 rfl (lv_at hl 8 rfl) ?_
              refine lv_aload_n hx hb dL_law_217 rfl (lv_at hl 9 rfl) ?_
              refine lv_aload hx hb dL_law_218 (lv_at hl 10 rfl) ?_
              refine lv_iload hx hb dL_law_220 (lv_at hl 0 rfl) ?_
              refine lv_iconst (v := nI 3) hx hb dL_law_222 (by decide) ?_
              refine lv_irem hx hb dL_law_223 (by decide) ?_
              refine x_top (nI (((z / 32) / 12) % 3)) (pk_rem (by omega) (by omega) (by omega)) ?_
              refine x_join (ls := ls) 239 [.int (nI ((if z / 32 / 12 % 3 = 0 then z / 32 / 12 / 3 % 7 else 6))), .ref ma, .ref la, .ref ta, .ref x] ?_ (fun J => ?_)
              · obtain ⟨s9, hs9, es9⟩ : ∃ s9, s9 ≤ 6 ∧ (if z / 32 / 12 % 3 = 0 then z / 32 / 12 / 3 % 7 else 6) = s9 := ⟨_, by split <;> omega, rfl⟩
                refine x_top (nI s9) (congrArg nI es9) ?_
                have hP : va_P D vwCl ([] ++ (W3 cI cT cJ ta la ma ft fl fm x lv kp fL fK o ld b k FZ)) H := hP
                have hD : va_D A ([] ++ (W3 cI cT cJ ta la ma ft fl fm x lv kp fL fK o ld b k FZ)) := hD
                have hPw : va_P D vwCl (W3 cI cT cJ ta la ma ft fl fm x lv kp fL fK o ld b k FZ) H := xP_sub (fun _ h => List.mem_append_right _ h) hP
                have hDw : va_D (fun _ => True) (W3 cI cT cJ ta la ma ft fl fm x lv kp fL fK o ld b k FZ) := (xD_sub (List.sublist_append_right _ _) hD).weaken (fun _ _ _ _ => trivial)
                have hFc := xfree (wc := (W3 cI cT cJ ta la ma ft fl fm x lv kp fL fK o ld b k FZ)) hD hS hA (fun _ h => List.mem_append_right _ h)
                refine va_calli (va_runS (As := [.ref x, .ref ta, .ref la, .ref ma, .int (nI s9)]) (rest := []) ⟨hx, hb, hml, hown, hts⟩ (c_L_isRun l hst A x lv kp fL fK o ld b k FZ G hC ta la ma s9 ft fl fm (by omega) (by omega) (by omega) hWG ht hL hm0 hm1 hold H.size) (va_cwS 5 hts gL_law_L_isRun rfl rfl rfl (by decide +kernel) ⟨(Nat.le_of_ble_eq_true rfl), (Nat.le_of_ble_eq_true rfl)⟩) ⟨XPl_blind, XPl_pre hE hT hN ⟨rfl, hPw, hDw, hFc⟩⟩ rfl rfl hl.1 rfl (lv_room (Nat.le_of_ble_eq_true rfl)) dL_law_239 ⟨by show (_ : Nat) ≤ 864847; omega, by show (_ : Nat) ≤ 6506927; omega⟩) hS (fun q9 _ h => hFc q9 h) hFc (fun r9 u9 t9 H1 locs ht9 hvm9 hw9 hB9 hzc hkc hS => ?_)
                obtain ⟨⟨G1, o1, ld1, b1, k1⟩, ft1, fm1⟩ := u9
                obtain ⟨rfl, hI1⟩ := hw9
                obtain ⟨fL1, fK1, FZ1, hP1, hD1, hC1⟩ := hB9
                rw [ht9] at hP1
                have hP1 : va_P D vwCl (W3 cI cT cJ ta la ma ft1 fl fm1 x lv kp fL1 fK1 o1 ld1 b1 k1 FZ1) H1 := hP1
                have hD1 : va_D (va_A (W3 cI cT cJ ta la ma ft fl fm x lv kp fL fK o ld b k FZ) H.size) (W3 cI cT cJ ta la ma ft1 fl fm1 x lv kp fL1 fK1 o1 ld1 b1 k1 FZ1) := hD1
                obtain ⟨hP, hD⟩ := xjoin (wr := []) (wc := (W3 cI cT cJ ta la ma ft fl fm x lv kp fL fK o ld b k FZ)) (w1 := (W3 cI cT cJ ta la ma ft1 fl fm1 x lv kp fL1 fK1 o1 ld1 b1 k1 FZ1)) hP hD hkc hFc hP1 hD1
                clear hP1 hD1 hzc hkc hFc hvm9 ht9
                generalize H1 = H at hP hS ⊢
                have hP : va_P D vwCl ((ta, .inl (cJ, 60, .inr (.inl ft1))) :: (la, .inl (cJ, 6, .inr (.inl fl))) :: (ma, .inl (cI, 3, .inl fm1)) :: (x, .inr (1, [.ref lv, .ref kp, .int (nI o1), .int (nI ld1), .int (nI b1), .int (nI k1)])) :: (lv, .inl (cT, 6, .inr (.inr (.inr (.inr fL1))))) :: (kp, .inl (cT, 246, .inr (.inr (.inr (.inr fK1))))) :: FZ1) H := hP
                have hD : va_D A ((ta, .inl (cJ, 60, .inr (.inl ft1))) :: (la, .inl (cJ, 6, .inr (.inl fl))) :: (ma, .inl (cI, 3, .inl fm1)) :: (x, .inr (1, [.ref lv, .ref kp, .int (nI o1), .int (nI ld1), .int (nI b1), .int (nI k1)])) :: (lv, .inl (cT, 6, .inr (.inr (.inr (.inr fL1))))) :: (kp, .inl (cT, 246, .inr (.inr (.inr (.inr fK1))))) :: FZ1) := hD
                have hT := hT0.kept (fun a h1 h2 => hS.2.1 a h1 (fun z => h2 (hAx a z)))
                have hPc : va_P D vwCl (CW cT x lv kp fL1 fK1 o1 ld1 b1 k1 FZ1) H := xP_sub (fun _ h => m3c h) hP
                refine lv_if_eq (tgt := 249) hx hb dL_law_242 (by decide) (fun h => absurd h (by decide)) (fun _ => ?_)
                refine lv_iconst (v := nI 1) hx hb dL_law_245 (by decide) ?_
                refine lv_goto (tgt := 250) hx hb dL_law_246 (by decide) ?_
                refine lv_istore (lv' := [(5, .int (nI 1)), (10, .int (nI ((z / 32) / 12))), (9, .int (nI (z % 32))), (8, .int (nI (z / 32))), (7, .int (nI z)), (6, .int (nI i)), (0, .ref sb), (1, .ref x), (2, .ref ta), (3, .ref la), (4, .ref ma)]) hx hb dL_law_250 hl (by decide) rfl (fun ls hl => ?_)
                refine lv_goto (tgt := 587) hx hb dL_law_252 (by decide) ?_
                refine W.widen (k := 4000 + 700 * (91 - (n + 1)) + 64) (n := 20000 + 4000 * (91 - (n + 1)) + 400) (by omega) (by omega) ?_
                exact J _ _ _ ⟨(G1, o1, ld1, b1, k1), ⟨ft1, fl, fm1, fL1, fK1, FZ1, hP, hD, hC1, hI1, hS⟩, lv_sub hl [0, 5, 4, 3, 6, 7, 8, 9, 10] rfl⟩
              · refine lv_if_ne (tgt := 237) hx hb dL_law_224 (by decide) (fun c224 => ?_) (fun c224 => ?_)
                · have c224 : ¬ nI (((z / 32) / 12) % 3) = nI 0 := c224
                  have c224 : ¬ (((z / 32) / 12) % 3) = 0 := fun h => c224 ((xeq (by omega) (by omega)).mpr h)
                  refine lv_bipush (v := nI 6) hx hb dL_law_237 (by decide) ?_
                  refine x_top (nI ((if z / 32 / 12 % 3 = 0 then z / 32 / 12 / 3 % 7 else 6))) (by rw [if_neg (by omega)]) ?_
                  exact J
                · have c224 : nI (((z / 32) / 12) % 3) = nI 0 := c224
                  have c224 : (((z / 32) / 12) % 3) = 0 := (xeq (by omega) (by omega)).mp c224
                  refine lv_iload hx hb dL_law_227 (lv_at hl 0 rfl) ?_
                  refine lv_iconst (v := nI 3) hx hb dL_law_229 (by decide) ?_
                  refine lv_idiv hx hb dL_law_230 (by decide) ?_
                  refine x_top (nI (((z / 32) / 12) / 3)) (pk_div (by omega) (by omega) (by omega)) ?_
                  refine lv_bipush (v := nI 7) hx hb dL_law_231 (by decide) ?_
                  refine lv_irem hx hb dL_law_233 (by decide) ?_
                  refine x_top (nI ((((z / 32) / 12) / 3) % 7)) (pk_rem (by omega) (by omega) (by omega)) ?_
                  refine lv_goto (tgt := 239) hx hb dL_law_234 (by decide) ?_
                  refine x_top (nI ((if z / 32 / 12 % 3 = 0 then z / 32 / 12 / 3 % 7 else 6))) (by rw [if_pos (by omega)]) ?_
                  exact J
      · have c144 : ¬ 22 ≤ (z % 32) := fun h => c144 ((xle (by omega) (by omega)).mpr h)
        refine lv_aload_n hx hb dL_law_147 rfl (lv_at hl 7 rfl) ?_
        refine lv_aload_n hx hb dL_law_148 rfl (lv_at hl 9 rfl) ?_
        refine lv_iload hx hb dL_law_149 (lv_at hl 2 rfl) ?_
        refine lv_iconst (v := nI 4) hx hb dL_law_151 (by decide) ?_
        refine lv_irem hx hb dL_law_152 (by decide) ?_
        refine x_top (nI ((z / 32) % 4)) (pk_rem (by omega) (by omega) (by omega)) ?_
        refine lv_iconst (v := nI 3) hx hb dL_law_153 (by decide) ?_
        refine x_join (ls := ls) 173 [.int (nI ((if z / 32 % 4 < 3 then z / 32 / 4 % 3 else z / 32 / 4 % 6))), .ref la, .ref x] ?_ (fun J => ?_)
        · obtain ⟨j, hj, ej⟩ : ∃ j, j < 6 ∧ (if z / 32 % 4 < 3 then z / 32 / 4 % 3 else z / 32 / 4 % 6) = j := ⟨_, by split <;> omega, rfl⟩
          refine x_top (nI j) (congrArg nI ej) ?_
          refine lv_iload hx hb dL_law_173 (lv_at hl 1 rfl) ?_
          refine lv_iload hx hb dL_law_175 (lv_at hl 0 rfl) ?_
          have hP := xP_perm pm_t hP
          have hD := xD_perm pm_t hD
          have hP : va_P D vwCl ([(ta, .inl (cJ, 60, .inr (.inl ft))), (ma, .inl (cI, 3, .inl fm))] ++ ((la, .inl (cJ, 6, .inr (.inl fl))) :: (CW cT x lv kp fL fK o ld b k FZ))) H := hP
          have hD : va_D A ([(ta, .inl (cJ, 60, .inr (.inl ft))), (ma, .inl (cI, 3, .inl fm))] ++ ((la, .inl (cJ, 6, .inr (.inl fl))) :: (CW cT x lv kp fL fK o ld b k FZ))) := hD
          have hPw : va_P D vwCl ((la, .inl (cJ, 6, .inr (.inl fl))) :: (CW cT x lv kp fL fK o ld b k FZ)) H := xP_sub (fun _ h => List.mem_append_right _ h) hP
          have hDw : va_D (fun _ => True) ((la, .inl (cJ, 6, .inr (.inl fl))) :: (CW cT x lv kp fL fK o ld b k FZ)) := (xD_sub (List.sublist_append_right _ _) hD).weaken (fun _ _ _ _ => trivial)
          have hFc := xfree (wc := ((la, .inl (cJ, 6, .inr (.inl fl))) :: (CW cT x lv kp fL fK o ld b k FZ))) hD hS hA (fun _ h => List.mem_append_right _ h)
          refine va_calli (va_runS (As := [.ref x, .ref la, .int (nI j), .int (nI (z % 32)), .int (nI ((z / 32) / 12))]) (rest := []) ⟨hx, hb, hml, hown, hts⟩ (c_L_isEdited l hst A x lv kp fL fK o ld b k FZ G hC la j (z % 32) ((z / 32) / 12) fl hj (by omega) (by omega) hWG hL hld hold H.size) (va_cwS 5 hts gL_law_L_isEdited rfl rfl rfl (by decide +kernel) ⟨(Nat.le_of_ble_eq_true rfl), (Nat.le_of_ble_eq_true rfl)⟩) ⟨XPl_blind, XPl_pre hE hT hN ⟨rfl, hPw, hDw, hFc⟩⟩ rfl rfl hl.1 rfl (lv_room (Nat.le_of_ble_eq_true rfl)) dL_law_177 ⟨by show (_ : Nat) ≤ 864847; omega, by show (_ : Nat) ≤ 6506927; omega⟩) hS (fun q9 _ h => hFc q9 h) hFc (fun r9 v9 t9 H1 locs ht9 hvm9 hw9 hB9 hzc hkc hS => ?_)
          obtain ⟨rfl, hv9⟩ := hw9
          obtain ⟨fL1, fK1, FZ1, hP1, hD1, hC1⟩ := hB9
          rw [ht9] at hP1
          have hP1 : va_P D vwCl ((la, .inl (cJ, 6, .inr (.inl fl))) :: (CW cT x lv kp fL1 fK1 o ld b k FZ1)) H1 := hP1
          have hD1 : va_D (va_A ((la, .inl (cJ, 6, .inr (.inl fl))) :: (CW cT x lv kp fL fK o ld b k FZ)) H.size) ((la, .inl (cJ, 6, .inr (.inl fl))) :: (CW cT x lv kp fL1 fK1 o ld b k FZ1)) := hD1
          obtain ⟨hP, hD⟩ := xjoin (wr := [(ta, .inl (cJ, 60, .inr (.inl ft))), (ma, .inl (cI, 3, .inl fm))]) (wc := ((la, .inl (cJ, 6, .inr (.inl fl))) :: (CW cT x lv kp fL fK o ld b k FZ))) (w1 := ((la, .inl (cJ, 6, .inr (.inl fl))) :: (CW cT x lv kp fL1 fK1 o ld b k FZ1))) hP hD hkc hFc hP1 hD1
          have hP := xP_perm pm_t.symm hP
          have hD := xD_perm pm_t.symm hD
          clear hP1 hD1 hzc hkc hFc hvm9 ht9
          generalize H1 = H at hP hS ⊢
          have hP : va_P D vwCl ((ta, .inl (cJ, 60, .inr (.inl ft))) :: (la, .inl (cJ, 6, .inr (.inl fl))) :: (ma, .inl (cI, 3, .inl fm)) :: (x, .inr (1, [.ref lv, .ref kp, .int (nI o), .int (nI ld), .int (nI b), .int (nI k)])) :: (lv, .inl (cT, 6, .inr (.inr (.inr (.inr fL1))))) :: (kp, .inl (cT, 246, .inr (.inr (.inr (.inr fK1))))) :: FZ1) H := hP
          have hD : va_D A ((ta, .inl (cJ, 60, .inr (.inl ft))) :: (la, .inl (cJ, 6, .inr (.inl fl))) :: (ma, .inl (cI, 3, .inl fm)) :: (x, .inr (1, [.ref lv, .ref kp, .int (nI o), .int (nI ld), .int (nI b), .int (nI k)])) :: (lv, .inl (cT, 6, .inr (.inr (.inr (.inr fL1))))) :: (kp, .inl (cT, 246, .inr (.inr (.inr (.inr fK1))))) :: FZ1) := hD
          have hT := hT0.kept (fun a h1 h2 => hS.2.1 a h1 (fun z => h2 (hAx a z)))
          have hPc : va_P D vwCl (CW cT x lv kp fL1 fK1 o ld b k FZ1) H := xP_sub (fun _ h => m3c h) hP
          refine lv_istore (lv' := [(5, .int (nI 1)), (10, .int (nI ((z / 32) / 12))), (9, .int (nI (z % 32))), (8, .int (nI (z / 32))), (7, .int (nI z)), (6, .int (nI i)), (0, .ref sb), (1, .ref x), (2, .ref ta), (3, .ref la), (4, .ref ma)]) hx hb dL_law_180 hl (by decide) rfl (fun ls hl => ?_)
          refine lv_goto (tgt := 587) hx hb dL_law_182 (by decide) ?_
          refine W.widen (k := 4000 + 700 * (91 - (n + 1)) + 64) (n := 20000 + 4000 * (91 - (n + 1)) + 400) (by omega) (by omega) ?_
          exact J _ _ _ ⟨(va_up G (246 + j) v9, o, ld, b, k), ⟨ft, fl, fm, fL1, fK1, FZ1, hP, hD, hC1, hI0.up hv9, hS⟩, lv_sub hl [0, 5, 4, 3, 6, 7, 8, 9, 10] rfl⟩
        · refine lv_icmp_ge (tgt := 166) hx hb dL_law_154 (by decide) (fun c154 => ?_) (fun c154 => ?_)
          · have c154 : 3 ≤ ((z / 32) % 4) := (xle (by omega) (by omega)).mp c154
            refine lv_iload hx hb dL_law_166 (lv_at hl 2 rfl) ?_
            refine lv_iconst (v := nI 4) hx hb dL_law_168 (by decide) ?_
            refine lv_idiv hx hb dL_law_169 (by decide) ?_
            refine x_top (nI ((z / 32) / 4)) (pk_div (by omega) (by omega) (by omega)) ?_
            refine lv_bipush (v := nI 6) hx hb dL_law_170 (by decide) ?_
            refine lv_irem hx hb dL_law_172 (by decide) ?_
            refine x_top (nI (((z / 32) / 4) % 6)) (pk_rem (by omega) (by omega) (by omega)) ?_
            refine x_top (nI ((if z / 32 % 4 < 3 then z / 32 / 4 % 3 else z / 32 / 4 % 6))) (by rw [if_neg (by omega)]) ?_
            exact J
          · have c154 : ¬ 3 ≤ ((z / 32) % 4) := fun h => c154 ((xle (by omega) (by omega)).mpr h)
            refine lv_iload hx hb dL_law_157 (lv_at hl 2 rfl) ?_
            refine lv_iconst (v := nI 4) hx hb dL_law_159 (by decide) ?_
            refine lv_idiv hx hb dL_law_160 (by decide) ?_
            refine x_top (nI ((z / 32) / 4)) (pk_div (by omega) (by omega) (by omega)) ?_
            refine lv_iconst (v := nI 3) hx hb dL_law_161 (by decide) ?_
            refine lv_irem hx hb dL_law_162 (by decide) ?_
            refine x_top (nI (((z / 32) / 4) % 3)) (pk_rem (by omega) (by omega) (by omega)) ?_
            refine lv_goto (tgt := 173) hx hb dL_law_163 (by decide) ?_
            refine x_top (nI ((if z / 32 % 4 < 3 then z / 32 / 4 % 3 else z / 32 / 4 % 6))) (by rw [if_pos (by omega)]) ?_
            exact J
