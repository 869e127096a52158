/-! the law: what holds at its loop's head; one theorem a call -/
section XTL
variable {p : Program} {l : Launch} {e : Env} {R : Room} {s : State} {m : MethodId} {args : Array Value} {below : List Frame} {meth : Method} {c : Code} {H : Heap} {locs : List Loc} {cells slots : Nat} {Q : State → Prop} {pc : Nat} {ls : Array Slot} {rest : List Value}
theorem x_topl {x : Int64} (y : Int64) (h : x = y) (k : W p l e R s m args below meth c H locs cells slots Q (F0 m pc ls (.long y :: rest))) : W p l e R s m args below meth c H locs cells slots Q (F0 m pc ls (.long x :: rest)) := h ▸ k
/-- a loop that makes cells: cf, sf of them are made with n turns left -/
theorem x_loopC (cf sf : Nat → Nat) (Inv : Nat → Heap → List Loc → Array Slot → Prop) (n0 : Nat) (h0 : Inv n0 H locs ls) (hz : ∀ H locs ls, Inv 0 H locs ls → False)
    (step : ∀ n H locs ls, Inv (n + 1) H locs ls → (∀ H' locs' ls', Inv n H' locs' ls' → W p l e R s m args below meth c H' locs' (cf n) (sf n) Q (F0 m pc ls' [])) → W p l e R s m args below meth c H locs (cf (n + 1)) (sf (n + 1)) Q (F0 m pc ls [])) :
    W p l e R s m args below meth c H locs (cf n0) (sf n0) Q (F0 m pc ls []) := by
  have key : ∀ n H locs ls, Inv n H locs ls → W p l e R s m args below meth c H locs (cf n) (sf n) Q (F0 m pc ls []) := by
    intro n
    induction n with
    | zero => intro H locs ls h; exact (hz H locs ls h).elim
    | succ n ih => intro H locs ls h; exact step n H locs ls h ih
  exact key n0 H locs ls h0
end XTL
theorem lg_self (x : Int64) : lg_cmp x x = nI 0 := by
  unfold lg_cmp
  rw [if_neg Int64.lt_irrefl, if_pos rfl]; rfl
def WF (u : Sv) : Prop := u.2.1 ≤ u.2.2.1 ∧ u.2.2.1 ≤ 40 ∧ u.2.2.2.1 ≤ 1 ∧ (u.2.2.2.1 = 0 → u.2.2.2.2 = 0)
/-- the reference and the class hold one state -/
def LI (D : va_G) (cI cT cJ : ClassId) (m0 a1 a2 a3 a4 ou x lv kp : Nat) (A : Nat → Prop) (s : State) (u : Sv) (H : Heap) (locs : List Loc) : Prop :=
  ∃ (t : Nat) (fo : Nat → Int64) (fL fK : Nat → Option Nat) (FZ : va_W) (K R L N : Nat → Int32), va_P D vwCl (MWs cI m0 a1 a2 a3 a4 K R L N u.2.2.1 u.2.1 u.2.2.2.1 u.2.2.2.2 t ++ LWs cT cJ ou x lv kp fo fL fK u.2.1 u.2.2.1 u.2.2.2.1 u.2.2.2.2 FZ) H ∧ va_D A (MWs cI m0 a1 a2 a3 a4 K R L N u.2.2.1 u.2.1 u.2.2.2.1 u.2.2.2.2 t ++ LWs cT cJ ou x lv kp fo fL fK u.2.1 u.2.2.1 u.2.2.2.1 u.2.2.2.2 FZ) ∧ CA cI FZ fL fK u.1 ∧ MA u.1 K R L N ∧ va_S A s.heap H locs
/-- what the law's body stands on -/
def LCX (p : Program) (l : Launch) (s : State) (m : MethodId) (c : Code) (D : va_G) (cI cT cJ : ClassId) (A : Nat → Prop) (sb Ls : Nat) (xs : Nat → Int32) : Prop :=
  p.tables.exec = Jvm.exec ∧ c.code = cL_law ∧ c.maxLocals = 7 ∧ s.vm.findClass RL = some m.cls ∧ (∀ w ∈ wsL_law, w.before #[Value.ref sb] s = true) ∧ va_X sb Ls xs s s.heap ∧ sb < s.heap.size ∧ Ls ≤ 2048 ∧ l.stackTraces = false ∧ XE D cI cT cJ s ∧ XT A s s.heap ∧ XN s ∧ (∀ q, s.heap.size ≤ q → A q) ∧ ¬ A sb

set_option maxHeartbeats 4000000 in
set_option maxRecDepth 100000 in
theorem lc_makeFile {p : Program} {l : Launch} {e : Env} {s : State} {m : MethodId} {below : List Frame} {meth : Method} {c : Code} {D : va_G} {cI cT cJ : ClassId} {A : Nat → Prop} {sb Ls : Nat} {xs : Nat → Int32} {m0 a1 a2 a3 a4 ou x lv kp : Nat} {cells slots : Nat} {Q : State → Prop} (hX0 : LCX p l s m c D cI cT cJ A sb Ls xs) {H : Heap} {locs : List Loc} {ls : Array Slot} {i : Nat} {G : Nat → Tv} {o ld b k : Nat} (hi : i + 4 ≤ Ls) (hW : WF (G, o, ld, b, k)) (hI : LI D cI cT cJ m0 a1 a2 a3 a4 ou x lv kp A s (G, o, ld, b, k) H locs) (hl : lv_has ls 7 [(4, .int (nI i)), (0, .ref sb), (1, .ref x), (2, .ref m0), (3, .ref ou)]) (hcl : cells + 8 ≤ 709371) (hsl : slots + 40 ≤ 6967992)
    (kk : ∀ (u : Sv) (H : Heap) (locs : List Loc) (ls : Array Slot), WF u → LI D cI cT cJ m0 a1 a2 a3 a4 ou x lv kp A s u H locs → lv_has ls 7 [(4, .int (nI i)), (0, .ref sb), (1, .ref x), (2, .ref m0), (3, .ref ou)] → W p l e room_1 s m #[Value.ref sb] below meth c H locs (cells + 8) (slots + 40) Q (F0 m 1054 ls [])) : W p l e room_1 s m #[Value.ref sb] below meth c H locs cells slots Q (F0 m 128 ls []) := by
  obtain ⟨hx, hb, hml, hown, hts, hX, hbl, hL, hst, hE, hT0, hN, hA, hbA⟩ := hX0
  obtain ⟨t, fo, fL, fK, FZ, K, R, L, N, hP, hD, hC, hM, hS⟩ := hI
  obtain ⟨hold, hld, hbb, hbk⟩ := hW
  dsimp only at hP hD hC hM hold hld hbb hbk
  have hK := hE.1
  refine lv_aload_n hx hb dL_law_128 rfl (lv_at hl 2 rfl) ?_
  refine lv_aload_n hx hb dL_law_129 rfl (lv_at hl 1 rfl) ?_
  refine lv_iload hx hb dL_law_130 (lv_at hl 0 rfl) ?_
  refine lv_iconst (v := nI 1) hx hb dL_law_132 (by decide) ?_
  refine lv_iadd hx hb dL_law_133 ?_
  refine x_top (nI (i + 1)) (xadd (by omega)) ?_
  refine va_sld hx hb hX hbl hbA hS (xin (by omega) (by omega)) dL_law_134 ?_
  refine x_top (xs (i + 1)) (by rw [nI_clamp (by omega)]) ?_
  refine lv_aload_n hx hb dL_law_135 rfl (lv_at hl 4 rfl) ?_
  have hP : va_P D vwCl ((MWs cI m0 a1 a2 a3 a4 K R L N ld o b k t) ++ (LWs cT cJ ou x lv kp fo fL fK o ld b k FZ)) H := hP
  have hD : va_D A ((MWs cI m0 a1 a2 a3 a4 K R L N ld o b k t) ++ (LWs cT cJ ou x lv kp fo fL fK o ld b k FZ)) := hD
  have hPc : va_P D vwCl (LWs cT cJ ou x lv kp fo fL fK o ld b k FZ) H := xP_sub (fun _ h => List.mem_append_right _ h) hP
  have hDc : va_D (fun _ => True) (LWs cT cJ ou x lv kp fo fL fK o ld b k FZ) := (xD_sub (List.sublist_append_right _ _) hD).weaken (fun _ _ _ _ => trivial)
  have hFc := xfree (wc := (LWs cT cJ ou x lv kp fo fL fK o ld b k FZ)) hD hS hA (fun _ h => List.mem_append_right _ h)
  have hT : XT A s H := hT0.kept hS.2.1
  refine xcw (vx_runSX (As := [.ref x, .int (xs (i + 1)), .ref ou]) (rest := []) ⟨hx, hb, hml, hown, hts⟩ (c_L_makeFile l hst A ou x lv kp fo fL fK o ld b k FZ G hC (xs (i + 1)) H.size) (vx_cwSW 3 hts gL_law_L_makeFile rfl rfl rfl (by decide +kernel) ⟨(Nat.le_of_ble_eq_true rfl), (Nat.le_of_ble_eq_true rfl)⟩) ⟨XPl_blind, XPl_pre hE hT hN ⟨rfl, hPc, hDc⟩⟩ rfl rfl hl.1 rfl (lv_room (Nat.le_of_ble_eq_true rfl)) dL_law_136 ⟨by show (_ : Nat) ≤ 709371; omega, by show (_ : Nat) ≤ 6967992; omega⟩) hS (fun q9 _ h => hFc q9 h) hFc (fun _ _ _ _ _ hp9 _ _ _ _ _ _ => False.elim hp9) (fun r9 u9 t9 H1 locs ht9 hvm9 hw9 hB9 hzc hkc hS => ?_)
  obtain ⟨u1, z9⟩ := u9
  dsimp only at hw9 hB9
  rcases hw9 with ⟨rfl, r0, rfl, j, hj, hv, rfl, rfl⟩ | ⟨rfl, rfl, hv⟩
  · obtain ⟨fo', fL', fK', FZ', hP1, hD1, hC', hfo⟩ := hB9
    dsimp only at hP1 hD1 hC'
    rw [ht9] at hP1
    obtain ⟨hP, hD⟩ := xjoin (wr := (MWs cI m0 a1 a2 a3 a4 K R L N ld o b k t)) (wc := (LWs cT cJ ou x lv kp fo fL fK o ld b k FZ)) (w1 := (LWs cT cJ ou x lv kp fo' fL' fK' o ld b k FZ')) hP hD hkc hFc hP1 hD1
    generalize H1 = H at hP hS ⊢
    refine lv_istore (lv' := [(5, .int (nI 0)), (4, .int (nI i)), (0, .ref sb), (1, .ref x), (2, .ref m0), (3, .ref ou)]) hx hb dL_law_139 hl (by decide) rfl (fun ls hl => ?_)
    refine lv_aload_n hx hb dL_law_141 rfl (lv_at hl 4 rfl) ?_
    refine lv_aload_n hx hb dL_law_142 rfl (lv_at hl 2 rfl) ?_
    refine lv_iload hx hb dL_law_143 (lv_at hl 1 rfl) ?_
    refine lv_iconst (v := nI 1) hx hb dL_law_145 (by decide) ?_
    refine lv_iadd hx hb dL_law_146 ?_
    refine x_top (nI (i + 1)) (xadd (by omega)) ?_
    refine va_sld hx hb hX hbl hbA hS (xin (by omega) (by omega)) dL_law_147 ?_
    refine x_top (xs (i + 1)) (by rw [nI_clamp (by omega)]) ?_
    refine x_top (nI j) (hv) ?_
    have hP : va_P D vwCl ((LWs cT cJ ou x lv kp fo' fL' fK' o ld b k FZ') ++ (MWs cI m0 a1 a2 a3 a4 K R L N ld o b k t)) H := xP_perm List.perm_append_comm hP
    have hD : va_D A ((LWs cT cJ ou x lv kp fo' fL' fK' o ld b k FZ') ++ (MWs cI m0 a1 a2 a3 a4 K R L N ld o b k t)) := xD_perm List.perm_append_comm hD
    have hPm : va_P D vwCl (MWs cI m0 a1 a2 a3 a4 K R L N ld o b k t) H := xP_sub (fun _ h => List.mem_append_right _ h) hP
    have hDm : va_D (fun _ => True) (MWs cI m0 a1 a2 a3 a4 K R L N ld o b k t) := (xD_sub (List.sublist_append_right _ _) hD).weaken (fun _ _ _ _ => trivial)
    have hFc := xfree (wc := (MWs cI m0 a1 a2 a3 a4 K R L N ld o b k t)) hD hS hA (fun _ h => List.mem_append_right _ h)
    refine va_calli (va_runV (As := [.int (nI j)]) (rest := []) ⟨hx, hb, hml, hown, hts⟩ (c_X2_makeFile_g l m0 a1 a2 a3 a4 K R L N ld o b k t G hM j hj H.size) (cwV 1 hts gL_law_X2_makeFile rfl rfl rfl (by decide +kernel) ⟨(Nat.le_of_ble_eq_true rfl), (Nat.le_of_ble_eq_true rfl)⟩) ⟨XP_blind, va_recv hK hPm (ci := 2) (q0 := 0) rfl rfl, XP_pre hE ⟨rfl, hPm, hDm⟩⟩ rfl rfl hl.1 rfl (lv_room (Nat.le_of_ble_eq_true rfl)) dL_law_148 ⟨by show (_ : Nat) ≤ 709371; omega, by show (_ : Nat) ≤ 6967992; omega⟩) hS (fun q9 _ h => hFc q9 h) hFc (fun r8 u8 t9 H1 locs ht9 hvm9 hw8 hB9 hzc hkc hS => ?_)
    obtain ⟨K', R', L', N', hP1, hD1, hM'⟩ := hB9
    rw [ht9] at hP1
    obtain ⟨hP, hD⟩ := xjoin (wr := (LWs cT cJ ou x lv kp fo' fL' fK' o ld b k FZ')) (wc := (MWs cI m0 a1 a2 a3 a4 K R L N ld o b k t)) (w1 := (MWs cI m0 a1 a2 a3 a4 K' R' L' N' ld o b k 0)) hP hD hkc hFc hP1 hD1
    generalize H1 = H at hP hS ⊢
    have hP : va_P D vwCl ((MWs cI m0 a1 a2 a3 a4 K' R' L' N' ld o b k 0) ++ (LWs cT cJ ou x lv kp fo' fL' fK' o ld b k FZ')) H := xP_perm List.perm_append_comm hP
    have hD : va_D A ((MWs cI m0 a1 a2 a3 a4 K' R' L' N' ld o b k 0) ++ (LWs cT cJ ou x lv kp fo' fL' fK' o ld b k FZ')) := xD_perm List.perm_append_comm hD
    subst hw8
    refine lv_istore (lv' := [(6, .int ((G (246 + j)).1)), (5, .int (nI 0)), (4, .int (nI i)), (0, .ref sb), (1, .ref x), (2, .ref m0), (3, .ref ou)]) hx hb dL_law_151 hl (by decide) rfl (fun ls hl => ?_)
    refine lv_aload_n hx hb dL_law_153 rfl (lv_at hl 5 rfl) ?_
    have hPm : va_P D vwCl (MWs cI m0 a1 a2 a3 a4 K' R' L' N' ld o b k 0) H := xP_sub (ws := (MWs cI m0 a1 a2 a3 a4 K' R' L' N' ld o b k 0) ++ (LWs cT cJ ou x lv kp fo' fL' fK' o ld b k FZ')) (fun _ h => List.mem_append_left _ h) hP
    refine xc_sie (va_runV (As := []) (rest := []) ⟨hx, hb, hml, hown, hts⟩ (c_X2_thrown l m0 a1 a2 a3 a4 K' R' L' N' ld o b k 0) (cwV 0 hts gL_law_X2_thrown rfl rfl rfl (by decide +kernel) ⟨(Nat.le_of_ble_eq_true rfl), (Nat.le_of_ble_eq_true rfl)⟩) ⟨XP_blind, va_recv hK hPm (ci := 2) (q0 := 0) rfl rfl, XP_pre hE hPm⟩ rfl rfl hl.1 rfl (lv_room (Nat.le_of_ble_eq_true rfl)) dL_law_154 ⟨by show (_ : Nat) ≤ 709371; omega, by show (_ : Nat) ≤ 6967992; omega⟩) ?_
    refine lv_iload hx hb dL_law_157 (lv_at hl 1 rfl) ?_
    refine lv_icmp_eq (tgt := 164) hx hb dL_law_159 (by decide) (fun _ => ?_) (fun h => absurd h (by decide))
    refine lv_iload hx hb dL_law_164 (lv_at hl 1 rfl) ?_
    refine lv_if_ne (tgt := 181) hx hb dL_law_166 (by decide) (fun h => absurd h (by decide)) (fun _ => ?_)
    refine lv_aload_n hx hb dL_law_169 rfl (lv_at hl 6 rfl) ?_
    refine lv_iconst (v := nI 0) hx hb dL_law_170 (by decide) ?_
    refine va_lald hx hb hK hP 5 2 rfl rfl (xin (by omega) (by omega)) dL_law_171 ?_
    refine x_topl (((G (246 + j)).1).toInt64) (by rw [nI_clamp (by omega)]; exact hfo) ?_
    refine lv_iload hx hb dL_law_172 (lv_at hl 0 rfl) ?_
    refine lv_i2l (v := ((G (246 + j)).1).toInt64) hx hb dL_law_174 rfl ?_
    refine W.lcmp hx hb dL_law_175 ?_
    refine x_top (nI 0) (lg_self _) ?_
    refine lv_if_eq (tgt := 181) hx hb dL_law_176 (by decide) (fun _ => ?_) (fun h => absurd h (by decide))
    refine lv_goto (tgt := 1054) hx hb dL_law_181 (by decide) ?_
    refine W.widen (k := cells + 8) (n := slots + 40) (by show _ ≤ _; omega) (by show _ ≤ _; omega) ?_
    exact kk (va_up G (246 + j) (nI 1, nI 0, 0, fun _ => 0), o, ld, b, k) H locs ls (by refine ⟨?_, ?_, ?_, ?_⟩ <;> dsimp only <;> omega) ⟨0, fo', fL', fK', FZ', K', R', L', N', hP, hD, hC', hM', hS⟩ (lv_sub hl [2, 3, 4, 5, 6] rfl)
  · obtain ⟨fo', fL', fK', FZ', hP1, hD1, hC', hfo⟩ := hB9
    dsimp only at hP1 hD1 hC'
    rw [ht9] at hP1
    obtain ⟨hP, hD⟩ := xjoin (wr := (MWs cI m0 a1 a2 a3 a4 K R L N ld o b k t)) (wc := (LWs cT cJ ou x lv kp fo fL fK o ld b k FZ)) (w1 := (LWs cT cJ ou x lv kp fo' fL' fK' o ld b k FZ')) hP hD hkc hFc hP1 hD1
    generalize H1 = H at hP hS ⊢
    refine lv_istore (lv' := [(5, .int (nI 1)), (4, .int (nI i)), (0, .ref sb), (1, .ref x), (2, .ref m0), (3, .ref ou)]) hx hb dL_law_139 hl (by decide) rfl (fun ls hl => ?_)
    refine lv_aload_n hx hb dL_law_141 rfl (lv_at hl 4 rfl) ?_
    refine lv_aload_n hx hb dL_law_142 rfl (lv_at hl 2 rfl) ?_
    refine lv_iload hx hb dL_law_143 (lv_at hl 1 rfl) ?_
    refine lv_iconst (v := nI 1) hx hb dL_law_145 (by decide) ?_
    refine lv_iadd hx hb dL_law_146 ?_
    refine x_top (nI (i + 1)) (xadd (by omega)) ?_
    refine va_sld hx hb hX hbl hbA hS (xin (by omega) (by omega)) dL_law_147 ?_
    refine x_top (xs (i + 1)) (by rw [nI_clamp (by omega)]) ?_
    have hP : va_P D vwCl ((LWs cT cJ ou x lv kp fo' fL' fK' o ld b k FZ') ++ (MWs cI m0 a1 a2 a3 a4 K R L N ld o b k t)) H := xP_perm List.perm_append_comm hP
    have hD : va_D A ((LWs cT cJ ou x lv kp fo' fL' fK' o ld b k FZ') ++ (MWs cI m0 a1 a2 a3 a4 K R L N ld o b k t)) := xD_perm List.perm_append_comm hD
    have hPm : va_P D vwCl (MWs cI m0 a1 a2 a3 a4 K R L N ld o b k t) H := xP_sub (fun _ h => List.mem_append_right _ h) hP
    have hDm : va_D (fun _ => True) (MWs cI m0 a1 a2 a3 a4 K R L N ld o b k t) := (xD_sub (List.sublist_append_right _ _) hD).weaken (fun _ _ _ _ => trivial)
    have hFc := xfree (wc := (MWs cI m0 a1 a2 a3 a4 K R L N ld o b k t)) hD hS hA (fun _ h => List.mem_append_right _ h)
    refine va_calli (va_runV (As := [.int (xs (i + 1))]) (rest := []) ⟨hx, hb, hml, hown, hts⟩ (c_X2_makeFile_b l m0 a1 a2 a3 a4 K R L N ld o b k t G hM (xs (i + 1)) hv H.size) (cwV 1 hts gL_law_X2_makeFile rfl rfl rfl (by decide +kernel) ⟨(Nat.le_of_ble_eq_true rfl), (Nat.le_of_ble_eq_true rfl)⟩) ⟨XP_blind, va_recv hK hPm (ci := 2) (q0 := 0) rfl rfl, XP_pre hE ⟨rfl, hPm, hDm⟩⟩ rfl rfl hl.1 rfl (lv_room (Nat.le_of_ble_eq_true rfl)) dL_law_148 ⟨by show (_ : Nat) ≤ 709371; omega, by show (_ : Nat) ≤ 6967992; omega⟩) hS (fun q9 _ h => hFc q9 h) hFc (fun r8 u8 t9 H1 locs ht9 hvm9 hw8 hB9 hzc hkc hS => ?_)
    obtain ⟨K', R', L', N', hP1, hD1, hM'⟩ := hB9
    rw [ht9] at hP1
    obtain ⟨hP, hD⟩ := xjoin (wr := (LWs cT cJ ou x lv kp fo' fL' fK' o ld b k FZ')) (wc := (MWs cI m0 a1 a2 a3 a4 K R L N ld o b k t)) (w1 := (MWs cI m0 a1 a2 a3 a4 K' R' L' N' ld o b k 1)) hP hD hkc hFc hP1 hD1
    generalize H1 = H at hP hS ⊢
    have hP : va_P D vwCl ((MWs cI m0 a1 a2 a3 a4 K' R' L' N' ld o b k 1) ++ (LWs cT cJ ou x lv kp fo' fL' fK' o ld b k FZ')) H := xP_perm List.perm_append_comm hP
    have hD : va_D A ((MWs cI m0 a1 a2 a3 a4 K' R' L' N' ld o b k 1) ++ (LWs cT cJ ou x lv kp fo' fL' fK' o ld b k FZ')) := xD_perm List.perm_append_comm hD
    refine lv_istore (lv' := [(6, .int r8), (5, .int (nI 1)), (4, .int (nI i)), (0, .ref sb), (1, .ref x), (2, .ref m0), (3, .ref ou)]) hx hb dL_law_151 hl (by decide) rfl (fun ls hl => ?_)
    refine lv_aload_n hx hb dL_law_153 rfl (lv_at hl 5 rfl) ?_
    have hPm : va_P D vwCl (MWs cI m0 a1 a2 a3 a4 K' R' L' N' ld o b k 1) H := xP_sub (ws := (MWs cI m0 a1 a2 a3 a4 K' R' L' N' ld o b k 1) ++ (LWs cT cJ ou x lv kp fo' fL' fK' o ld b k FZ')) (fun _ h => List.mem_append_left _ h) hP
    refine xc_sie (va_runV (As := []) (rest := []) ⟨hx, hb, hml, hown, hts⟩ (c_X2_thrown l m0 a1 a2 a3 a4 K' R' L' N' ld o b k 1) (cwV 0 hts gL_law_X2_thrown rfl rfl rfl (by decide +kernel) ⟨(Nat.le_of_ble_eq_true rfl), (Nat.le_of_ble_eq_true rfl)⟩) ⟨XP_blind, va_recv hK hPm (ci := 2) (q0 := 0) rfl rfl, XP_pre hE hPm⟩ rfl rfl hl.1 rfl (lv_room (Nat.le_of_ble_eq_true rfl)) dL_law_154 ⟨by show (_ : Nat) ≤ 709371; omega, by show (_ : Nat) ≤ 6967992; omega⟩) ?_
    refine lv_iload hx hb dL_law_157 (lv_at hl 1 rfl) ?_
    refine lv_icmp_eq (tgt := 164) hx hb dL_law_159 (by decide) (fun _ => ?_) (fun h => absurd h (by decide))
    refine lv_iload hx hb dL_law_164 (lv_at hl 1 rfl) ?_
    refine lv_if_ne (tgt := 181) hx hb dL_law_166 (by decide) (fun _ => ?_) (fun h => absurd h (by decide))
    refine lv_goto (tgt := 1054) hx hb dL_law_181 (by decide) ?_
    refine W.widen (k := cells + 8) (n := slots + 40) (by show _ ≤ _; omega) (by show _ ≤ _; omega) ?_
    exact kk (G, o, ld, b, k) H locs ls (by refine ⟨?_, ?_, ?_, ?_⟩ <;> dsimp only <;> omega) ⟨1, fo', fL', fK', FZ', K', R', L', N', hP, hD, hC', hM', hS⟩ (lv_sub hl [2, 3, 4, 5, 6] rfl)

set_option maxHeartbeats 4000000 in
set_option maxRecDepth 100000 in
theorem lc_remove {p : Program} {l : Launch} {e : Env} {s : State} {m : MethodId} {below : List Frame} {meth : Method} {c : Code} {D : va_G} {cI cT cJ : ClassId} {A : Nat → Prop} {sb Ls : Nat} {xs : Nat → Int32} {m0 a1 a2 a3 a4 ou x lv kp : Nat} {cells slots : Nat} {Q : State → Prop} (hX0 : LCX p l s m c D cI cT cJ A sb Ls xs) {H : Heap} {locs : List Loc} {ls : Array Slot} {i : Nat} {G : Nat → Tv} {o ld b k : Nat} (hi : i + 4 ≤ Ls) (hW : WF (G, o, ld, b, k)) (hI : LI D cI cT cJ m0 a1 a2 a3 a4 ou x lv kp A s (G, o, ld, b, k) H locs) (hl : lv_has ls 7 [(4, .int (nI i)), (0, .ref sb), (1, .ref x), (2, .ref m0), (3, .ref ou)]) (hcl : cells + 8 ≤ 709371) (hsl : slots + 40 ≤ 6967992)
    (kk : ∀ (u : Sv) (H : Heap) (locs : List Loc) (ls : Array Slot), WF u → LI D cI cT cJ m0 a1 a2 a3 a4 ou x lv kp A s u H locs → lv_has ls 7 [(4, .int (nI i)), (0, .ref sb), (1, .ref x), (2, .ref m0), (3, .ref ou)] → W p l e room_1 s m #[Value.ref sb] below meth c H locs (cells + 8) (slots + 40) Q (F0 m 1054 ls [])) : W p l e room_1 s m #[Value.ref sb] below meth c H locs cells slots Q (F0 m 252 ls []) := by
  obtain ⟨hx, hb, hml, hown, hts, hX, hbl, hL, hst, hE, hT0, hN, hA, hbA⟩ := hX0
  obtain ⟨t, fo, fL, fK, FZ, K, R, L, N, hP, hD, hC, hM, hS⟩ := hI
  obtain ⟨hold, hld, hbb, hbk⟩ := hW
  dsimp only at hP hD hC hM hold hld hbb hbk
  have hK := hE.1
  refine lv_aload_n hx hb dL_law_252 rfl (lv_at hl 2 rfl) ?_
  refine lv_aload_n hx hb dL_law_253 rfl (lv_at hl 1 rfl) ?_
  refine lv_iload hx hb dL_law_254 (lv_at hl 0 rfl) ?_
  refine lv_iconst (v := nI 1) hx hb dL_law_256 (by decide) ?_
  refine lv_iadd hx hb dL_law_257 ?_
  refine x_top (nI (i + 1)) (xadd (by omega)) ?_
  refine va_sld hx hb hX hbl hbA hS (xin (by omega) (by omega)) dL_law_258 ?_
  refine x_top (xs (i + 1)) (by rw [nI_clamp (by omega)]) ?_
  refine lv_aload_n hx hb dL_law_259 rfl (lv_at hl 4 rfl) ?_
  have hP : va_P D vwCl ((MWs cI m0 a1 a2 a3 a4 K R L N ld o b k t) ++ (LWs cT cJ ou x lv kp fo fL fK o ld b k FZ)) H := hP
  have hD : va_D A ((MWs cI m0 a1 a2 a3 a4 K R L N ld o b k t) ++ (LWs cT cJ ou x lv kp fo fL fK o ld b k FZ)) := hD
  have hPc : va_P D vwCl (LWs cT cJ ou x lv kp fo fL fK o ld b k FZ) H := xP_sub (fun _ h => List.mem_append_right _ h) hP
  have hDc : va_D (fun _ => True) (LWs cT cJ ou x lv kp fo fL fK o ld b k FZ) := (xD_sub (List.sublist_append_right _ _) hD).weaken (fun _ _ _ _ => trivial)
  have hFc := xfree (wc := (LWs cT cJ ou x lv kp fo fL fK o ld b k FZ)) hD hS hA (fun _ h => List.mem_append_right _ h)
  have hT : XT A s H := hT0.kept hS.2.1
  refine xcw (vx_runSX (As := [.ref x, .int (xs (i + 1)), .ref ou]) (rest := []) ⟨hx, hb, hml, hown, hts⟩ (c_L_remove l hst A ou x lv kp fo fL fK o ld b k FZ G hC (xs (i + 1)) H.size) (vx_cwSW 3 hts gL_law_L_remove rfl rfl rfl (by decide +kernel) ⟨(Nat.le_of_ble_eq_true rfl), (Nat.le_of_ble_eq_true rfl)⟩) ⟨XPl_blind, XPl_pre hE hT hN ⟨rfl, hPc, hDc⟩⟩ rfl rfl hl.1 rfl (lv_room (Nat.le_of_ble_eq_true rfl)) dL_law_260 ⟨by show (_ : Nat) ≤ 709371; omega, by show (_ : Nat) ≤ 6967992; omega⟩) hS (fun q9 _ h => hFc q9 h) hFc (fun _ _ _ _ _ hp9 _ _ _ _ _ _ => False.elim hp9) (fun r9 u9 t9 H1 locs ht9 hvm9 hw9 hB9 hzc hkc hS => ?_)
  obtain ⟨u1, z9⟩ := u9
  dsimp only at hw9 hB9
  rcases hw9 with ⟨rfl, r0, rfl, j, hj, hv, rfl, rfl⟩ | ⟨rfl, rfl, hv⟩
  · obtain ⟨fo', fL', fK', FZ', hP1, hD1, hC', hfo⟩ := hB9
    dsimp only at hP1 hD1 hC'
    rw [ht9] at hP1
    obtain ⟨hP, hD⟩ := xjoin (wr := (MWs cI m0 a1 a2 a3 a4 K R L N ld o b k t)) (wc := (LWs cT cJ ou x lv kp fo fL fK o ld b k FZ)) (w1 := (LWs cT cJ ou x lv kp fo' fL' fK' o ld b k FZ')) hP hD hkc hFc hP1 hD1
    generalize H1 = H at hP hS ⊢
    refine lv_istore (lv' := [(5, .int (nI 0)), (4, .int (nI i)), (0, .ref sb), (1, .ref x), (2, .ref m0), (3, .ref ou)]) hx hb dL_law_263 hl (by decide) rfl (fun ls hl => ?_)
    refine lv_aload_n hx hb dL_law_265 rfl (lv_at hl 4 rfl) ?_
    refine lv_aload_n hx hb dL_law_266 rfl (lv_at hl 2 rfl) ?_
    refine lv_iload hx hb dL_law_267 (lv_at hl 1 rfl) ?_
    refine lv_iconst (v := nI 1) hx hb dL_law_269 (by decide) ?_
    refine lv_iadd hx hb dL_law_270 ?_
    refine x_top (nI (i + 1)) (xadd (by omega)) ?_
    refine va_sld hx hb hX hbl hbA hS (xin (by omega) (by omega)) dL_law_271 ?_
    refine x_top (xs (i + 1)) (by rw [nI_clamp (by omega)]) ?_
    refine x_top (nI j) (hv) ?_
    have hP : va_P D vwCl ((LWs cT cJ ou x lv kp fo' fL' fK' o ld b k FZ') ++ (MWs cI m0 a1 a2 a3 a4 K R L N ld o b k t)) H := xP_perm List.perm_append_comm hP
    have hD : va_D A ((LWs cT cJ ou x lv kp fo' fL' fK' o ld b k FZ') ++ (MWs cI m0 a1 a2 a3 a4 K R L N ld o b k t)) := xD_perm List.perm_append_comm hD
    have hPm : va_P D vwCl (MWs cI m0 a1 a2 a3 a4 K R L N ld o b k t) H := xP_sub (fun _ h => List.mem_append_right _ h) hP
    have hDm : va_D (fun _ => True) (MWs cI m0 a1 a2 a3 a4 K R L N ld o b k t) := (xD_sub (List.sublist_append_right _ _) hD).weaken (fun _ _ _ _ => trivial)
    have hFc := xfree (wc := (MWs cI m0 a1 a2 a3 a4 K R L N ld o b k t)) hD hS hA (fun _ h => List.mem_append_right _ h)
    refine va_calli (va_runV (As := [.int (nI j)]) (rest := []) ⟨hx, hb, hml, hown, hts⟩ (c_X2_remove_g l m0 a1 a2 a3 a4 K R L N ld o b k t G hM j hj H.size) (cwV 1 hts gL_law_X2_remove rfl rfl rfl (by decide +kernel) ⟨(Nat.le_of_ble_eq_true rfl), (Nat.le_of_ble_eq_true rfl)⟩) ⟨XP_blind, va_recv hK hPm (ci := 2) (q0 := 0) rfl rfl, XP_pre hE ⟨rfl, hPm, hDm⟩⟩ rfl rfl hl.1 rfl (lv_room (Nat.le_of_ble_eq_true rfl)) dL_law_272 ⟨by show (_ : Nat) ≤ 709371; omega, by show (_ : Nat) ≤ 6967992; omega⟩) hS (fun q9 _ h => hFc q9 h) hFc (fun r8 u8 t9 H1 locs ht9 hvm9 hw8 hB9 hzc hkc hS => ?_)
    obtain ⟨K', R', L', N', hP1, hD1, hM'⟩ := hB9
    rw [ht9] at hP1
    obtain ⟨hP, hD⟩ := xjoin (wr := (LWs cT cJ ou x lv kp fo' fL' fK' o ld b k FZ')) (wc := (MWs cI m0 a1 a2 a3 a4 K R L N ld o b k t)) (w1 := (MWs cI m0 a1 a2 a3 a4 K' R' L' N' ld o b k 0)) hP hD hkc hFc hP1 hD1
    generalize H1 = H at hP hS ⊢
    have hP : va_P D vwCl ((MWs cI m0 a1 a2 a3 a4 K' R' L' N' ld o b k 0) ++ (LWs cT cJ ou x lv kp fo' fL' fK' o ld b k FZ')) H := xP_perm List.perm_append_comm hP
    have hD : va_D A ((MWs cI m0 a1 a2 a3 a4 K' R' L' N' ld o b k 0) ++ (LWs cT cJ ou x lv kp fo' fL' fK' o ld b k FZ')) := xD_perm List.perm_append_comm hD
    subst hw8
    refine lv_istore (lv' := [(6, .int ((G (246 + j)).1)), (5, .int (nI 0)), (4, .int (nI i)), (0, .ref sb), (1, .ref x), (2, .ref m0), (3, .ref ou)]) hx hb dL_law_275 hl (by decide) rfl (fun ls hl => ?_)
    refine lv_aload_n hx hb dL_law_277 rfl (lv_at hl 5 rfl) ?_
    have hPm : va_P D vwCl (MWs cI m0 a1 a2 a3 a4 K' R' L' N' ld o b k 0) H := xP_sub (ws := (MWs cI m0 a1 a2 a3 a4 K' R' L' N' ld o b k 0) ++ (LWs cT cJ ou x lv kp fo' fL' fK' o ld b k FZ')) (fun _ h => List.mem_append_left _ h) hP
    refine xc_sie (va_runV (As := []) (rest := []) ⟨hx, hb, hml, hown, hts⟩ (c_X2_thrown l m0 a1 a2 a3 a4 K' R' L' N' ld o b k 0) (cwV 0 hts gL_law_X2_thrown rfl rfl rfl (by decide +kernel) ⟨(Nat.le_of_ble_eq_true rfl), (Nat.le_of_ble_eq_true rfl)⟩) ⟨XP_blind, va_recv hK hPm (ci := 2) (q0 := 0) rfl rfl, XP_pre hE hPm⟩ rfl rfl hl.1 rfl (lv_room (Nat.le_of_ble_eq_true rfl)) dL_law_278 ⟨by show (_ : Nat) ≤ 709371; omega, by show (_ : Nat) ≤ 6967992; omega⟩) ?_
    refine lv_iload hx hb dL_law_281 (lv_at hl 1 rfl) ?_
    refine lv_icmp_eq (tgt := 288) hx hb dL_law_283 (by decide) (fun _ => ?_) (fun h => absurd h (by decide))
    refine lv_iload hx hb dL_law_288 (lv_at hl 1 rfl) ?_
    refine lv_if_ne (tgt := 305) hx hb dL_law_290 (by decide) (fun h => absurd h (by decide)) (fun _ => ?_)
    refine lv_aload_n hx hb dL_law_293 rfl (lv_at hl 6 rfl) ?_
    refine lv_iconst (v := nI 0) hx hb dL_law_294 (by decide) ?_
    refine va_lald hx hb hK hP 5 2 rfl rfl (xin (by omega) (by omega)) dL_law_295 ?_
    refine x_topl (((G (246 + j)).1).toInt64) (by rw [nI_clamp (by omega)]; exact hfo) ?_
    refine lv_iload hx hb dL_law_296 (lv_at hl 0 rfl) ?_
    refine lv_i2l (v := ((G (246 + j)).1).toInt64) hx hb dL_law_298 rfl ?_
    refine W.lcmp hx hb dL_law_299 ?_
    refine x_top (nI 0) (lg_self _) ?_
    refine lv_if_eq (tgt := 305) hx hb dL_law_300 (by decide) (fun _ => ?_) (fun h => absurd h (by decide))
    refine lv_goto (tgt := 1054) hx hb dL_law_305 (by decide) ?_
    refine W.widen (k := cells + 8) (n := slots + 40) (by show _ ≤ _; omega) (by show _ ≤ _; omega) ?_
    exact kk (va_up G (246 + j) (nI 0, nI 0, 0, fun _ => 0), o, ld, b, k) H locs ls (by refine ⟨?_, ?_, ?_, ?_⟩ <;> dsimp only <;> omega) ⟨0, fo', fL', fK', FZ', K', R', L', N', hP, hD, hC', hM', hS⟩ (lv_sub hl [2, 3, 4, 5, 6] rfl)
  · obtain ⟨fo', fL', fK', FZ', hP1, hD1, hC', hfo⟩ := hB9
    dsimp only at hP1 hD1 hC'
    rw [ht9] at hP1
    obtain ⟨hP, hD⟩ := xjoin (wr := (MWs cI m0 a1 a2 a3 a4 K R L N ld o b k t)) (wc := (LWs cT cJ ou x lv kp fo fL fK o ld b k FZ)) (w1 := (LWs cT cJ ou x lv kp fo' fL' fK' o ld b k FZ')) hP hD hkc hFc hP1 hD1
    generalize H1 = H at hP hS ⊢
    refine lv_istore (lv' := [(5, .int (nI 1)), (4, .int (nI i)), (0, .ref sb), (1, .ref x), (2, .ref m0), (3, .ref ou)]) hx hb dL_law_263 hl (by decide) rfl (fun ls hl => ?_)
    refine lv_aload_n hx hb dL_law_265 rfl (lv_at hl 4 rfl) ?_
    refine lv_aload_n hx hb dL_law_266 rfl (lv_at hl 2 rfl) ?_
    refine lv_iload hx hb dL_law_267 (lv_at hl 1 rfl) ?_
    refine lv_iconst (v := nI 1) hx hb dL_law_269 (by decide) ?_
    refine lv_iadd hx hb dL_law_270 ?_
    refine x_top (nI (i + 1)) (xadd (by omega)) ?_
    refine va_sld hx hb hX hbl hbA hS (xin (by omega) (by omega)) dL_law_271 ?_
    refine x_top (xs (i + 1)) (by rw [nI_clamp (by omega)]) ?_
    have hP : va_P D vwCl ((LWs cT cJ ou x lv kp fo' fL' fK' o ld b k FZ') ++ (MWs cI m0 a1 a2 a3 a4 K R L N ld o b k t)) H := xP_perm List.perm_append_comm hP
    have hD : va_D A ((LWs cT cJ ou x lv kp fo' fL' fK' o ld b k FZ') ++ (MWs cI m0 a1 a2 a3 a4 K R L N ld o b k t)) := xD_perm List.perm_append_comm hD
    have hPm : va_P D vwCl (MWs cI m0 a1 a2 a3 a4 K R L N ld o b k t) H := xP_sub (fun _ h => List.mem_append_right _ h) hP
    have hDm : va_D (fun _ => True) (MWs cI m0 a1 a2 a3 a4 K R L N ld o b k t) := (xD_sub (List.sublist_append_right _ _) hD).weaken (fun _ _ _ _ => trivial)
    have hFc := xfree (wc := (MWs cI m0 a1 a2 a3 a4 K R L N ld o b k t)) hD hS hA (fun _ h => List.mem_append_right _ h)
    refine va_calli (va_runV (As := [.int (xs (i + 1))]) (rest := []) ⟨hx, hb, hml, hown, hts⟩ (c_X2_remove_b l m0 a1 a2 a3 a4 K R L N ld o b k t G hM (xs (i + 1)) hv H.size) (cwV 1 hts gL_law_X2_remove rfl rfl rfl (by decide +kernel) ⟨(Nat.le_of_ble_eq_true rfl), (Nat.le_of_ble_eq_true rfl)⟩) ⟨XP_blind, va_recv hK hPm (ci := 2) (q0 := 0) rfl rfl, XP_pre hE ⟨rfl, hPm, hDm⟩⟩ rfl rfl hl.1 rfl (lv_room (Nat.le_of_ble_eq_true rfl)) dL_law_272 ⟨by show (_ : Nat) ≤ 709371; omega, by show (_ : Nat) ≤ 6967992; omega⟩) hS (fun q9 _ h => hFc q9 h) hFc (fun r8 u8 t9 H1 locs ht9 hvm9 hw8 hB9 hzc hkc hS => ?_)
    obtain ⟨K', R', L', N', hP1, hD1, hM'⟩ := hB9
    rw [ht9] at hP1
    obtain ⟨hP, hD⟩ := xjoin (wr := (LWs cT cJ ou x lv kp fo' fL' fK' o ld b k FZ')) (wc := (MWs cI m0 a1 a2 a3 a4 K R L N ld o b k t)) (w1 := (MWs cI m0 a1 a2 a3 a4 K' R' L' N' ld o b k 1)) hP hD hkc hFc hP1 hD1
    generalize H1 = H at hP hS ⊢
    have hP : va_P D vwCl ((MWs cI m0 a1 a2 a3 a4 K' R' L' N' ld o b k 1) ++ (LWs cT cJ ou x lv kp fo' fL' fK' o ld b k FZ')) H := xP_perm List.perm_append_comm hP
    have hD : va_D A ((MWs cI m0 a1 a2 a3 a4 K' R' L' N' ld o b k 1) ++ (LWs cT cJ ou x lv kp fo' fL' fK' o ld b k FZ')) := xD_perm List.perm_append_comm hD
    refine lv_istore (lv' := [(6, .int r8), (5, .int (nI 1)), (4, .int (nI i)), (0, .ref sb), (1, .ref x), (2, .ref m0), (3, .ref ou)]) hx hb dL_law_275 hl (by decide) rfl (fun ls hl => ?_)
    refine lv_aload_n hx hb dL_law_277 rfl (lv_at hl 5 rfl) ?_
    have hPm : va_P D vwCl (MWs cI m0 a1 a2 a3 a4 K' R' L' N' ld o b k 1) H := xP_sub (ws := (MWs cI m0 a1 a2 a3 a4 K' R' L' N' ld o b k 1) ++ (LWs cT cJ ou x lv kp fo' fL' fK' o ld b k FZ')) (fun _ h => List.mem_append_left _ h) hP
    refine xc_sie (va_runV (As := []) (rest := []) ⟨hx, hb, hml, hown, hts⟩ (c_X2_thrown l m0 a1 a2 a3 a4 K' R' L' N' ld o b k 1) (cwV 0 hts gL_law_X2_thrown rfl rfl rfl (by decide +kernel) ⟨(Nat.le_of_ble_eq_true rfl), (Nat.le_of_ble_eq_true rfl)⟩) ⟨XP_blind, va_recv hK hPm (ci := 2) (q0 := 0) rfl rfl, XP_pre hE hPm⟩ rfl rfl hl.1 rfl (lv_room (Nat.le_of_ble_eq_true rfl)) dL_law_278 ⟨by show (_ : Nat) ≤ 709371; omega, by show (_ : Nat) ≤ 6967992; omega⟩) ?_
    refine lv_iload hx hb dL_law_281 (lv_at hl 1 rfl) ?_
    refine lv_icmp_eq (tgt := 288) hx hb dL_law_283 (by decide) (fun _ => ?_) (fun h => absurd h (by decide))
    refine lv_iload hx hb dL_law_288 (lv_at hl 1 rfl) ?_
    refine lv_if_ne (tgt := 305) hx hb dL_law_290 (by decide) (fun _ => ?_) (fun h => absurd h (by decide))
    refine lv_goto (tgt := 1054) hx hb dL_law_305 (by decide) ?_
    refine W.widen (k := cells + 8) (n := slots + 40) (by show _ ≤ _; omega) (by show _ ≤ _; omega) ?_
    exact kk (G, o, ld, b, k) H locs ls (by refine ⟨?_, ?_, ?_, ?_⟩ <;> dsimp only <;> omega) ⟨1, fo', fL', fK', FZ', K', R', L', N', hP, hD, hC', hM', hS⟩ (lv_sub hl [2, 3, 4, 5, 6] rfl)

set_option maxHeartbeats 4000000 in
set_option maxRecDepth 100000 in
theorem lc_makeLink {p : Program} {l : Launch} {e : Env} {s : State} {m : MethodId} {below : List Frame} {meth : Method} {c : Code} {D : va_G} {cI cT cJ : ClassId} {A : Nat → Prop} {sb Ls : Nat} {xs : Nat → Int32} {m0 a1 a2 a3 a4 ou x lv kp : Nat} {cells slots : Nat} {Q : State → Prop} (hX0 : LCX p l s m c D cI cT cJ A sb Ls xs) {H : Heap} {locs : List Loc} {ls : Array Slot} {i : Nat} {G : Nat → Tv} {o ld b k : Nat} (hi : i + 4 ≤ Ls) (hW : WF (G, o, ld, b, k)) (hI : LI D cI cT cJ m0 a1 a2 a3 a4 ou x lv kp A s (G, o, ld, b, k) H locs) (hl : lv_has ls 7 [(4, .int (nI i)), (0, .ref sb), (1, .ref x), (2, .ref m0), (3, .ref ou)]) (hcl : cells + 8 ≤ 709371) (hsl : slots + 40 ≤ 6967992)
    (kk : ∀ (u : Sv) (H : Heap) (locs : List Loc) (ls : Array Slot), WF u → LI D cI cT cJ m0 a1 a2 a3 a4 ou x lv kp A s u H locs → lv_has ls 7 [(4, .int (nI i)), (0, .ref sb), (1, .ref x), (2, .ref m0), (3, .ref ou)] → W p l e room_1 s m #[Value.ref sb] below meth c H locs (cells + 8) (slots + 40) Q (F0 m 1054 ls [])) : W p l e room_1 s m #[Value.ref sb] below meth c H locs cells slots Q (F0 m 184 ls []) := by
  obtain ⟨hx, hb, hml, hown, hts, hX, hbl, hL, hst, hE, hT0, hN, hA, hbA⟩ := hX0
  obtain ⟨t, fo, fL, fK, FZ, K, R, L, N, hP, hD, hC, hM, hS⟩ := hI
  obtain ⟨hold, hld, hbb, hbk⟩ := hW
  dsimp only at hP hD hC hM hold hld hbb hbk
  have hK := hE.1
  refine lv_aload_n hx hb dL_law_184 rfl (lv_at hl 2 rfl) ?_
  refine lv_aload_n hx hb dL_law_185 rfl (lv_at hl 1 rfl) ?_
  refine lv_iload hx hb dL_law_186 (lv_at hl 0 rfl) ?_
  refine lv_iconst (v := nI 1) hx hb dL_law_188 (by decide) ?_
  refine lv_iadd hx hb dL_law_189 ?_
  refine x_top (nI (i + 1)) (xadd (by omega)) ?_
  refine va_sld hx hb hX hbl hbA hS (xin (by omega) (by omega)) dL_law_190 ?_
  refine x_top (xs (i + 1)) (by rw [nI_clamp (by omega)]) ?_
  refine lv_aload_n hx hb dL_law_191 rfl (lv_at hl 1 rfl) ?_
  refine lv_iload hx hb dL_law_192 (lv_at hl 0 rfl) ?_
  refine lv_iconst (v := nI 2) hx hb dL_law_194 (by decide) ?_
  refine lv_iadd hx hb dL_law_195 ?_
  refine x_top (nI (i + 2)) (xadd (by omega)) ?_
  refine va_sld hx hb hX hbl hbA hS (xin (by omega) (by omega)) dL_law_196 ?_
  refine x_top (xs (i + 2)) (by rw [nI_clamp (by omega)]) ?_
  refine lv_aload_n hx hb dL_law_197 rfl (lv_at hl 4 rfl) ?_
  have hP : va_P D vwCl ((MWs cI m0 a1 a2 a3 a4 K R L N ld o b k t) ++ (LWs cT cJ ou x lv kp fo fL fK o ld b k FZ)) H := hP
  have hD : va_D A ((MWs cI m0 a1 a2 a3 a4 K R L N ld o b k t) ++ (LWs cT cJ ou x lv kp fo fL fK o ld b k FZ)) := hD
  have hPc : va_P D vwCl (LWs cT cJ ou x lv kp fo fL fK o ld b k FZ) H := xP_sub (fun _ h => List.mem_append_right _ h) hP
  have hDc : va_D (fun _ => True) (LWs cT cJ ou x lv kp fo fL fK o ld b k FZ) := (xD_sub (List.sublist_append_right _ _) hD).weaken (fun _ _ _ _ => trivial)
  have hFc := xfree (wc := (LWs cT cJ ou x lv kp fo fL fK o ld b k FZ)) hD hS hA (fun _ h => List.mem_append_right _ h)
  have hT : XT A s H := hT0.kept hS.2.1
  refine xcw (vx_runSX (As := [.ref x, .int (xs (i + 1)), .int (xs (i + 2)), .ref ou]) (rest := []) ⟨hx, hb, hml, hown, hts⟩ (c_L_makeLink l hst A ou x lv kp fo fL fK o ld b k FZ G hC (xs (i + 1)) (xs (i + 2)) H.size) (vx_cwSW 4 hts gL_law_L_makeLink rfl rfl rfl (by decide +kernel) ⟨(Nat.le_of_ble_eq_true rfl), (Nat.le_of_ble_eq_true rfl)⟩) ⟨XPl_blind, XPl_pre hE hT hN ⟨rfl, hPc, hDc⟩⟩ rfl rfl hl.1 rfl (lv_room (Nat.le_of_ble_eq_true rfl)) dL_law_198 ⟨by show (_ : Nat) ≤ 709371; omega, by show (_ : Nat) ≤ 6967992; omega⟩) hS (fun q9 _ h => hFc q9 h) hFc (fun _ _ _ _ _ hp9 _ _ _ _ _ _ => False.elim hp9) (fun r9 u9 t9 H1 locs ht9 hvm9 hw9 hB9 hzc hkc hS => ?_)
  obtain ⟨u1, z9⟩ := u9
  dsimp only at hw9 hB9
  rcases hw9 with ⟨rfl, r0, rfl, j, t8, hj, ht8, hv, hv2, rfl, rfl⟩ | ⟨rfl, rfl, hv⟩
  · obtain ⟨fo', fL', fK', FZ', hP1, hD1, hC', hfo⟩ := hB9
    dsimp only at hP1 hD1 hC'
    rw [ht9] at hP1
    obtain ⟨hP, hD⟩ := xjoin (wr := (MWs cI m0 a1 a2 a3 a4 K R L N ld o b k t)) (wc := (LWs cT cJ ou x lv kp fo fL fK o ld b k FZ)) (w1 := (LWs cT cJ ou x lv kp fo' fL' fK' o ld b k FZ')) hP hD hkc hFc hP1 hD1
    generalize H1 = H at hP hS ⊢
    refine lv_istore (lv' := [(5, .int (nI 0)), (4, .int (nI i)), (0, .ref sb), (1, .ref x), (2, .ref m0), (3, .ref ou)]) hx hb dL_law_201 hl (by decide) rfl (fun ls hl => ?_)
    refine lv_aload_n hx hb dL_law_203 rfl (lv_at hl 4 rfl) ?_
    refine lv_aload_n hx hb dL_law_204 rfl (lv_at hl 2 rfl) ?_
    refine lv_iload hx hb dL_law_205 (lv_at hl 1 rfl) ?_
    refine lv_iconst (v := nI 1) hx hb dL_law_207 (by decide) ?_
    refine lv_iadd hx hb dL_law_208 ?_
    refine x_top (nI (i + 1)) (xadd (by omega)) ?_
    refine va_sld hx hb hX hbl hbA hS (xin (by omega) (by omega)) dL_law_209 ?_
    refine x_top (xs (i + 1)) (by rw [nI_clamp (by omega)]) ?_
    refine x_top (nI j) (hv) ?_
    refine lv_aload_n hx hb dL_law_210 rfl (lv_at hl 2 rfl) ?_
    refine lv_iload hx hb dL_law_211 (lv_at hl 1 rfl) ?_
    refine lv_iconst (v := nI 2) hx hb dL_law_213 (by decide) ?_
    refine lv_iadd hx hb dL_law_214 ?_
    refine x_top (nI (i + 2)) (xadd (by omega)) ?_
    refine va_sld hx hb hX hbl hbA hS (xin (by omega) (by omega)) dL_law_215 ?_
    refine x_top (xs (i + 2)) (by rw [nI_clamp (by omega)]) ?_
    refine x_top (nI t8) (hv2) ?_
    have hP : va_P D vwCl ((LWs cT cJ ou x lv kp fo' fL' fK' o ld b k FZ') ++ (MWs cI m0 a1 a2 a3 a4 K R L N ld o b k t)) H := xP_perm List.perm_append_comm hP
    have hD : va_D A ((LWs cT cJ ou x lv kp fo' fL' fK' o ld b k FZ') ++ (MWs cI m0 a1 a2 a3 a4 K R L N ld o b k t)) := xD_perm List.perm_append_comm hD
    have hPm : va_P D vwCl (MWs cI m0 a1 a2 a3 a4 K R L N ld o b k t) H := xP_sub (fun _ h => List.mem_append_right _ h) hP
    have hDm : va_D (fun _ => True) (MWs cI m0 a1 a2 a3 a4 K R L N ld o b k t) := (xD_sub (List.sublist_append_right _ _) hD).weaken (fun _ _ _ _ => trivial)
    have hFc := xfree (wc := (MWs cI m0 a1 a2 a3 a4 K R L N ld o b k t)) hD hS hA (fun _ h => List.mem_append_right _ h)
    refine va_calli (va_runV (As := [.int (nI j), .int (nI t8)]) (rest := []) ⟨hx, hb, hml, hown, hts⟩ (c_X2_makeLink_g l m0 a1 a2 a3 a4 K R L N ld o b k t G hM j t8 hj ht8 H.size) (cwV 2 hts gL_law_X2_makeLink rfl rfl rfl (by decide +kernel) ⟨(Nat.le_of_ble_eq_true rfl), (Nat.le_of_ble_eq_true rfl)⟩) ⟨XP_blind, va_recv hK hPm (ci := 2) (q0 := 0) rfl rfl, XP_pre hE ⟨rfl, hPm, hDm⟩⟩ rfl rfl hl.1 rfl (lv_room (Nat.le_of_ble_eq_true rfl)) dL_law_216 ⟨by show (_ : Nat) ≤ 709371; omega, by show (_ : Nat) ≤ 6967992; omega⟩) hS (fun q9 _ h => hFc q9 h) hFc (fun r8 u8 t9 H1 locs ht9 hvm9 hw8 hB9 hzc hkc hS => ?_)
    obtain ⟨K', R', L', N', hP1, hD1, hM'⟩ := hB9
    rw [ht9] at hP1
    obtain ⟨hP, hD⟩ := xjoin (wr := (LWs cT cJ ou x lv kp fo' fL' fK' o ld b k FZ')) (wc := (MWs cI m0 a1 a2 a3 a4 K R L N ld o b k t)) (w1 := (MWs cI m0 a1 a2 a3 a4 K' R' L' N' ld o b k 0)) hP hD hkc hFc hP1 hD1
    generalize H1 = H at hP hS ⊢
    have hP : va_P D vwCl ((MWs cI m0 a1 a2 a3 a4 K' R' L' N' ld o b k 0) ++ (LWs cT cJ ou x lv kp fo' fL' fK' o ld b k FZ')) H := xP_perm List.perm_append_comm hP
    have hD : va_D A ((MWs cI m0 a1 a2 a3 a4 K' R' L' N' ld o b k 0) ++ (LWs cT cJ ou x lv kp fo' fL' fK' o ld b k FZ')) := xD_perm List.perm_append_comm hD
    subst hw8
    refine lv_istore (lv' := [(6, .int ((G (246 + j)).1)), (5, .int (nI 0)), (4, .int (nI i)), (0, .ref sb), (1, .ref x), (2, .ref m0), (3, .ref ou)]) hx hb dL_law_219 hl (by decide) rfl (fun ls hl => ?_)
    refine lv_aload_n hx hb dL_law_221 rfl (lv_at hl 5 rfl) ?_
    have hPm : va_P D vwCl (MWs cI m0 a1 a2 a3 a4 K' R' L' N' ld o b k 0) H := xP_sub (ws := (MWs cI m0 a1 a2 a3 a4 K' R' L' N' ld o b k 0) ++ (LWs cT cJ ou x lv kp fo' fL' fK' o ld b k FZ')) (fun _ h => List.mem_append_left _ h) hP
    refine xc_sie (va_runV (As := []) (rest := []) ⟨hx, hb, hml, hown, hts⟩ (c_X2_thrown l m0 a1 a2 a3 a4 K' R' L' N' ld o b k 0) (cwV 0 hts gL_law_X2_thrown rfl rfl rfl (by decide +kernel) ⟨(Nat.le_of_ble_eq_true rfl), (Nat.le_of_ble_eq_true rfl)⟩) ⟨XP_blind, va_recv hK hPm (ci := 2) (q0 := 0) rfl rfl, XP_pre hE hPm⟩ rfl rfl hl.1 rfl (lv_room (Nat.le_of_ble_eq_true rfl)) dL_law_222 ⟨by show (_ : Nat) ≤ 709371; omega, by show (_ : Nat) ≤ 6967992; omega⟩) ?_
    refine lv_iload hx hb dL_law_225 (lv_at hl 1 rfl) ?_
    refine lv_icmp_eq (tgt := 232) hx hb dL_law_227 (by decide) (fun _ => ?_) (fun h => absurd h (by decide))
    refine lv_iload hx hb dL_law_232 (lv_at hl 1 rfl) ?_
    refine lv_if_ne (tgt := 249) hx hb dL_law_234 (by decide) (fun h => absurd h (by decide)) (fun _ => ?_)
    refine lv_aload_n hx hb dL_law_237 rfl (lv_at hl 6 rfl) ?_
    refine lv_iconst (v := nI 0) hx hb dL_law_238 (by decide) ?_
    refine va_lald hx hb hK hP 5 2 rfl rfl (xin (by omega) (by omega)) dL_law_239 ?_
    refine x_topl (((G (246 + j)).1).toInt64) (by rw [nI_clamp (by omega)]; exact hfo) ?_
    refine lv_iload hx hb dL_law_240 (lv_at hl 0 rfl) ?_
    refine lv_i2l (v := ((G (246 + j)).1).toInt64) hx hb dL_law_242 rfl ?_
    refine W.lcmp hx hb dL_law_243 ?_
    refine x_top (nI 0) (lg_self _) ?_
    refine lv_if_eq (tgt := 249) hx hb dL_law_244 (by decide) (fun _ => ?_) (fun h => absurd h (by decide))
    refine lv_goto (tgt := 1054) hx hb dL_law_249 (by decide) ?_
    refine W.widen (k := cells + 8) (n := slots + 40) (by show _ ≤ _; omega) (by show _ ≤ _; omega) ?_
    exact kk (va_up G (246 + j) (nI 2, nI 0, 1, fun _ => nI t8), o, ld, b, k) H locs ls (by refine ⟨?_, ?_, ?_, ?_⟩ <;> dsimp only <;> omega) ⟨0, fo', fL', fK', FZ', K', R', L', N', hP, hD, hC', hM', hS⟩ (lv_sub hl [2, 3, 4, 5, 6] rfl)
  · obtain ⟨fo', fL', fK', FZ', hP1, hD1, hC', hfo⟩ := hB9
    dsimp only at hP1 hD1 hC'
    rw [ht9] at hP1
    obtain ⟨hP, hD⟩ := xjoin (wr := (MWs cI m0 a1 a2 a3 a4 K R L N ld o b k t)) (wc := (LWs cT cJ ou x lv kp fo fL fK o ld b k FZ)) (w1 := (LWs cT cJ ou x lv kp fo' fL' fK' o ld b k FZ')) hP hD hkc hFc hP1 hD1
    generalize H1 = H at hP hS ⊢
    refine lv_istore (lv' := [(5, .int (nI 1)), (4, .int (nI i)), (0, .ref sb), (1, .ref x), (2, .ref m0), (3, .ref ou)]) hx hb dL_law_201 hl (by decide) rfl (fun ls hl => ?_)
    refine lv_aload_n hx hb dL_law_203 rfl (lv_at hl 4 rfl) ?_
    refine lv_aload_n hx hb dL_law_204 rfl (lv_at hl 2 rfl) ?_
    refine lv_iload hx hb dL_law_205 (lv_at hl 1 rfl) ?_
    refine lv_iconst (v := nI 1) hx hb dL_law_207 (by decide) ?_
    refine lv_iadd hx hb dL_law_208 ?_
    refine x_top (nI (i + 1)) (xadd (by omega)) ?_
    refine va_sld hx hb hX hbl hbA hS (xin (by omega) (by omega)) dL_law_209 ?_
    refine x_top (xs (i + 1)) (by rw [nI_clamp (by omega)]) ?_
    refine lv_aload_n hx hb dL_law_210 rfl (lv_at hl 2 rfl) ?_
    refine lv_iload hx hb dL_law_211 (lv_at hl 1 rfl) ?_
    refine lv_iconst (v := nI 2) hx hb dL_law_213 (by decide) ?_
    refine lv_iadd hx hb dL_law_214 ?_
    refine x_top (nI (i + 2)) (xadd (by omega)) ?_
    refine va_sld hx hb hX hbl hbA hS (xin (by omega) (by omega)) dL_law_215 ?_
    refine x_top (xs (i + 2)) (by rw [nI_clamp (by omega)]) ?_
    have hP : va_P D vwCl ((LWs cT cJ ou x lv kp fo' fL' fK' o ld b k FZ') ++ (MWs cI m0 a1 a2 a3 a4 K R L N ld o b k t)) H := xP_perm List.perm_append_comm hP
    have hD : va_D A ((LWs cT cJ ou x lv kp fo' fL' fK' o ld b k FZ') ++ (MWs cI m0 a1 a2 a3 a4 K R L N ld o b k t)) := xD_perm List.perm_append_comm hD
    have hPm : va_P D vwCl (MWs cI m0 a1 a2 a3 a4 K R L N ld o b k t) H := xP_sub (fun _ h => List.mem_append_right _ h) hP
    have hDm : va_D (fun _ => True) (MWs cI m0 a1 a2 a3 a4 K R L N ld o b k t) := (xD_sub (List.sublist_append_right _ _) hD).weaken (fun _ _ _ _ => trivial)
    have hFc := xfree (wc := (MWs cI m0 a1 a2 a3 a4 K R L N ld o b k t)) hD hS hA (fun _ h => List.mem_append_right _ h)
    refine va_calli (va_runV (As := [.int (xs (i + 1)), .int (xs (i + 2))]) (rest := []) ⟨hx, hb, hml, hown, hts⟩ (c_X2_makeLink_b l m0 a1 a2 a3 a4 K R L N ld o b k t G hM (xs (i + 1)) (xs (i + 2)) hv H.size) (cwV 2 hts gL_law_X2_makeLink rfl rfl rfl (by decide +kernel) ⟨(Nat.le_of_ble_eq_true rfl), (Nat.le_of_ble_eq_true rfl)⟩) ⟨XP_blind, va_recv hK hPm (ci := 2) (q0 := 0) rfl rfl, XP_pre hE ⟨rfl, hPm, hDm⟩⟩ rfl rfl hl.1 rfl (lv_room (Nat.le_of_ble_eq_true rfl)) dL_law_216 ⟨by show (_ : Nat) ≤ 709371; omega, by show (_ : Nat) ≤ 6967992; omega⟩) hS (fun q9 _ h => hFc q9 h) hFc (fun r8 u8 t9 H1 locs ht9 hvm9 hw8 hB9 hzc hkc hS => ?_)
    obtain ⟨K', R', L', N', hP1, hD1, hM'⟩ := hB9
    rw [ht9] at hP1
    obtain ⟨hP, hD⟩ := xjoin (wr := (LWs cT cJ ou x lv kp fo' fL' fK' o ld b k FZ')) (wc := (MWs cI m0 a1 a2 a3 a4 K R L N ld o b k t)) (w1 := (MWs cI m0 a1 a2 a3 a4 K' R' L' N' ld o b k 1)) hP hD hkc hFc hP1 hD1
    generalize H1 = H at hP hS ⊢
    have hP : va_P D vwCl ((MWs cI m0 a1 a2 a3 a4 K' R' L' N' ld o b k 1) ++ (LWs cT cJ ou x lv kp fo' fL' fK' o ld b k FZ')) H := xP_perm List.perm_append_comm hP
    have hD : va_D A ((MWs cI m0 a1 a2 a3 a4 K' R' L' N' ld o b k 1) ++ (LWs cT cJ ou x lv kp fo' fL' fK' o ld b k FZ')) := xD_perm List.perm_append_comm hD
    refine lv_istore (lv' := [(6, .int r8), (5, .int (nI 1)), (4, .int (nI i)), (0, .ref sb), (1, .ref x), (2, .ref m0), (3, .ref ou)]) hx hb dL_law_219 hl (by decide) rfl (fun ls hl => ?_)
    refine lv_aload_n hx hb dL_law_221 rfl (lv_at hl 5 rfl) ?_
    have hPm : va_P D vwCl (MWs cI m0 a1 a2 a3 a4 K' R' L' N' ld o b k 1) H := xP_sub (ws := (MWs cI m0 a1 a2 a3 a4 K' R' L' N' ld o b k 1) ++ (LWs cT cJ ou x lv kp fo' fL' fK' o ld b k FZ')) (fun _ h => List.mem_append_left _ h) hP
    refine xc_sie (va_runV (As := []) (rest := []) ⟨hx, hb, hml, hown, hts⟩ (c_X2_thrown l m0 a1 a2 a3 a4 K' R' L' N' ld o b k 1) (cwV 0 hts gL_law_X2_thrown rfl rfl rfl (by decide +kernel) ⟨(Nat.le_of_ble_eq_true rfl), (Nat.le_of_ble_eq_true rfl)⟩) ⟨XP_blind, va_recv hK hPm (ci := 2) (q0 := 0) rfl rfl, XP_pre hE hPm⟩ rfl rfl hl.1 rfl (lv_room (Nat.le_of_ble_eq_true rfl)) dL_law_222 ⟨by show (_ : Nat) ≤ 709371; omega, by show (_ : Nat) ≤ 6967992; omega⟩) ?_
    refine lv_iload hx hb dL_law_225 (lv_at hl 1 rfl) ?_
    refine lv_icmp_eq (tgt := 232) hx hb dL_law_227 (by decide) (fun _ => ?_) (fun h => absurd h (by decide))
    refine lv_iload hx hb dL_law_232 (lv_at hl 1 rfl) ?_
    refine lv_if_ne (tgt := 249) hx hb dL_law_234 (by decide) (fun _ => ?_) (fun h => absurd h (by decide))
    refine lv_goto (tgt := 1054) hx hb dL_law_249 (by decide) ?_
    refine W.widen (k := cells + 8) (n := slots + 40) (by show _ ≤ _; omega) (by show _ ≤ _; omega) ?_
    exact kk (G, o, ld, b, k) H locs ls (by refine ⟨?_, ?_, ?_, ?_⟩ <;> dsimp only <;> omega) ⟨1, fo', fL', fK', FZ', K', R', L', N', hP, hD, hC', hM', hS⟩ (lv_sub hl [2, 3, 4, 5, 6] rfl)

set_option maxHeartbeats 4000000 in
set_option maxRecDepth 100000 in
theorem lc_put {p : Program} {l : Launch} {e : Env} {s : State} {m : MethodId} {below : List Frame} {meth : Method} {c : Code} {D : va_G} {cI cT cJ : ClassId} {A : Nat → Prop} {sb Ls : Nat} {xs : Nat → Int32} {m0 a1 a2 a3 a4 ou x lv kp : Nat} {cells slots : Nat} {Q : State → Prop} (hX0 : LCX p l s m c D cI cT cJ A sb Ls xs) {H : Heap} {locs : List Loc} {ls : Array Slot} {i : Nat} {G : Nat → Tv} {o ld b k : Nat} (hi : i + 4 ≤ Ls) (hW : WF (G, o, ld, b, k)) (hI : LI D cI cT cJ m0 a1 a2 a3 a4 ou x lv kp A s (G, o, ld, b, k) H locs) (hl : lv_has ls 7 [(4, .int (nI i)), (0, .ref sb), (1, .ref x), (2, .ref m0), (3, .ref ou)]) (hcl : cells + 8 ≤ 709371) (hsl : slots + 40 ≤ 6967992)
    (kk : ∀ (u : Sv) (H : Heap) (locs : List Loc) (ls : Array Slot), WF u → LI D cI cT cJ m0 a1 a2 a3 a4 ou x lv kp A s u H locs → lv_has ls 7 [(4, .int (nI i)), (0, .ref sb), (1, .ref x), (2, .ref m0), (3, .ref ou)] → W p l e room_1 s m #[Value.ref sb] below meth c H locs (cells + 8) (slots + 40) Q (F0 m 1054 ls [])) : W p l e room_1 s m #[Value.ref sb] below meth c H locs cells slots Q (F0 m 308 ls []) := by
  obtain ⟨hx, hb, hml, hown, hts, hX, hbl, hL, hst, hE, hT0, hN, hA, hbA⟩ := hX0
  obtain ⟨t, fo, fL, fK, FZ, K, R, L, N, hP, hD, hC, hM, hS⟩ := hI
  obtain ⟨hold, hld, hbb, hbk⟩ := hW
  dsimp only at hP hD hC hM hold hld hbb hbk
  have hK := hE.1
  refine lv_aload_n hx hb dL_law_308 rfl (lv_at hl 2 rfl) ?_
  refine lv_aload_n hx hb dL_law_309 rfl (lv_at hl 1 rfl) ?_
  refine lv_iload hx hb dL_law_310 (lv_at hl 0 rfl) ?_
  refine lv_iconst (v := nI 1) hx hb dL_law_312 (by decide) ?_
  refine lv_iadd hx hb dL_law_313 ?_
  refine x_top (nI (i + 1)) (xadd (by omega)) ?_
  refine va_sld hx hb hX hbl hbA hS (xin (by omega) (by omega)) dL_law_314 ?_
  refine x_top (xs (i + 1)) (by rw [nI_clamp (by omega)]) ?_
  refine lv_aload_n hx hb dL_law_315 rfl (lv_at hl 1 rfl) ?_
  refine lv_iload hx hb dL_law_316 (lv_at hl 0 rfl) ?_
  refine lv_iconst (v := nI 2) hx hb dL_law_318 (by decide) ?_
  refine lv_iadd hx hb dL_law_319 ?_
  refine x_top (nI (i + 2)) (xadd (by omega)) ?_
  refine va_sld hx hb hX hbl hbA hS (xin (by omega) (by omega)) dL_law_320 ?_
  refine x_top (xs (i + 2)) (by rw [nI_clamp (by omega)]) ?_
  refine lv_aload_n hx hb dL_law_321 rfl (lv_at hl 1 rfl) ?_
  refine lv_iload hx hb dL_law_322 (lv_at hl 0 rfl) ?_
  refine lv_iconst (v := nI 3) hx hb dL_law_324 (by decide) ?_
  refine lv_iadd hx hb dL_law_325 ?_
  refine x_top (nI (i + 3)) (xadd (by omega)) ?_
  refine va_sld hx hb hX hbl hbA hS (xin (by omega) (by omega)) dL_law_326 ?_
  refine x_top (xs (i + 3)) (by rw [nI_clamp (by omega)]) ?_
  refine lv_aload_n hx hb dL_law_327 rfl (lv_at hl 4 rfl) ?_
  have hP : va_P D vwCl ((MWs cI m0 a1 a2 a3 a4 K R L N ld o b k t) ++ (LWs cT cJ ou x lv kp fo fL fK o ld b k FZ)) H := hP
  have hD : va_D A ((MWs cI m0 a1 a2 a3 a4 K R L N ld o b k t) ++ (LWs cT cJ ou x lv kp fo fL fK o ld b k FZ)) := hD
  have hPc : va_P D vwCl (LWs cT cJ ou x lv kp fo fL fK o ld b k FZ) H := xP_sub (fun _ h => List.mem_append_right _ h) hP
  have hDc : va_D (fun _ => True) (LWs cT cJ ou x lv kp fo fL fK o ld b k FZ) := (xD_sub (List.sublist_append_right _ _) hD).weaken (fun _ _ _ _ => trivial)
  have hFc := xfree (wc := (LWs cT cJ ou x lv kp fo fL fK o ld b k FZ)) hD hS hA (fun _ h => List.mem_append_right _ h)
  have hT : XT A s H := hT0.kept hS.2.1
  refine xcw (vx_runSX (As := [.ref x, .int (xs (i + 1)), .int (xs (i + 2)), .int (xs (i + 3)), .ref ou]) (rest := []) ⟨hx, hb, hml, hown, hts⟩ (c_L_put l hst A ou x lv kp fo fL fK o ld b k FZ G hC (xs (i + 1)) (xs (i + 2)) (xs (i + 3)) H.size) (vx_cwSW 5 hts gL_law_L_put rfl rfl rfl (by decide +kernel) ⟨(Nat.le_of_ble_eq_true rfl), (Nat.le_of_ble_eq_true rfl)⟩) ⟨XPl_blind, XPl_pre hE hT hN ⟨rfl, hPc, hDc⟩⟩ rfl rfl hl.1 rfl (lv_room (Nat.le_of_ble_eq_true rfl)) dL_law_328 ⟨by show (_ : Nat) ≤ 709371; omega, by show (_ : Nat) ≤ 6967992; omega⟩) hS (fun q9 _ h => hFc q9 h) hFc (fun _ _ _ _ _ hp9 _ _ _ _ _ _ => False.elim hp9) (fun r9 u9 t9 H1 locs ht9 hvm9 hw9 hB9 hzc hkc hS => ?_)
  obtain ⟨u1, z9⟩ := u9
  dsimp only at hw9 hB9
  rcases hw9 with ⟨rfl, r0, rfl, j, sp, y, hj, hv, hPK, hsp, hv2, hy, hv3, rfl, rfl⟩ | ⟨rfl, rfl, hv⟩ | ⟨rfl, rfl, j, hj, hv, hPK⟩ | ⟨rfl, rfl, j, hj, hv, hPK, hbad⟩
  · obtain ⟨fo', fL', fK', FZ', hP1, hD1, hC', hfo⟩ := hB9
    dsimp only at hP1 hD1 hC'
    rw [ht9] at hP1
    obtain ⟨hP, hD⟩ := xjoin (wr := (MWs cI m0 a1 a2 a3 a4 K R L N ld o b k t)) (wc := (LWs cT cJ ou x lv kp fo fL fK o ld b k FZ)) (w1 := (LWs cT cJ ou x lv kp fo' fL' fK' o ld b k FZ')) hP hD hkc hFc hP1 hD1
    generalize H1 = H at hP hS ⊢
    refine lv_istore (lv' := [(5, .int (nI 0)), (4, .int (nI i)), (0, .ref sb), (1, .ref x), (2, .ref m0), (3, .ref ou)]) hx hb dL_law_331 hl (by decide) rfl (fun ls hl => ?_)
    refine lv_aload_n hx hb dL_law_333 rfl (lv_at hl 4 rfl) ?_
    refine lv_aload_n hx hb dL_law_334 rfl (lv_at hl 2 rfl) ?_
    refine lv_iload hx hb dL_law_335 (lv_at hl 1 rfl) ?_
    refine lv_iconst (v := nI 1) hx hb dL_law_337 (by decide) ?_
    refine lv_iadd hx hb dL_law_338 ?_
    refine x_top (nI (i + 1)) (xadd (by omega)) ?_
    refine va_sld hx hb hX hbl hbA hS (xin (by omega) (by omega)) dL_law_339 ?_
    refine x_top (xs (i + 1)) (by rw [nI_clamp (by omega)]) ?_
    refine x_top (nI j) (hv) ?_
    refine lv_aload_n hx hb dL_law_340 rfl (lv_at hl 2 rfl) ?_
    refine lv_iload hx hb dL_law_341 (lv_at hl 1 rfl) ?_
    refine lv_iconst (v := nI 2) hx hb dL_law_343 (by decide) ?_
    refine lv_iadd hx hb dL_law_344 ?_
    refine x_top (nI (i + 2)) (xadd (by omega)) ?_
    refine va_sld hx hb hX hbl hbA hS (xin (by omega) (by omega)) dL_law_345 ?_
    refine x_top (xs (i + 2)) (by rw [nI_clamp (by omega)]) ?_
    refine x_top (nI sp) (hv2) ?_
    refine lv_aload_n hx hb dL_law_346 rfl (lv_at hl 2 rfl) ?_
    refine lv_iload hx hb dL_law_347 (lv_at hl 1 rfl) ?_
    refine lv_iconst (v := nI 3) hx hb dL_law_349 (by decide) ?_
    refine lv_iadd hx hb dL_law_350 ?_
    refine x_top (nI (i + 3)) (xadd (by omega)) ?_
    refine va_sld hx hb hX hbl hbA hS (xin (by omega) (by omega)) dL_law_351 ?_
    refine x_top (xs (i + 3)) (by rw [nI_clamp (by omega)]) ?_
    refine x_top (nI y) (hv3) ?_
    have hP : va_P D vwCl ((LWs cT cJ ou x lv kp fo' fL' fK' o ld b k FZ') ++ (MWs cI m0 a1 a2 a3 a4 K R L N ld o b k t)) H := xP_perm List.perm_append_comm hP
    have hD : va_D A ((LWs cT cJ ou x lv kp fo' fL' fK' o ld b k FZ') ++ (MWs cI m0 a1 a2 a3 a4 K R L N ld o b k t)) := xD_perm List.perm_append_comm hD
    have hPm : va_P D vwCl (MWs cI m0 a1 a2 a3 a4 K R L N ld o b k t) H := xP_sub (fun _ h => List.mem_append_right _ h) hP
    have hDm : va_D (fun _ => True) (MWs cI m0 a1 a2 a3 a4 K R L N ld o b k t) := (xD_sub (List.sublist_append_right _ _) hD).weaken (fun _ _ _ _ => trivial)
    have hFc := xfree (wc := (MWs cI m0 a1 a2 a3 a4 K R L N ld o b k t)) hD hS hA (fun _ h => List.mem_append_right _ h)
    refine va_calli (va_runV (As := [.int (nI j), .int (nI sp), .int (nI y)]) (rest := []) ⟨hx, hb, hml, hown, hts⟩ (c_X2_put_g l m0 a1 a2 a3 a4 K R L N ld o b k t G hM j sp y hj hPK hsp hy H.size) (cwV 3 hts gL_law_X2_put rfl rfl rfl (by decide +kernel) ⟨(Nat.le_of_ble_eq_true rfl), (Nat.le_of_ble_eq_true rfl)⟩) ⟨XP_blind, va_recv hK hPm (ci := 2) (q0 := 0) rfl rfl, XP_pre hE ⟨rfl, hPm, hDm⟩⟩ rfl rfl hl.1 rfl (lv_room (Nat.le_of_ble_eq_true rfl)) dL_law_352 ⟨by show (_ : Nat) ≤ 709371; omega, by show (_ : Nat) ≤ 6967992; omega⟩) hS (fun q9 _ h => hFc q9 h) hFc (fun r8 u8 t9 H1 locs ht9 hvm9 hw8 hB9 hzc hkc hS => ?_)
    obtain ⟨K', R', L', N', hP1, hD1, hM'⟩ := hB9
    rw [ht9] at hP1
    obtain ⟨hP, hD⟩ := xjoin (wr := (LWs cT cJ ou x lv kp fo' fL' fK' o ld b k FZ')) (wc := (MWs cI m0 a1 a2 a3 a4 K R L N ld o b k t)) (w1 := (MWs cI m0 a1 a2 a3 a4 K' R' L' N' ld o b k 0)) hP hD hkc hFc hP1 hD1
    generalize H1 = H at hP hS ⊢
    have hP : va_P D vwCl ((MWs cI m0 a1 a2 a3 a4 K' R' L' N' ld o b k 0) ++ (LWs cT cJ ou x lv kp fo' fL' fK' o ld b k FZ')) H := xP_perm List.perm_append_comm hP
    have hD : va_D A ((MWs cI m0 a1 a2 a3 a4 K' R' L' N' ld o b k 0) ++ (LWs cT cJ ou x lv kp fo' fL' fK' o ld b k FZ')) := xD_perm List.perm_append_comm hD
    subst hw8
    refine lv_istore (lv' := [(6, .int (nI ((G (246 + j)).2.2.1 + 1))), (5, .int (nI 0)), (4, .int (nI i)), (0, .ref sb), (1, .ref x), (2, .ref m0), (3, .ref ou)]) hx hb dL_law_355 hl (by decide) rfl (fun ls hl => ?_)
    refine lv_aload_n hx hb dL_law_357 rfl (lv_at hl 5 rfl) ?_
    have hPm : va_P D vwCl (MWs cI m0 a1 a2 a3 a4 K' R' L' N' ld o b k 0) H := xP_sub (ws := (MWs cI m0 a1 a2 a3 a4 K' R' L' N' ld o b k 0) ++ (LWs cT cJ ou x lv kp fo' fL' fK' o ld b k FZ')) (fun _ h => List.mem_append_left _ h) hP
    refine xc_sie (va_runV (As := []) (rest := []) ⟨hx, hb, hml, hown, hts⟩ (c_X2_thrown l m0 a1 a2 a3 a4 K' R' L' N' ld o b k 0) (cwV 0 hts gL_law_X2_thrown rfl rfl rfl (by decide +kernel) ⟨(Nat.le_of_ble_eq_true rfl), (Nat.le_of_ble_eq_true rfl)⟩) ⟨XP_blind, va_recv hK hPm (ci := 2) (q0 := 0) rfl rfl, XP_pre hE hPm⟩ rfl rfl hl.1 rfl (lv_room (Nat.le_of_ble_eq_true rfl)) dL_law_358 ⟨by show (_ : Nat) ≤ 709371; omega, by show (_ : Nat) ≤ 6967992; omega⟩) ?_
    refine lv_iload hx hb dL_law_361 (lv_at hl 1 rfl) ?_
    refine lv_icmp_eq (tgt := 368) hx hb dL_law_363 (by decide) (fun _ => ?_) (fun h => absurd h (by decide))
    refine lv_iload hx hb dL_law_368 (lv_at hl 1 rfl) ?_
    refine lv_if_ne (tgt := 385) hx hb dL_law_370 (by decide) (fun h => absurd h (by decide)) (fun _ => ?_)
    refine lv_aload_n hx hb dL_law_373 rfl (lv_at hl 6 rfl) ?_
    refine lv_iconst (v := nI 0) hx hb dL_law_374 (by decide) ?_
    refine va_lald hx hb hK hP 5 2 rfl rfl (xin (by omega) (by omega)) dL_law_375 ?_
    refine x_topl ((nI ((G (246 + j)).2.2.1 + 1)).toInt64) (by rw [nI_clamp (by omega)]; exact hfo) ?_
    refine lv_iload hx hb dL_law_376 (lv_at hl 0 rfl) ?_
    refine lv_i2l (v := (nI ((G (246 + j)).2.2.1 + 1)).toInt64) hx hb dL_law_378 rfl ?_
    refine W.lcmp hx hb dL_law_379 ?_
    refine x_top (nI 0) (lg_self _) ?_
    refine lv_if_eq (tgt := 385) hx hb dL_law_380 (by decide) (fun _ => ?_) (fun h => absurd h (by decide))
    refine lv_goto (tgt := 1054) hx hb dL_law_385 (by decide) ?_
    refine W.widen (k := cells + 8) (n := slots + 40) (by show _ ≤ _; omega) (by show _ ≤ _; omega) ?_
    exact kk (va_up G (246 + j) (nI 1, (G (246 + j)).2.1, (G (246 + j)).2.2.1 + 1, insR (G (246 + j)).2.2.2 sp (nI y)), o, ld, b, k) H locs ls (by refine ⟨?_, ?_, ?_, ?_⟩ <;> dsimp only <;> omega) ⟨0, fo', fL', fK', FZ', K', R', L', N', hP, hD, hC', hM', hS⟩ (lv_sub hl [2, 3, 4, 5, 6] rfl)
  · obtain ⟨fo', fL', fK', FZ', hP1, hD1, hC', hfo⟩ := hB9
    dsimp only at hP1 hD1 hC'
    rw [ht9] at hP1
    obtain ⟨hP, hD⟩ := xjoin (wr := (MWs cI m0 a1 a2 a3 a4 K R L N ld o b k t)) (wc := (LWs cT cJ ou x lv kp fo fL fK o ld b k FZ)) (w1 := (LWs cT cJ ou x lv kp fo' fL' fK' o ld b k FZ')) hP hD hkc hFc hP1 hD1
    generalize H1 = H at hP hS ⊢
    refine lv_istore (lv' := [(5, .int (nI 1)), (4, .int (nI i)), (0, .ref sb), (1, .ref x), (2, .ref m0), (3, .ref ou)]) hx hb dL_law_331 hl (by decide) rfl (fun ls hl => ?_)
    refine lv_aload_n hx hb dL_law_333 rfl (lv_at hl 4 rfl) ?_
    refine lv_aload_n hx hb dL_law_334 rfl (lv_at hl 2 rfl) ?_
    refine lv_iload hx hb dL_law_335 (lv_at hl 1 rfl) ?_
    refine lv_iconst (v := nI 1) hx hb dL_law_337 (by decide) ?_
    refine lv_iadd hx hb dL_law_338 ?_
    refine x_top (nI (i + 1)) (xadd (by omega)) ?_
    refine va_sld hx hb hX hbl hbA hS (xin (by omega) (by omega)) dL_law_339 ?_
    refine x_top (xs (i + 1)) (by rw [nI_clamp (by omega)]) ?_
    refine lv_aload_n hx hb dL_law_340 rfl (lv_at hl 2 rfl) ?_
    refine lv_iload hx hb dL_law_341 (lv_at hl 1 rfl) ?_
    refine lv_iconst (v := nI 2) hx hb dL_law_343 (by decide) ?_
    refine lv_iadd hx hb dL_law_344 ?_
    refine x_top (nI (i + 2)) (xadd (by omega)) ?_
    refine va_sld hx hb hX hbl hbA hS (xin (by omega) (by omega)) dL_law_345 ?_
    refine x_top (xs (i + 2)) (by rw [nI_clamp (by omega)]) ?_
    refine lv_aload_n hx hb dL_law_346 rfl (lv_at hl 2 rfl) ?_
    refine lv_iload hx hb dL_law_347 (lv_at hl 1 rfl) ?_
    refine lv_iconst (v := nI 3) hx hb dL_law_349 (by decide) ?_
    refine lv_iadd hx hb dL_law_350 ?_
    refine x_top (nI (i + 3)) (xadd (by omega)) ?_
    refine va_sld hx hb hX hbl hbA hS (xin (by omega) (by omega)) dL_law_351 ?_
    refine x_top (xs (i + 3)) (by rw [nI_clamp (by omega)]) ?_
    have hP : va_P D vwCl ((LWs cT cJ ou x lv kp fo' fL' fK' o ld b k FZ') ++ (MWs cI m0 a1 a2 a3 a4 K R L N ld o b k t)) H := xP_perm List.perm_append_comm hP
    have hD : va_D A ((LWs cT cJ ou x lv kp fo' fL' fK' o ld b k FZ') ++ (MWs cI m0 a1 a2 a3 a4 K R L N ld o b k t)) := xD_perm List.perm_append_comm hD
    have hPm : va_P D vwCl (MWs cI m0 a1 a2 a3 a4 K R L N ld o b k t) H := xP_sub (fun _ h => List.mem_append_right _ h) hP
    have hDm : va_D (fun _ => True) (MWs cI m0 a1 a2 a3 a4 K R L N ld o b k t) := (xD_sub (List.sublist_append_right _ _) hD).weaken (fun _ _ _ _ => trivial)
    have hFc := xfree (wc := (MWs cI m0 a1 a2 a3 a4 K R L N ld o b k t)) hD hS hA (fun _ h => List.mem_append_right _ h)
    refine va_calli (va_runV (As := [.int (xs (i + 1)), .int (xs (i + 2)), .int (xs (i + 3))]) (rest := []) ⟨hx, hb, hml, hown, hts⟩ (c_X2_put_b l m0 a1 a2 a3 a4 K R L N ld o b k t G hM (xs (i + 1)) (xs (i + 2)) (xs (i + 3)) hv H.size) (cwV 3 hts gL_law_X2_put rfl rfl rfl (by decide +kernel) ⟨(Nat.le_of_ble_eq_true rfl), (Nat.le_of_ble_eq_true rfl)⟩) ⟨XP_blind, va_recv hK hPm (ci := 2) (q0 := 0) rfl rfl, XP_pre hE ⟨rfl, hPm, hDm⟩⟩ rfl rfl hl.1 rfl (lv_room (Nat.le_of_ble_eq_true rfl)) dL_law_352 ⟨by show (_ : Nat) ≤ 709371; omega, by show (_ : Nat) ≤ 6967992; omega⟩) hS (fun q9 _ h => hFc q9 h) hFc (fun r8 u8 t9 H1 locs ht9 hvm9 hw8 hB9 hzc hkc hS => ?_)
    obtain ⟨K', R', L', N', hP1, hD1, hM'⟩ := hB9
    rw [ht9] at hP1
    obtain ⟨hP, hD⟩ := xjoin (wr := (LWs cT cJ ou x lv kp fo' fL' fK' o ld b k FZ')) (wc := (MWs cI m0 a1 a2 a3 a4 K R L N ld o b k t)) (w1 := (MWs cI m0 a1 a2 a3 a4 K' R' L' N' ld o b k 1)) hP hD hkc hFc hP1 hD1
    generalize H1 = H at hP hS ⊢
    have hP : va_P D vwCl ((MWs cI m0 a1 a2 a3 a4 K' R' L' N' ld o b k 1) ++ (LWs cT cJ ou x lv kp fo' fL' fK' o ld b k FZ')) H := xP_perm List.perm_append_comm hP
    have hD : va_D A ((MWs cI m0 a1 a2 a3 a4 K' R' L' N' ld o b k 1) ++ (LWs cT cJ ou x lv kp fo' fL' fK' o ld b k FZ')) := xD_perm List.perm_append_comm hD
    refine lv_istore (lv' := [(6, .int r8), (5, .int (nI 1)), (4, .int (nI i)), (0, .ref sb), (1, .ref x), (2, .ref m0), (3, .ref ou)]) hx hb dL_law_355 hl (by decide) rfl (fun ls hl => ?_)
    refine lv_aload_n hx hb dL_law_357 rfl (lv_at hl 5 rfl) ?_
    have hPm : va_P D vwCl (MWs cI m0 a1 a2 a3 a4 K' R' L' N' ld o b k 1) H := xP_sub (ws := (MWs cI m0 a1 a2 a3 a4 K' R' L' N' ld o b k 1) ++ (LWs cT cJ ou x lv kp fo' fL' fK' o ld b k FZ')) (fun _ h => List.mem_append_left _ h) hP
    refine xc_sie (va_runV (As := []) (rest := []) ⟨hx, hb, hml, hown, hts⟩ (c_X2_thrown l m0 a1 a2 a3 a4 K' R' L' N' ld o b k 1) (cwV 0 hts gL_law_X2_thrown rfl rfl rfl (by decide +kernel) ⟨(Nat.le_of_ble_eq_true rfl), (Nat.le_of_ble_eq_true rfl)⟩) ⟨XP_blind, va_recv hK hPm (ci := 2) (q0 := 0) rfl rfl, XP_pre hE hPm⟩ rfl rfl hl.1 rfl (lv_room (Nat.le_of_ble_eq_true rfl)) dL_law_358 ⟨by show (_ : Nat) ≤ 709371; omega, by show (_ : Nat) ≤ 6967992; omega⟩) ?_
    refine lv_iload hx hb dL_law_361 (lv_at hl 1 rfl) ?_
    refine lv_icmp_eq (tgt := 368) hx hb dL_law_363 (by decide) (fun _ => ?_) (fun h => absurd h (by decide))
    refine lv_iload hx hb dL_law_368 (lv_at hl 1 rfl) ?_
    refine lv_if_ne (tgt := 385) hx hb dL_law_370 (by decide) (fun _ => ?_) (fun h => absurd h (by decide))
    refine lv_goto (tgt := 1054) hx hb dL_law_385 (by decide) ?_
    refine W.widen (k := cells + 8) (n := slots + 40) (by show _ ≤ _; omega) (by show _ ≤ _; omega) ?_
    exact kk (G, o, ld, b, k) H locs ls (by refine ⟨?_, ?_, ?_, ?_⟩ <;> dsimp only <;> omega) ⟨1, fo', fL', fK', FZ', K', R', L', N', hP, hD, hC', hM', hS⟩ (lv_sub hl [2, 3, 4, 5, 6] rfl)
  · obtain ⟨fo', fL', fK', FZ', hP1, hD1, hC', hfo⟩ := hB9
    dsimp only at hP1 hD1 hC'
    rw [ht9] at hP1
    obtain ⟨hP, hD⟩ := xjoin (wr := (MWs cI m0 a1 a2 a3 a4 K R L N ld o b k t)) (wc := (LWs cT cJ ou x lv kp fo fL fK o ld b k FZ)) (w1 := (LWs cT cJ ou x lv kp fo' fL' fK' o ld b k FZ')) hP hD hkc hFc hP1 hD1
    generalize H1 = H at hP hS ⊢
    refine lv_istore (lv' := [(5, .int (nI 2)), (4, .int (nI i)), (0, .ref sb), (1, .ref x), (2, .ref m0), (3, .ref ou)]) hx hb dL_law_331 hl (by decide) rfl (fun ls hl => ?_)
    refine lv_aload_n hx hb dL_law_333 rfl (lv_at hl 4 rfl) ?_
    refine lv_aload_n hx hb dL_law_334 rfl (lv_at hl 2 rfl) ?_
    refine lv_iload hx hb dL_law_335 (lv_at hl 1 rfl) ?_
    refine lv_iconst (v := nI 1) hx hb dL_law_337 (by decide) ?_
    refine lv_iadd hx hb dL_law_338 ?_
    refine x_top (nI (i + 1)) (xadd (by omega)) ?_
    refine va_sld hx hb hX hbl hbA hS (xin (by omega) (by omega)) dL_law_339 ?_
    refine x_top (xs (i + 1)) (by rw [nI_clamp (by omega)]) ?_
    refine x_top (nI j) (hv) ?_
    refine lv_aload_n hx hb dL_law_340 rfl (lv_at hl 2 rfl) ?_
    refine lv_iload hx hb dL_law_341 (lv_at hl 1 rfl) ?_
    refine lv_iconst (v := nI 2) hx hb dL_law_343 (by decide) ?_
    refine lv_iadd hx hb dL_law_344 ?_
    refine x_top (nI (i + 2)) (xadd (by omega)) ?_
    refine va_sld hx hb hX hbl hbA hS (xin (by omega) (by omega)) dL_law_345 ?_
    refine x_top (xs (i + 2)) (by rw [nI_clamp (by omega)]) ?_
    refine lv_aload_n hx hb dL_law_346 rfl (lv_at hl 2 rfl) ?_
    refine lv_iload hx hb dL_law_347 (lv_at hl 1 rfl) ?_
    refine lv_iconst (v := nI 3) hx hb dL_law_349 (by decide) ?_
    refine lv_iadd hx hb dL_law_350 ?_
    refine x_top (nI (i + 3)) (xadd (by omega)) ?_
    refine va_sld hx hb hX hbl hbA hS (xin (by omega) (by omega)) dL_law_351 ?_
    refine x_top (xs (i + 3)) (by rw [nI_clamp (by omega)]) ?_
    have hP : va_P D vwCl ((LWs cT cJ ou x lv kp fo' fL' fK' o ld b k FZ') ++ (MWs cI m0 a1 a2 a3 a4 K R L N ld o b k t)) H := xP_perm List.perm_append_comm hP
    have hD : va_D A ((LWs cT cJ ou x lv kp fo' fL' fK' o ld b k FZ') ++ (MWs cI m0 a1 a2 a3 a4 K R L N ld o b k t)) := xD_perm List.perm_append_comm hD
    have hPm : va_P D vwCl (MWs cI m0 a1 a2 a3 a4 K R L N ld o b k t) H := xP_sub (fun _ h => List.mem_append_right _ h) hP
    have hDm : va_D (fun _ => True) (MWs cI m0 a1 a2 a3 a4 K R L N ld o b k t) := (xD_sub (List.sublist_append_right _ _) hD).weaken (fun _ _ _ _ => trivial)
    have hFc := xfree (wc := (MWs cI m0 a1 a2 a3 a4 K R L N ld o b k t)) hD hS hA (fun _ h => List.mem_append_right _ h)
    refine va_calli (va_runV (As := [.int (nI j), .int (xs (i + 2)), .int (xs (i + 3))]) (rest := []) ⟨hx, hb, hml, hown, hts⟩ (c_X2_put_c l m0 a1 a2 a3 a4 K R L N ld o b k t G hM j (xs (i + 2)) (xs (i + 3)) hj hPK H.size) (cwV 3 hts gL_law_X2_put rfl rfl rfl (by decide +kernel) ⟨(Nat.le_of_ble_eq_true rfl), (Nat.le_of_ble_eq_true rfl)⟩) ⟨XP_blind, va_recv hK hPm (ci := 2) (q0 := 0) rfl rfl, XP_pre hE ⟨rfl, hPm, hDm⟩⟩ rfl rfl hl.1 rfl (lv_room (Nat.le_of_ble_eq_true rfl)) dL_law_352 ⟨by show (_ : Nat) ≤ 709371; omega, by show (_ : Nat) ≤ 6967992; omega⟩) hS (fun q9 _ h => hFc q9 h) hFc (fun r8 u8 t9 H1 locs ht9 hvm9 hw8 hB9 hzc hkc hS => ?_)
    obtain ⟨K', R', L', N', hP1, hD1, hM'⟩ := hB9
    rw [ht9] at hP1
    obtain ⟨hP, hD⟩ := xjoin (wr := (LWs cT cJ ou x lv kp fo' fL' fK' o ld b k FZ')) (wc := (MWs cI m0 a1 a2 a3 a4 K R L N ld o b k t)) (w1 := (MWs cI m0 a1 a2 a3 a4 K' R' L' N' ld o b k 2)) hP hD hkc hFc hP1 hD1
    generalize H1 = H at hP hS ⊢
    have hP : va_P D vwCl ((MWs cI m0 a1 a2 a3 a4 K' R' L' N' ld o b k 2) ++ (LWs cT cJ ou x lv kp fo' fL' fK' o ld b k FZ')) H := xP_perm List.perm_append_comm hP
    have hD : va_D A ((MWs cI m0 a1 a2 a3 a4 K' R' L' N' ld o b k 2) ++ (LWs cT cJ ou x lv kp fo' fL' fK' o ld b k FZ')) := xD_perm List.perm_append_comm hD
    refine lv_istore (lv' := [(6, .int r8), (5, .int (nI 2)), (4, .int (nI i)), (0, .ref sb), (1, .ref x), (2, .ref m0), (3, .ref ou)]) hx hb dL_law_355 hl (by decide) rfl (fun ls hl => ?_)
    refine lv_aload_n hx hb dL_law_357 rfl (lv_at hl 5 rfl) ?_
    have hPm : va_P D vwCl (MWs cI m0 a1 a2 a3 a4 K' R' L' N' ld o b k 2) H := xP_sub (ws := (MWs cI m0 a1 a2 a3 a4 K' R' L' N' ld o b k 2) ++ (LWs cT cJ ou x lv kp fo' fL' fK' o ld b k FZ')) (fun _ h => List.mem_append_left _ h) hP
    refine xc_sie (va_runV (As := []) (rest := []) ⟨hx, hb, hml, hown, hts⟩ (c_X2_thrown l m0 a1 a2 a3 a4 K' R' L' N' ld o b k 2) (cwV 0 hts gL_law_X2_thrown rfl rfl rfl (by decide +kernel) ⟨(Nat.le_of_ble_eq_true rfl), (Nat.le_of_ble_eq_true rfl)⟩) ⟨XP_blind, va_recv hK hPm (ci := 2) (q0 := 0) rfl rfl, XP_pre hE hPm⟩ rfl rfl hl.1 rfl (lv_room (Nat.le_of_ble_eq_true rfl)) dL_law_358 ⟨by show (_ : Nat) ≤ 709371; omega, by show (_ : Nat) ≤ 6967992; omega⟩) ?_
    refine lv_iload hx hb dL_law_361 (lv_at hl 1 rfl) ?_
    refine lv_icmp_eq (tgt := 368) hx hb dL_law_363 (by decide) (fun _ => ?_) (fun h => absurd h (by decide))
    refine lv_iload hx hb dL_law_368 (lv_at hl 1 rfl) ?_
    refine lv_if_ne (tgt := 385) hx hb dL_law_370 (by decide) (fun _ => ?_) (fun h => absurd h (by decide))
    refine lv_goto (tgt := 1054) hx hb dL_law_385 (by decide) ?_
    refine W.widen (k := cells + 8) (n := slots + 40) (by show _ ≤ _; omega) (by show _ ≤ _; omega) ?_
    exact kk (G, o, ld, b, k) H locs ls (by refine ⟨?_, ?_, ?_, ?_⟩ <;> dsimp only <;> omega) ⟨2, fo', fL', fK', FZ', K', R', L', N', hP, hD, hC', hM', hS⟩ (lv_sub hl [2, 3, 4, 5, 6] rfl)
  · obtain ⟨fo', fL', fK', FZ', hP1, hD1, hC', hfo⟩ := hB9
    dsimp only at hP1 hD1 hC'
    rw [ht9] at hP1
    obtain ⟨hP, hD⟩ := xjoin (wr := (MWs cI m0 a1 a2 a3 a4 K R L N ld o b k t)) (wc := (LWs cT cJ ou x lv kp fo fL fK o ld b k FZ)) (w1 := (LWs cT cJ ou x lv kp fo' fL' fK' o ld b k FZ')) hP hD hkc hFc hP1 hD1
    generalize H1 = H at hP hS ⊢
    refine lv_istore (lv' := [(5, .int (nI 3)), (4, .int (nI i)), (0, .ref sb), (1, .ref x), (2, .ref m0), (3, .ref ou)]) hx hb dL_law_331 hl (by decide) rfl (fun ls hl => ?_)
    refine lv_aload_n hx hb dL_law_333 rfl (lv_at hl 4 rfl) ?_
    refine lv_aload_n hx hb dL_law_334 rfl (lv_at hl 2 rfl) ?_
    refine lv_iload hx hb dL_law_335 (lv_at hl 1 rfl) ?_
    refine lv_iconst (v := nI 1) hx hb dL_law_337 (by decide) ?_
    refine lv_iadd hx hb dL_law_338 ?_
    refine x_top (nI (i + 1)) (xadd (by omega)) ?_
    refine va_sld hx hb hX hbl hbA hS (xin (by omega) (by omega)) dL_law_339 ?_
    refine x_top (xs (i + 1)) (by rw [nI_clamp (by omega)]) ?_
    refine x_top (nI j) (hv) ?_
    refine lv_aload_n hx hb dL_law_340 rfl (lv_at hl 2 rfl) ?_
    refine lv_iload hx hb dL_law_341 (lv_at hl 1 rfl) ?_
    refine lv_iconst (v := nI 2) hx hb dL_law_343 (by decide) ?_
    refine lv_iadd hx hb dL_law_344 ?_
    refine x_top (nI (i + 2)) (xadd (by omega)) ?_
    refine va_sld hx hb hX hbl hbA hS (xin (by omega) (by omega)) dL_law_345 ?_
    refine x_top (xs (i + 2)) (by rw [nI_clamp (by omega)]) ?_
    refine lv_aload_n hx hb dL_law_346 rfl (lv_at hl 2 rfl) ?_
    refine lv_iload hx hb dL_law_347 (lv_at hl 1 rfl) ?_
    refine lv_iconst (v := nI 3) hx hb dL_law_349 (by decide) ?_
    refine lv_iadd hx hb dL_law_350 ?_
    refine x_top (nI (i + 3)) (xadd (by omega)) ?_
    refine va_sld hx hb hX hbl hbA hS (xin (by omega) (by omega)) dL_law_351 ?_
    refine x_top (xs (i + 3)) (by rw [nI_clamp (by omega)]) ?_
    have hP : va_P D vwCl ((LWs cT cJ ou x lv kp fo' fL' fK' o ld b k FZ') ++ (MWs cI m0 a1 a2 a3 a4 K R L N ld o b k t)) H := xP_perm List.perm_append_comm hP
    have hD : va_D A ((LWs cT cJ ou x lv kp fo' fL' fK' o ld b k FZ') ++ (MWs cI m0 a1 a2 a3 a4 K R L N ld o b k t)) := xD_perm List.perm_append_comm hD
    have hPm : va_P D vwCl (MWs cI m0 a1 a2 a3 a4 K R L N ld o b k t) H := xP_sub (fun _ h => List.mem_append_right _ h) hP
    have hDm : va_D (fun _ => True) (MWs cI m0 a1 a2 a3 a4 K R L N ld o b k t) := (xD_sub (List.sublist_append_right _ _) hD).weaken (fun _ _ _ _ => trivial)
    have hFc := xfree (wc := (MWs cI m0 a1 a2 a3 a4 K R L N ld o b k t)) hD hS hA (fun _ h => List.mem_append_right _ h)
    refine va_calli (va_runV (As := [.int (nI j), .int (xs (i + 2)), .int (xs (i + 3))]) (rest := []) ⟨hx, hb, hml, hown, hts⟩ (c_X2_put_d l m0 a1 a2 a3 a4 K R L N ld o b k t G hM j (xs (i + 2)) (xs (i + 3)) hj hPK hbad H.size) (cwV 3 hts gL_law_X2_put rfl rfl rfl (by decide +kernel) ⟨(Nat.le_of_ble_eq_true rfl), (Nat.le_of_ble_eq_true rfl)⟩) ⟨XP_blind, va_recv hK hPm (ci := 2) (q0 := 0) rfl rfl, XP_pre hE ⟨rfl, hPm, hDm⟩⟩ rfl rfl hl.1 rfl (lv_room (Nat.le_of_ble_eq_true rfl)) dL_law_352 ⟨by show (_ : Nat) ≤ 709371; omega, by show (_ : Nat) ≤ 6967992; omega⟩) hS (fun q9 _ h => hFc q9 h) hFc (fun r8 u8 t9 H1 locs ht9 hvm9 hw8 hB9 hzc hkc hS => ?_)
    obtain ⟨K', R', L', N', hP1, hD1, hM'⟩ := hB9
    rw [ht9] at hP1
    obtain ⟨hP, hD⟩ := xjoin (wr := (LWs cT cJ ou x lv kp fo' fL' fK' o ld b k FZ')) (wc := (MWs cI m0 a1 a2 a3 a4 K R L N ld o b k t)) (w1 := (MWs cI m0 a1 a2 a3 a4 K' R' L' N' ld o b k 3)) hP hD hkc hFc hP1 hD1
    generalize H1 = H at hP hS ⊢
    have hP : va_P D vwCl ((MWs cI m0 a1 a2 a3 a4 K' R' L' N' ld o b k 3) ++ (LWs cT cJ ou x lv kp fo' fL' fK' o ld b k FZ')) H := xP_perm List.perm_append_comm hP
    have hD : va_D A ((MWs cI m0 a1 a2 a3 a4 K' R' L' N' ld o b k 3) ++ (LWs cT cJ ou x lv kp fo' fL' fK' o ld b k FZ')) := xD_perm List.perm_append_comm hD
    refine lv_istore (lv' := [(6, .int r8), (5, .int (nI 3)), (4, .int (nI i)), (0, .ref sb), (1, .ref x), (2, .ref m0), (3, .ref ou)]) hx hb dL_law_355 hl (by decide) rfl (fun ls hl => ?_)
    refine lv_aload_n hx hb dL_law_357 rfl (lv_at hl 5 rfl) ?_
    have hPm : va_P D vwCl (MWs cI m0 a1 a2 a3 a4 K' R' L' N' ld o b k 3) H := xP_sub (ws := (MWs cI m0 a1 a2 a3 a4 K' R' L' N' ld o b k 3) ++ (LWs cT cJ ou x lv kp fo' fL' fK' o ld b k FZ')) (fun _ h => List.mem_append_left _ h) hP
    refine xc_sie (va_runV (As := []) (rest := []) ⟨hx, hb, hml, hown, hts⟩ (c_X2_thrown l m0 a1 a2 a3 a4 K' R' L' N' ld o b k 3) (cwV 0 hts gL_law_X2_thrown rfl rfl rfl (by decide +kernel) ⟨(Nat.le_of_ble_eq_true rfl), (Nat.le_of_ble_eq_true rfl)⟩) ⟨XP_blind, va_recv hK hPm (ci := 2) (q0 := 0) rfl rfl, XP_pre hE hPm⟩ rfl rfl hl.1 rfl (lv_room (Nat.le_of_ble_eq_true rfl)) dL_law_358 ⟨by show (_ : Nat) ≤ 709371; omega, by show (_ : Nat) ≤ 6967992; omega⟩) ?_
    refine lv_iload hx hb dL_law_361 (lv_at hl 1 rfl) ?_
    refine lv_icmp_eq (tgt := 368) hx hb dL_law_363 (by decide) (fun _ => ?_) (fun h => absurd h (by decide))
    refine lv_iload hx hb dL_law_368 (lv_at hl 1 rfl) ?_
    refine lv_if_ne (tgt := 385) hx hb dL_law_370 (by decide) (fun _ => ?_) (fun h => absurd h (by decide))
    refine lv_goto (tgt := 1054) hx hb dL_law_385 (by decide) ?_
    refine W.widen (k := cells + 8) (n := slots + 40) (by show _ ≤ _; omega) (by show _ ≤ _; omega) ?_
    exact kk (G, o, ld, b, k) H locs ls (by refine ⟨?_, ?_, ?_, ?_⟩ <;> dsimp only <;> omega) ⟨3, fo', fL', fK', FZ', K', R', L', N', hP, hD, hC', hM', hS⟩ (lv_sub hl [2, 3, 4, 5, 6] rfl)

set_option maxHeartbeats 4000000 in
set_option maxRecDepth 100000 in
theorem lc_take {p : Program} {l : Launch} {e : Env} {s : State} {m : MethodId} {below : List Frame} {meth : Method} {c : Code} {D : va_G} {cI cT cJ : ClassId} {A : Nat → Prop} {sb Ls : Nat} {xs : Nat → Int32} {m0 a1 a2 a3 a4 ou x lv kp : Nat} {cells slots : Nat} {Q : State → Prop} (hX0 : LCX p l s m c D cI cT cJ A sb Ls xs) {H : Heap} {locs : List Loc} {ls : Array Slot} {i : Nat} {G : Nat → Tv} {o ld b k : Nat} (hi : i + 4 ≤ Ls) (hW : WF (G, o, ld, b, k)) (hI : LI D cI cT cJ m0 a1 a2 a3 a4 ou x lv kp A s (G, o, ld, b, k) H locs) (hl : lv_has ls 7 [(4, .int (nI i)), (0, .ref sb), (1, .ref x), (2, .ref m0), (3, .ref ou)]) (hcl : cells + 8 ≤ 709371) (hsl : slots + 40 ≤ 6967992)
    (kk : ∀ (u : Sv) (H : Heap) (locs : List Loc) (ls : Array Slot), WF u → LI D cI cT cJ m0 a1 a2 a3 a4 ou x lv kp A s u H locs → lv_has ls 7 [(4, .int (nI i)), (0, .ref sb), (1, .ref x), (2, .ref m0), (3, .ref ou)] → W p l e room_1 s m #[Value.ref sb] below meth c H locs (cells + 8) (slots + 40) Q (F0 m 1054 ls [])) : W p l e room_1 s m #[Value.ref sb] below meth c H locs cells slots Q (F0 m 388 ls []) := by
  obtain ⟨hx, hb, hml, hown, hts, hX, hbl, hL, hst, hE, hT0, hN, hA, hbA⟩ := hX0
  obtain ⟨t, fo, fL, fK, FZ, K, R, L, N, hP, hD, hC, hM, hS⟩ := hI
  obtain ⟨hold, hld, hbb, hbk⟩ := hW
  dsimp only at hP hD hC hM hold hld hbb hbk
  have hK := hE.1
  refine lv_aload_n hx hb dL_law_388 rfl (lv_at hl 2 rfl) ?_
  refine lv_aload_n hx hb dL_law_389 rfl (lv_at hl 1 rfl) ?_
  refine lv_iload hx hb dL_law_390 (lv_at hl 0 rfl) ?_
  refine lv_iconst (v := nI 1) hx hb dL_law_392 (by decide) ?_
  refine lv_iadd hx hb dL_law_393 ?_
  refine x_top (nI (i + 1)) (xadd (by omega)) ?_
  refine va_sld hx hb hX hbl hbA hS (xin (by omega) (by omega)) dL_law_394 ?_
  refine x_top (xs (i + 1)) (by rw [nI_clamp (by omega)]) ?_
  refine lv_aload_n hx hb dL_law_395 rfl (lv_at hl 1 rfl) ?_
  refine lv_iload hx hb dL_law_396 (lv_at hl 0 rfl) ?_
  refine lv_iconst (v := nI 2) hx hb dL_law_398 (by decide) ?_
  refine lv_iadd hx hb dL_law_399 ?_
  refine x_top (nI (i + 2)) (xadd (by omega)) ?_
  refine va_sld hx hb hX hbl hbA hS (xin (by omega) (by omega)) dL_law_400 ?_
  refine x_top (xs (i + 2)) (by rw [nI_clamp (by omega)]) ?_
  refine lv_aload_n hx hb dL_law_401 rfl (lv_at hl 4 rfl) ?_
  have hP : va_P D vwCl ((MWs cI m0 a1 a2 a3 a4 K R L N ld o b k t) ++ (LWs cT cJ ou x lv kp fo fL fK o ld b k FZ)) H := hP
  have hD : va_D A ((MWs cI m0 a1 a2 a3 a4 K R L N ld o b k t) ++ (LWs cT cJ ou x lv kp fo fL fK o ld b k FZ)) := hD
  have hPc : va_P D vwCl (LWs cT cJ ou x lv kp fo fL fK o ld b k FZ) H := xP_sub (fun _ h => List.mem_append_right _ h) hP
  have hDc : va_D (fun _ => True) (LWs cT cJ ou x lv kp fo fL fK o ld b k FZ) := (xD_sub (List.sublist_append_right _ _) hD).weaken (fun _ _ _ _ => trivial)
  have hFc := xfree (wc := (LWs cT cJ ou x lv kp fo fL fK o ld b k FZ)) hD hS hA (fun _ h => List.mem_append_right _ h)
  have hT : XT A s H := hT0.kept hS.2.1
  refine xcw (vx_runSX (As := [.ref x, .int (xs (i + 1)), .int (xs (i + 2)), .ref ou]) (rest := []) ⟨hx, hb, hml, hown, hts⟩ (c_L_take l hst A ou x lv kp fo fL fK o ld b k FZ G hC (xs (i + 1)) (xs (i + 2)) H.size) (vx_cwSW 4 hts gL_law_L_take rfl rfl rfl (by decide +kernel) ⟨(Nat.le_of_ble_eq_true rfl), (Nat.le_of_ble_eq_true rfl)⟩) ⟨XPl_blind, XPl_pre hE hT hN ⟨rfl, hPc, hDc⟩⟩ rfl rfl hl.1 rfl (lv_room (Nat.le_of_ble_eq_true rfl)) dL_law_402 ⟨by show (_ : Nat) ≤ 709371; omega, by show (_ : Nat) ≤ 6967992; omega⟩) hS (fun q9 _ h => hFc q9 h) hFc (fun _ _ _ _ _ hp9 _ _ _ _ _ _ => False.elim hp9) (fun r9 u9 t9 H1 locs ht9 hvm9 hw9 hB9 hzc hkc hS => ?_)
  obtain ⟨u1, z9⟩ := u9
  dsimp only at hw9 hB9
  rcases hw9 with ⟨rfl, r0, rfl, j, sp, hj, hv, hk1, hsp, hv2, rfl, rfl⟩ | ⟨rfl, rfl, hv⟩ | ⟨rfl, rfl, j, hj, hv, hk1⟩ | ⟨rfl, rfl, j, hj, hv, hk1, hbad⟩
  · obtain ⟨fo', fL', fK', FZ', hP1, hD1, hC', hfo⟩ := hB9
    dsimp only at hP1 hD1 hC'
    rw [ht9] at hP1
    obtain ⟨hP, hD⟩ := xjoin (wr := (MWs cI m0 a1 a2 a3 a4 K R L N ld o b k t)) (wc := (LWs cT cJ ou x lv kp fo fL fK o ld b k FZ)) (w1 := (LWs cT cJ ou x lv kp fo' fL' fK' o ld b k FZ')) hP hD hkc hFc hP1 hD1
    generalize H1 = H at hP hS ⊢
    refine lv_istore (lv' := [(5, .int (nI 0)), (4, .int (nI i)), (0, .ref sb), (1, .ref x), (2, .ref m0), (3, .ref ou)]) hx hb dL_law_405 hl (by decide) rfl (fun ls hl => ?_)
    refine lv_aload_n hx hb dL_law_407 rfl (lv_at hl 4 rfl) ?_
    refine lv_aload_n hx hb dL_law_408 rfl (lv_at hl 2 rfl) ?_
    refine lv_iload hx hb dL_law_409 (lv_at hl 1 rfl) ?_
    refine lv_iconst (v := nI 1) hx hb dL_law_411 (by decide) ?_
    refine lv_iadd hx hb dL_law_412 ?_
    refine x_top (nI (i + 1)) (xadd (by omega)) ?_
    refine va_sld hx hb hX hbl hbA hS (xin (by omega) (by omega)) dL_law_413 ?_
    refine x_top (xs (i + 1)) (by rw [nI_clamp (by omega)]) ?_
    refine x_top (nI j) (hv) ?_
    refine lv_aload_n hx hb dL_law_414 rfl (lv_at hl 2 rfl) ?_
    refine lv_iload hx hb dL_law_415 (lv_at hl 1 rfl) ?_
    refine lv_iconst (v := nI 2) hx hb dL_law_417 (by decide) ?_
    refine lv_iadd hx hb dL_law_418 ?_
    refine x_top (nI (i + 2)) (xadd (by omega)) ?_
    refine va_sld hx hb hX hbl hbA hS (xin (by omega) (by omega)) dL_law_419 ?_
    refine x_top (xs (i + 2)) (by rw [nI_clamp (by omega)]) ?_
    refine x_top (nI sp) (hv2) ?_
    have hP : va_P D vwCl ((LWs cT cJ ou x lv kp fo' fL' fK' o ld b k FZ') ++ (MWs cI m0 a1 a2 a3 a4 K R L N ld o b k t)) H := xP_perm List.perm_append_comm hP
    have hD : va_D A ((LWs cT cJ ou x lv kp fo' fL' fK' o ld b k FZ') ++ (MWs cI m0 a1 a2 a3 a4 K R L N ld o b k t)) := xD_perm List.perm_append_comm hD
    have hPm : va_P D vwCl (MWs cI m0 a1 a2 a3 a4 K R L N ld o b k t) H := xP_sub (fun _ h => List.mem_append_right _ h) hP
    have hDm : va_D (fun _ => True) (MWs cI m0 a1 a2 a3 a4 K R L N ld o b k t) := (xD_sub (List.sublist_append_right _ _) hD).weaken (fun _ _ _ _ => trivial)
    have hFc := xfree (wc := (MWs cI m0 a1 a2 a3 a4 K R L N ld o b k t)) hD hS hA (fun _ h => List.mem_append_right _ h)
    refine va_calli (va_runV (As := [.int (nI j), .int (nI sp)]) (rest := []) ⟨hx, hb, hml, hown, hts⟩ (c_X2_take_g l m0 a1 a2 a3 a4 K R L N ld o b k t G hM j sp hj hk1 hsp H.size) (cwV 2 hts gL_law_X2_take rfl rfl rfl (by decide +kernel) ⟨(Nat.le_of_ble_eq_true rfl), (Nat.le_of_ble_eq_true rfl)⟩) ⟨XP_blind, va_recv hK hPm (ci := 2) (q0 := 0) rfl rfl, XP_pre hE ⟨rfl, hPm, hDm⟩⟩ rfl rfl hl.1 rfl (lv_room (Nat.le_of_ble_eq_true rfl)) dL_law_420 ⟨by show (_ : Nat) ≤ 709371; omega, by show (_ : Nat) ≤ 6967992; omega⟩) hS (fun q9 _ h => hFc q9 h) hFc (fun r8 u8 t9 H1 locs ht9 hvm9 hw8 hB9 hzc hkc hS => ?_)
    obtain ⟨K', R', L', N', hP1, hD1, hM'⟩ := hB9
    rw [ht9] at hP1
    obtain ⟨hP, hD⟩ := xjoin (wr := (LWs cT cJ ou x lv kp fo' fL' fK' o ld b k FZ')) (wc := (MWs cI m0 a1 a2 a3 a4 K R L N ld o b k t)) (w1 := (MWs cI m0 a1 a2 a3 a4 K' R' L' N' ld o b k 0)) hP hD hkc hFc hP1 hD1
    generalize H1 = H at hP hS ⊢
    have hP : va_P D vwCl ((MWs cI m0 a1 a2 a3 a4 K' R' L' N' ld o b k 0) ++ (LWs cT cJ ou x lv kp fo' fL' fK' o ld b k FZ')) H := xP_perm List.perm_append_comm hP
    have hD : va_D A ((MWs cI m0 a1 a2 a3 a4 K' R' L' N' ld o b k 0) ++ (LWs cT cJ ou x lv kp fo' fL' fK' o ld b k FZ')) := xD_perm List.perm_append_comm hD
    subst hw8
    refine lv_istore (lv' := [(6, .int ((G (246 + j)).2.2.2 sp)), (5, .int (nI 0)), (4, .int (nI i)), (0, .ref sb), (1, .ref x), (2, .ref m0), (3, .ref ou)]) hx hb dL_law_423 hl (by decide) rfl (fun ls hl => ?_)
    refine lv_aload_n hx hb dL_law_425 rfl (lv_at hl 5 rfl) ?_
    have hPm : va_P D vwCl (MWs cI m0 a1 a2 a3 a4 K' R' L' N' ld o b k 0) H := xP_sub (ws := (MWs cI m0 a1 a2 a3 a4 K' R' L' N' ld o b k 0) ++ (LWs cT cJ ou x lv kp fo' fL' fK' o ld b k FZ')) (fun _ h => List.mem_append_left _ h) hP
    refine xc_sie (va_runV (As := []) (rest := []) ⟨hx, hb, hml, hown, hts⟩ (c_X2_thrown l m0 a1 a2 a3 a4 K' R' L' N' ld o b k 0) (cwV 0 hts gL_law_X2_thrown rfl rfl rfl (by decide +kernel) ⟨(Nat.le_of_ble_eq_true rfl), (Nat.le_of_ble_eq_true rfl)⟩) ⟨XP_blind, va_recv hK hPm (ci := 2) (q0 := 0) rfl rfl, XP_pre hE hPm⟩ rfl rfl hl.1 rfl (lv_room (Nat.le_of_ble_eq_true rfl)) dL_law_426 ⟨by show (_ : Nat) ≤ 709371; omega, by show (_ : Nat) ≤ 6967992; omega⟩) ?_
    refine lv_iload hx hb dL_law_429 (lv_at hl 1 rfl) ?_
    refine lv_icmp_eq (tgt := 436) hx hb dL_law_431 (by decide) (fun _ => ?_) (fun h => absurd h (by decide))
    refine lv_iload hx hb dL_law_436 (lv_at hl 1 rfl) ?_
    refine lv_if_ne (tgt := 453) hx hb dL_law_438 (by decide) (fun h => absurd h (by decide)) (fun _ => ?_)
    refine lv_aload_n hx hb dL_law_441 rfl (lv_at hl 6 rfl) ?_
    refine lv_iconst (v := nI 0) hx hb dL_law_442 (by decide) ?_
    refine va_lald hx hb hK hP 5 2 rfl rfl (xin (by omega) (by omega)) dL_law_443 ?_
    refine x_topl (((G (246 + j)).2.2.2 sp).toInt64) (by rw [nI_clamp (by omega)]; exact hfo) ?_
    refine lv_iload hx hb dL_law_444 (lv_at hl 0 rfl) ?_
    refine lv_i2l (v := ((G (246 + j)).2.2.2 sp).toInt64) hx hb dL_law_446 rfl ?_
    refine W.lcmp hx hb dL_law_447 ?_
    refine x_top (nI 0) (lg_self _) ?_
    refine lv_if_eq (tgt := 453) hx hb dL_law_448 (by decide) (fun _ => ?_) (fun h => absurd h (by decide))
    refine lv_goto (tgt := 1054) hx hb dL_law_453 (by decide) ?_
    refine W.widen (k := cells + 8) (n := slots + 40) (by show _ ≤ _; omega) (by show _ ≤ _; omega) ?_
    exact kk (va_up G (246 + j) (nI 1, (G (246 + j)).2.1, (G (246 + j)).2.2.1 - 1, delR (G (246 + j)).2.2.2 sp), o, ld, b, k) H locs ls (by refine ⟨?_, ?_, ?_, ?_⟩ <;> dsimp only <;> omega) ⟨0, fo', fL', fK', FZ', K', R', L', N', hP, hD, hC', hM', hS⟩ (lv_sub hl [2, 3, 4, 5, 6] rfl)
  · obtain ⟨fo', fL', fK', FZ', hP1, hD1, hC', hfo⟩ := hB9
    dsimp only at hP1 hD1 hC'
    rw [ht9] at hP1
    obtain ⟨hP, hD⟩ := xjoin (wr := (MWs cI m0 a1 a2 a3 a4 K R L N ld o b k t)) (wc := (LWs cT cJ ou x lv kp fo fL fK o ld b k FZ)) (w1 := (LWs cT cJ ou x lv kp fo' fL' fK' o ld b k FZ')) hP hD hkc hFc hP1 hD1
    generalize H1 = H at hP hS ⊢
    refine lv_istore (lv' := [(5, .int (nI 1)), (4, .int (nI i)), (0, .ref sb), (1, .ref x), (2, .ref m0), (3, .ref ou)]) hx hb dL_law_405 hl (by decide) rfl (fun ls hl => ?_)
    refine lv_aload_n hx hb dL_law_407 rfl (lv_at hl 4 rfl) ?_
    refine lv_aload_n hx hb dL_law_408 rfl (lv_at hl 2 rfl) ?_
    refine lv_iload hx hb dL_law_409 (lv_at hl 1 rfl) ?_
    refine lv_iconst (v := nI 1) hx hb dL_law_411 (by decide) ?_
    refine lv_iadd hx hb dL_law_412 ?_
    refine x_top (nI (i + 1)) (xadd (by omega)) ?_
    refine va_sld hx hb hX hbl hbA hS (xin (by omega) (by omega)) dL_law_413 ?_
    refine x_top (xs (i + 1)) (by rw [nI_clamp (by omega)]) ?_
    refine lv_aload_n hx hb dL_law_414 rfl (lv_at hl 2 rfl) ?_
    refine lv_iload hx hb dL_law_415 (lv_at hl 1 rfl) ?_
    refine lv_iconst (v := nI 2) hx hb dL_law_417 (by decide) ?_
    refine lv_iadd hx hb dL_law_418 ?_
    refine x_top (nI (i + 2)) (xadd (by omega)) ?_
    refine va_sld hx hb hX hbl hbA hS (xin (by omega) (by omega)) dL_law_419 ?_
    refine x_top (xs (i + 2)) (by rw [nI_clamp (by omega)]) ?_
    have hP : va_P D vwCl ((LWs cT cJ ou x lv kp fo' fL' fK' o ld b k FZ') ++ (MWs cI m0 a1 a2 a3 a4 K R L N ld o b k t)) H := xP_perm List.perm_append_comm hP
    have hD : va_D A ((LWs cT cJ ou x lv kp fo' fL' fK' o ld b k FZ') ++ (MWs cI m0 a1 a2 a3 a4 K R L N ld o b k t)) := xD_perm List.perm_append_comm hD
    have hPm : va_P D vwCl (MWs cI m0 a1 a2 a3 a4 K R L N ld o b k t) H := xP_sub (fun _ h => List.mem_append_right _ h) hP
    have hDm : va_D (fun _ => True) (MWs cI m0 a1 a2 a3 a4 K R L N ld o b k t) := (xD_sub (List.sublist_append_right _ _) hD).weaken (fun _ _ _ _ => trivial)
    have hFc := xfree (wc := (MWs cI m0 a1 a2 a3 a4 K R L N ld o b k t)) hD hS hA (fun _ h => List.mem_append_right _ h)
    refine va_calli (va_runV (As := [.int (xs (i + 1)), .int (xs (i + 2))]) (rest := []) ⟨hx, hb, hml, hown, hts⟩ (c_X2_take_b l m0 a1 a2 a3 a4 K R L N ld o b k t G hM (xs (i + 1)) (xs (i + 2)) hv H.size) (cwV 2 hts gL_law_X2_take rfl rfl rfl (by decide +kernel) ⟨(Nat.le_of_ble_eq_true rfl), (Nat.le_of_ble_eq_true rfl)⟩) ⟨XP_blind, va_recv hK hPm (ci := 2) (q0 := 0) rfl rfl, XP_pre hE ⟨rfl, hPm, hDm⟩⟩ rfl rfl hl.1 rfl (lv_room (Nat.le_of_ble_eq_true rfl)) dL_law_420 ⟨by show (_ : Nat) ≤ 709371; omega, by show (_ : Nat) ≤ 6967992; omega⟩) hS (fun q9 _ h => hFc q9 h) hFc (fun r8 u8 t9 H1 locs ht9 hvm9 hw8 hB9 hzc hkc hS => ?_)
    obtain ⟨K', R', L', N', hP1, hD1, hM'⟩ := hB9
    rw [ht9] at hP1
    obtain ⟨hP, hD⟩ := xjoin (wr := (LWs cT cJ ou x lv kp fo' fL' fK' o ld b k FZ')) (wc := (MWs cI m0 a1 a2 a3 a4 K R L N ld o b k t)) (w1 := (MWs cI m0 a1 a2 a3 a4 K' R' L' N' ld o b k 1)) hP hD hkc hFc hP1 hD1
    generalize H1 = H at hP hS ⊢
    have hP : va_P D vwCl ((MWs cI m0 a1 a2 a3 a4 K' R' L' N' ld o b k 1) ++ (LWs cT cJ ou x lv kp fo' fL' fK' o ld b k FZ')) H := xP_perm List.perm_append_comm hP
    have hD : va_D A ((MWs cI m0 a1 a2 a3 a4 K' R' L' N' ld o b k 1) ++ (LWs cT cJ ou x lv kp fo' fL' fK' o ld b k FZ')) := xD_perm List.perm_append_comm hD
    refine lv_istore (lv' := [(6, .int r8), (5, .int (nI 1)), (4, .int (nI i)), (0, .ref sb), (1, .ref x), (2, .ref m0), (3, .ref ou)]) hx hb dL_law_423 hl (by decide) rfl (fun ls hl => ?_)
    refine lv_aload_n hx hb dL_law_425 rfl (lv_at hl 5 rfl) ?_
    have hPm : va_P D vwCl (MWs cI m0 a1 a2 a3 a4 K' R' L' N' ld o b k 1) H := xP_sub (ws := (MWs cI m0 a1 a2 a3 a4 K' R' L' N' ld o b k 1) ++ (LWs cT cJ ou x lv kp fo' fL' fK' o ld b k FZ')) (fun _ h => List.mem_append_left _ h) hP
    refine xc_sie (va_runV (As := []) (rest := []) ⟨hx, hb, hml, hown, hts⟩ (c_X2_thrown l m0 a1 a2 a3 a4 K' R' L' N' ld o b k 1) (cwV 0 hts gL_law_X2_thrown rfl rfl rfl (by decide +kernel) ⟨(Nat.le_of_ble_eq_true rfl), (Nat.le_of_ble_eq_true rfl)⟩) ⟨XP_blind, va_recv hK hPm (ci := 2) (q0 := 0) rfl rfl, XP_pre hE hPm⟩ rfl rfl hl.1 rfl (lv_room (Nat.le_of_ble_eq_true rfl)) dL_law_426 ⟨by show (_ : Nat) ≤ 709371; omega, by show (_ : Nat) ≤ 6967992; omega⟩) ?_
    refine lv_iload hx hb dL_law_429 (lv_at hl 1 rfl) ?_
    refine lv_icmp_eq (tgt := 436) hx hb dL_law_431 (by decide) (fun _ => ?_) (fun h => absurd h (by decide))
    refine lv_iload hx hb dL_law_436 (lv_at hl 1 rfl) ?_
    refine lv_if_ne (tgt := 453) hx hb dL_law_438 (by decide) (fun _ => ?_) (fun h => absurd h (by decide))
    refine lv_goto (tgt := 1054) hx hb dL_law_453 (by decide) ?_
    refine W.widen (k := cells + 8) (n := slots + 40) (by show _ ≤ _; omega) (by show _ ≤ _; omega) ?_
    exact kk (G, o, ld, b, k) H locs ls (by refine ⟨?_, ?_, ?_, ?_⟩ <;> dsimp only <;> omega) ⟨1, fo', fL', fK', FZ', K', R', L', N', hP, hD, hC', hM', hS⟩ (lv_sub hl [2, 3, 4, 5, 6] rfl)
  · obtain ⟨fo', fL', fK', FZ', hP1, hD1, hC', hfo⟩ := hB9
    dsimp only at hP1 hD1 hC'
    rw [ht9] at hP1
    obtain ⟨hP, hD⟩ := xjoin (wr := (MWs cI m0 a1 a2 a3 a4 K R L N ld o b k t)) (wc := (LWs cT cJ ou x lv kp fo fL fK o ld b k FZ)) (w1 := (LWs cT cJ ou x lv kp fo' fL' fK' o ld b k FZ')) hP hD hkc hFc hP1 hD1
    generalize H1 = H at hP hS ⊢
    refine lv_istore (lv' := [(5, .int (nI 2)), (4, .int (nI i)), (0, .ref sb), (1, .ref x), (2, .ref m0), (3, .ref ou)]) hx hb dL_law_405 hl (by decide) rfl (fun ls hl => ?_)
    refine lv_aload_n hx hb dL_law_407 rfl (lv_at hl 4 rfl) ?_
    refine lv_aload_n hx hb dL_law_408 rfl (lv_at hl 2 rfl) ?_
    refine lv_iload hx hb dL_law_409 (lv_at hl 1 rfl) ?_
    refine lv_iconst (v := nI 1) hx hb dL_law_411 (by decide) ?_
    refine lv_iadd hx hb dL_law_412 ?_
    refine x_top (nI (i + 1)) (xadd (by omega)) ?_
    refine va_sld hx hb hX hbl hbA hS (xin (by omega) (by omega)) dL_law_413 ?_
    refine x_top (xs (i + 1)) (by rw [nI_clamp (by omega)]) ?_
    refine x_top (nI j) (hv) ?_
    refine lv_aload_n hx hb dL_law_414 rfl (lv_at hl 2 rfl) ?_
    refine lv_iload hx hb dL_law_415 (lv_at hl 1 rfl) ?_
    refine lv_iconst (v := nI 2) hx hb dL_law_417 (by decide) ?_
    refine lv_iadd hx hb dL_law_418 ?_
    refine x_top (nI (i + 2)) (xadd (by omega)) ?_
    refine va_sld hx hb hX hbl hbA hS (xin (by omega) (by omega)) dL_law_419 ?_
    refine x_top (xs (i + 2)) (by rw [nI_clamp (by omega)]) ?_
    have hP : va_P D vwCl ((LWs cT cJ ou x lv kp fo' fL' fK' o ld b k FZ') ++ (MWs cI m0 a1 a2 a3 a4 K R L N ld o b k t)) H := xP_perm List.perm_append_comm hP
    have hD : va_D A ((LWs cT cJ ou x lv kp fo' fL' fK' o ld b k FZ') ++ (MWs cI m0 a1 a2 a3 a4 K R L N ld o b k t)) := xD_perm List.perm_append_comm hD
    have hPm : va_P D vwCl (MWs cI m0 a1 a2 a3 a4 K R L N ld o b k t) H := xP_sub (fun _ h => List.mem_append_right _ h) hP
    have hDm : va_D (fun _ => True) (MWs cI m0 a1 a2 a3 a4 K R L N ld o b k t) := (xD_sub (List.sublist_append_right _ _) hD).weaken (fun _ _ _ _ => trivial)
    have hFc := xfree (wc := (MWs cI m0 a1 a2 a3 a4 K R L N ld o b k t)) hD hS hA (fun _ h => List.mem_append_right _ h)
    refine va_calli (va_runV (As := [.int (nI j), .int (xs (i + 2))]) (rest := []) ⟨hx, hb, hml, hown, hts⟩ (c_X2_take_c l m0 a1 a2 a3 a4 K R L N ld o b k t G hM j (xs (i + 2)) hj hk1 H.size) (cwV 2 hts gL_law_X2_take rfl rfl rfl (by decide +kernel) ⟨(Nat.le_of_ble_eq_true rfl), (Nat.le_of_ble_eq_true rfl)⟩) ⟨XP_blind, va_recv hK hPm (ci := 2) (q0 := 0) rfl rfl, XP_pre hE ⟨rfl, hPm, hDm⟩⟩ rfl rfl hl.1 rfl (lv_room (Nat.le_of_ble_eq_true rfl)) dL_law_420 ⟨by show (_ : Nat) ≤ 709371; omega, by show (_ : Nat) ≤ 6967992; omega⟩) hS (fun q9 _ h => hFc q9 h) hFc (fun r8 u8 t9 H1 locs ht9 hvm9 hw8 hB9 hzc hkc hS => ?_)
    obtain ⟨K', R', L', N', hP1, hD1, hM'⟩ := hB9
    rw [ht9] at hP1
    obtain ⟨hP, hD⟩ := xjoin (wr := (LWs cT cJ ou x lv kp fo' fL' fK' o ld b k FZ')) (wc := (MWs cI m0 a1 a2 a3 a4 K R L N ld o b k t)) (w1 := (MWs cI m0 a1 a2 a3 a4 K' R' L' N' ld o b k 2)) hP hD hkc hFc hP1 hD1
    generalize H1 = H at hP hS ⊢
    have hP : va_P D vwCl ((MWs cI m0 a1 a2 a3 a4 K' R' L' N' ld o b k 2) ++ (LWs cT cJ ou x lv kp fo' fL' fK' o ld b k FZ')) H := xP_perm List.perm_append_comm hP
    have hD : va_D A ((MWs cI m0 a1 a2 a3 a4 K' R' L' N' ld o b k 2) ++ (LWs cT cJ ou x lv kp fo' fL' fK' o ld b k FZ')) := xD_perm List.perm_append_comm hD
    refine lv_istore (lv' := [(6, .int r8), (5, .int (nI 2)), (4, .int (nI i)), (0, .ref sb), (1, .ref x), (2, .ref m0), (3, .ref ou)]) hx hb dL_law_423 hl (by decide) rfl (fun ls hl => ?_)
    refine lv_aload_n hx hb dL_law_425 rfl (lv_at hl 5 rfl) ?_
    have hPm : va_P D vwCl (MWs cI m0 a1 a2 a3 a4 K' R' L' N' ld o b k 2) H := xP_sub (ws := (MWs cI m0 a1 a2 a3 a4 K' R' L' N' ld o b k 2) ++ (LWs cT cJ ou x lv kp fo' fL' fK' o ld b k FZ')) (fun _ h => List.mem_append_left _ h) hP
    refine xc_sie (va_runV (As := []) (rest := []) ⟨hx, hb, hml, hown, hts⟩ (c_X2_thrown l m0 a1 a2 a3 a4 K' R' L' N' ld o b k 2) (cwV 0 hts gL_law_X2_thrown rfl rfl rfl (by decide +kernel) ⟨(Nat.le_of_ble_eq_true rfl), (Nat.le_of_ble_eq_true rfl)⟩) ⟨XP_blind, va_recv hK hPm (ci := 2) (q0 := 0) rfl rfl, XP_pre hE hPm⟩ rfl rfl hl.1 rfl (lv_room (Nat.le_of_ble_eq_true rfl)) dL_law_426 ⟨by show (_ : Nat) ≤ 709371; omega, by show (_ : Nat) ≤ 6967992; omega⟩) ?_
    refine lv_iload hx hb dL_law_429 (lv_at hl 1 rfl) ?_
    refine lv_icmp_eq (tgt := 436) hx hb dL_law_431 (by decide) (fun _ => ?_) (fun h => absurd h (by decide))
    refine lv_iload hx hb dL_law_436 (lv_at hl 1 rfl) ?_
    refine lv_if_ne (tgt := 453) hx hb dL_law_438 (by decide) (fun _ => ?_) (fun h => absurd h (by decide))
    refine lv_goto (tgt := 1054) hx hb dL_law_453 (by decide) ?_
    refine W.widen (k := cells + 8) (n := slots + 40) (by show _ ≤ _; omega) (by show _ ≤ _; omega) ?_
    exact kk (G, o, ld, b, k) H locs ls (by refine ⟨?_, ?_, ?_, ?_⟩ <;> dsimp only <;> omega) ⟨2, fo', fL', fK', FZ', K', R', L', N', hP, hD, hC', hM', hS⟩ (lv_sub hl [2, 3, 4, 5, 6] rfl)
  · obtain ⟨fo', fL', fK', FZ', hP1, hD1, hC', hfo⟩ := hB9
    dsimp only at hP1 hD1 hC'
    rw [ht9] at hP1
    obtain ⟨hP, hD⟩ := xjoin (wr := (MWs cI m0 a1 a2 a3 a4 K R L N ld o b k t)) (wc := (LWs cT cJ ou x lv kp fo fL fK o ld b k FZ)) (w1 := (LWs cT cJ ou x lv kp fo' fL' fK' o ld b k FZ')) hP hD hkc hFc hP1 hD1
    generalize H1 = H at hP hS ⊢
    refine lv_istore (lv' := [(5, .int (nI 3)), (4, .int (nI i)), (0, .ref sb), (1, .ref x), (2, .ref m0), (3, .ref ou)]) hx hb dL_law_405 hl (by decide) rfl (fun ls hl => ?_)
    refine lv_aload_n hx hb dL_law_407 rfl (lv_at hl 4 rfl) ?_
    refine lv_aload_n hx hb dL_law_408 rfl (lv_at hl 2 rfl) ?_
    refine lv_iload hx hb dL_law_409 (lv_at hl 1 rfl) ?_
    refine lv_iconst (v := nI 1) hx hb dL_law_411 (by decide) ?_
    refine lv_iadd hx hb dL_law_412 ?_
    refine x_top (nI (i + 1)) (xadd (by omega)) ?_
    refine va_sld hx hb hX hbl hbA hS (xin (by omega) (by omega)) dL_law_413 ?_
    refine x_top (xs (i + 1)) (by rw [nI_clamp (by omega)]) ?_
    refine x_top (nI j) (hv) ?_
    refine lv_aload_n hx hb dL_law_414 rfl (lv_at hl 2 rfl) ?_
    refine lv_iload hx hb dL_law_415 (lv_at hl 1 rfl) ?_
    refine lv_iconst (v := nI 2) hx hb dL_law_417 (by decide) ?_
    refine lv_iadd hx hb dL_law_418 ?_
    refine x_top (nI (i + 2)) (xadd (by omega)) ?_
    refine va_sld hx hb hX hbl hbA hS (xin (by omega) (by omega)) dL_law_419 ?_
    refine x_top (xs (i + 2)) (by rw [nI_clamp (by omega)]) ?_
    have hP : va_P D vwCl ((LWs cT cJ ou x lv kp fo' fL' fK' o ld b k FZ') ++ (MWs cI m0 a1 a2 a3 a4 K R L N ld o b k t)) H := xP_perm List.perm_append_comm hP
    have hD : va_D A ((LWs cT cJ ou x lv kp fo' fL' fK' o ld b k FZ') ++ (MWs cI m0 a1 a2 a3 a4 K R L N ld o b k t)) := xD_perm List.perm_append_comm hD
    have hPm : va_P D vwCl (MWs cI m0 a1 a2 a3 a4 K R L N ld o b k t) H := xP_sub (fun _ h => List.mem_append_right _ h) hP
    have hDm : va_D (fun _ => True) (MWs cI m0 a1 a2 a3 a4 K R L N ld o b k t) := (xD_sub (List.sublist_append_right _ _) hD).weaken (fun _ _ _ _ => trivial)
    have hFc := xfree (wc := (MWs cI m0 a1 a2 a3 a4 K R L N ld o b k t)) hD hS hA (fun _ h => List.mem_append_right _ h)
    refine va_calli (va_runV (As := [.int (nI j), .int (xs (i + 2))]) (rest := []) ⟨hx, hb, hml, hown, hts⟩ (c_X2_take_d l m0 a1 a2 a3 a4 K R L N ld o b k t G hM j (xs (i + 2)) hj hk1 hbad H.size) (cwV 2 hts gL_law_X2_take rfl rfl rfl (by decide +kernel) ⟨(Nat.le_of_ble_eq_true rfl), (Nat.le_of_ble_eq_true rfl)⟩) ⟨XP_blind, va_recv hK hPm (ci := 2) (q0 := 0) rfl rfl, XP_pre hE ⟨rfl, hPm, hDm⟩⟩ rfl rfl hl.1 rfl (lv_room (Nat.le_of_ble_eq_true rfl)) dL_law_420 ⟨by show (_ : Nat) ≤ 709371; omega, by show (_ : Nat) ≤ 6967992; omega⟩) hS (fun q9 _ h => hFc q9 h) hFc (fun r8 u8 t9 H1 locs ht9 hvm9 hw8 hB9 hzc hkc hS => ?_)
    obtain ⟨K', R', L', N', hP1, hD1, hM'⟩ := hB9
    rw [ht9] at hP1
    obtain ⟨hP, hD⟩ := xjoin (wr := (LWs cT cJ ou x lv kp fo' fL' fK' o ld b k FZ')) (wc := (MWs cI m0 a1 a2 a3 a4 K R L N ld o b k t)) (w1 := (MWs cI m0 a1 a2 a3 a4 K' R' L' N' ld o b k 3)) hP hD hkc hFc hP1 hD1
    generalize H1 = H at hP hS ⊢
    have hP : va_P D vwCl ((MWs cI m0 a1 a2 a3 a4 K' R' L' N' ld o b k 3) ++ (LWs cT cJ ou x lv kp fo' fL' fK' o ld b k FZ')) H := xP_perm List.perm_append_comm hP
    have hD : va_D A ((MWs cI m0 a1 a2 a3 a4 K' R' L' N' ld o b k 3) ++ (LWs cT cJ ou x lv kp fo' fL' fK' o ld b k FZ')) := xD_perm List.perm_append_comm hD
    refine lv_istore (lv' := [(6, .int r8), (5, .int (nI 3)), (4, .int (nI i)), (0, .ref sb), (1, .ref x), (2, .ref m0), (3, .ref ou)]) hx hb dL_law_423 hl (by decide) rfl (fun ls hl => ?_)
    refine lv_aload_n hx hb dL_law_425 rfl (lv_at hl 5 rfl) ?_
    have hPm : va_P D vwCl (MWs cI m0 a1 a2 a3 a4 K' R' L' N' ld o b k 3) H := xP_sub (ws := (MWs cI m0 a1 a2 a3 a4 K' R' L' N' ld o b k 3) ++ (LWs cT cJ ou x lv kp fo' fL' fK' o ld b k FZ')) (fun _ h => List.mem_append_left _ h) hP
    refine xc_sie (va_runV (As := []) (rest := []) ⟨hx, hb, hml, hown, hts⟩ (c_X2_thrown l m0 a1 a2 a3 a4 K' R' L' N' ld o b k 3) (cwV 0 hts gL_law_X2_thrown rfl rfl rfl (by decide +kernel) ⟨(Nat.le_of_ble_eq_true rfl), (Nat.le_of_ble_eq_true rfl)⟩) ⟨XP_blind, va_recv hK hPm (ci := 2) (q0 := 0) rfl rfl, XP_pre hE hPm⟩ rfl rfl hl.1 rfl (lv_room (Nat.le_of_ble_eq_true rfl)) dL_law_426 ⟨by show (_ : Nat) ≤ 709371; omega, by show (_ : Nat) ≤ 6967992; omega⟩) ?_
    refine lv_iload hx hb dL_law_429 (lv_at hl 1 rfl) ?_
    refine lv_icmp_eq (tgt := 436) hx hb dL_law_431 (by decide) (fun _ => ?_) (fun h => absurd h (by decide))
    refine lv_iload hx hb dL_law_436 (lv_at hl 1 rfl) ?_
    refine lv_if_ne (tgt := 453) hx hb dL_law_438 (by decide) (fun _ => ?_) (fun h => absurd h (by decide))
    refine lv_goto (tgt := 1054) hx hb dL_law_453 (by decide) ?_
    refine W.widen (k := cells + 8) (n := slots + 40) (by show _ ≤ _; omega) (by show _ ≤ _; omega) ?_
    exact kk (G, o, ld, b, k) H locs ls (by refine ⟨?_, ?_, ?_, ?_⟩ <;> dsimp only <;> omega) ⟨3, fo', fL', fK', FZ', K', R', L', N', hP, hD, hC', hM', hS⟩ (lv_sub hl [2, 3, 4, 5, 6] rfl)

set_option maxHeartbeats 4000000 in
set_option maxRecDepth 100000 in
theorem lc_setRights {p : Program} {l : Launch} {e : Env} {s : State} {m : MethodId} {below : List Frame} {meth : Method} {c : Code} {D : va_G} {cI cT cJ : ClassId} {A : Nat → Prop} {sb Ls : Nat} {xs : Nat → Int32} {m0 a1 a2 a3 a4 ou x lv kp : Nat} {cells slots : Nat} {Q : State → Prop} (hX0 : LCX p l s m c D cI cT cJ A sb Ls xs) {H : Heap} {locs : List Loc} {ls : Array Slot} {i : Nat} {G : Nat → Tv} {o ld b k : Nat} (hi : i + 4 ≤ Ls) (hW : WF (G, o, ld, b, k)) (hI : LI D cI cT cJ m0 a1 a2 a3 a4 ou x lv kp A s (G, o, ld, b, k) H locs) (hl : lv_has ls 7 [(4, .int (nI i)), (0, .ref sb), (1, .ref x), (2, .ref m0), (3, .ref ou)]) (hcl : cells + 8 ≤ 709371) (hsl : slots + 40 ≤ 6967992)
    (kk : ∀ (u : Sv) (H : Heap) (locs : List Loc) (ls : Array Slot), WF u → LI D cI cT cJ m0 a1 a2 a3 a4 ou x lv kp A s u H locs → lv_has ls 7 [(4, .int (nI i)), (0, .ref sb), (1, .ref x), (2, .ref m0), (3, .ref ou)] → W p l e room_1 s m #[Value.ref sb] below meth c H locs (cells + 8) (slots + 40) Q (F0 m 1054 ls [])) : W p l e room_1 s m #[Value.ref sb] below meth c H locs cells slots Q (F0 m 456 ls []) := by
  obtain ⟨hx, hb, hml, hown, hts, hX, hbl, hL, hst, hE, hT0, hN, hA, hbA⟩ := hX0
  obtain ⟨t, fo, fL, fK, FZ, K, R, L, N, hP, hD, hC, hM, hS⟩ := hI
  obtain ⟨hold, hld, hbb, hbk⟩ := hW
  dsimp only at hP hD hC hM hold hld hbb hbk
  have hK := hE.1
  refine lv_aload_n hx hb dL_law_456 rfl (lv_at hl 2 rfl) ?_
  refine lv_aload_n hx hb dL_law_457 rfl (lv_at hl 1 rfl) ?_
  refine lv_iload hx hb dL_law_458 (lv_at hl 0 rfl) ?_
  refine lv_iconst (v := nI 1) hx hb dL_law_460 (by decide) ?_
  refine lv_iadd hx hb dL_law_461 ?_
  refine x_top (nI (i + 1)) (xadd (by omega)) ?_
  refine va_sld hx hb hX hbl hbA hS (xin (by omega) (by omega)) dL_law_462 ?_
  refine x_top (xs (i + 1)) (by rw [nI_clamp (by omega)]) ?_
  refine lv_aload_n hx hb dL_law_463 rfl (lv_at hl 1 rfl) ?_
  refine lv_iload hx hb dL_law_464 (lv_at hl 0 rfl) ?_
  refine lv_iconst (v := nI 2) hx hb dL_law_466 (by decide) ?_
  refine lv_iadd hx hb dL_law_467 ?_
  refine x_top (nI (i + 2)) (xadd (by omega)) ?_
  refine va_sld hx hb hX hbl hbA hS (xin (by omega) (by omega)) dL_law_468 ?_
  refine x_top (xs (i + 2)) (by rw [nI_clamp (by omega)]) ?_
  refine lv_aload_n hx hb dL_law_469 rfl (lv_at hl 4 rfl) ?_
  have hP : va_P D vwCl ((MWs cI m0 a1 a2 a3 a4 K R L N ld o b k t) ++ (LWs cT cJ ou x lv kp fo fL fK o ld b k FZ)) H := hP
  have hD : va_D A ((MWs cI m0 a1 a2 a3 a4 K R L N ld o b k t) ++ (LWs cT cJ ou x lv kp fo fL fK o ld b k FZ)) := hD
  have hPc : va_P D vwCl (LWs cT cJ ou x lv kp fo fL fK o ld b k FZ) H := xP_sub (fun _ h => List.mem_append_right _ h) hP
  have hDc : va_D (fun _ => True) (LWs cT cJ ou x lv kp fo fL fK o ld b k FZ) := (xD_sub (List.sublist_append_right _ _) hD).weaken (fun _ _ _ _ => trivial)
  have hFc := xfree (wc := (LWs cT cJ ou x lv kp fo fL fK o ld b k FZ)) hD hS hA (fun _ h => List.mem_append_right _ h)
  have hT : XT A s H := hT0.kept hS.2.1
  refine xcw (vx_runSX (As := [.ref x, .int (xs (i + 1)), .int (xs (i + 2)), .ref ou]) (rest := []) ⟨hx, hb, hml, hown, hts⟩ (c_L_setRights l hst A ou x lv kp fo fL fK o ld b k FZ G hC (xs (i + 1)) (xs (i + 2)) H.size) (vx_cwSW 4 hts gL_law_L_setRights rfl rfl rfl (by decide +kernel) ⟨(Nat.le_of_ble_eq_true rfl), (Nat.le_of_ble_eq_true rfl)⟩) ⟨XPl_blind, XPl_pre hE hT hN ⟨rfl, hPc, hDc⟩⟩ rfl rfl hl.1 rfl (lv_room (Nat.le_of_ble_eq_true rfl)) dL_law_470 ⟨by show (_ : Nat) ≤ 709371; omega, by show (_ : Nat) ≤ 6967992; omega⟩) hS (fun q9 _ h => hFc q9 h) hFc (fun _ _ _ _ _ hp9 _ _ _ _ _ _ => False.elim hp9) (fun r9 u9 t9 H1 locs ht9 hvm9 hw9 hB9 hzc hkc hS => ?_)
  obtain ⟨u1, z9⟩ := u9
  dsimp only at hw9 hB9
  rcases hw9 with ⟨rfl, r0, rfl, j, y, hj, hv, hk1, hy, hv2, rfl, rfl⟩ | ⟨rfl, rfl, hv⟩ | ⟨rfl, rfl, j, hj, hv, hk1⟩ | ⟨rfl, rfl, j, hj, hv, hk1, hbad⟩
  · obtain ⟨fo', fL', fK', FZ', hP1, hD1, hC', hfo⟩ := hB9
    dsimp only at hP1 hD1 hC'
    rw [ht9] at hP1
    obtain ⟨hP, hD⟩ := xjoin (wr := (MWs cI m0 a1 a2 a3 a4 K R L N ld o b k t)) (wc := (LWs cT cJ ou x lv kp fo fL fK o ld b k FZ)) (w1 := (LWs cT cJ ou x lv kp fo' fL' fK' o ld b k FZ')) hP hD hkc hFc hP1 hD1
    generalize H1 = H at hP hS ⊢
    refine lv_istore (lv' := [(5, .int (nI 0)), (4, .int (nI i)), (0, .ref sb), (1, .ref x), (2, .ref m0), (3, .ref ou)]) hx hb dL_law_473 hl (by decide) rfl (fun ls hl => ?_)
    refine lv_aload_n hx hb dL_law_475 rfl (lv_at hl 4 rfl) ?_
    refine lv_aload_n hx hb dL_law_476 rfl (lv_at hl 2 rfl) ?_
    refine lv_iload hx hb dL_law_477 (lv_at hl 1 rfl) ?_
    refine lv_iconst (v := nI 1) hx hb dL_law_479 (by decide) ?_
    refine lv_iadd hx hb dL_law_480 ?_
    refine x_top (nI (i + 1)) (xadd (by omega)) ?_
    refine va_sld hx hb hX hbl hbA hS (xin (by omega) (by omega)) dL_law_481 ?_
    refine x_top (xs (i + 1)) (by rw [nI_clamp (by omega)]) ?_
    refine x_top (nI j) (hv) ?_
    refine lv_aload_n hx hb dL_law_482 rfl (lv_at hl 2 rfl) ?_
    refine lv_iload hx hb dL_law_483 (lv_at hl 1 rfl) ?_
    refine lv_iconst (v := nI 2) hx hb dL_law_485 (by decide) ?_
    refine lv_iadd hx hb dL_law_486 ?_
    refine x_top (nI (i + 2)) (xadd (by omega)) ?_
    refine va_sld hx hb hX hbl hbA hS (xin (by omega) (by omega)) dL_law_487 ?_
    refine x_top (xs (i + 2)) (by rw [nI_clamp (by omega)]) ?_
    refine x_top (nI y) (hv2) ?_
    have hP : va_P D vwCl ((LWs cT cJ ou x lv kp fo' fL' fK' o ld b k FZ') ++ (MWs cI m0 a1 a2 a3 a4 K R L N ld o b k t)) H := xP_perm List.perm_append_comm hP
    have hD : va_D A ((LWs cT cJ ou x lv kp fo' fL' fK' o ld b k FZ') ++ (MWs cI m0 a1 a2 a3 a4 K R L N ld o b k t)) := xD_perm List.perm_append_comm hD
    have hPm : va_P D vwCl (MWs cI m0 a1 a2 a3 a4 K R L N ld o b k t) H := xP_sub (fun _ h => List.mem_append_right _ h) hP
    have hDm : va_D (fun _ => True) (MWs cI m0 a1 a2 a3 a4 K R L N ld o b k t) := (xD_sub (List.sublist_append_right _ _) hD).weaken (fun _ _ _ _ => trivial)
    have hFc := xfree (wc := (MWs cI m0 a1 a2 a3 a4 K R L N ld o b k t)) hD hS hA (fun _ h => List.mem_append_right _ h)
    refine va_calli (va_runV (As := [.int (nI j), .int (nI y)]) (rest := []) ⟨hx, hb, hml, hown, hts⟩ (c_X2_setRights_g l m0 a1 a2 a3 a4 K R L N ld o b k t G hM j y hj hk1 hy H.size) (cwV 2 hts gL_law_X2_setRights rfl rfl rfl (by decide +kernel) ⟨(Nat.le_of_ble_eq_true rfl), (Nat.le_of_ble_eq_true rfl)⟩) ⟨XP_blind, va_recv hK hPm (ci := 2) (q0 := 0) rfl rfl, XP_pre hE ⟨rfl, hPm, hDm⟩⟩ rfl rfl hl.1 rfl (lv_room (Nat.le_of_ble_eq_true rfl)) dL_law_488 ⟨by show (_ : Nat) ≤ 709371; omega, by show (_ : Nat) ≤ 6967992; omega⟩) hS (fun q9 _ h => hFc q9 h) hFc (fun r8 u8 t9 H1 locs ht9 hvm9 hw8 hB9 hzc hkc hS => ?_)
    obtain ⟨K', R', L', N', hP1, hD1, hM'⟩ := hB9
    rw [ht9] at hP1
    obtain ⟨hP, hD⟩ := xjoin (wr := (LWs cT cJ ou x lv kp fo' fL' fK' o ld b k FZ')) (wc := (MWs cI m0 a1 a2 a3 a4 K R L N ld o b k t)) (w1 := (MWs cI m0 a1 a2 a3 a4 K' R' L' N' ld o b k 0)) hP hD hkc hFc hP1 hD1
    generalize H1 = H at hP hS ⊢
    have hP : va_P D vwCl ((MWs cI m0 a1 a2 a3 a4 K' R' L' N' ld o b k 0) ++ (LWs cT cJ ou x lv kp fo' fL' fK' o ld b k FZ')) H := xP_perm List.perm_append_comm hP
    have hD : va_D A ((MWs cI m0 a1 a2 a3 a4 K' R' L' N' ld o b k 0) ++ (LWs cT cJ ou x lv kp fo' fL' fK' o ld b k FZ')) := xD_perm List.perm_append_comm hD
    subst hw8
    refine lv_istore (lv' := [(6, .int ((G (246 + j)).2.1)), (5, .int (nI 0)), (4, .int (nI i)), (0, .ref sb), (1, .ref x), (2, .ref m0), (3, .ref ou)]) hx hb dL_law_491 hl (by decide) rfl (fun ls hl => ?_)
    refine lv_aload_n hx hb dL_law_493 rfl (lv_at hl 5 rfl) ?_
    have hPm : va_P D vwCl (MWs cI m0 a1 a2 a3 a4 K' R' L' N' ld o b k 0) H := xP_sub (ws := (MWs cI m0 a1 a2 a3 a4 K' R' L' N' ld o b k 0) ++ (LWs cT cJ ou x lv kp fo' fL' fK' o ld b k FZ')) (fun _ h => List.mem_append_left _ h) hP
    refine xc_sie (va_runV (As := []) (rest := []) ⟨hx, hb, hml, hown, hts⟩ (c_X2_thrown l m0 a1 a2 a3 a4 K' R' L' N' ld o b k 0) (cwV 0 hts gL_law_X2_thrown rfl rfl rfl (by decide +kernel) ⟨(Nat.le_of_ble_eq_true rfl), (Nat.le_of_ble_eq_true rfl)⟩) ⟨XP_blind, va_recv hK hPm (ci := 2) (q0 := 0) rfl rfl, XP_pre hE hPm⟩ rfl rfl hl.1 rfl (lv_room (Nat.le_of_ble_eq_true rfl)) dL_law_494 ⟨by show (_ : Nat) ≤ 709371; omega, by show (_ : Nat) ≤ 6967992; omega⟩) ?_
    refine lv_iload hx hb dL_law_497 (lv_at hl 1 rfl) ?_
    refine lv_icmp_eq (tgt := 504) hx hb dL_law_499 (by decide) (fun _ => ?_) (fun h => absurd h (by decide))
    refine lv_iload hx hb dL_law_504 (lv_at hl 1 rfl) ?_
    refine lv_if_ne (tgt := 521) hx hb dL_law_506 (by decide) (fun h => absurd h (by decide)) (fun _ => ?_)
    refine lv_aload_n hx hb dL_law_509 rfl (lv_at hl 6 rfl) ?_
    refine lv_iconst (v := nI 0) hx hb dL_law_510 (by decide) ?_
    refine va_lald hx hb hK hP 5 2 rfl rfl (xin (by omega) (by omega)) dL_law_511 ?_
    refine x_topl (((G (246 + j)).2.1).toInt64) (by rw [nI_clamp (by omega)]; exact hfo) ?_
    refine lv_iload hx hb dL_law_512 (lv_at hl 0 rfl) ?_
    refine lv_i2l (v := ((G (246 + j)).2.1).toInt64) hx hb dL_law_514 rfl ?_
    refine W.lcmp hx hb dL_law_515 ?_
    refine x_top (nI 0) (lg_self _) ?_
    refine lv_if_eq (tgt := 521) hx hb dL_law_516 (by decide) (fun _ => ?_) (fun h => absurd h (by decide))
    refine lv_goto (tgt := 1054) hx hb dL_law_521 (by decide) ?_
    refine W.widen (k := cells + 8) (n := slots + 40) (by show _ ≤ _; omega) (by show _ ≤ _; omega) ?_
    exact kk (va_up G (246 + j) ((G (246 + j)).1, nI y, (G (246 + j)).2.2.1, (G (246 + j)).2.2.2), o, ld, b, k) H locs ls (by refine ⟨?_, ?_, ?_, ?_⟩ <;> dsimp only <;> omega) ⟨0, fo', fL', fK', FZ', K', R', L', N', hP, hD, hC', hM', hS⟩ (lv_sub hl [2, 3, 4, 5, 6] rfl)
  · obtain ⟨fo', fL', fK', FZ', hP1, hD1, hC', hfo⟩ := hB9
    dsimp only at hP1 hD1 hC'
    rw [ht9] at hP1
    obtain ⟨hP, hD⟩ := xjoin (wr := (MWs cI m0 a1 a2 a3 a4 K R L N ld o b k t)) (wc := (LWs cT cJ ou x lv kp fo fL fK o ld b k FZ)) (w1 := (LWs cT cJ ou x lv kp fo' fL' fK' o ld b k FZ')) hP hD hkc hFc hP1 hD1
    generalize H1 = H at hP hS ⊢
    refine lv_istore (lv' := [(5, .int (nI 1)), (4, .int (nI i)), (0, .ref sb), (1, .ref x), (2, .ref m0), (3, .ref ou)]) hx hb dL_law_473 hl (by decide) rfl (fun ls hl => ?_)
    refine lv_aload_n hx hb dL_law_475 rfl (lv_at hl 4 rfl) ?_
    refine lv_aload_n hx hb dL_law_476 rfl (lv_at hl 2 rfl) ?_
    refine lv_iload hx hb dL_law_477 (lv_at hl 1 rfl) ?_
    refine lv_iconst (v := nI 1) hx hb dL_law_479 (by decide) ?_
    refine lv_iadd hx hb dL_law_480 ?_
    refine x_top (nI (i + 1)) (xadd (by omega)) ?_
    refine va_sld hx hb hX hbl hbA hS (xin (by omega) (by omega)) dL_law_481 ?_
    refine x_top (xs (i + 1)) (by rw [nI_clamp (by omega)]) ?_
    refine lv_aload_n hx hb dL_law_482 rfl (lv_at hl 2 rfl) ?_
    refine lv_iload hx hb dL_law_483 (lv_at hl 1 rfl) ?_
    refine lv_iconst (v := nI 2) hx hb dL_law_485 (by decide) ?_
    refine lv_iadd hx hb dL_law_486 ?_
    refine x_top (nI (i + 2)) (xadd (by omega)) ?_
    refine va_sld hx hb hX hbl hbA hS (xin (by omega) (by omega)) dL_law_487 ?_
    refine x_top (xs (i + 2)) (by rw [nI_clamp (by omega)]) ?_
    have hP : va_P D vwCl ((LWs cT cJ ou x lv kp fo' fL' fK' o ld b k FZ') ++ (MWs cI m0 a1 a2 a3 a4 K R L N ld o b k t)) H := xP_perm List.perm_append_comm hP
    have hD : va_D A ((LWs cT cJ ou x lv kp fo' fL' fK' o ld b k FZ') ++ (MWs cI m0 a1 a2 a3 a4 K R L N ld o b k t)) := xD_perm List.perm_append_comm hD
    have hPm : va_P D vwCl (MWs cI m0 a1 a2 a3 a4 K R L N ld o b k t) H := xP_sub (fun _ h => List.mem_append_right _ h) hP
    have hDm : va_D (fun _ => True) (MWs cI m0 a1 a2 a3 a4 K R L N ld o b k t) := (xD_sub (List.sublist_append_right _ _) hD).weaken (fun _ _ _ _ => trivial)
    have hFc := xfree (wc := (MWs cI m0 a1 a2 a3 a4 K R L N ld o b k t)) hD hS hA (fun _ h => List.mem_append_right _ h)
    refine va_calli (va_runV (As := [.int (xs (i + 1)), .int (xs (i + 2))]) (rest := []) ⟨hx, hb, hml, hown, hts⟩ (c_X2_setRights_b l m0 a1 a2 a3 a4 K R L N ld o b k t G hM (xs (i + 1)) (xs (i + 2)) hv H.size) (cwV 2 hts gL_law_X2_setRights rfl rfl rfl (by decide +kernel) ⟨(Nat.le_of_ble_eq_true rfl), (Nat.le_of_ble_eq_true rfl)⟩) ⟨XP_blind, va_recv hK hPm (ci := 2) (q0 := 0) rfl rfl, XP_pre hE ⟨rfl, hPm, hDm⟩⟩ rfl rfl hl.1 rfl (lv_room (Nat.le_of_ble_eq_true rfl)) dL_law_488 ⟨by show (_ : Nat) ≤ 709371; omega, by show (_ : Nat) ≤ 6967992; omega⟩) hS (fun q9 _ h => hFc q9 h) hFc (fun r8 u8 t9 H1 locs ht9 hvm9 hw8 hB9 hzc hkc hS => ?_)
    obtain ⟨K', R', L', N', hP1, hD1, hM'⟩ := hB9
    rw [ht9] at hP1
    obtain ⟨hP, hD⟩ := xjoin (wr := (LWs cT cJ ou x lv kp fo' fL' fK' o ld b k FZ')) (wc := (MWs cI m0 a1 a2 a3 a4 K R L N ld o b k t)) (w1 := (MWs cI m0 a1 a2 a3 a4 K' R' L' N' ld o b k 1)) hP hD hkc hFc hP1 hD1
    generalize H1 = H at hP hS ⊢
    have hP : va_P D vwCl ((MWs cI m0 a1 a2 a3 a4 K' R' L' N' ld o b k 1) ++ (LWs cT cJ ou x lv kp fo' fL' fK' o ld b k FZ')) H := xP_perm List.perm_append_comm hP
    have hD : va_D A ((MWs cI m0 a1 a2 a3 a4 K' R' L' N' ld o b k 1) ++ (LWs cT cJ ou x lv kp fo' fL' fK' o ld b k FZ')) := xD_perm List.perm_append_comm hD
    refine lv_istore (lv' := [(6, .int r8), (5, .int (nI 1)), (4, .int (nI i)), (0, .ref sb), (1, .ref x), (2, .ref m0), (3, .ref ou)]) hx hb dL_law_491 hl (by decide) rfl (fun ls hl => ?_)
    refine lv_aload_n hx hb dL_law_493 rfl (lv_at hl 5 rfl) ?_
    have hPm : va_P D vwCl (MWs cI m0 a1 a2 a3 a4 K' R' L' N' ld o b k 1) H := xP_sub (ws := (MWs cI m0 a1 a2 a3 a4 K' R' L' N' ld o b k 1) ++ (LWs cT cJ ou x lv kp fo' fL' fK' o ld b k FZ')) (fun _ h => List.mem_append_left _ h) hP
    refine xc_sie (va_runV (As := []) (rest := []) ⟨hx, hb, hml, hown, hts⟩ (c_X2_thrown l m0 a1 a2 a3 a4 K' R' L' N' ld o b k 1) (cwV 0 hts gL_law_X2_thrown rfl rfl rfl (by decide +kernel) ⟨(Nat.le_of_ble_eq_true rfl), (Nat.le_of_ble_eq_true rfl)⟩) ⟨XP_blind, va_recv hK hPm (ci := 2) (q0 := 0) rfl rfl, XP_pre hE hPm⟩ rfl rfl hl.1 rfl (lv_room (Nat.le_of_ble_eq_true rfl)) dL_law_494 ⟨by show (_ : Nat) ≤ 709371; omega, by show (_ : Nat) ≤ 6967992; omega⟩) ?_
    refine lv_iload hx hb dL_law_497 (lv_at hl 1 rfl) ?_
    refine lv_icmp_eq (tgt := 504) hx hb dL_law_499 (by decide) (fun _ => ?_) (fun h => absurd h (by decide))
    refine lv_iload hx hb dL_law_504 (lv_at hl 1 rfl) ?_
    refine lv_if_ne (tgt := 521) hx hb dL_law_506 (by decide) (fun _ => ?_) (fun h => absurd h (by decide))
    refine lv_goto (tgt := 1054) hx hb dL_law_521 (by decide) ?_
    refine W.widen (k := cells + 8) (n := slots + 40) (by show _ ≤ _; omega) (by show _ ≤ _; omega) ?_
    exact kk (G, o, ld, b, k) H locs ls (by refine ⟨?_, ?_, ?_, ?_⟩ <;> dsimp only <;> omega) ⟨1, fo', fL', fK', FZ', K', R', L', N', hP, hD, hC', hM', hS⟩ (lv_sub hl [2, 3, 4, 5, 6] rfl)
  · obtain ⟨fo', fL', fK', FZ', hP1, hD1, hC', hfo⟩ := hB9
    dsimp only at hP1 hD1 hC'
    rw [ht9] at hP1
    obtain ⟨hP, hD⟩ := xjoin (wr := (MWs cI m0 a1 a2 a3 a4 K R L N ld o b k t)) (wc := (LWs cT cJ ou x lv kp fo fL fK o ld b k FZ)) (w1 := (LWs cT cJ ou x lv kp fo' fL' fK' o ld b k FZ')) hP hD hkc hFc hP1 hD1
    generalize H1 = H at hP hS ⊢
    refine lv_istore (lv' := [(5, .int (nI 2)), (4, .int (nI i)), (0, .ref sb), (1, .ref x), (2, .ref m0), (3, .ref ou)]) hx hb dL_law_473 hl (by decide) rfl (fun ls hl => ?_)
    refine lv_aload_n hx hb dL_law_475 rfl (lv_at hl 4 rfl) ?_
    refine lv_aload_n hx hb dL_law_476 rfl (lv_at hl 2 rfl) ?_
    refine lv_iload hx hb dL_law_477 (lv_at hl 1 rfl) ?_
    refine lv_iconst (v := nI 1) hx hb dL_law_479 (by decide) ?_
    refine lv_iadd hx hb dL_law_480 ?_
    refine x_top (nI (i + 1)) (xadd (by omega)) ?_
    refine va_sld hx hb hX hbl hbA hS (xin (by omega) (by omega)) dL_law_481 ?_
    refine x_top (xs (i + 1)) (by rw [nI_clamp (by omega)]) ?_
    refine x_top (nI j) (hv) ?_
    refine lv_aload_n hx hb dL_law_482 rfl (lv_at hl 2 rfl) ?_
    refine lv_iload hx hb dL_law_483 (lv_at hl 1 rfl) ?_
    refine lv_iconst (v := nI 2) hx hb dL_law_485 (by decide) ?_
    refine lv_iadd hx hb dL_law_486 ?_
    refine x_top (nI (i + 2)) (xadd (by omega)) ?_
    refine va_sld hx hb hX hbl hbA hS (xin (by omega) (by omega)) dL_law_487 ?_
    refine x_top (xs (i + 2)) (by rw [nI_clamp (by omega)]) ?_
    have hP : va_P D vwCl ((LWs cT cJ ou x lv kp fo' fL' fK' o ld b k FZ') ++ (MWs cI m0 a1 a2 a3 a4 K R L N ld o b k t)) H := xP_perm List.perm_append_comm hP
    have hD : va_D A ((LWs cT cJ ou x lv kp fo' fL' fK' o ld b k FZ') ++ (MWs cI m0 a1 a2 a3 a4 K R L N ld o b k t)) := xD_perm List.perm_append_comm hD
    have hPm : va_P D vwCl (MWs cI m0 a1 a2 a3 a4 K R L N ld o b k t) H := xP_sub (fun _ h => List.mem_append_right _ h) hP
    have hDm : va_D (fun _ => True) (MWs cI m0 a1 a2 a3 a4 K R L N ld o b k t) := (xD_sub (List.sublist_append_right _ _) hD).weaken (fun _ _ _ _ => trivial)
    have hFc := xfree (wc := (MWs cI m0 a1 a2 a3 a4 K R L N ld o b k t)) hD hS hA (fun _ h => List.mem_append_right _ h)
    refine va_calli (va_runV (As := [.int (nI j), .int (xs (i + 2))]) (rest := []) ⟨hx, hb, hml, hown, hts⟩ (c_X2_setRights_c l m0 a1 a2 a3 a4 K R L N ld o b k t G hM j (xs (i + 2)) hj hk1 H.size) (cwV 2 hts gL_law_X2_setRights rfl rfl rfl (by decide +kernel) ⟨(Nat.le_of_ble_eq_true rfl), (Nat.le_of_ble_eq_true rfl)⟩) ⟨XP_blind, va_recv hK hPm (ci := 2) (q0 := 0) rfl rfl, XP_pre hE ⟨rfl, hPm, hDm⟩⟩ rfl rfl hl.1 rfl (lv_room (Nat.le_of_ble_eq_true rfl)) dL_law_488 ⟨by show (_ : Nat) ≤ 709371; omega, by show (_ : Nat) ≤ 6967992; omega⟩) hS (fun q9 _ h => hFc q9 h) hFc (fun r8 u8 t9 H1 locs ht9 hvm9 hw8 hB9 hzc hkc hS => ?_)
    obtain ⟨K', R', L', N', hP1, hD1, hM'⟩ := hB9
    rw [ht9] at hP1
    obtain ⟨hP, hD⟩ := xjoin (wr := (LWs cT cJ ou x lv kp fo' fL' fK' o ld b k FZ')) (wc := (MWs cI m0 a1 a2 a3 a4 K R L N ld o b k t)) (w1 := (MWs cI m0 a1 a2 a3 a4 K' R' L' N' ld o b k 2)) hP hD hkc hFc hP1 hD1
    generalize H1 = H at hP hS ⊢
    have hP : va_P D vwCl ((MWs cI m0 a1 a2 a3 a4 K' R' L' N' ld o b k 2) ++ (LWs cT cJ ou x lv kp fo' fL' fK' o ld b k FZ')) H := xP_perm List.perm_append_comm hP
    have hD : va_D A ((MWs cI m0 a1 a2 a3 a4 K' R' L' N' ld o b k 2) ++ (LWs cT cJ ou x lv kp fo' fL' fK' o ld b k FZ')) := xD_perm List.perm_append_comm hD
    refine lv_istore (lv' := [(6, .int r8), (5, .int (nI 2)), (4, .int (nI i)), (0, .ref sb), (1, .ref x), (2, .ref m0), (3, .ref ou)]) hx hb dL_law_491 hl (by decide) rfl (fun ls hl => ?_)
    refine lv_aload_n hx hb dL_law_493 rfl (lv_at hl 5 rfl) ?_
    have hPm : va_P D vwCl (MWs cI m0 a1 a2 a3 a4 K' R' L' N' ld o b k 2) H := xP_sub (ws := (MWs cI m0 a1 a2 a3 a4 K' R' L' N' ld o b k 2) ++ (LWs cT cJ ou x lv kp fo' fL' fK' o ld b k FZ')) (fun _ h => List.mem_append_left _ h) hP
    refine xc_sie (va_runV (As := []) (rest := []) ⟨hx, hb, hml, hown, hts⟩ (c_X2_thrown l m0 a1 a2 a3 a4 K' R' L' N' ld o b k 2) (cwV 0 hts gL_law_X2_thrown rfl rfl rfl (by decide +kernel) ⟨(Nat.le_of_ble_eq_true rfl), (Nat.le_of_ble_eq_true rfl)⟩) ⟨XP_blind, va_recv hK hPm (ci := 2) (q0 := 0) rfl rfl, XP_pre hE hPm⟩ rfl rfl hl.1 rfl (lv_room (Nat.le_of_ble_eq_true rfl)) dL_law_494 ⟨by show (_ : Nat) ≤ 709371; omega, by show (_ : Nat) ≤ 6967992; omega⟩) ?_
    refine lv_iload hx hb dL_law_497 (lv_at hl 1 rfl) ?_
    refine lv_icmp_eq (tgt := 504) hx hb dL_law_499 (by decide) (fun _ => ?_) (fun h => absurd h (by decide))
    refine lv_iload hx hb dL_law_504 (lv_at hl 1 rfl) ?_
    refine lv_if_ne (tgt := 521) hx hb dL_law_506 (by decide) (fun _ => ?_) (fun h => absurd h (by decide))
    refine lv_goto (tgt := 1054) hx hb dL_law_521 (by decide) ?_
    refine W.widen (k := cells + 8) (n := slots + 40) (by show _ ≤ _; omega) (by show _ ≤ _; omega) ?_
    exact kk (G, o, ld, b, k) H locs ls (by refine ⟨?_, ?_, ?_, ?_⟩ <;> dsimp only <;> omega) ⟨2, fo', fL', fK', FZ', K', R', L', N', hP, hD, hC', hM', hS⟩ (lv_sub hl [2, 3, 4, 5, 6] rfl)
  · obtain ⟨fo', fL', fK', FZ', hP1, hD1, hC', hfo⟩ := hB9
    dsimp only at hP1 hD1 hC'
    rw [ht9] at hP1
    obtain ⟨hP, hD⟩ := xjoin (wr := (MWs cI m0 a1 a2 a3 a4 K R L N ld o b k t)) (wc := (LWs cT cJ ou x lv kp fo fL fK o ld b k FZ)) (w1 := (LWs cT cJ ou x lv kp fo' fL' fK' o ld b k FZ')) hP hD hkc hFc hP1 hD1
    generalize H1 = H at hP hS ⊢
    refine lv_istore (lv' := [(5, .int (nI 3)), (4, .int (nI i)), (0, .ref sb), (1, .ref x), (2, .ref m0), (3, .ref ou)]) hx hb dL_law_473 hl (by decide) rfl (fun ls hl => ?_)
    refine lv_aload_n hx hb dL_law_475 rfl (lv_at hl 4 rfl) ?_
    refine lv_aload_n hx hb dL_law_476 rfl (lv_at hl 2 rfl) ?_
    refine lv_iload hx hb dL_law_477 (lv_at hl 1 rfl) ?_
    refine lv_iconst (v := nI 1) hx hb dL_law_479 (by decide) ?_
    refine lv_iadd hx hb dL_law_480 ?_
    refine x_top (nI (i + 1)) (xadd (by omega)) ?_
    refine va_sld hx hb hX hbl hbA hS (xin (by omega) (by omega)) dL_law_481 ?_
    refine x_top (xs (i + 1)) (by rw [nI_clamp (by omega)]) ?_
    refine x_top (nI j) (hv) ?_
    refine lv_aload_n hx hb dL_law_482 rfl (lv_at hl 2 rfl) ?_
    refine lv_iload hx hb dL_law_483 (lv_at hl 1 rfl) ?_
    refine lv_iconst (v := nI 2) hx hb dL_law_485 (by decide) ?_
    refine lv_iadd hx hb dL_law_486 ?_
    refine x_top (nI (i + 2)) (xadd (by omega)) ?_
    refine va_sld hx hb hX hbl hbA hS (xin (by omega) (by omega)) dL_law_487 ?_
    refine x_top (xs (i + 2)) (by rw [nI_clamp (by omega)]) ?_
    have hP : va_P D vwCl ((LWs cT cJ ou x lv kp fo' fL' fK' o ld b k FZ') ++ (MWs cI m0 a1 a2 a3 a4 K R L N ld o b k t)) H := xP_perm List.perm_append_comm hP
    have hD : va_D A ((LWs cT cJ ou x lv kp fo' fL' fK' o ld b k FZ') ++ (MWs cI m0 a1 a2 a3 a4 K R L N ld o b k t)) := xD_perm List.perm_append_comm hD
    have hPm : va_P D vwCl (MWs cI m0 a1 a2 a3 a4 K R L N ld o b k t) H := xP_sub (fun _ h => List.mem_append_right _ h) hP
    have hDm : va_D (fun _ => True) (MWs cI m0 a1 a2 a3 a4 K R L N ld o b k t) := (xD_sub (List.sublist_append_right _ _) hD).weaken (fun _ _ _ _ => trivial)
    have hFc := xfree (wc := (MWs cI m0 a1 a2 a3 a4 K R L N ld o b k t)) hD hS hA (fun _ h => List.mem_append_right _ h)
    refine va_calli (va_runV (As := [.int (nI j), .int (xs (i + 2))]) (rest := []) ⟨hx, hb, hml, hown, hts⟩ (c_X2_setRights_d l m0 a1 a2 a3 a4 K R L N ld o b k t G hM j (xs (i + 2)) hj hk1 hbad H.size) (cwV 2 hts gL_law_X2_setRights rfl rfl rfl (by decide +kernel) ⟨(Nat.le_of_ble_eq_true rfl), (Nat.le_of_ble_eq_true rfl)⟩) ⟨XP_blind, va_recv hK hPm (ci := 2) (q0 := 0) rfl rfl, XP_pre hE ⟨rfl, hPm, hDm⟩⟩ rfl rfl hl.1 rfl (lv_room (Nat.le_of_ble_eq_true rfl)) dL_law_488 ⟨by show (_ : Nat) ≤ 709371; omega, by show (_ : Nat) ≤ 6967992; omega⟩) hS (fun q9 _ h => hFc q9 h) hFc (fun r8 u8 t9 H1 locs ht9 hvm9 hw8 hB9 hzc hkc hS => ?_)
    obtain ⟨K', R', L', N', hP1, hD1, hM'⟩ := hB9
    rw [ht9] at hP1
    obtain ⟨hP, hD⟩ := xjoin (wr := (LWs cT cJ ou x lv kp fo' fL' fK' o ld b k FZ')) (wc := (MWs cI m0 a1 a2 a3 a4 K R L N ld o b k t)) (w1 := (MWs cI m0 a1 a2 a3 a4 K' R' L' N' ld o b k 3)) hP hD hkc hFc hP1 hD1
    generalize H1 = H at hP hS ⊢
    have hP : va_P D vwCl ((MWs cI m0 a1 a2 a3 a4 K' R' L' N' ld o b k 3) ++ (LWs cT cJ ou x lv kp fo' fL' fK' o ld b k FZ')) H := xP_perm List.perm_append_comm hP
    have hD : va_D A ((MWs cI m0 a1 a2 a3 a4 K' R' L' N' ld o b k 3) ++ (LWs cT cJ ou x lv kp fo' fL' fK' o ld b k FZ')) := xD_perm List.perm_append_comm hD
    refine lv_istore (lv' := [(6, .int r8), (5, .int (nI 3)), (4, .int (nI i)), (0, .ref sb), (1, .ref x), (2, .ref m0), (3, .ref ou)]) hx hb dL_law_491 hl (by decide) rfl (fun ls hl => ?_)
    refine lv_aload_n hx hb dL_law_493 rfl (lv_at hl 5 rfl) ?_
    have hPm : va_P D vwCl (MWs cI m0 a1 a2 a3 a4 K' R' L' N' ld o b k 3) H := xP_sub (ws := (MWs cI m0 a1 a2 a3 a4 K' R' L' N' ld o b k 3) ++ (LWs cT cJ ou x lv kp fo' fL' fK' o ld b k FZ')) (fun _ h => List.mem_append_left _ h) hP
    refine xc_sie (va_runV (As := []) (rest := []) ⟨hx, hb, hml, hown, hts⟩ (c_X2_thrown l m0 a1 a2 a3 a4 K' R' L' N' ld o b k 3) (cwV 0 hts gL_law_X2_thrown rfl rfl rfl (by decide +kernel) ⟨(Nat.le_of_ble_eq_true rfl), (Nat.le_of_ble_eq_true rfl)⟩) ⟨XP_blind, va_recv hK hPm (ci := 2) (q0 := 0) rfl rfl, XP_pre hE hPm⟩ rfl rfl hl.1 rfl (lv_room (Nat.le_of_ble_eq_true rfl)) dL_law_494 ⟨by show (_ : Nat) ≤ 709371; omega, by show (_ : Nat) ≤ 6967992; omega⟩) ?_
    refine lv_iload hx hb dL_law_497 (lv_at hl 1 rfl) ?_
    refine lv_icmp_eq (tgt := 504) hx hb dL_law_499 (by decide) (fun _ => ?_) (fun h => absurd h (by decide))
    refine lv_iload hx hb dL_law_504 (lv_at hl 1 rfl) ?_
    refine lv_if_ne (tgt := 521) hx hb dL_law_506 (by decide) (fun _ => ?_) (fun h => absurd h (by decide))
    refine lv_goto (tgt := 1054) hx hb dL_law_521 (by decide) ?_
    refine W.widen (k := cells + 8) (n := slots + 40) (by show _ ≤ _; omega) (by show _ ≤ _; omega) ?_
    exact kk (G, o, ld, b, k) H locs ls (by refine ⟨?_, ?_, ?_, ?_⟩ <;> dsimp only <;> omega) ⟨3, fo', fL', fK', FZ', K', R', L', N', hP, hD, hC', hM', hS⟩ (lv_sub hl [2, 3, 4, 5, 6] rfl)
