/-! the reference: copies, longest, taken, takes, sizeOf -/
def cpX (G : Nat → Tv) (d1 d2 p : Nat) : Nat → Tv := fun i => if 6 * d2 ≤ i ∧ i < 6 * d2 + p then G (6 * d1 + (i - 6 * d2)) else G i
theorem cpX_0 {G : Nat → Tv} {d1 d2 : Nat} : cpX G d1 d2 0 = G := funext fun i => if_neg (by omega)
theorem cpX_one {G : Nat → Tv} {d1 d2 p q : Nat} (h : ¬ d1 = d2) (hp : p ≤ 6) (hq : q < 6) : cpX G d1 d2 p (6 * d1 + q) = G (6 * d1 + q) := if_neg (by omega)
theorem cpX_s {G : Nat → Tv} {d1 d2 p : Nat} (h : ¬ d1 = d2) (hp : p < 6) : cpX G d1 d2 (p + 1) = va_up (cpX G d1 d2 p) (6 * d2 + p) (cpX G d1 d2 p (6 * d1 + p)) := by
  funext i
  by_cases e : i = 6 * d2 + p
  · subst e
    rw [va_up_s, cpX_one h (by omega) hp]
    unfold cpX
    rw [if_pos (by omega), show 6 * d2 + p - 6 * d2 = p by omega]
  · rw [va_up_n e]
    unfold cpX
    by_cases c : 6 * d2 ≤ i ∧ i < 6 * d2 + p
    · rw [if_pos (by omega), if_pos c]
    · rw [if_neg (by omega), if_neg c]
theorem cpX_D {G : Nat → Tv} {d : Nat} : cpX G 41 d 6 = cpD G d 6 := rfl
theorem cpX_L {G : Nat → Tv} {d : Nat} : cpX G d 41 6 = cpL G d 6 := rfl

theorem iw_X2copies_X2 : ∀ w ∈ u_ws RX2 TX2 9, w ∈ wsX2_copies := by decide +kernel
set_option maxHeartbeats 4000000 in
set_option maxRecDepth 100000 in
theorem c_X2_copies (l : Launch) {D : va_G} {cI cT cJ : ClassId} (m0 a1 a2 a3 a4 : Nat) (K R L N : Nat → Int32) (ld o b k t : Nat) (G : Nat → Tv) (hM : MA G K R L N) (d1 d2 : Nat) (hd : ¬ d1 = d2) (hd1 : d1 ≤ 41) (hd2 : d2 ≤ 41) (sz : Nat) : Met l yX2_copies wsX2_copies (rmD 2 0 0) (XP D cI cT cJ [.ref m0, .int (nI d1), .int (nI d2)] (fun H => H.size = sz ∧ va_P D vwCl (MWs cI m0 a1 a2 a3 a4 K R L N ld o b k t) H ∧ va_D (fun _ => True) (MWs cI m0 a1 a2 a3 a4 K R L N ld o b k t))) (va_Qv (S := Unit) (fun _ => True) (fun _ t9 => ∃ K' R' L' N' : Nat → Int32, va_P D vwCl (MWs cI m0 a1 a2 a3 a4 K' R' L' N' ld o b k t) t9.heap ∧ va_D (va_A (MWs cI m0 a1 a2 a3 a4 K R L N ld o b k t) sz) (MWs cI m0 a1 a2 a3 a4 K' R' L' N' ld o b k t) ∧ MA (cpX G d1 d2 6) K' R' L' N') (va_A (MWs cI m0 a1 a2 a3 a4 K R L N ld o b k t) sz)) 0 0 (va_A (MWs cI m0 a1 a2 a3 a4 K R L N ld o b k t) sz) := by
  refine Met.ofW (cc := cX2_copies) (maxL := 7) (ret := none) (by decide) rfl ?_
  intro p e s m args below meth c s₁ B hml hv
  obtain ⟨rfl, ⟨hsz, hP, hD0⟩, hE⟩ := hv
  have hx := B.exec
  have hb := B.bytes
  have hr := B.returns
  have hts := atoms_spec (ws := wsX2_copies) B.pre
  have hown : s.vm.findClass RX2 = some m.cls := findClass_of_methodNamed B.named
  have hlocks := B.notSynchronized
  have hl := lv_entry ([.ref m0, .int (nI d1), .int (nI d2)]) (n := 7) (Nat.le_of_ble_eq_true rfl)
  rw [lg_entry_eq]
  generalize (lg_sl ([.ref m0, .int (nI d1), .int (nI d2)]) ++ List.replicate (7 - (lg_sl ([.ref m0, .int (nI d1), .int (nI d2)])).length) Slot.unset).toArray = ls at hl ⊢
  have hl : lv_has ls 7 [(0, .ref m0), (1, .int (nI d1)), (2, .int (nI d2))] := hl
  have hK := hE.1
  subst hsz
  have hD := hD0.self (sz := s.heap.size)
  generalize hAe : va_A ((MWs cI m0 a1 a2 a3 a4 K R L N ld o b k t)) s.heap.size = A at hD ⊢
  have hA : ∀ q : Nat, s.heap.size ≤ q → A q := fun q h => by rw [← hAe]; exact Or.inr h
  have hS : va_S A s.heap s.heap [] := va_S.rf
  refine lv_iconst (v := nI 0) hx hb dX2_copies_0 (by decide) ?_
  refine lv_istore_n (lv' := [(3, .int (nI 0)), (0, .ref m0), (1, .int (nI d1)), (2, .int (nI d2))]) hx hb dX2_copies_1 rfl hl (by decide) rfl (fun ls hl => ?_)
  refine x_loop (fun n H locs ls => ∃ (p j : Nat) (K' R' L' N' : Nat → Int32), (j + 1 = n) ∧ (6 ≤ p + j) ∧ (p ≤ 6) ∧ (MA (cpX G d1 d2 p) K' R' L' N') ∧ va_P D vwCl [(m0, .inr (2, [.ref a1, .ref a2, .ref a3, .ref a4, .int (nI ld), .int (nI o), .int (nI b), .int (nI k), .int (nI t)])), (a1, .inl (cI, 252, .inl K')), (a2, .inl (cI, 252, .inl R')), (a3, .inl (cI, 252, .inl L')), (a4, .inl (cI, 3024, .inl N'))] H ∧ va_D A [(m0, .inr (2, [.ref a1, .ref a2, .ref a3, .ref a4, .int (nI ld), .int (nI o), .int (nI b), .int (nI k), .int (nI t)])), (a1, .inl (cI, 252, .inl K')), (a2, .inl (cI, 252, .inl R')), (a3, .inl (cI, 252, .inl L')), (a4, .inl (cI, 3024, .inl N'))] ∧ va_S A s.heap H locs ∧ lv_has ls 7 [(3, .int (nI p)), (0, .ref m0), (1, .int (nI d1)), (2, .int (nI d2))]) (7) ⟨0, 6, K, R, L, N, rfl, by omega, by omega, by rw [cpX_0]; exact hM, hP, hD, hS, lv_sub hl [0, 1, 2, 3] rfl⟩ (fun H locs ls h => by obtain ⟨p, j, K', R', L', N', hk, h1, h2, hM', -⟩ := h; omega) (fun n H locs ls h ih => ?_)
  obtain ⟨p, j, K', R', L', N', hk, h1, h2, hM', hP, hD, hS, hl⟩ := h
  refine lv_iload_n hx hb dX2_copies_2 rfl (lv_at hl 0 rfl) ?_
  refine lv_bipush (v := nI 6) hx hb dX2_copies_3 (by decide) ?_
  refine lv_icmp_ge (tgt := 112) hx hb dX2_copies_5 (by decide) (fun c5 => ?_) (fun c5 => ?_)
  · have c5 : 6 ≤ p := (xle (by omega) (by omega)).mp c5
    obtain rfl : p = 6 := by omega
    exact W.vret hx hb hr (fun t9 ht9 hW9 => ⟨⟨(), rfl, trivial, K', R', L', N', by rw [ht9]; exact hP, hD, hM'⟩, hS.F ht9⟩) hS.2.2 dX2_copies_112
  · have c5 : ¬ 6 ≤ p := fun h => c5 ((xle (by omega) (by omega)).mpr h)
    refine lv_iload_n hx hb dX2_copies_8 rfl (lv_at hl 2 rfl) ?_
    refine lv_iload_n hx hb dX2_copies_9 rfl (lv_at hl 0 rfl) ?_
    refine xc_sie (va_runS (As := [.int (nI d1), .int (nI p)]) (rest := []) ⟨hx, hb, hml, hown, hts⟩ (c_X2_at l d1 p) (va_cwS 2 hts gX2_copies_X2_at rfl rfl rfl (by decide +kernel) ⟨(Nat.le_of_ble_eq_true rfl), (Nat.le_of_ble_eq_true rfl)⟩) ⟨XP_blind, XP_pre hE trivial⟩ rfl rfl hl.1 rfl (lv_room (Nat.le_of_ble_eq_true rfl)) dX2_copies_10 ⟨Nat.le_of_ble_eq_true rfl, Nat.le_of_ble_eq_true rfl⟩) ?_
    refine lv_istore (lv' := [(4, .int (nI (6 * d1 + p))), (3, .int (nI p)), (0, .ref m0), (1, .int (nI d1)), (2, .int (nI d2))]) hx hb dX2_copies_13 hl (by decide) rfl (fun ls hl => ?_)
    refine lv_iload_n hx hb dX2_copies_15 rfl (lv_at hl 4 rfl) ?_
    refine lv_iload_n hx hb dX2_copies_16 rfl (lv_at hl 1 rfl) ?_
    refine xc_sie (va_runS (As := [.int (nI d2), .int (nI p)]) (rest := []) ⟨hx, hb, hml, hown, hts⟩ (c_X2_at l d2 p) (va_cwS 2 hts gX2_copies_X2_at rfl rfl rfl (by decide +kernel) ⟨(Nat.le_of_ble_eq_true rfl), (Nat.le_of_ble_eq_true rfl)⟩) ⟨XP_blind, XP_pre hE trivial⟩ rfl rfl hl.1 rfl (lv_room (Nat.le_of_ble_eq_true rfl)) dX2_copies_17 ⟨Nat.le_of_ble_eq_true rfl, Nat.le_of_ble_eq_true rfl⟩) ?_
    refine lv_istore (lv' := [(5, .int (nI (6 * d2 + p))), (4, .int (nI (6 * d1 + p))), (3, .int (nI p)), (0, .ref m0), (1, .int (nI d1)), (2, .int (nI d2))]) hx hb dX2_copies_20 hl (by decide) rfl (fun ls hl => ?_)
    refine lv_aload_n hx hb dX2_copies_22 rfl (lv_at hl 3 rfl) ?_
    refine va_get (ci := 2) (v := .ref a1) (C := RX2) (T := TX2) (N := 9) hx hb hts iw_X2copies_X2 hown hK hP 0 rfl rfl 0 (by decide) (hts (.fieldLink RX2 7 "BackMirrorModel" "kinds" "[I") (by decide +kernel)) (fun _ h9 => h9) rfl dX2_copies_23 ?_
    refine lv_iload hx hb dX2_copies_26 (lv_at hl 0 rfl) ?_
    refine lv_aload_n hx hb dX2_copies_28 rfl (lv_at hl 3 rfl) ?_
    refine va_get (ci := 2) (v := .ref a1) (C := RX2) (T := TX2) (N := 9) hx hb hts iw_X2copies_X2 hown hK hP 0 rfl rfl 0 (by decide) (hts (.fieldLink RX2 7 "BackMirrorModel" "kinds" "[I") (by decide +kernel)) (fun _ h9 => h9) rfl dX2_copies_29 ?_
    refine lv_iload hx hb dX2_copies_32 (lv_at hl 1 rfl) ?_
    refine va_iald hx hb hK hP 1 0 rfl rfl (xin (by omega) (by omega)) dX2_copies_34 ?_
    refine x_top (K' (6 * d1 + p)) (by rw [nI_clamp (by omega)]) ?_
    refine va_iast hx hb hK hP hD hS 1 0 rfl rfl (xin (by omega) (by omega)) dX2_copies_35 (fun H locs hP hD hS => ?_)
    rw [nI_clamp (show 6 * d2 + p < 2 ^ 31 by omega)] at hP hD
    have hP : va_P D vwCl [(m0, .inr (2, [.ref a1, .ref a2, .ref a3, .ref a4, .int (nI ld), .int (nI o), .int (nI b), .int (nI k), .int (nI t)])), (a1, .inl (cI, 252, .inl (upd K' (6 * d2 + p) (K' (6 * d1 + p))))), (a2, .inl (cI, 252, .inl R')), (a3, .inl (cI, 252, .inl L')), (a4, .inl (cI, 3024, .inl N'))] H := hP
    have hD : va_D A [(m0, .inr (2, [.ref a1, .ref a2, .ref a3, .ref a4, .int (nI ld), .int (nI o), .int (nI b), .int (nI k), .int (nI t)])), (a1, .inl (cI, 252, .inl (upd K' (6 * d2 + p) (K' (6 * d1 + p))))), (a2, .inl (cI, 252, .inl R')), (a3, .inl (cI, 252, .inl L')), (a4, .inl (cI, 3024, .inl N'))] := hD
    refine lv_aload_n hx hb dX2_copies_36 rfl (lv_at hl 3 rfl) ?_
    refine va_get (ci := 2) (v := .ref a2) (C := RX2) (T := TX2) (N := 9) hx hb hts iw_X2copies_X2 hown hK hP 0 rfl rfl 1 (by decide) (hts (.fieldLink RX2 13 "BackMirrorModel" "rights" "[I") (by decide +kernel)) (fun _ h9 => h9) rfl dX2_copies_37 ?_
    refine lv_iload hx hb dX2_copies_40 (lv_at hl 0 rfl) ?_
    refine lv_aload_n hx hb dX2_copies_42 rfl (lv_at hl 3 rfl) ?_
    refine va_get (ci := 2) (v := .ref a2) (C := RX2) (T := TX2) (N := 9) hx hb hts iw_X2copies_X2 hown hK hP 0 rfl rfl 1 (by decide) (hts (.fieldLink RX2 13 "BackMirrorModel" "rights" "[I") (by decide +kernel)) (fun _ h9 => h9) rfl dX2_copies_43 ?_
    refine lv_iload hx hb dX2_copies_46 (lv_at hl 1 rfl) ?_
    refine va_iald hx hb hK hP 2 0 rfl rfl (xin (by omega) (by omega)) dX2_copies_48 ?_
    refine x_top (R' (6 * d1 + p)) (by rw [nI_clamp (by omega)]) ?_
    refine va_iast hx hb hK hP hD hS 2 0 rfl rfl (xin (by omega) (by omega)) dX2_copies_49 (fun H locs hP hD hS => ?_)
    rw [nI_clamp (show 6 * d2 + p < 2 ^ 31 by omega)] at hP hD
    have hP : va_P D vwCl [(m0, .inr (2, [.ref a1, .ref a2, .ref a3, .ref a4, .int (nI ld), .int (nI o), .int (nI b), .int (nI k), .int (nI t)])), (a1, .inl (cI, 252, .inl (upd K' (6 * d2 + p) (K' (6 * d1 + p))))), (a2, .inl (cI, 252, .inl (upd R' (6 * d2 + p) (R' (6 * d1 + p))))), (a3, .inl (cI, 252, .inl L')), (a4, .inl (cI, 3024, .inl N'))] H := hP
    have hD : va_D A [(m0, .inr (2, [.ref a1, .ref a2, .ref a3, .ref a4, .int (nI ld), .int (nI o), .int (nI b), .int (nI k), .int (nI t)])), (a1, .inl (cI, 252, .inl (upd K' (6 * d2 + p) (K' (6 * d1 + p))))), (a2, .inl (cI, 252, .inl (upd R' (6 * d2 + p) (R' (6 * d1 + p))))), (a3, .inl (cI, 252, .inl L')), (a4, .inl (cI, 3024, .inl N'))] := hD
    refine lv_aload_n hx hb dX2_copies_50 rfl (lv_at hl 3 rfl) ?_
    refine va_get (ci := 2) (v := .ref a3) (C := RX2) (T := TX2) (N := 9) hx hb hts iw_X2copies_X2 hown hK hP 0 rfl rfl 2 (by decide) (hts (.fieldLink RX2 16 "BackMirrorModel" "lengths" "[I") (by decide +kernel)) (fun _ h9 => h9) rfl dX2_copies_51 ?_
    refine lv_iload hx hb dX2_copies_54 (lv_at hl 0 rfl) ?_
    refine lv_aload_n hx hb dX2_copies_56 rfl (lv_at hl 3 rfl) ?_
    refine va_get (ci := 2) (v := .ref a3) (C := RX2) (T := TX2) (N := 9) hx hb hts iw_X2copies_X2 hown hK hP 0 rfl rfl 2 (by decide) (hts (.fieldLink RX2 16 "BackMirrorModel" "lengths" "[I") (by decide +kernel)) (fun _ h9 => h9) rfl dX2_copies_57 ?_
    refine lv_iload hx hb dX2_copies_60 (lv_at hl 1 rfl) ?_
    refine va_iald hx hb hK hP 3 0 rfl rfl (xin (by omega) (by omega)) dX2_copies_62 ?_
    refine x_top (L' (6 * d1 + p)) (by rw [nI_clamp (by omega)]) ?_
    refine va_iast hx hb hK hP hD hS 3 0 rfl rfl (xin (by omega) (by omega)) dX2_copies_63 (fun H locs hP hD hS => ?_)
    rw [nI_clamp (show 6 * d2 + p < 2 ^ 31 by omega)] at hP hD
    have hP : va_P D vwCl [(m0, .inr (2, [.ref a1, .ref a2, .ref a3, .ref a4, .int (nI ld), .int (nI o), .int (nI b), .int (nI k), .int (nI t)])), (a1, .inl (cI, 252, .inl (upd K' (6 * d2 + p) (K' (6 * d1 + p))))), (a2, .inl (cI, 252, .inl (upd R' (6 * d2 + p) (R' (6 * d1 + p))))), (a3, .inl (cI, 252, .inl (upd L' (6 * d2 + p) (L' (6 * d1 + p))))), (a4, .inl (cI, 3024, .inl N'))] H := hP
    have hD : va_D A [(m0, .inr (2, [.ref a1, .ref a2, .ref a3, .ref a4, .int (nI ld), .int (nI o), .int (nI b), .int (nI k), .int (nI t)])), (a1, .inl (cI, 252, .inl (upd K' (6 * d2 + p) (K' (6 * d1 + p))))), (a2, .inl (cI, 252, .inl (upd R' (6 * d2 + p) (R' (6 * d1 + p))))), (a3, .inl (cI, 252, .inl (upd L' (6 * d2 + p) (L' (6 * d1 + p))))), (a4, .inl (cI, 3024, .inl N'))] := hD
    refine lv_iconst (v := nI 0) hx hb dX2_copies_64 (by decide) ?_
    refine lv_istore (lv' := [(6, .int (nI 0)), (5, .int (nI (6 * d2 + p))), (4, .int (nI (6 * d1 + p))), (3, .int (nI p)), (0, .ref m0), (1, .int (nI d1)), (2, .int (nI d2))]) hx hb dX2_copies_65 hl (by decide) rfl (fun ls hl => ?_)
    have ih1 := ih
    clear ih
    refine x_loop (fun n H locs ls => ∃ (q j2 : Nat) (N'' : Nat → Int32), (j2 + 1 = n) ∧ (12 ≤ q + j2) ∧ (q ≤ 12) ∧ (∀ z, N'' z = if 12 * (6 * d2 + p) ≤ z ∧ z < 12 * (6 * d2 + p) + q then N' (12 * (6 * d1 + p) + (z - 12 * (6 * d2 + p))) else N' z) ∧ va_P D vwCl [(m0, .inr (2, [.ref a1, .ref a2, .ref a3, .ref a4, .int (nI ld), .int (nI o), .int (nI b), .int (nI k), .int (nI t)])), (a1, .inl (cI, 252, .inl (upd K' (6 * d2 + p) (K' (6 * d1 + p))))), (a2, .inl (cI, 252, .inl (upd R' (6 * d2 + p) (R' (6 * d1 + p))))), (a3, .inl (cI, 252, .inl (upd L' (6 * d2 + p) (L' (6 * d1 + p))))), (a4, .inl (cI, 3024, .inl N''))] H ∧ va_D A [(m0, .inr (2, [.ref a1, .ref a2, .ref a3, .ref a4, .int (nI ld), .int (nI o), .int (nI b), .int (nI k), .int (nI t)])), (a1, .inl (cI, 252, .inl (upd K' (6 * d2 + p) (K' (6 * d1 + p))))), (a2, .inl (cI, 252, .inl (upd R' (6 * d2 + p) (R' (6 * d1 + p))))), (a3, .inl (cI, 252, .inl (upd L' (6 * d2 + p) (L' (6 * d1 + p))))), (a4, .inl (cI, 3024, .inl N''))] ∧ va_S A s.heap H locs ∧ lv_has ls 7 [(6, .int (nI q)), (5, .int (nI (6 * d2 + p))), (4, .int (nI (6 * d1 + p))), (3, .int (nI p)), (0, .ref m0), (1, .int (nI d1)), (2, .int (nI d2))]) (13) ⟨0, 12, N', rfl, by omega, by omega, fun z => by rw [if_neg (by omega)], hP, hD, hS, lv_sub hl [0, 1, 2, 3, 4, 5, 6] rfl⟩ (fun H locs ls h => by obtain ⟨q, j2, N'', hk2, h12, h22, hv, -⟩ := h; omega) (fun n H locs ls h ih => ?_)
    obtain ⟨q, j2, N'', hk2, h12, h22, hv, hP, hD, hS, hl⟩ := h
    refine lv_iload hx hb dX2_copies_67 (lv_at hl 0 rfl) ?_
    refine lv_bipush (v := nI 12) hx hb dX2_copies_69 (by decide) ?_
    refine lv_icmp_ge (tgt := 106) hx hb dX2_copies_71 (by decide) (fun c71 => ?_) (fun c71 => ?_)
    · have c71 : 12 ≤ q := (xle (by omega) (by omega)).mp c71
      refine lv_iinc (v := nI (p + 1)) (lv' := [(3, .int (nI (p + 1))), (6, .int (nI q)), (5, .int (nI (6 * d2 + p))), (4, .int (nI (6 * d1 + p))), (0, .ref m0), (1, .int (nI d1)), (2, .int (nI d2))]) hx hb dX2_copies_106 hl (k := 3) rfl (xinc _ 1 _ (by decide)) (by decide) rfl (fun ls hl => ?_)
      refine lv_goto (tgt := 2) hx hb dX2_copies_109 (by decide) ?_
      obtain rfl : q = 12 := by omega
      have hM1 := hM' (6 * d1 + p) (by omega)
      have hn1 : ∀ j, j < (cpX G d1 d2 p (6 * d1 + p)).2.2.1 → N'' (12 * (6 * d2 + p) + j) = (cpX G d1 d2 p (6 * d1 + p)).2.2.2 j := fun j hj => by rw [hv, if_pos (by omega), show 12 * (6 * d2 + p) + j - 12 * (6 * d2 + p) = j by omega]; exact hM1.2.2.2.2 j hj
      exact ih1 _ _ _ ⟨p + 1, j - 1, (upd K' (6 * d2 + p) (K' (6 * d1 + p))), (upd R' (6 * d2 + p) (R' (6 * d1 + p))), (upd L' (6 * d2 + p) (L' (6 * d1 + p))), N'', by omega, by omega, by omega, by rw [cpX_s hd (by omega)]; exact MA.set hM' hM1.2.2.2.1 (pk_us.trans hM1.1) (fun z h => pk_un h) (pk_us.trans hM1.2.1) (fun z h => pk_un h) (pk_us.trans hM1.2.2.1) (fun z h => pk_un h) hn1 (fun z hz => by rw [hv, if_neg (by omega)]), hP, hD, hS, lv_sub hl [0, 4, 5, 6] rfl⟩
    · have c71 : ¬ 12 ≤ q := fun h => c71 ((xle (by omega) (by omega)).mpr h)
      refine lv_aload_n hx hb dX2_copies_74 rfl (lv_at hl 4 rfl) ?_
      refine va_get (ci := 2) (v := .ref a4) (C := RX2) (T := TX2) (N := 9) hx hb hts iw_X2copies_X2 hown hK hP 0 rfl rfl 3 (by decide) (hts (.fieldLink RX2 19 "BackMirrorModel" "numbers" "[I") (by decide +kernel)) (fun _ h9 => h9) rfl dX2_copies_75 ?_
      refine lv_bipush (v := nI 12) hx hb dX2_copies_78 (by decide) ?_
      refine lv_iload hx hb dX2_copies_80 (lv_at hl 1 rfl) ?_
      refine lv_imul hx hb dX2_copies_82 ?_
      refine x_top (nI (12 * (6 * d2 + p))) (pk_mul _ _) ?_
      refine lv_iload hx hb dX2_copies_83 (lv_at hl 0 rfl) ?_
      refine lv_iadd hx hb dX2_copies_85 ?_
      refine x_top (nI ((12 * (6 * d2 + p)) + q)) (xadd (by omega)) ?_
      refine lv_aload_n hx hb dX2_copies_86 rfl (lv_at hl 4 rfl) ?_
      refine va_get (ci := 2) (v := .ref a4) (C := RX2) (T := TX2) (N := 9) hx hb hts iw_X2copies_X2 hown hK hP 0 rfl rfl 3 (by decide) (hts (.fieldLink RX2 19 "BackMirrorModel" "numbers" "[I") (by decide +kernel)) (fun _ h9 => h9) rfl dX2_copies_87 ?_
      refine lv_bipush (v := nI 12) hx hb dX2_copies_90 (by decide) ?_
      refine lv_iload hx hb dX2_copies_92 (lv_at hl 2 rfl) ?_
      refine lv_imul hx hb dX2_copies_94 ?_
      refine x_top (nI (12 * (6 * d1 + p))) (pk_mul _ _) ?_
      refine lv_iload hx hb dX2_copies_95 (lv_at hl 0 rfl) ?_
      refine lv_iadd hx hb dX2_copies_97 ?_
      refine x_top (nI ((12 * (6 * d1 + p)) + q)) (xadd (by omega)) ?_
      refine va_iald hx hb hK hP 4 0 rfl rfl (xin (by omega) (by omega)) dX2_copies_98 ?_
      refine x_top (N'' ((12 * (6 * d1 + p)) + q)) (by rw [nI_clamp (by omega)]) ?_
      refine va_iast hx hb hK hP hD hS 4 0 rfl rfl (xin (by omega) (by omega)) dX2_copies_99 (fun H locs hP hD hS => ?_)
      rw [nI_clamp (show (12 * (6 * d2 + p)) + q < 2 ^ 31 by omega)] at hP hD
      have hP : va_P D vwCl [(m0, .inr (2, [.ref a1, .ref a2, .ref a3, .ref a4, .int (nI ld), .int (nI o), .int (nI b), .int (nI k), .int (nI t)])), (a1, .inl (cI, 252, .inl (upd K' (6 * d2 + p) (K' (6 * d1 + p))))), (a2, .inl (cI, 252, .inl (upd R' (6 * d2 + p) (R' (6 * d1 + p))))), (a3, .inl (cI, 252, .inl (upd L' (6 * d2 + p) (L' (6 * d1 + p))))), (a4, .inl (cI, 3024, .inl (upd N'' ((12 * (6 * d2 + p)) + q) (N'' ((12 * (6 * d1 + p)) + q)))))] H := hP
      have hD : va_D A [(m0, .inr (2, [.ref a1, .ref a2, .ref a3, .ref a4, .int (nI ld), .int (nI o), .int (nI b), .int (nI k), .int (nI t)])), (a1, .inl (cI, 252, .inl (upd K' (6 * d2 + p) (K' (6 * d1 + p))))), (a2, .inl (cI, 252, .inl (upd R' (6 * d2 + p) (R' (6 * d1 + p))))), (a3, .inl (cI, 252, .inl (upd L' (6 * d2 + p) (L' (6 * d1 + p))))), (a4, .inl (cI, 3024, .inl (upd N'' ((12 * (6 * d2 + p)) + q) (N'' ((12 * (6 * d1 + p)) + q)))))] := hD
      refine lv_iinc (v := nI (q + 1)) (lv' := [(6, .int (nI (q + 1))), (5, .int (nI (6 * d2 + p))), (4, .int (nI (6 * d1 + p))), (3, .int (nI p)), (0, .ref m0), (1, .int (nI d1)), (2, .int (nI d2))]) hx hb dX2_copies_100 hl (k := 0) rfl (xinc _ 1 _ (by decide)) (by decide) rfl (fun ls hl => ?_)
      refine lv_goto (tgt := 67) hx hb dX2_copies_103 (by decide) ?_
      have hv2 : ∀ z, (upd N'' ((12 * (6 * d2 + p)) + q) (N'' ((12 * (6 * d1 + p)) + q))) z = if 12 * (6 * d2 + p) ≤ z ∧ z < 12 * (6 * d2 + p) + (q + 1) then N' (12 * (6 * d1 + p) + (z - 12 * (6 * d2 + p))) else N' z := by
        intro z
        by_cases e : z = 12 * (6 * d2 + p) + q
        · subst e; rw [pk_us, hv, if_neg (by omega), if_pos (by omega), show 12 * (6 * d2 + p) + q - 12 * (6 * d2 + p) = q by omega]
        · rw [pk_un e, hv]; by_cases c : 12 * (6 * d2 + p) ≤ z ∧ z < 12 * (6 * d2 + p) + q
          · rw [if_pos c, if_pos (by omega)]
          · rw [if_neg c, if_neg (by omega)]
      exact ih _ _ _ ⟨q + 1, j2 - 1, (upd N'' ((12 * (6 * d2 + p)) + q) (N'' ((12 * (6 * d1 + p)) + q))), by omega, by omega, by omega, hv2, hP, hD, hS, lv_sub hl [0, 1, 2, 3, 4, 5, 6] rfl⟩

theorem iw_X2longest_X2 : ∀ w ∈ u_ws RX2 TX2 9, w ∈ wsX2_longest := by decide +kernel
set_option maxHeartbeats 4000000 in
set_option maxRecDepth 100000 in
theorem c_X2_longest (l : Launch) {D : va_G} {cI cT cJ : ClassId} (m0 a1 a2 a3 a4 : Nat) (K R L N : Nat → Int32) (ld o b k t : Nat) (G : Nat → Tv) (hM : MA G K R L N) (i1 x i2 : Nat) (hi1 : i1 < 252) (hi2 : i2 < 252) (hxx : x ≤ (G i1).2.2.1) : Met l yX2_longest wsX2_longest (rmD 1 0 0) (XP D cI cT cJ [.ref m0, .int (nI i1), .int (nI x), .int (nI i2)] (fun H => va_P D vwCl (MWs cI m0 a1 a2 a3 a4 K R L N ld o b k t) H)) (XSi (fun r => r = nI (lng (G i1).2.2.2 (G i2).2.2.2 (G i1).2.2.1 (G i2).2.2.1 x (G i2).2.2.1))) 0 0 (fun _ => False) := by
  refine Met.ofW (cc := cX2_longest) (maxL := 7) (ret := (some .int)) (by decide) rfl ?_
  intro p e s m args below meth c s₁ B hml hv
  obtain ⟨rfl, hP, hE⟩ := hv
  have hx := B.exec
  have hb := B.bytes
  have hr := B.returns
  have hts := atoms_spec (ws := wsX2_longest) B.pre
  have hown : s.vm.findClass RX2 = some m.cls := findClass_of_methodNamed B.named
  have hlocks := B.notSynchronized
  have hl := lv_entry ([.ref m0, .int (nI i1), .int (nI x), .int (nI i2)]) (n := 7) (Nat.le_of_ble_eq_true rfl)
  rw [lg_entry_eq]
  generalize (lg_sl ([.ref m0, .int (nI i1), .int (nI x), .int (nI i2)]) ++ List.replicate (7 - (lg_sl ([.ref m0, .int (nI i1), .int (nI x), .int (nI i2)])).length) Slot.unset).toArray = ls at hl ⊢
  have hl : lv_has ls 7 [(0, .ref m0), (1, .int (nI i1)), (2, .int (nI x)), (3, .int (nI i2))] := hl
  have hK := hE.1
  have hb1 := (hM i1 (by omega)).2.2.2.1
  have hb2 := (hM i2 (by omega)).2.2.2.1
  refine lv_iconst (v := nI 0) hx hb dX2_longest_0 (by decide) ?_
  refine lv_istore (lv' := [(4, .int (nI 0)), (0, .ref m0), (1, .int (nI i1)), (2, .int (nI x)), (3, .int (nI i2))]) hx hb dX2_longest_1 hl (by decide) rfl (fun ls hl => ?_)
  refine lv_iconst (v := nI 0) hx hb dX2_longest_3 (by decide) ?_
  refine lv_istore (lv' := [(5, .int (nI 0)), (4, .int (nI 0)), (0, .ref m0), (1, .int (nI i1)), (2, .int (nI x)), (3, .int (nI i2))]) hx hb dX2_longest_4 hl (by decide) rfl (fun ls hl => ?_)
  refine x_loopP (fun n ls => ∃ w j : Nat, (j + 1 = n) ∧ ((G i2).2.2.1 ≤ w + j) ∧ (w ≤ (G i2).2.2.1) ∧ lv_has ls 7 [(5, .int (nI w)), (4, .int (nI (lng (G i1).2.2.2 (G i2).2.2.2 (G i1).2.2.1 (G i2).2.2.1 x w))), (0, .ref m0), (1, .int (nI i1)), (2, .int (nI x)), (3, .int (nI i2))]) ((G i2).2.2.1 + 1) ⟨0, (G i2).2.2.1, rfl, by omega, by omega, lv_sub hl [0, 1, 2, 3, 4, 5] rfl⟩ (fun ls h => by obtain ⟨w, j, hk, h1, h2, -⟩ := h; omega) (fun n ls h ih => ?_)
  obtain ⟨w, j, hk, h1, h2, hl⟩ := h
  have hg1 := lng_le (f := (G i1).2.2.2) (g := (G i2).2.2.2) (n2 := (G i2).2.2.1) hxx w
  have hg2 := shL_le (f := (G i1).2.2.2) (g := (G i2).2.2.2) (n2 := (G i2).2.2.1) (t := w) hxx
  refine lv_iload hx hb dX2_longest_6 (lv_at hl 0 rfl) ?_
  refine lv_aload_n hx hb dX2_longest_8 rfl (lv_at hl 2 rfl) ?_
  refine va_get (ci := 2) (v := .ref a3) (C := RX2) (T := TX2) (N := 9) hx hb hts iw_X2longest_X2 hown hK hP 0 rfl rfl 2 (by decide) (hts (.fieldLink RX2 16 "BackMirrorModel" "lengths" "[I") (by decide +kernel)) (fun _ h9 => h9) rfl dX2_longest_9 ?_
  refine lv_iload_n hx hb dX2_longest_12 rfl (lv_at hl 5 rfl) ?_
  refine va_iald hx hb hK hP 3 0 rfl rfl (xin (by omega) (by omega)) dX2_longest_13 ?_
  refine x_top (L i2) (by rw [nI_clamp (by omega)]) ?_
  have hb13 := (hM (i2) (by omega)).2.2.2.1
  refine x_top (nI ((G (i2)).2.2.1)) ((hM (i2) (by omega)).2.2.1) ?_
  refine lv_icmp_ge (tgt := 107) hx hb dX2_longest_14 (by decide) (fun c14 => ?_) (fun c14 => ?_)
  · have c14 : ((G (i2)).2.2.1) ≤ w := (xle (by omega) (by omega)).mp c14
    refine lv_iload hx hb dX2_longest_107 (lv_at hl 1 rfl) ?_
    exact W.iret hx hb hr (fun t9 ht9 hW9 => ⟨_, rfl, by rw [show w = (G i2).2.2.1 by omega], ht9⟩) (fun _ h => nomatch h) dX2_longest_109
  · have c14 : ¬ ((G (i2)).2.2.1) ≤ w := fun h => c14 ((xle (by omega) (by omega)).mpr h)
    refine lv_iconst (v := nI 0) hx hb dX2_longest_17 (by decide) ?_
    refine lv_istore (lv' := [(6, .int (nI 0)), (5, .int (nI w)), (4, .int (nI (lng (G i1).2.2.2 (G i2).2.2.2 (G i1).2.2.1 (G i2).2.2.1 x w))), (0, .ref m0), (1, .int (nI i1)), (2, .int (nI x)), (3, .int (nI i2))]) hx hb dX2_longest_18 hl (by decide) rfl (fun ls hl => ?_)
    have ih1 := ih
    clear ih
    refine x_loopP (fun n ls => ∃ i j2 : Nat, (j2 + 1 = n) ∧ ((G i1).2.2.1 ≤ x + i + j2) ∧ (x + i ≤ (G i1).2.2.1) ∧ (w + i ≤ (G i2).2.2.1) ∧ (shl (G i1).2.2.2 (G i2).2.2.2 (G i1).2.2.1 (G i2).2.2.1 x w j2 i = shL (G i1).2.2.2 (G i2).2.2.2 (G i1).2.2.1 (G i2).2.2.1 x w) ∧ lv_has ls 7 [(6, .int (nI i)), (5, .int (nI w)), (4, .int (nI (lng (G i1).2.2.2 (G i2).2.2.2 (G i1).2.2.1 (G i2).2.2.1 x w))), (0, .ref m0), (1, .int (nI i1)), (2, .int (nI x)), (3, .int (nI i2))]) ((G i1).2.2.1 + 1) ⟨0, (G i1).2.2.1, rfl, by omega, by omega, by omega, rfl, lv_sub hl [0, 1, 2, 3, 4, 5, 6] rfl⟩ (fun ls h => by obtain ⟨i, j2, hk2, h12, h22, h32, hv, -⟩ := h; omega) (fun n ls h ih => ?_)
    obtain ⟨i, j2, hk2, h12, h22, h32, hv, hl⟩ := h
    refine lv_iload_n hx hb dX2_longest_20 rfl (lv_at hl 5 rfl) ?_
    refine lv_iload hx hb dX2_longest_21 (lv_at hl 0 rfl) ?_
    refine lv_iadd hx hb dX2_longest_23 ?_
    refine x_top (nI (x + i)) (xadd (by omega)) ?_
    refine lv_aload_n hx hb dX2_longest_24 rfl (lv_at hl 3 rfl) ?_
    refine va_get (ci := 2) (v := .ref a3) (C := RX2) (T := TX2) (N := 9) hx hb hts iw_X2longest_X2 hown hK hP 0 rfl rfl 2 (by decide) (hts (.fieldLink RX2 16 "BackMirrorModel" "lengths" "[I") (by decide +kernel)) (fun _ h9 => h9) rfl dX2_longest_25 ?_
    refine lv_iload_n hx hb dX2_longest_28 rfl (lv_at hl 4 rfl) ?_
    refine va_iald hx hb hK hP 3 0 rfl rfl (xin (by omega) (by omega)) dX2_longest_29 ?_
    refine x_top (L i1) (by rw [nI_clamp (by omega)]) ?_
    have hb29 := (hM (i1) (by omega)).2.2.2.1
    refine x_top (nI ((G (i1)).2.2.1)) ((hM (i1) (by omega)).2.2.1) ?_
    refine lv_icmp_ge (tgt := 85) hx hb dX2_longest_30 (by decide) (fun c30 => ?_) (fun c30 => ?_)
    · have c30 : ((G (i1)).2.2.1) ≤ (x + i) := (xle (by omega) (by omega)).mp c30
      have hi : i = shL (G i1).2.2.2 (G i2).2.2.2 (G i1).2.2.1 (G i2).2.2.1 x w := by rw [← hv, shl_stop _ _ (fun h => by first | omega | exact c76 h.2.2)]
      refine lv_iload hx hb dX2_longest_85 (lv_at hl 0 rfl) ?_
      refine lv_iload hx hb dX2_longest_87 (lv_at hl 2 rfl) ?_
      refine lv_icmp_le (tgt := 97) hx hb dX2_longest_89 (by decide) (fun c89 => ?_) (fun c89 => ?_)
      · have c89 : i ≤ (lng (G i1).2.2.2 (G i2).2.2.2 (G i1).2.2.1 (G i2).2.2.1 x w) := (xle (by omega) (by omega)).mp c89
        refine lv_iload hx hb dX2_longest_97 (lv_at hl 2 rfl) ?_
        refine lv_istore (lv' := [(4, .int (nI (lng (G i1).2.2.2 (G i2).2.2.2 (G i1).2.2.1 (G i2).2.2.1 x w))), (6, .int (nI i)), (5, .int (nI w)), (0, .ref m0), (1, .int (nI i1)), (2, .int (nI x)), (3, .int (nI i2))]) hx hb dX2_longest_99 hl (by decide) rfl (fun ls hl => ?_)
        refine lv_iinc (v := nI (w + 1)) (lv' := [(5, .int (nI (w + 1))), (4, .int (nI (lng (G i1).2.2.2 (G i2).2.2.2 (G i1).2.2.1 (G i2).2.2.1 x w))), (6, .int (nI i)), (0, .ref m0), (1, .int (nI i1)), (2, .int (nI x)), (3, .int (nI i2))]) hx hb dX2_longest_101 hl (k := 2) rfl (xinc _ 1 _ (by decide)) (by decide) rfl (fun ls hl => ?_)
        refine lv_goto (tgt := 6) hx hb dX2_longest_104 (by decide) ?_
        have hw : lng (G i1).2.2.2 (G i2).2.2.2 (G i1).2.2.1 (G i2).2.2.1 x w = lng (G i1).2.2.2 (G i2).2.2.2 (G i1).2.2.1 (G i2).2.2.1 x (w + 1) := by simp only [lng]; rw [← hi]; first | (rw [if_pos (by omega)]; done) | (rw [if_neg (by omega)]; done)
        have hl : lv_has ls 7 [(5, .int (nI (w + 1))), (4, .int (nI (lng (G i1).2.2.2 (G i2).2.2.2 (G i1).2.2.1 (G i2).2.2.1 x (w + 1)))), (6, .int (nI i)), (0, .ref m0), (1, .int (nI i1)), (2, .int (nI x)), (3, .int (nI i2))] := by rw [← hw]; exact hl
        exact ih1 _ ⟨w + 1, j - 1, by omega, by omega, by omega, lv_sub hl [0, 1, 3, 4, 5, 6] rfl⟩
      · have c89 : ¬ i ≤ (lng (G i1).2.2.2 (G i2).2.2.2 (G i1).2.2.1 (G i2).2.2.1 x w) := fun h => c89 ((xle (by omega) (by omega)).mpr h)
        refine lv_iload hx hb dX2_longest_92 (lv_at hl 0 rfl) ?_
        refine lv_goto (tgt := 99) hx hb dX2_longest_94 (by decide) ?_
        refine lv_istore (lv' := [(4, .int (nI i)), (6, .int (nI i)), (5, .int (nI w)), (0, .ref m0), (1, .int (nI i1)), (2, .int (nI x)), (3, .int (nI i2))]) hx hb dX2_longest_99 hl (by decide) rfl (fun ls hl => ?_)
        refine lv_iinc (v := nI (w + 1)) (lv' := [(5, .int (nI (w + 1))), (4, .int (nI i)), (6, .int (nI i)), (0, .ref m0), (1, .int (nI i1)), (2, .int (nI x)), (3, .int (nI i2))]) hx hb dX2_longest_101 hl (k := 2) rfl (xinc _ 1 _ (by decide)) (by decide) rfl (fun ls hl => ?_)
        refine lv_goto (tgt := 6) hx hb dX2_longest_104 (by decide) ?_
        have hw : i = lng (G i1).2.2.2 (G i2).2.2.2 (G i1).2.2.1 (G i2).2.2.1 x (w + 1) := by simp only [lng]; rw [← hi]; first | (rw [if_pos (by omega)]; done) | (rw [if_neg (by omega)]; done)
        have hl : lv_has ls 7 [(5, .int (nI (w + 1))), (4, .int (nI (lng (G i1).2.2.2 (G i2).2.2.2 (G i1).2.2.1 (G i2).2.2.1 x (w + 1)))), (6, .int (nI i)), (0, .ref m0), (1, .int (nI i1)), (2, .int (nI x)), (3, .int (nI i2))] := by rw [← hw]; exact hl
        exact ih1 _ ⟨w + 1, j - 1, by omega, by omega, by omega, lv_sub hl [0, 1, 3, 4, 5, 6] rfl⟩
    · have c30 : ¬ ((G (i1)).2.2.1) ≤ (x + i) := fun h => c30 ((xle (by omega) (by omega)).mpr h)
      refine lv_iload hx hb dX2_longest_33 (lv_at hl 1 rfl) ?_
      refine lv_iload hx hb dX2_longest_35 (lv_at hl 0 rfl) ?_
      refine lv_iadd hx hb dX2_longest_37 ?_
      refine x_top (nI (w + i)) (xadd (by omega)) ?_
      refine lv_aload_n hx hb dX2_longest_38 rfl (lv_at hl 3 rfl) ?_
      refine va_get (ci := 2) (v := .ref a3) (C := RX2) (T := TX2) (N := 9) hx hb hts iw_X2longest_X2 hown hK hP 0 rfl rfl 2 (by decide) (hts (.fieldLink RX2 16 "BackMirrorModel" "lengths" "[I") (by decide +kernel)) (fun _ h9 => h9) rfl dX2_longest_39 ?_
      refine lv_iload_n hx hb dX2_longest_42 rfl (lv_at hl 6 rfl) ?_
      refine va_iald hx hb hK hP 3 0 rfl rfl (xin (by omega) (by omega)) dX2_longest_43 ?_
      refine x_top (L i2) (by rw [nI_clamp (by omega)]) ?_
      have hb43 := (hM (i2) (by omega)).2.2.2.1
      refine x_top (nI ((G (i2)).2.2.1)) ((hM (i2) (by omega)).2.2.1) ?_
      refine lv_icmp_ge (tgt := 85) hx hb dX2_longest_44 (by decide) (fun c44 => ?_) (fun c44 => ?_)
      · have c44 : ((G (i2)).2.2.1) ≤ (w + i) := (xle (by omega) (by omega)).mp c44
        have hi : i = shL (G i1).2.2.2 (G i2).2.2.2 (G i1).2.2.1 (G i2).2.2.1 x w := by rw [← hv, shl_stop _ _ (fun h => by first | omega | exact c76 h.2.2)]
        refine lv_iload hx hb dX2_longest_85 (lv_at hl 0 rfl) ?_
        refine lv_iload hx hb dX2_longest_87 (lv_at hl 2 rfl) ?_
        refine lv_icmp_le (tgt := 97) hx hb dX2_longest_89 (by decide) (fun c89 => ?_) (fun c89 => ?_)
        · have c89 : i ≤ (lng (G i1).2.2.2 (G i2).2.2.2 (G i1).2.2.1 (G i2).2.2.1 x w) := (xle (by omega) (by omega)).mp c89
          refine lv_iload hx hb dX2_longest_97 (lv_at hl 2 rfl) ?_
          refine lv_istore (lv' := [(4, .int (nI (lng (G i1).2.2.2 (G i2).2.2.2 (G i1).2.2.1 (G i2).2.2.1 x w))), (6, .int (nI i)), (5, .int (nI w)), (0, .ref m0), (1, .int (nI i1)), (2, .int (nI x)), (3, .int (nI i2))]) hx hb dX2_longest_99 hl (by decide) rfl (fun ls hl => ?_)
          refine lv_iinc (v := nI (w + 1)) (lv' := [(5, .int (nI (w + 1))), (4, .int (nI (lng (G i1).2.2.2 (G i2).2.2.2 (G i1).2.2.1 (G i2).2.2.1 x w))), (6, .int (nI i)), (0, .ref m0), (1, .int (nI i1)), (2, .int (nI x)), (3, .int (nI i2))]) hx hb dX2_longest_101 hl (k := 2) rfl (xinc _ 1 _ (by decide)) (by decide) rfl (fun ls hl => ?_)
          refine lv_goto (tgt := 6) hx hb dX2_longest_104 (by decide) ?_
          have hw : lng (G i1).2.2.2 (G i2).2.2.2 (G i1).2.2.1 (G i2).2.2.1 x w = lng (G i1).2.2.2 (G i2).2.2.2 (G i1).2.2.1 (G i2).2.2.1 x (w + 1) := by simp only [lng]; rw [← hi]; first | (rw [if_pos (by omega)]; done) | (rw [if_neg (by omega)]; done)
          have hl : lv_has ls 7 [(5, .int (nI (w + 1))), (4, .int (nI (lng (G i1).2.2.2 (G i2).2.2.2 (G i1).2.2.1 (G i2).2.2.1 x (w + 1)))), (6, .int (nI i)), (0, .ref m0), (1, .int (nI i1)), (2, .int (nI x)), (3, .int (nI i2))] := by rw [← hw]; exact hl
          exact ih1 _ ⟨w + 1, j - 1, by omega, by omega, by omega, lv_sub hl [0, 1, 3, 4, 5, 6] rfl⟩
        · have c89 : ¬ i ≤ (lng (G i1).2.2.2 (G i2).2.2.2 (G i1).2.2.1 (G i2).2.2.1 x w) := fun h => c89 ((xle (by omega) (by omega)).mpr h)
          refine lv_iload hx hb dX2_longest_92 (lv_at hl 0 rfl) ?_
          refine lv_goto (tgt := 99) hx hb dX2_longest_94 (by decide) ?_
          refine lv_istore (lv' := [(4, .int (nI i)), (6, .int (nI i)), (5, .int (nI w)), (0, .ref m0), (1, .int (nI i1)), (2, .int (nI x)), (3, .int (nI i2))]) hx hb dX2_longest_99 hl (by decide) rfl (fun ls hl => ?_)
          refine lv_iinc (v := nI (w + 1)) (lv' := [(5, .int (nI (w + 1))), (4, .int (nI i)), (6, .int (nI i)), (0, .ref m0), (1, .int (nI i1)), (2, .int (nI x)), (3, .int (nI i2))]) hx hb dX2_longest_101 hl (k := 2) rfl (xinc _ 1 _ (by decide)) (by decide) rfl (fun ls hl => ?_)
          refine lv_goto (tgt := 6) hx hb dX2_longest_104 (by decide) ?_
          have hw : i = lng (G i1).2.2.2 (G i2).2.2.2 (G i1).2.2.1 (G i2).2.2.1 x (w + 1) := by simp only [lng]; rw [← hi]; first | (rw [if_pos (by omega)]; done) | (rw [if_neg (by omega)]; done)
          have hl : lv_has ls 7 [(5, .int (nI (w + 1))), (4, .int (nI (lng (G i1).2.2.2 (G i2).2.2.2 (G i1).2.2.1 (G i2).2.2.1 x (w + 1)))), (6, .int (nI i)), (0, .ref m0), (1, .int (nI i1)), (2, .int (nI x)), (3, .int (nI i2))] := by rw [← hw]; exact hl
          exact ih1 _ ⟨w + 1, j - 1, by omega, by omega, by omega, lv_sub hl [0, 1, 3, 4, 5, 6] rfl⟩
      · have c44 : ¬ ((G (i2)).2.2.1) ≤ (w + i) := fun h => c44 ((xle (by omega) (by omega)).mpr h)
        refine lv_aload_n hx hb dX2_longest_47 rfl (lv_at hl 3 rfl) ?_
        refine va_get (ci := 2) (v := .ref a4) (C := RX2) (T := TX2) (N := 9) hx hb hts iw_X2longest_X2 hown hK hP 0 rfl rfl 3 (by decide) (hts (.fieldLink RX2 19 "BackMirrorModel" "numbers" "[I") (by decide +kernel)) (fun _ h9 => h9) rfl dX2_longest_48 ?_
        refine lv_bipush (v := nI 12) hx hb dX2_longest_51 (by decide) ?_
        refine lv_iload_n hx hb dX2_longest_53 rfl (lv_at hl 4 rfl) ?_
        refine lv_imul hx hb dX2_longest_54 ?_
        refine x_top (nI (12 * i1)) (pk_mul _ _) ?_
        refine lv_iload_n hx hb dX2_longest_55 rfl (lv_at hl 5 rfl) ?_
        refine lv_iadd hx hb dX2_longest_56 ?_
        refine x_top (nI ((12 * i1) + x)) (xadd (by omega)) ?_
        refine lv_iload hx hb dX2_longest_57 (lv_at hl 0 rfl) ?_
        refine lv_iadd hx hb dX2_longest_59 ?_
        refine x_top (nI (((12 * i1) + x) + i)) (xadd (by omega)) ?_
        refine va_iald hx hb hK hP 4 0 rfl rfl (xin (by omega) (by omega)) dX2_longest_60 ?_
        refine x_top (N (((12 * i1) + x) + i)) (by rw [nI_clamp (by omega)]) ?_
        refine x_top ((G i1).2.2.2 (x + i)) (by rw [show 12 * i1 + x + i = 12 * i1 + (x + i) by omega]; exact (hM i1 (by omega)).2.2.2.2 (x + i) (by omega)) ?_
        refine lv_aload_n hx hb dX2_longest_61 rfl (lv_at hl 3 rfl) ?_
        refine va_get (ci := 2) (v := .ref a4) (C := RX2) (T := TX2) (N := 9) hx hb hts iw_X2longest_X2 hown hK hP 0 rfl rfl 3 (by decide) (hts (.fieldLink RX2 19 "BackMirrorModel" "numbers" "[I") (by decide +kernel)) (fun _ h9 => h9) rfl dX2_longest_62 ?_
        refine lv_bipush (v := nI 12) hx hb dX2_longest_65 (by decide) ?_
        refine lv_iload_n hx hb dX2_longest_67 rfl (lv_at hl 6 rfl) ?_
        refine lv_imul hx hb dX2_longest_68 ?_
        refine x_top (nI (12 * i2)) (pk_mul _ _) ?_
        refine lv_iload hx hb dX2_longest_69 (lv_at hl 1 rfl) ?_
        refine lv_iadd hx hb dX2_longest_71 ?_
        refine x_top (nI ((12 * i2) + w)) (xadd (by omega)) ?_
        refine lv_iload hx hb dX2_longest_72 (lv_at hl 0 rfl) ?_
        refine lv_iadd hx hb dX2_longest_74 ?_
        refine x_top (nI (((12 * i2) + w) + i)) (xadd (by omega)) ?_
        refine va_iald hx hb hK hP 4 0 rfl rfl (xin (by omega) (by omega)) dX2_longest_75 ?_
        refine x_top (N (((12 * i2) + w) + i)) (by rw [nI_clamp (by omega)]) ?_
        refine x_top ((G i2).2.2.2 (w + i)) (by rw [show 12 * i2 + w + i = 12 * i2 + (w + i) by omega]; exact (hM i2 (by omega)).2.2.2.2 (w + i) (by omega)) ?_
        refine lv_icmp_ne (tgt := 85) hx hb dX2_longest_76 (by decide) (fun c76 => ?_) (fun c76 => ?_)
        · have hi : i = shL (G i1).2.2.2 (G i2).2.2.2 (G i1).2.2.1 (G i2).2.2.1 x w := by rw [← hv, shl_stop _ _ (fun h => by first | omega | exact c76 h.2.2)]
          refine lv_iload hx hb dX2_longest_85 (lv_at hl 0 rfl) ?_
          refine lv_iload hx hb dX2_longest_87 (lv_at hl 2 rfl) ?_
          refine lv_icmp_le (tgt := 97) hx hb dX2_longest_89 (by decide) (fun c89 => ?_) (fun c89 => ?_)
          · have c89 : i ≤ (lng (G i1).2.2.2 (G i2).2.2.2 (G i1).2.2.1 (G i2).2.2.1 x w) := (xle (by omega) (by omega)).mp c89
            refine lv_iload hx hb dX2_longest_97 (lv_at hl 2 rfl) ?_
            refine lv_istore (lv' := [(4, .int (nI (lng (G i1).2.2.2 (G i2).2.2.2 (G i1).2.2.1 (G i2).2.2.1 x w))), (6, .int (nI i)), (5, .int (nI w)), (0, .ref m0), (1, .int (nI i1)), (2, .int (nI x)), (3, .int (nI i2))]) hx hb dX2_longest_99 hl (by decide) rfl (fun ls hl => ?_)
            refine lv_iinc (v := nI (w + 1)) (lv' := [(5, .int (nI (w + 1))), (4, .int (nI (lng (G i1).2.2.2 (G i2).2.2.2 (G i1).2.2.1 (G i2).2.2.1 x w))), (6, .int (nI i)), (0, .ref m0), (1, .int (nI i1)), (2, .int (nI x)), (3, .int (nI i2))]) hx hb dX2_longest_101 hl (k := 2) rfl (xinc _ 1 _ (by decide)) (by decide) rfl (fun ls hl => ?_)
            refine lv_goto (tgt := 6) hx hb dX2_longest_104 (by decide) ?_
            have hw : lng (G i1).2.2.2 (G i2).2.2.2 (G i1).2.2.1 (G i2).2.2.1 x w = lng (G i1).2.2.2 (G i2).2.2.2 (G i1).2.2.1 (G i2).2.2.1 x (w + 1) := by simp only [lng]; rw [← hi]; first | (rw [if_pos (by omega)]; done) | (rw [if_neg (by omega)]; done)
            have hl : lv_has ls 7 [(5, .int (nI (w + 1))), (4, .int (nI (lng (G i1).2.2.2 (G i2).2.2.2 (G i1).2.2.1 (G i2).2.2.1 x (w + 1)))), (6, .int (nI i)), (0, .ref m0), (1, .int (nI i1)), (2, .int (nI x)), (3, .int (nI i2))] := by rw [← hw]; exact hl
            exact ih1 _ ⟨w + 1, j - 1, by omega, by omega, by omega, lv_sub hl [0, 1, 3, 4, 5, 6] rfl⟩
          · have c89 : ¬ i ≤ (lng (G i1).2.2.2 (G i2).2.2.2 (G i1).2.2.1 (G i2).2.2.1 x w) := fun h => c89 ((xle (by omega) (by omega)).mpr h)
            refine lv_iload hx hb dX2_longest_92 (lv_at hl 0 rfl) ?_
            refine lv_goto (tgt := 99) hx hb dX2_longest_94 (by decide) ?_
            refine lv_istore (lv' := [(4, .int (nI i)), (6, .int (nI i)), (5, .int (nI w)), (0, .ref m0), (1, .int (nI i1)), (2, .int (nI x)), (3, .int (nI i2))]) hx hb dX2_longest_99 hl (by decide) rfl (fun ls hl => ?_)
            refine lv_iinc (v := nI (w + 1)) (lv' := [(5, .int (nI (w + 1))), (4, .int (nI i)), (6, .int (nI i)), (0, .ref m0), (1, .int (nI i1)), (2, .int (nI x)), (3, .int (nI i2))]) hx hb dX2_longest_101 hl (k := 2) rfl (xinc _ 1 _ (by decide)) (by decide) rfl (fun ls hl => ?_)
            refine lv_goto (tgt := 6) hx hb dX2_longest_104 (by decide) ?_
            have hw : i = lng (G i1).2.2.2 (G i2).2.2.2 (G i1).2.2.1 (G i2).2.2.1 x (w + 1) := by simp only [lng]; rw [← hi]; first | (rw [if_pos (by omega)]; done) | (rw [if_neg (by omega)]; done)
            have hl : lv_has ls 7 [(5, .int (nI (w + 1))), (4, .int (nI (lng (G i1).2.2.2 (G i2).2.2.2 (G i1).2.2.1 (G i2).2.2.1 x (w + 1)))), (6, .int (nI i)), (0, .ref m0), (1, .int (nI i1)), (2, .int (nI x)), (3, .int (nI i2))] := by rw [← hw]; exact hl
            exact ih1 _ ⟨w + 1, j - 1, by omega, by omega, by omega, lv_sub hl [0, 1, 3, 4, 5, 6] rfl⟩
        · refine lv_iinc (v := nI (i + 1)) (lv' := [(6, .int (nI (i + 1))), (5, .int (nI w)), (4, .int (nI (lng (G i1).2.2.2 (G i2).2.2.2 (G i1).2.2.1 (G i2).2.2.1 x w))), (0, .ref m0), (1, .int (nI i1)), (2, .int (nI x)), (3, .int (nI i2))]) hx hb dX2_longest_79 hl (k := 0) rfl (xinc _ 1 _ (by decide)) (by decide) rfl (fun ls hl => ?_)
          refine lv_goto (tgt := 20) hx hb dX2_longest_82 (by decide) ?_
          obtain ⟨j2, rfl⟩ : ∃ j, j2 = j + 1 := ⟨j2 - 1, by omega⟩
          exact ih _ ⟨i + 1, j2, by omega, by omega, by omega, by omega, by rw [← hv, shl_step _ _ ⟨by omega, by omega, c76⟩], lv_sub hl [0, 1, 2, 3, 4, 5, 6] rfl⟩

theorem iw_X2taken_X2 : ∀ w ∈ u_ws RX2 TX2 9, w ∈ wsX2_taken := by decide +kernel
set_option maxHeartbeats 4000000 in
set_option maxRecDepth 100000 in
theorem c_X2_taken (l : Launch) {D : va_G} {cI cT cJ : ClassId} (m0 a1 a2 a3 a4 : Nat) (K R L N : Nat → Int32) (ld o b k t : Nat) (G : Nat → Tv) (hM : MA G K R L N) (i1 i2 : Nat) (hi1 : i1 < 252) (hi2 : i2 < 252) : Met l yX2_taken wsX2_taken (rmD 2 0 0) (XP D cI cT cJ [.ref m0, .int (nI i1), .int (nI i2)] (fun H => va_P D vwCl (MWs cI m0 a1 a2 a3 a4 K R L N ld o b k t) H)) (XSi (fun r => r = nI (tak (G i1).2.2.2 (G i2).2.2.2 (G i1).2.2.1 (G i2).2.2.1 (G i1).2.2.1 0))) 0 0 (fun _ => False) := by
  refine Met.ofW (cc := cX2_taken) (maxL := 6) (ret := (some .int)) (by decide) rfl ?_
  intro p e s m args below meth c s₁ B hml hv
  obtain ⟨rfl, hP, hE⟩ := hv
  have hx := B.exec
  have hb := B.bytes
  have hr := B.returns
  have hts := atoms_spec (ws := wsX2_taken) B.pre
  have hown : s.vm.findClass RX2 = some m.cls := findClass_of_methodNamed B.named
  have hlocks := B.notSynchronized
  have hl := lv_entry ([.ref m0, .int (nI i1), .int (nI i2)]) (n := 6) (Nat.le_of_ble_eq_true rfl)
  rw [lg_entry_eq]
  generalize (lg_sl ([.ref m0, .int (nI i1), .int (nI i2)]) ++ List.replicate (6 - (lg_sl ([.ref m0, .int (nI i1), .int (nI i2)])).length) Slot.unset).toArray = ls at hl ⊢
  have hl : lv_has ls 6 [(0, .ref m0), (1, .int (nI i1)), (2, .int (nI i2))] := hl
  have hK := hE.1
  have hb1 := (hM i1 (by omega)).2.2.2.1
  have hb2 := (hM i2 (by omega)).2.2.2.1
  refine lv_iconst (v := nI 0) hx hb dX2_taken_0 (by decide) ?_
  refine lv_istore_n (lv' := [(3, .int (nI 0)), (0, .ref m0), (1, .int (nI i1)), (2, .int (nI i2))]) hx hb dX2_taken_1 rfl hl (by decide) rfl (fun ls hl => ?_)
  refine lv_iconst (v := nI 0) hx hb dX2_taken_2 (by decide) ?_
  refine lv_istore (lv' := [(4, .int (nI 0)), (3, .int (nI 0)), (0, .ref m0), (1, .int (nI i1)), (2, .int (nI i2))]) hx hb dX2_taken_3 hl (by decide) rfl (fun ls hl => ?_)
  refine x_loopP (fun n ls => ∃ x w j : Nat, (j + 1 = n) ∧ ((G i1).2.2.1 ≤ x + j) ∧ (x ≤ (G i1).2.2.1) ∧ (w + tak (G i1).2.2.2 (G i2).2.2.2 (G i1).2.2.1 (G i2).2.2.1 j x = tak (G i1).2.2.2 (G i2).2.2.2 (G i1).2.2.1 (G i2).2.2.1 (G i1).2.2.1 0) ∧ lv_has ls 6 [(4, .int (nI x)), (3, .int (nI w)), (0, .ref m0), (1, .int (nI i1)), (2, .int (nI i2))]) ((G i1).2.2.1 + 1) ⟨0, 0, (G i1).2.2.1, rfl, by omega, by omega, by omega, lv_sub hl [0, 1, 2, 3, 4] rfl⟩ (fun ls h => by obtain ⟨x, w, j, hk, h1, h2, hv, -⟩ := h; omega) (fun n ls h ih => ?_)
  obtain ⟨x, w, j, hk, h1, h2, hv, hl⟩ := h
  have hg3 := fun h => lng_le (f := (G i1).2.2.2) (g := (G i2).2.2.2) (n1 := (G i1).2.2.1) (n2 := (G i2).2.2.1) (s := x) h (G i2).2.2.1
  have hg4 := tak_le (f := (G i1).2.2.2) (g := (G i2).2.2.2) (n1 := (G i1).2.2.1) (n2 := (G i2).2.2.1) j x
  have hg5 := tak_le (f := (G i1).2.2.2) (g := (G i2).2.2.2) (n1 := (G i1).2.2.1) (n2 := (G i2).2.2.1) (G i1).2.2.1 0
  refine lv_iload hx hb dX2_taken_5 (lv_at hl 0 rfl) ?_
  refine lv_aload_n hx hb dX2_taken_7 rfl (lv_at hl 2 rfl) ?_
  refine va_get (ci := 2) (v := .ref a3) (C := RX2) (T := TX2) (N := 9) hx hb hts iw_X2taken_X2 hown hK hP 0 rfl rfl 2 (by decide) (hts (.fieldLink RX2 16 "BackMirrorModel" "lengths" "[I") (by decide +kernel)) (fun _ h9 => h9) rfl dX2_taken_8 ?_
  refine lv_iload_n hx hb dX2_taken_11 rfl (lv_at hl 3 rfl) ?_
  refine va_iald hx hb hK hP 3 0 rfl rfl (xin (by omega) (by omega)) dX2_taken_12 ?_
  refine x_top (L i1) (by rw [nI_clamp (by omega)]) ?_
  have hb12 := (hM (i1) (by omega)).2.2.2.1
  refine x_top (nI ((G (i1)).2.2.1)) ((hM (i1) (by omega)).2.2.1) ?_
  refine lv_icmp_ge (tgt := 60) hx hb dX2_taken_13 (by decide) (fun c13 => ?_) (fun c13 => ?_)
  · have c13 : ((G (i1)).2.2.1) ≤ x := (xle (by omega) (by omega)).mp c13
    refine lv_iload_n hx hb dX2_taken_60 rfl (lv_at hl 1 rfl) ?_
    exact W.iret hx hb hr (fun t9 ht9 hW9 => ⟨_, rfl, by rw [← hv, show x = (G i1).2.2.1 by omega]; cases j <;> simp [tak], ht9⟩) (fun _ h => nomatch h) dX2_taken_61
  · have c13 : ¬ ((G (i1)).2.2.1) ≤ x := fun h => c13 ((xle (by omega) (by omega)).mpr h)
    refine lv_aload_n hx hb dX2_taken_16 rfl (lv_at hl 2 rfl) ?_
    refine lv_iload_n hx hb dX2_taken_17 rfl (lv_at hl 3 rfl) ?_
    refine lv_iload hx hb dX2_taken_18 (lv_at hl 0 rfl) ?_
    refine lv_iload_n hx hb dX2_taken_20 rfl (lv_at hl 4 rfl) ?_
    refine xc_sie (va_runV (As := [.int (nI i1), .int (nI x), .int (nI i2)]) (rest := []) ⟨hx, hb, hml, hown, hts⟩ (c_X2_longest l m0 a1 a2 a3 a4 K R L N ld o b k t G hM i1 x i2 (by omega) (by omega) (by omega)) (cwV 3 hts gX2_taken_X2_longest rfl rfl rfl (by decide +kernel) ⟨(Nat.le_of_ble_eq_true rfl), (Nat.le_of_ble_eq_true rfl)⟩) ⟨XP_blind, va_recv hK hP (ci := 2) (q0 := 0) rfl rfl, XP_pre hE hP⟩ rfl rfl hl.1 rfl (lv_room (Nat.le_of_ble_eq_true rfl)) dX2_taken_21 ⟨Nat.le_of_ble_eq_true rfl, Nat.le_of_ble_eq_true rfl⟩) ?_
    refine lv_istore (lv' := [(5, .int (nI (lng (G i1).2.2.2 (G i2).2.2.2 (G i1).2.2.1 (G i2).2.2.1 x (G i2).2.2.1))), (4, .int (nI x)), (3, .int (nI w)), (0, .ref m0), (1, .int (nI i1)), (2, .int (nI i2))]) hx hb dX2_taken_24 hl (by decide) rfl (fun ls hl => ?_)
    refine lv_iload_n hx hb dX2_taken_26 rfl (lv_at hl 2 rfl) ?_
    refine lv_iload hx hb dX2_taken_27 (lv_at hl 0 rfl) ?_
    refine lv_iconst (v := nI 3) hx hb dX2_taken_29 (by decide) ?_
    refine lv_icmp_ge (tgt := 37) hx hb dX2_taken_30 (by decide) (fun c30 => ?_) (fun c30 => ?_)
    · have c30 : 3 ≤ (lng (G i1).2.2.2 (G i2).2.2.2 (G i1).2.2.1 (G i2).2.2.1 x (G i2).2.2.1) := (xle (by omega) (by omega)).mp c30
      refine lv_iconst (v := nI 2) hx hb dX2_taken_37 (by decide) ?_
      refine lv_iadd hx hb dX2_taken_38 ?_
      refine x_top (nI (w + 2)) (xadd (by omega)) ?_
      refine lv_istore_n (lv' := [(3, .int (nI (w + 2))), (5, .int (nI (lng (G i1).2.2.2 (G i2).2.2.2 (G i1).2.2.1 (G i2).2.2.1 x (G i2).2.2.1))), (4, .int (nI x)), (0, .ref m0), (1, .int (nI i1)), (2, .int (nI i2))]) hx hb dX2_taken_39 rfl hl (by decide) rfl (fun ls hl => ?_)
      refine lv_iload hx hb dX2_taken_40 (lv_at hl 2 rfl) ?_
      refine lv_iload hx hb dX2_taken_42 (lv_at hl 1 rfl) ?_
      refine lv_iconst (v := nI 3) hx hb dX2_taken_44 (by decide) ?_
      refine lv_icmp_ge (tgt := 52) hx hb dX2_taken_45 (by decide) (fun c45 => ?_) (fun c45 => ?_)
      · have c45 : 3 ≤ (lng (G i1).2.2.2 (G i2).2.2.2 (G i1).2.2.1 (G i2).2.2.1 x (G i2).2.2.1) := (xle (by omega) (by omega)).mp c45
        refine lv_iload hx hb dX2_taken_52 (lv_at hl 1 rfl) ?_
        refine lv_iadd hx hb dX2_taken_54 ?_
        refine x_top (nI (x + (lng (G i1).2.2.2 (G i2).2.2.2 (G i1).2.2.1 (G i2).2.2.1 x (G i2).2.2.1))) (xadd (by omega)) ?_
        refine lv_istore (lv' := [(4, .int (nI (x + (lng (G i1).2.2.2 (G i2).2.2.2 (G i1).2.2.1 (G i2).2.2.1 x (G i2).2.2.1)))), (3, .int (nI (w + 2))), (5, .int (nI (lng (G i1).2.2.2 (G i2).2.2.2 (G i1).2.2.1 (G i2).2.2.1 x (G i2).2.2.1))), (0, .ref m0), (1, .int (nI i1)), (2, .int (nI i2))]) hx hb dX2_taken_55 hl (by decide) rfl (fun ls hl => ?_)
        refine lv_goto (tgt := 5) hx hb dX2_taken_57 (by decide) ?_
        obtain ⟨j, rfl⟩ : ∃ z, j = z + 1 := ⟨j - 1, by omega⟩
        exact ih _ ⟨x + (lng (G i1).2.2.2 (G i2).2.2.2 (G i1).2.2.1 (G i2).2.2.1 x (G i2).2.2.1), w + 2, j, by omega, by omega, by omega, by rw [← hv]; simp only [tak]; rw [if_pos (by omega)]; first | (rw [if_pos (by omega)]; omega) | (rw [if_neg (by omega)]; omega), lv_sub hl [0, 1, 3, 4, 5] rfl⟩
      · have c45 : ¬ 3 ≤ (lng (G i1).2.2.2 (G i2).2.2.2 (G i1).2.2.1 (G i2).2.2.1 x (G i2).2.2.1) := fun h => c45 ((xle (by omega) (by omega)).mpr h)
        refine lv_iconst (v := nI 1) hx hb dX2_taken_48 (by decide) ?_
        refine lv_goto (tgt := 54) hx hb dX2_taken_49 (by decide) ?_
        refine lv_iadd hx hb dX2_taken_54 ?_
        refine x_top (nI (x + 1)) (xadd (by omega)) ?_
        refine lv_istore (lv' := [(4, .int (nI (x + 1))), (3, .int (nI (w + 2))), (5, .int (nI (lng (G i1).2.2.2 (G i2).2.2.2 (G i1).2.2.1 (G i2).2.2.1 x (G i2).2.2.1))), (0, .ref m0), (1, .int (nI i1)), (2, .int (nI i2))]) hx hb dX2_taken_55 hl (by decide) rfl (fun ls hl => ?_)
        refine lv_goto (tgt := 5) hx hb dX2_taken_57 (by decide) ?_
        obtain ⟨j, rfl⟩ : ∃ z, j = z + 1 := ⟨j - 1, by omega⟩
        exact ih _ ⟨x + 1, w + 2, j, by omega, by omega, by omega, by rw [← hv]; simp only [tak]; rw [if_pos (by omega)]; first | (rw [if_pos (by omega)]; omega) | (rw [if_neg (by omega)]; omega), lv_sub hl [0, 1, 3, 4, 5] rfl⟩
    · have c30 : ¬ 3 ≤ (lng (G i1).2.2.2 (G i2).2.2.2 (G i1).2.2.1 (G i2).2.2.1 x (G i2).2.2.1) := fun h => c30 ((xle (by omega) (by omega)).mpr h)
      refine lv_iconst (v := nI 1) hx hb dX2_taken_33 (by decide) ?_
      refine lv_goto (tgt := 38) hx hb dX2_taken_34 (by decide) ?_
      refine lv_iadd hx hb dX2_taken_38 ?_
      refine x_top (nI (w + 1)) (xadd (by omega)) ?_
      refine lv_istore_n (lv' := [(3, .int (nI (w + 1))), (5, .int (nI (lng (G i1).2.2.2 (G i2).2.2.2 (G i1).2.2.1 (G i2).2.2.1 x (G i2).2.2.1))), (4, .int (nI x)), (0, .ref m0), (1, .int (nI i1)), (2, .int (nI i2))]) hx hb dX2_taken_39 rfl hl (by decide) rfl (fun ls hl => ?_)
      refine lv_iload hx hb dX2_taken_40 (lv_at hl 2 rfl) ?_
      refine lv_iload hx hb dX2_taken_42 (lv_at hl 1 rfl) ?_
      refine lv_iconst (v := nI 3) hx hb dX2_taken_44 (by decide) ?_
      refine lv_icmp_ge (tgt := 52) hx hb dX2_taken_45 (by decide) (fun c45 => ?_) (fun c45 => ?_)
      · have c45 : 3 ≤ (lng (G i1).2.2.2 (G i2).2.2.2 (G i1).2.2.1 (G i2).2.2.1 x (G i2).2.2.1) := (xle (by omega) (by omega)).mp c45
        refine lv_iload hx hb dX2_taken_52 (lv_at hl 1 rfl) ?_
        refine lv_iadd hx hb dX2_taken_54 ?_
        refine x_top (nI (x + (lng (G i1).2.2.2 (G i2).2.2.2 (G i1).2.2.1 (G i2).2.2.1 x (G i2).2.2.1))) (xadd (by omega)) ?_
        refine lv_istore (lv' := [(4, .int (nI (x + (lng (G i1).2.2.2 (G i2).2.2.2 (G i1).2.2.1 (G i2).2.2.1 x (G i2).2.2.1)))), (3, .int (nI (w + 1))), (5, .int (nI (lng (G i1).2.2.2 (G i2).2.2.2 (G i1).2.2.1 (G i2).2.2.1 x (G i2).2.2.1))), (0, .ref m0), (1, .int (nI i1)), (2, .int (nI i2))]) hx hb dX2_taken_55 hl (by decide) rfl (fun ls hl => ?_)
        refine lv_goto (tgt := 5) hx hb dX2_taken_57 (by decide) ?_
        obtain ⟨j, rfl⟩ : ∃ z, j = z + 1 := ⟨j - 1, by omega⟩
        exact ih _ ⟨x + (lng (G i1).2.2.2 (G i2).2.2.2 (G i1).2.2.1 (G i2).2.2.1 x (G i2).2.2.1), w + 1, j, by omega, by omega, by omega, by rw [← hv]; simp only [tak]; rw [if_pos (by omega)]; first | (rw [if_pos (by omega)]; omega) | (rw [if_neg (by omega)]; omega), lv_sub hl [0, 1, 3, 4, 5] rfl⟩
      · have c45 : ¬ 3 ≤ (lng (G i1).2.2.2 (G i2).2.2.2 (G i1).2.2.1 (G i2).2.2.1 x (G i2).2.2.1) := fun h => c45 ((xle (by omega) (by omega)).mpr h)
        refine lv_iconst (v := nI 1) hx hb dX2_taken_48 (by decide) ?_
        refine lv_goto (tgt := 54) hx hb dX2_taken_49 (by decide) ?_
        refine lv_iadd hx hb dX2_taken_54 ?_
        refine x_top (nI (x + 1)) (xadd (by omega)) ?_
        refine lv_istore (lv' := [(4, .int (nI (x + 1))), (3, .int (nI (w + 1))), (5, .int (nI (lng (G i1).2.2.2 (G i2).2.2.2 (G i1).2.2.1 (G i2).2.2.1 x (G i2).2.2.1))), (0, .ref m0), (1, .int (nI i1)), (2, .int (nI i2))]) hx hb dX2_taken_55 hl (by decide) rfl (fun ls hl => ?_)
        refine lv_goto (tgt := 5) hx hb dX2_taken_57 (by decide) ?_
        obtain ⟨j, rfl⟩ : ∃ z, j = z + 1 := ⟨j - 1, by omega⟩
        exact ih _ ⟨x + 1, w + 1, j, by omega, by omega, by omega, by rw [← hv]; simp only [tak]; rw [if_pos (by omega)]; first | (rw [if_pos (by omega)]; omega) | (rw [if_neg (by omega)]; omega), lv_sub hl [0, 1, 3, 4, 5] rfl⟩

theorem iw_X2takes_X2 : ∀ w ∈ u_ws RX2 TX2 9, w ∈ wsX2_takes := by decide +kernel
set_option maxHeartbeats 4000000 in
set_option maxRecDepth 100000 in
theorem c_X2_takes (l : Launch) {D : va_G} {cI cT cJ : ClassId} (m0 a1 a2 a3 a4 : Nat) (K R L N : Nat → Int32) (ld o b k t : Nat) (G : Nat → Tv) (hM : MA G K R L N) (i1 i2 : Nat) (hi1 : i1 < 252) (hi2 : i2 < 252) : Met l yX2_takes wsX2_takes (rmD 3 0 0) (XP D cI cT cJ [.ref m0, .int (nI i1), .int (nI i2)] (fun H => va_P D vwCl (MWs cI m0 a1 a2 a3 a4 K R L N ld o b k t) H)) (XSi (fun r => r = nI (dif (G i1) (G i2)))) 0 0 (fun _ => False) := by
  refine Met.ofW (cc := cX2_takes) (maxL := 5) (ret := (some .int)) (by decide) rfl ?_
  intro p e s m args below meth c s₁ B hml hv
  obtain ⟨rfl, hP, hE⟩ := hv
  have hx := B.exec
  have hb := B.bytes
  have hr := B.returns
  have hts := atoms_spec (ws := wsX2_takes) B.pre
  have hown : s.vm.findClass RX2 = some m.cls := findClass_of_methodNamed B.named
  have hlocks := B.notSynchronized
  have hl := lv_entry ([.ref m0, .int (nI i1), .int (nI i2)]) (n := 5) (Nat.le_of_ble_eq_true rfl)
  rw [lg_entry_eq]
  generalize (lg_sl ([.ref m0, .int (nI i1), .int (nI i2)]) ++ List.replicate (5 - (lg_sl ([.ref m0, .int (nI i1), .int (nI i2)])).length) Slot.unset).toArray = ls at hl ⊢
  have hl : lv_has ls 5 [(0, .ref m0), (1, .int (nI i1)), (2, .int (nI i2))] := hl
  have hK := hE.1
  refine lv_aload_n hx hb dX2_takes_0 rfl (lv_at hl 0 rfl) ?_
  refine lv_iload_n hx hb dX2_takes_1 rfl (lv_at hl 1 rfl) ?_
  refine lv_iload_n hx hb dX2_takes_2 rfl (lv_at hl 2 rfl) ?_
  refine xc_sie (va_runV (As := [.int (nI i1), .int (nI i2)]) (rest := []) ⟨hx, hb, hml, hown, hts⟩ (c_X2_areSame l m0 a1 a2 a3 a4 K R L N ld o b k t G hM i1 i2 (by omega) (by omega)) (cwV 2 hts gX2_takes_X2_areSame rfl rfl rfl (by decide +kernel) ⟨(Nat.le_of_ble_eq_true rfl), (Nat.le_of_ble_eq_true rfl)⟩) ⟨XP_blind, va_recv hK hP (ci := 2) (q0 := 0) rfl rfl, XP_pre hE hP⟩ rfl rfl hl.1 rfl (lv_room (Nat.le_of_ble_eq_true rfl)) dX2_takes_3 ⟨Nat.le_of_ble_eq_true rfl, Nat.le_of_ble_eq_true rfl⟩) ?_
  refine lv_if_eq (tgt := 11) hx hb dX2_takes_6 (by decide) (fun c6 => ?_) (fun c6 => ?_)
  · have c6 : (sameB (G (i1)) (G (i2))) = false := bN_f c6
    refine lv_aload_n hx hb dX2_takes_11 rfl (lv_at hl 0 rfl) ?_
    refine va_get (ci := 2) (v := .ref a1) (C := RX2) (T := TX2) (N := 9) hx hb hts iw_X2takes_X2 hown hK hP 0 rfl rfl 0 (by decide) (hts (.fieldLink RX2 7 "BackMirrorModel" "kinds" "[I") (by decide +kernel)) (fun _ h9 => h9) rfl dX2_takes_12 ?_
    refine lv_iload_n hx hb dX2_takes_15 rfl (lv_at hl 1 rfl) ?_
    refine va_iald hx hb hK hP 1 0 rfl rfl (xin (by omega) (by omega)) dX2_takes_16 ?_
    refine x_top (K i1) (by rw [nI_clamp (by omega)]) ?_
    refine x_top ((G (i1)).1) ((hM (i1) (by omega)).1) ?_
    refine lv_iconst (v := nI 1) hx hb dX2_takes_17 (by decide) ?_
    refine lv_icmp_ne (tgt := 35) hx hb dX2_takes_18 (by decide) (fun c18 => ?_) (fun c18 => ?_)
    · refine lv_iconst (v := nI 0) hx hb dX2_takes_35 (by decide) ?_
      refine lv_istore_n (lv' := [(3, .int (nI 0)), (0, .ref m0), (1, .int (nI i1)), (2, .int (nI i2))]) hx hb dX2_takes_36 rfl hl (by decide) rfl (fun ls hl => ?_)
      refine lv_iload_n hx hb dX2_takes_37 rfl (lv_at hl 0 rfl) ?_
      refine lv_if_eq (tgt := 50) hx hb dX2_takes_38 (by decide) (fun _ => ?_) (fun h => absurd h (by decide))
      refine lv_aload_n hx hb dX2_takes_50 rfl (lv_at hl 1 rfl) ?_
      refine va_get (ci := 2) (v := .ref a1) (C := RX2) (T := TX2) (N := 9) hx hb hts iw_X2takes_X2 hown hK hP 0 rfl rfl 0 (by decide) (hts (.fieldLink RX2 7 "BackMirrorModel" "kinds" "[I") (by decide +kernel)) (fun _ h9 => h9) rfl dX2_takes_51 ?_
      refine lv_iload_n hx hb dX2_takes_54 rfl (lv_at hl 2 rfl) ?_
      refine va_iald hx hb hK hP 1 0 rfl rfl (xin (by omega) (by omega)) dX2_takes_55 ?_
      refine x_top (K i1) (by rw [nI_clamp (by omega)]) ?_
      refine x_top ((G (i1)).1) ((hM (i1) (by omega)).1) ?_
      refine lv_iconst (v := nI 1) hx hb dX2_takes_56 (by decide) ?_
      refine lv_icmp_ne (tgt := 71) hx hb dX2_takes_57 (by decide) (fun c57 => ?_) (fun c57 => ?_)
      · refine lv_iconst (v := nI 1) hx hb dX2_takes_71 (by decide) ?_
        refine lv_istore (lv' := [(4, .int (nI 1)), (3, .int (nI 0)), (0, .ref m0), (1, .int (nI i1)), (2, .int (nI i2))]) hx hb dX2_takes_72 hl (by decide) rfl (fun ls hl => ?_)
        refine lv_iload hx hb dX2_takes_74 (lv_at hl 0 rfl) ?_
        refine lv_aload_n hx hb dX2_takes_76 rfl (lv_at hl 2 rfl) ?_
        refine va_get (ci := 2) (v := .ref a2) (C := RX2) (T := TX2) (N := 9) hx hb hts iw_X2takes_X2 hown hK hP 0 rfl rfl 1 (by decide) (hts (.fieldLink RX2 13 "BackMirrorModel" "rights" "[I") (by decide +kernel)) (fun _ h9 => h9) rfl dX2_takes_77 ?_
        refine lv_iload_n hx hb dX2_takes_80 rfl (lv_at hl 3 rfl) ?_
        refine va_iald hx hb hK hP 2 0 rfl rfl (xin (by omega) (by omega)) dX2_takes_81 ?_
        refine x_top (R i1) (by rw [nI_clamp (by omega)]) ?_
        refine x_top ((G (i1)).2.1) ((hM (i1) (by omega)).2.1) ?_
        refine lv_aload_n hx hb dX2_takes_82 rfl (lv_at hl 2 rfl) ?_
        refine va_get (ci := 2) (v := .ref a2) (C := RX2) (T := TX2) (N := 9) hx hb hts iw_X2takes_X2 hown hK hP 0 rfl rfl 1 (by decide) (hts (.fieldLink RX2 13 "BackMirrorModel" "rights" "[I") (by decide +kernel)) (fun _ h9 => h9) rfl dX2_takes_83 ?_
        refine lv_iload_n hx hb dX2_takes_86 rfl (lv_at hl 4 rfl) ?_
        refine va_iald hx hb hK hP 2 0 rfl rfl (xin (by omega) (by omega)) dX2_takes_87 ?_
        refine x_top (R i2) (by rw [nI_clamp (by omega)]) ?_
        refine x_top ((G (i2)).2.1) ((hM (i2) (by omega)).2.1) ?_
        refine lv_icmp_ne (tgt := 95) hx hb dX2_takes_88 (by decide) (fun c88 => ?_) (fun c88 => ?_)
        · refine lv_iconst (v := nI 1) hx hb dX2_takes_95 (by decide) ?_
          refine lv_iadd hx hb dX2_takes_96 ?_
          refine x_top (nI 2) (xadd (by omega)) ?_
          exact W.iret hx hb hr (fun t9 ht9 hW9 => ⟨_, rfl, by first | exact absurd c18 c57 | exact absurd c57 c18 | (unfold dif; (repeat (first | rw [if_pos (by first | assumption | omega)] | rw [if_neg (by first | assumption | omega)] | rw [if_neg (by rw [c6]; decide)] | rw [if_pos ⟨by assumption, by assumption⟩] | rw [if_neg (fun h => absurd h.1 (by assumption))] | rw [if_neg (fun h => absurd h.2 (by assumption))])); all_goals (first | rfl | (congr 1; omega))), ht9⟩) (fun _ h => nomatch h) dX2_takes_97
        · refine lv_iconst (v := nI 0) hx hb dX2_takes_91 (by decide) ?_
          refine lv_goto (tgt := 96) hx hb dX2_takes_92 (by decide) ?_
          refine lv_iadd hx hb dX2_takes_96 ?_
          refine x_top (nI 1) (xadd (by omega)) ?_
          exact W.iret hx hb hr (fun t9 ht9 hW9 => ⟨_, rfl, by first | exact absurd c18 c57 | exact absurd c57 c18 | (unfold dif; (repeat (first | rw [if_pos (by first | assumption | omega)] | rw [if_neg (by first | assumption | omega)] | rw [if_neg (by rw [c6]; decide)] | rw [if_pos ⟨by assumption, by assumption⟩] | rw [if_neg (fun h => absurd h.1 (by assumption))] | rw [if_neg (fun h => absurd h.2 (by assumption))])); all_goals (first | rfl | (congr 1; omega))), ht9⟩) (fun _ h => nomatch h) dX2_takes_97
      · refine lv_aload_n hx hb dX2_takes_60 rfl (lv_at hl 1 rfl) ?_
        refine va_get (ci := 2) (v := .ref a3) (C := RX2) (T := TX2) (N := 9) hx hb hts iw_X2takes_X2 hown hK hP 0 rfl rfl 2 (by decide) (hts (.fieldLink RX2 16 "BackMirrorModel" "lengths" "[I") (by decide +kernel)) (fun _ h9 => h9) rfl dX2_takes_61 ?_
        refine lv_iload_n hx hb dX2_takes_64 rfl (lv_at hl 2 rfl) ?_
        refine va_iald hx hb hK hP 3 0 rfl rfl (xin (by omega) (by omega)) dX2_takes_65 ?_
        refine x_top (L i1) (by rw [nI_clamp (by omega)]) ?_
        have hb65 := (hM (i1) (by omega)).2.2.2.1
        refine x_top (nI ((G (i1)).2.2.1)) ((hM (i1) (by omega)).2.2.1) ?_
        refine lv_iconst (v := nI 1) hx hb dX2_takes_66 (by decide) ?_
        refine lv_iadd hx hb dX2_takes_67 ?_
        refine x_top (nI (((G (i1)).2.2.1) + 1)) (xadd (by omega)) ?_
        refine lv_goto (tgt := 72) hx hb dX2_takes_68 (by decide) ?_
        refine lv_istore (lv' := [(4, .int (nI (((G (i1)).2.2.1) + 1))), (3, .int (nI 0)), (0, .ref m0), (1, .int (nI i1)), (2, .int (nI i2))]) hx hb dX2_takes_72 hl (by decide) rfl (fun ls hl => ?_)
        refine lv_iload hx hb dX2_takes_74 (lv_at hl 0 rfl) ?_
        refine lv_aload_n hx hb dX2_takes_76 rfl (lv_at hl 2 rfl) ?_
        refine va_get (ci := 2) (v := .ref a2) (C := RX2) (T := TX2) (N := 9) hx hb hts iw_X2takes_X2 hown hK hP 0 rfl rfl 1 (by decide) (hts (.fieldLink RX2 13 "BackMirrorModel" "rights" "[I") (by decide +kernel)) (fun _ h9 => h9) rfl dX2_takes_77 ?_
        refine lv_iload_n hx hb dX2_takes_80 rfl (lv_at hl 3 rfl) ?_
        refine va_iald hx hb hK hP 2 0 rfl rfl (xin (by omega) (by omega)) dX2_takes_81 ?_
        refine x_top (R i1) (by rw [nI_clamp (by omega)]) ?_
        refine x_top ((G (i1)).2.1) ((hM (i1) (by omega)).2.1) ?_
        refine lv_aload_n hx hb dX2_takes_82 rfl (lv_at hl 2 rfl) ?_
        refine va_get (ci := 2) (v := .ref a2) (C := RX2) (T := TX2) (N := 9) hx hb hts iw_X2takes_X2 hown hK hP 0 rfl rfl 1 (by decide) (hts (.fieldLink RX2 13 "BackMirrorModel" "rights" "[I") (by decide +kernel)) (fun _ h9 => h9) rfl dX2_takes_83 ?_
        refine lv_iload_n hx hb dX2_takes_86 rfl (lv_at hl 4 rfl) ?_
        refine va_iald hx hb hK hP 2 0 rfl rfl (xin (by omega) (by omega)) dX2_takes_87 ?_
        refine x_top (R i2) (by rw [nI_clamp (by omega)]) ?_
        refine x_top ((G (i2)).2.1) ((hM (i2) (by omega)).2.1) ?_
        refine lv_icmp_ne (tgt := 95) hx hb dX2_takes_88 (by decide) (fun c88 => ?_) (fun c88 => ?_)
        · refine lv_iconst (v := nI 1) hx hb dX2_takes_95 (by decide) ?_
          refine lv_iadd hx hb dX2_takes_96 ?_
          refine x_top (nI ((((G (i1)).2.2.1) + 1) + 1)) (xadd (by omega)) ?_
          exact W.iret hx hb hr (fun t9 ht9 hW9 => ⟨_, rfl, by first | exact absurd c18 c57 | exact absurd c57 c18 | (unfold dif; (repeat (first | rw [if_pos (by first | assumption | omega)] | rw [if_neg (by first | assumption | omega)] | rw [if_neg (by rw [c6]; decide)] | rw [if_pos ⟨by assumption, by assumption⟩] | rw [if_neg (fun h => absurd h.1 (by assumption))] | rw [if_neg (fun h => absurd h.2 (by assumption))])); all_goals (first | rfl | (congr 1; omega))), ht9⟩) (fun _ h => nomatch h) dX2_takes_97
        · refine lv_iconst (v := nI 0) hx hb dX2_takes_91 (by decide) ?_
          refine lv_goto (tgt := 96) hx hb dX2_takes_92 (by decide) ?_
          refine lv_iadd hx hb dX2_takes_96 ?_
          refine x_top (nI (((G (i1)).2.2.1) + 1)) (xadd (by omega)) ?_
          exact W.iret hx hb hr (fun t9 ht9 hW9 => ⟨_, rfl, by first | exact absurd c18 c57 | exact absurd c57 c18 | (unfold dif; (repeat (first | rw [if_pos (by first | assumption | omega)] | rw [if_neg (by first | assumption | omega)] | rw [if_neg (by rw [c6]; decide)] | rw [if_pos ⟨by assumption, by assumption⟩] | rw [if_neg (fun h => absurd h.1 (by assumption))] | rw [if_neg (fun h => absurd h.2 (by assumption))])); all_goals (first | rfl | (congr 1; omega))), ht9⟩) (fun _ h => nomatch h) dX2_takes_97
    · refine lv_aload_n hx hb dX2_takes_21 rfl (lv_at hl 0 rfl) ?_
      refine va_get (ci := 2) (v := .ref a1) (C := RX2) (T := TX2) (N := 9) hx hb hts iw_X2takes_X2 hown hK hP 0 rfl rfl 0 (by decide) (hts (.fieldLink RX2 7 "BackMirrorModel" "kinds" "[I") (by decide +kernel)) (fun _ h9 => h9) rfl dX2_takes_22 ?_
      refine lv_iload_n hx hb dX2_takes_25 rfl (lv_at hl 2 rfl) ?_
      refine va_iald hx hb hK hP 1 0 rfl rfl (xin (by omega) (by omega)) dX2_takes_26 ?_
      refine x_top (K i2) (by rw [nI_clamp (by omega)]) ?_
      refine x_top ((G (i2)).1) ((hM (i2) (by omega)).1) ?_
      refine lv_iconst (v := nI 1) hx hb dX2_takes_27 (by decide) ?_
      refine lv_icmp_ne (tgt := 35) hx hb dX2_takes_28 (by decide) (fun c28 => ?_) (fun c28 => ?_)
      · refine lv_iconst (v := nI 0) hx hb dX2_takes_35 (by decide) ?_
        refine lv_istore_n (lv' := [(3, .int (nI 0)), (0, .ref m0), (1, .int (nI i1)), (2, .int (nI i2))]) hx hb dX2_takes_36 rfl hl (by decide) rfl (fun ls hl => ?_)
        refine lv_iload_n hx hb dX2_takes_37 rfl (lv_at hl 0 rfl) ?_
        refine lv_if_eq (tgt := 50) hx hb dX2_takes_38 (by decide) (fun _ => ?_) (fun h => absurd h (by decide))
        refine lv_aload_n hx hb dX2_takes_50 rfl (lv_at hl 1 rfl) ?_
        refine va_get (ci := 2) (v := .ref a1) (C := RX2) (T := TX2) (N := 9) hx hb hts iw_X2takes_X2 hown hK hP 0 rfl rfl 0 (by decide) (hts (.fieldLink RX2 7 "BackMirrorModel" "kinds" "[I") (by decide +kernel)) (fun _ h9 => h9) rfl dX2_takes_51 ?_
        refine lv_iload_n hx hb dX2_takes_54 rfl (lv_at hl 2 rfl) ?_
        refine va_iald hx hb hK hP 1 0 rfl rfl (xin (by omega) (by omega)) dX2_takes_55 ?_
        refine x_top (K i1) (by rw [nI_clamp (by omega)]) ?_
        refine x_top ((G (i1)).1) ((hM (i1) (by omega)).1) ?_
        refine lv_iconst (v := nI 1) hx hb dX2_takes_56 (by decide) ?_
        refine lv_icmp_ne (tgt := 71) hx hb dX2_takes_57 (by decide) (fun c57 => ?_) (fun c57 => ?_)
        · refine lv_iconst (v := nI 1) hx hb dX2_takes_71 (by decide) ?_
          refine lv_istore (lv' := [(4, .int (nI 1)), (3, .int (nI 0)), (0, .ref m0), (1, .int (nI i1)), (2, .int (nI i2))]) hx hb dX2_takes_72 hl (by decide) rfl (fun ls hl => ?_)
          refine lv_iload hx hb dX2_takes_74 (lv_at hl 0 rfl) ?_
          refine lv_aload_n hx hb dX2_takes_76 rfl (lv_at hl 2 rfl) ?_
          refine va_get (ci := 2) (v := .ref a2) (C := RX2) (T := TX2) (N := 9) hx hb hts iw_X2takes_X2 hown hK hP 0 rfl rfl 1 (by decide) (hts (.fieldLink RX2 13 "BackMirrorModel" "rights" "[I") (by decide +kernel)) (fun _ h9 => h9) rfl dX2_takes_77 ?_
          refine lv_iload_n hx hb dX2_takes_80 rfl (lv_at hl 3 rfl) ?_
          refine va_iald hx hb hK hP 2 0 rfl rfl (xin (by omega) (by omega)) dX2_takes_81 ?_
          refine x_top (R i1) (by rw [nI_clamp (by omega)]) ?_
          refine x_top ((G (i1)).2.1) ((hM (i1) (by omega)).2.1) ?_
          refine lv_aload_n hx hb dX2_takes_82 rfl (lv_at hl 2 rfl) ?_
          refine va_get (ci := 2) (v := .ref a2) (C := RX2) (T := TX2) (N := 9) hx hb hts iw_X2takes_X2 hown hK hP 0 rfl rfl 1 (by decide) (hts (.fieldLink RX2 13 "BackMirrorModel" "rights" "[I") (by decide +kernel)) (fun _ h9 => h9) rfl dX2_takes_83 ?_
          refine lv_iload_n hx hb dX2_takes_86 rfl (lv_at hl 4 rfl) ?_
          refine va_iald hx hb hK hP 2 0 rfl rfl (xin (by omega) (by omega)) dX2_takes_87 ?_
          refine x_top (R i2) (by rw [nI_clamp (by omega)]) ?_
          refine x_top ((G (i2)).2.1) ((hM (i2) (by omega)).2.1) ?_
          refine lv_icmp_ne (tgt := 95) hx hb dX2_takes_88 (by decide) (fun c88 => ?_) (fun c88 => ?_)
          · refine lv_iconst (v := nI 1) hx hb dX2_takes_95 (by decide) ?_
            refine lv_iadd hx hb dX2_takes_96 ?_
            refine x_top (nI 2) (xadd (by omega)) ?_
            exact W.iret hx hb hr (fun t9 ht9 hW9 => ⟨_, rfl, by first | exact absurd c18 c57 | exact absurd c57 c18 | (unfold dif; (repeat (first | rw [if_pos (by first | assumption | omega)] | rw [if_neg (by first | assumption | omega)] | rw [if_neg (by rw [c6]; decide)] | rw [if_pos ⟨by assumption, by assumption⟩] | rw [if_neg (fun h => absurd h.1 (by assumption))] | rw [if_neg (fun h => absurd h.2 (by assumption))])); all_goals (first | rfl | (congr 1; omega))), ht9⟩) (fun _ h => nomatch h) dX2_takes_97
          · refine lv_iconst (v := nI 0) hx hb dX2_takes_91 (by decide) ?_
            refine lv_goto (tgt := 96) hx hb dX2_takes_92 (by decide) ?_
            refine lv_iadd hx hb dX2_takes_96 ?_
            refine x_top (nI 1) (xadd (by omega)) ?_
            exact W.iret hx hb hr (fun t9 ht9 hW9 => ⟨_, rfl, by first | exact absurd c18 c57 | exact absurd c57 c18 | (unfold dif; (repeat (first | rw [if_pos (by first | assumption | omega)] | rw [if_neg (by first | assumption | omega)] | rw [if_neg (by rw [c6]; decide)] | rw [if_pos ⟨by assumption, by assumption⟩] | rw [if_neg (fun h => absurd h.1 (by assumption))] | rw [if_neg (fun h => absurd h.2 (by assumption))])); all_goals (first | rfl | (congr 1; omega))), ht9⟩) (fun _ h => nomatch h) dX2_takes_97
        · refine lv_aload_n hx hb dX2_takes_60 rfl (lv_at hl 1 rfl) ?_
          refine va_get (ci := 2) (v := .ref a3) (C := RX2) (T := TX2) (N := 9) hx hb hts iw_X2takes_X2 hown hK hP 0 rfl rfl 2 (by decide) (hts (.fieldLink RX2 16 "BackMirrorModel" "lengths" "[I") (by decide +kernel)) (fun _ h9 => h9) rfl dX2_takes_61 ?_
          refine lv_iload_n hx hb dX2_takes_64 rfl (lv_at hl 2 rfl) ?_
          refine va_iald hx hb hK hP 3 0 rfl rfl (xin (by omega) (by omega)) dX2_takes_65 ?_
          refine x_top (L i1) (by rw [nI_clamp (by omega)]) ?_
          have hb65 := (hM (i1) (by omega)).2.2.2.1
          refine x_top (nI ((G (i1)).2.2.1)) ((hM (i1) (by omega)).2.2.1) ?_
          refine lv_iconst (v := nI 1) hx hb dX2_takes_66 (by decide) ?_
          refine lv_iadd hx hb dX2_takes_67 ?_
          refine x_top (nI (((G (i1)).2.2.1) + 1)) (xadd (by omega)) ?_
          refine lv_goto (tgt := 72) hx hb dX2_takes_68 (by decide) ?_
          refine lv_istore (lv' := [(4, .int (nI (((G (i1)).2.2.1) + 1))), (3, .int (nI 0)), (0, .ref m0), (1, .int (nI i1)), (2, .int (nI i2))]) hx hb dX2_takes_72 hl (by decide) rfl (fun ls hl => ?_)
          refine lv_iload hx hb dX2_takes_74 (lv_at hl 0 rfl) ?_
          refine lv_aload_n hx hb dX2_takes_76 rfl (lv_at hl 2 rfl) ?_
          refine va_get (ci := 2) (v := .ref a2) (C := RX2) (T := TX2) (N := 9) hx hb hts iw_X2takes_X2 hown hK hP 0 rfl rfl 1 (by decide) (hts (.fieldLink RX2 13 "BackMirrorModel" "rights" "[I") (by decide +kernel)) (fun _ h9 => h9) rfl dX2_takes_77 ?_
          refine lv_iload_n hx hb dX2_takes_80 rfl (lv_at hl 3 rfl) ?_
          refine va_iald hx hb hK hP 2 0 rfl rfl (xin (by omega) (by omega)) dX2_takes_81 ?_
          refine x_top (R i1) (by rw [nI_clamp (by omega)]) ?_
          refine x_top ((G (i1)).2.1) ((hM (i1) (by omega)).2.1) ?_
          refine lv_aload_n hx hb dX2_takes_82 rfl (lv_at hl 2 rfl) ?_
          refine va_get (ci := 2) (v := .ref a2) (C := RX2) (T := TX2) (N := 9) hx hb hts iw_X2takes_X2 hown hK hP 0 rfl rfl 1 (by decide) (hts (.fieldLink RX2 13 "BackMirrorModel" "rights" "[I") (by decide +kernel)) (fun _ h9 => h9) rfl dX2_takes_83 ?_
          refine lv_iload_n hx hb dX2_takes_86 rfl (lv_at hl 4 rfl) ?_
          refine va_iald hx hb hK hP 2 0 rfl rfl (xin (by omega) (by omega)) dX2_takes_87 ?_
          refine x_top (R i2) (by rw [nI_clamp (by omega)]) ?_
          refine x_top ((G (i2)).2.1) ((hM (i2) (by omega)).2.1) ?_
          refine lv_icmp_ne (tgt := 95) hx hb dX2_takes_88 (by decide) (fun c88 => ?_) (fun c88 => ?_)
          · refine lv_iconst (v := nI 1) hx hb dX2_takes_95 (by decide) ?_
            refine lv_iadd hx hb dX2_takes_96 ?_
            refine x_top (nI ((((G (i1)).2.2.1) + 1) + 1)) (xadd (by omega)) ?_
            exact W.iret hx hb hr (fun t9 ht9 hW9 => ⟨_, rfl, by first | exact absurd c18 c57 | exact absurd c57 c18 | (unfold dif; (repeat (first | rw [if_pos (by first | assumption | omega)] | rw [if_neg (by first | assumption | omega)] | rw [if_neg (by rw [c6]; decide)] | rw [if_pos ⟨by assumption, by assumption⟩] | rw [if_neg (fun h => absurd h.1 (by assumption))] | rw [if_neg (fun h => absurd h.2 (by assumption))])); all_goals (first | rfl | (congr 1; omega))), ht9⟩) (fun _ h => nomatch h) dX2_takes_97
          · refine lv_iconst (v := nI 0) hx hb dX2_takes_91 (by decide) ?_
            refine lv_goto (tgt := 96) hx hb dX2_takes_92 (by decide) ?_
            refine lv_iadd hx hb dX2_takes_96 ?_
            refine x_top (nI (((G (i1)).2.2.1) + 1)) (xadd (by omega)) ?_
            exact W.iret hx hb hr (fun t9 ht9 hW9 => ⟨_, rfl, by first | exact absurd c18 c57 | exact absurd c57 c18 | (unfold dif; (repeat (first | rw [if_pos (by first | assumption | omega)] | rw [if_neg (by first | assumption | omega)] | rw [if_neg (by rw [c6]; decide)] | rw [if_pos ⟨by assumption, by assumption⟩] | rw [if_neg (fun h => absurd h.1 (by assumption))] | rw [if_neg (fun h => absurd h.2 (by assumption))])); all_goals (first | rfl | (congr 1; omega))), ht9⟩) (fun _ h => nomatch h) dX2_takes_97
      · refine lv_iconst (v := nI 1) hx hb dX2_takes_31 (by decide) ?_
        refine lv_goto (tgt := 36) hx hb dX2_takes_32 (by decide) ?_
        refine lv_istore_n (lv' := [(3, .int (nI 1)), (0, .ref m0), (1, .int (nI i1)), (2, .int (nI i2))]) hx hb dX2_takes_36 rfl hl (by decide) rfl (fun ls hl => ?_)
        refine lv_iload_n hx hb dX2_takes_37 rfl (lv_at hl 0 rfl) ?_
        refine lv_if_eq (tgt := 50) hx hb dX2_takes_38 (by decide) (fun h => absurd h (by decide)) (fun _ => ?_)
        refine lv_aload_n hx hb dX2_takes_41 rfl (lv_at hl 1 rfl) ?_
        refine lv_iload_n hx hb dX2_takes_42 rfl (lv_at hl 2 rfl) ?_
        refine lv_iload_n hx hb dX2_takes_43 rfl (lv_at hl 3 rfl) ?_
        refine xc_sie (va_runV (As := [.int (nI i1), .int (nI i2)]) (rest := []) ⟨hx, hb, hml, hown, hts⟩ (c_X2_taken l m0 a1 a2 a3 a4 K R L N ld o b k t G hM i1 i2 (by omega) (by omega)) (cwV 2 hts gX2_takes_X2_taken rfl rfl rfl (by decide +kernel) ⟨(Nat.le_of_ble_eq_true rfl), (Nat.le_of_ble_eq_true rfl)⟩) ⟨XP_blind, va_recv hK hP (ci := 2) (q0 := 0) rfl rfl, XP_pre hE hP⟩ rfl rfl hl.1 rfl (lv_room (Nat.le_of_ble_eq_true rfl)) dX2_takes_44 ⟨Nat.le_of_ble_eq_true rfl, Nat.le_of_ble_eq_true rfl⟩) ?_
        refine lv_goto (tgt := 72) hx hb dX2_takes_47 (by decide) ?_
        refine lv_istore (lv' := [(4, .int (nI (tak (G i1).2.2.2 (G i2).2.2.2 (G i1).2.2.1 (G i2).2.2.1 (G i1).2.2.1 0))), (3, .int (nI 1)), (0, .ref m0), (1, .int (nI i1)), (2, .int (nI i2))]) hx hb dX2_takes_72 hl (by decide) rfl (fun ls hl => ?_)
        refine lv_iload hx hb dX2_takes_74 (lv_at hl 0 rfl) ?_
        refine lv_aload_n hx hb dX2_takes_76 rfl (lv_at hl 2 rfl) ?_
        refine va_get (ci := 2) (v := .ref a2) (C := RX2) (T := TX2) (N := 9) hx hb hts iw_X2takes_X2 hown hK hP 0 rfl rfl 1 (by decide) (hts (.fieldLink RX2 13 "BackMirrorModel" "rights" "[I") (by decide +kernel)) (fun _ h9 => h9) rfl dX2_takes_77 ?_
        refine lv_iload_n hx hb dX2_takes_80 rfl (lv_at hl 3 rfl) ?_
        refine va_iald hx hb hK hP 2 0 rfl rfl (xin (by omega) (by omega)) dX2_takes_81 ?_
        refine x_top (R i1) (by rw [nI_clamp (by omega)]) ?_
        refine x_top ((G (i1)).2.1) ((hM (i1) (by omega)).2.1) ?_
        refine lv_aload_n hx hb dX2_takes_82 rfl (lv_at hl 2 rfl) ?_
        refine va_get (ci := 2) (v := .ref a2) (C := RX2) (T := TX2) (N := 9) hx hb hts iw_X2takes_X2 hown hK hP 0 rfl rfl 1 (by decide) (hts (.fieldLink RX2 13 "BackMirrorModel" "rights" "[I") (by decide +kernel)) (fun _ h9 => h9) rfl dX2_takes_83 ?_
        refine lv_iload_n hx hb dX2_takes_86 rfl (lv_at hl 4 rfl) ?_
        refine va_iald hx hb hK hP 2 0 rfl rfl (xin (by omega) (by omega)) dX2_takes_87 ?_
        refine x_top (R i2) (by rw [nI_clamp (by omega)]) ?_
        refine x_top ((G (i2)).2.1) ((hM (i2) (by omega)).2.1) ?_
        refine lv_icmp_ne (tgt := 95) hx hb dX2_takes_88 (by decide) (fun c88 => ?_) (fun c88 => ?_)
        · refine lv_iconst (v := nI 1) hx hb dX2_takes_95 (by decide) ?_
          refine lv_iadd hx hb dX2_takes_96 ?_
          refine x_top (nI ((tak (G i1).2.2.2 (G i2).2.2.2 (G i1).2.2.1 (G i2).2.2.1 (G i1).2.2.1 0) + 1)) (xadd (by omega)) ?_
          exact W.iret hx hb hr (fun t9 ht9 hW9 => ⟨_, rfl, by first | exact absurd c18 c57 | exact absurd c57 c18 | (unfold dif; (repeat (first | rw [if_pos (by first | assumption | omega)] | rw [if_neg (by first | assumption | omega)] | rw [if_neg (by rw [c6]; decide)] | rw [if_pos ⟨by assumption, by assumption⟩] | rw [if_neg (fun h => absurd h.1 (by assumption))] | rw [if_neg (fun h => absurd h.2 (by assumption))])); all_goals (first | rfl | (congr 1; omega))), ht9⟩) (fun _ h => nomatch h) dX2_takes_97
        · refine lv_iconst (v := nI 0) hx hb dX2_takes_91 (by decide) ?_
          refine lv_goto (tgt := 96) hx hb dX2_takes_92 (by decide) ?_
          refine lv_iadd hx hb dX2_takes_96 ?_
          refine x_top (nI (tak (G i1).2.2.2 (G i2).2.2.2 (G i1).2.2.1 (G i2).2.2.1 (G i1).2.2.1 0)) (xadd (by omega)) ?_
          exact W.iret hx hb hr (fun t9 ht9 hW9 => ⟨_, rfl, by first | exact absurd c18 c57 | exact absurd c57 c18 | (unfold dif; (repeat (first | rw [if_pos (by first | assumption | omega)] | rw [if_neg (by first | assumption | omega)] | rw [if_neg (by rw [c6]; decide)] | rw [if_pos ⟨by assumption, by assumption⟩] | rw [if_neg (fun h => absurd h.1 (by assumption))] | rw [if_neg (fun h => absurd h.2 (by assumption))])); all_goals (first | rfl | (congr 1; omega))), ht9⟩) (fun _ h => nomatch h) dX2_takes_97
  · have c6 : (sameB (G (i1)) (G (i2))) = true := bN_t c6
    refine lv_iconst (v := nI 0) hx hb dX2_takes_9 (by decide) ?_
    exact W.iret hx hb hr (fun t9 ht9 hW9 => ⟨_, rfl, by first | exact absurd c18 c57 | exact absurd c57 c18 | (unfold dif; (repeat (first | rw [if_pos (by first | assumption | omega)] | rw [if_neg (by first | assumption | omega)] | rw [if_neg (by rw [c6]; decide)] | rw [if_pos ⟨by assumption, by assumption⟩] | rw [if_neg (fun h => absurd h.1 (by assumption))] | rw [if_neg (fun h => absurd h.2 (by assumption))])); all_goals (first | rfl | (congr 1; omega))), ht9⟩) (fun _ h => nomatch h) dX2_takes_10

theorem iw_X2sizeOf_X2 : ∀ w ∈ u_ws RX2 TX2 9, w ∈ wsX2_sizeOf := by decide +kernel
set_option maxHeartbeats 4000000 in
set_option maxRecDepth 100000 in
theorem c_X2_sizeOf (l : Launch) {D : va_G} {cI cT cJ : ClassId} (m0 a1 a2 a3 a4 : Nat) (K R L N : Nat → Int32) (ld o b k t : Nat) (G : Nat → Tv) (hM : MA G K R L N) (d w : Nat) (hld : ld ≤ 40) (hd : d ≤ ld) (hw : w < 6) : Met l yX2_sizeOf wsX2_sizeOf (rmD 4 0 0) (XP D cI cT cJ [.ref m0, .int (nI d), .int (nI w)] (fun H => va_P D vwCl (MWs cI m0 a1 a2 a3 a4 K R L N ld o b k t) H)) (XSi (fun r => r = nI (difW G ld d w))) 0 0 (fun _ => False) := by
  refine Met.ofW (cc := cX2_sizeOf) (maxL := 3) (ret := (some .int)) (by decide) rfl ?_
  intro p e s m args below meth c s₁ B hml hv
  obtain ⟨rfl, hP, hE⟩ := hv
  have hx := B.exec
  have hb := B.bytes
  have hr := B.returns
  have hts := atoms_spec (ws := wsX2_sizeOf) B.pre
  have hown : s.vm.findClass RX2 = some m.cls := findClass_of_methodNamed B.named
  have hlocks := B.notSynchronized
  have hl := lv_entry ([.ref m0, .int (nI d), .int (nI w)]) (n := 3) (Nat.le_of_ble_eq_true rfl)
  rw [lg_entry_eq]
  generalize (lg_sl ([.ref m0, .int (nI d), .int (nI w)]) ++ List.replicate (3 - (lg_sl ([.ref m0, .int (nI d), .int (nI w)])).length) Slot.unset).toArray = ls at hl ⊢
  have hl : lv_has ls 3 [(0, .ref m0), (1, .int (nI d)), (2, .int (nI w))] := hl
  have hK := hE.1
  refine lv_iload_n hx hb dX2_sizeOf_0 rfl (lv_at hl 1 rfl) ?_
  refine lv_aload_n hx hb dX2_sizeOf_1 rfl (lv_at hl 0 rfl) ?_
  refine va_get (ci := 2) (v := .int (nI ld)) (C := RX2) (T := TX2) (N := 9) hx hb hts iw_X2sizeOf_X2 hown hK hP 0 rfl rfl 4 (by decide) (hts (.fieldLink RX2 62 "BackMirrorModel" "last" "I") (by decide +kernel)) (fun _ h9 => h9) rfl dX2_sizeOf_2 ?_
  refine lv_icmp_ne (tgt := 12) hx hb dX2_sizeOf_5 (by decide) (fun c5 => ?_) (fun c5 => ?_)
  · have c5 : ¬ d = ld := fun h => c5 ((xeq (by omega) (by omega)).mpr h)
    refine lv_aload_n hx hb dX2_sizeOf_12 rfl (lv_at hl 0 rfl) ?_
    refine lv_iload_n hx hb dX2_sizeOf_13 rfl (lv_at hl 1 rfl) ?_
    refine lv_iload_n hx hb dX2_sizeOf_14 rfl (lv_at hl 2 rfl) ?_
    refine xc_sie (va_runS (As := [.int (nI d), .int (nI w)]) (rest := [.ref m0]) ⟨hx, hb, hml, hown, hts⟩ (c_X2_at l d w) (va_cwS 2 hts gX2_sizeOf_X2_at rfl rfl rfl (by decide +kernel) ⟨(Nat.le_of_ble_eq_true rfl), (Nat.le_of_ble_eq_true rfl)⟩) ⟨XP_blind, XP_pre hE trivial⟩ rfl rfl hl.1 rfl (lv_room (Nat.le_of_ble_eq_true rfl)) dX2_sizeOf_15 ⟨Nat.le_of_ble_eq_true rfl, Nat.le_of_ble_eq_true rfl⟩) ?_
    refine lv_iload_n hx hb dX2_sizeOf_18 rfl (lv_at hl 1 rfl) ?_
    refine lv_iconst (v := nI 1) hx hb dX2_sizeOf_19 (by decide) ?_
    refine lv_iadd hx hb dX2_sizeOf_20 ?_
    refine x_top (nI (d + 1)) (xadd (by omega)) ?_
    refine lv_iload_n hx hb dX2_sizeOf_21 rfl (lv_at hl 2 rfl) ?_
    refine xc_sie (va_runS (As := [.int (nI (d + 1)), .int (nI w)]) (rest := [.int (nI (6 * d + w)), .ref m0]) ⟨hx, hb, hml, hown, hts⟩ (c_X2_at l (d + 1) w) (va_cwS 2 hts gX2_sizeOf_X2_at rfl rfl rfl (by decide +kernel) ⟨(Nat.le_of_ble_eq_true rfl), (Nat.le_of_ble_eq_true rfl)⟩) ⟨XP_blind, XP_pre hE trivial⟩ rfl rfl hl.1 rfl (lv_room (Nat.le_of_ble_eq_true rfl)) dX2_sizeOf_22 ⟨Nat.le_of_ble_eq_true rfl, Nat.le_of_ble_eq_true rfl⟩) ?_
    refine xc_sie (va_runV (As := [.int (nI (6 * d + w)), .int (nI (6 * (d + 1) + w))]) (rest := []) ⟨hx, hb, hml, hown, hts⟩ (c_X2_takes l m0 a1 a2 a3 a4 K R L N ld o b k t G hM (6 * d + w) (6 * (d + 1) + w) (by omega) (by omega)) (cwV 2 hts gX2_sizeOf_X2_takes rfl rfl rfl (by decide +kernel) ⟨(Nat.le_of_ble_eq_true rfl), (Nat.le_of_ble_eq_true rfl)⟩) ⟨XP_blind, va_recv hK hP (ci := 2) (q0 := 0) rfl rfl, XP_pre hE hP⟩ rfl rfl hl.1 rfl (lv_room (Nat.le_of_ble_eq_true rfl)) dX2_sizeOf_25 ⟨Nat.le_of_ble_eq_true rfl, Nat.le_of_ble_eq_true rfl⟩) ?_
    exact W.iret hx hb hr (fun t9 ht9 hW9 => ⟨_, rfl, by unfold difW; first | (rw [if_pos (by omega)]; done) | (rw [if_neg (by omega)]; done), ht9⟩) (fun _ h => nomatch h) dX2_sizeOf_28
  · have c5 : d = ld := (xeq (by omega) (by omega)).mp c5
    refine lv_iconst (v := nI 0) hx hb dX2_sizeOf_8 (by decide) ?_
    refine lv_goto (tgt := 28) hx hb dX2_sizeOf_9 (by decide) ?_
    exact W.iret hx hb hr (fun t9 ht9 hW9 => ⟨_, rfl, by unfold difW; first | (rw [if_pos (by omega)]; done) | (rw [if_neg (by omega)]; done), ht9⟩) (fun _ h => nomatch h) dX2_sizeOf_28
