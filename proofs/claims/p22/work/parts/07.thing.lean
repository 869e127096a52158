/-! Thing: its constructor, isLike -/
theorem sameB_t {a b : Tv} (h1 : a.1 = b.1) (h2 : a.2.1 = b.2.1) (h3 : rowB a.2.2.1 b.2.2.1 a.2.2.2 b.2.2.2 = true) : sameB a b = true := by simp only [sameB, h1, h2, h3, decide_true, Bool.and_self]
theorem sameB_f1 {a b : Tv} (h1 : ¬ a.1 = b.1) : sameB a b = false := by simp only [sameB, h1, decide_false, Bool.false_and]
theorem sameB_f2 {a b : Tv} (h1 : ¬ a.2.1 = b.2.1) : sameB a b = false := by simp only [sameB, h1, decide_false, Bool.and_false, Bool.false_and]
theorem sameB_f3 {a b : Tv} (h3 : rowB a.2.2.1 b.2.2.1 a.2.2.2 b.2.2.2 = false) : sameB a b = false := by simp only [sameB, h3, Bool.and_false]

theorem iw_X0init_X0 : ∀ w ∈ u_ws RX0 TX0 3, w ∈ wsX0_init := by decide +kernel
set_option maxHeartbeats 4000000 in
set_option maxRecDepth 100000 in
theorem c_X0_init (l : Launch) {D : va_G} {cI cT cJ : ClassId} (h q sz : Nat) (k r : Int32) : Met l yX0_init wsX0_init (rmD 2 0 0) (XP D cI cT cJ [.ref h, .int k, .int r, .ref q] (fun H => H.size = sz ∧ va_P D vwCl [(h, .inr (0, [.int 0, .int 0, .null]))] H ∧ va_D (fun _ => True) [(h, .inr (0, [.int 0, .int 0, .null]))])) (va_Qv (S := Unit) (fun _ => True) (fun _ t => va_P D vwCl [(h, .inr (0, [.int k, .int r, .ref q]))] t.heap ∧ va_D (va_A [(h, .inr (0, [.int 0, .int 0, .null]))] sz) [(h, .inr (0, [.int k, .int r, .ref q]))]) (va_A [(h, .inr (0, [.int 0, .int 0, .null]))] sz)) 0 0 (va_A [(h, .inr (0, [.int 0, .int 0, .null]))] sz) := by
  refine Met.ofW (cc := cX0_init) (maxL := 4) (ret := none) (by decide) rfl ?_
  intro p e s m args below meth c s₁ B hml hv
  obtain ⟨rfl, ⟨hsz, hP, hD0⟩, hE⟩ := hv
  have hx := B.exec
  have hb := B.bytes
  have hr := B.returns
  have hts := atoms_spec (ws := wsX0_init) B.pre
  have hown : s.vm.findClass RX0 = some m.cls := findClass_of_methodNamed B.named
  have hlocks := B.notSynchronized
  have hin : meth.name = "<init>" := (name_of_methodNamed B.named B.method).1
  have hl := lv_entry ([.ref h, .int k, .int r, .ref q]) (n := 4) (Nat.le_of_ble_eq_true rfl)
  rw [lg_entry_eq]
  generalize (lg_sl ([.ref h, .int k, .int r, .ref q]) ++ List.replicate (4 - (lg_sl ([.ref h, .int k, .int r, .ref q])).length) Slot.unset).toArray = ls at hl ⊢
  have hl : lv_has ls 4 [(0, .ref h), (1, .int k), (2, .int r), (3, .ref q)] := hl
  have hK := hE.1
  subst hsz
  have hD := hD0.self (sz := s.heap.size)
  generalize hAe : va_A ([(h, .inr (0, [.int 0, .int 0, .null]))]) s.heap.size = A at hD ⊢
  have hA : ∀ q : Nat, s.heap.size ≤ q → A q := fun q h => by rw [← hAe]; exact Or.inr h
  have hS : va_S A s.heap s.heap [] := va_S.rf
  refine lv_aload_n hx hb dX0_init_0 rfl (lv_at hl 0 rfl) ?_
  refine W.objInit hx hb hown (hts (.methodLink RX0 1 objectInit) (by decide +kernel)) (hts (.instanceMethod objectInit) (by decide +kernel)) (hts (.code objectInit ⟨#[0xb1]⟩ 1 none) (by decide +kernel)) rfl (by rw [hml]; exact hl.1) rfl dX0_init_1 (Nat.le_of_ble_eq_true rfl) (Nat.le_of_ble_eq_true rfl) ?_
  refine W.eq (g2 := F0 m 4 ls []) rfl ?_
  refine lv_aload_n hx hb dX0_init_4 rfl (lv_at hl 0 rfl) ?_
  refine lv_iload_n hx hb dX0_init_5 rfl (lv_at hl 1 rfl) ?_
  refine va_putF (ci := 0) (v := .int k) (ty := .int) (C := RX0) (T := TX0) (N := 3) hx hb hts iw_X0init_X0 tyX0 tyX0_ok nmX0 hown hK hP hD hS 0 rfl rfl 0 (by decide) (hts (.fieldLink RX0 7 "BackMirror$Thing" "kind" "I") (by decide +kernel)) (fun _ h9 => h9) rfl hin rfl (by decide +kernel) rfl rfl (Nat.le_of_ble_eq_true rfl) dX0_init_6 (fun H locs hP hD hS => ?_)
  have hP : va_P D vwCl [(h, .inr (0, [.int k, .int 0, .null]))] H := hP
  have hD : va_D A [(h, .inr (0, [.int k, .int 0, .null]))] := hD
  refine lv_aload_n hx hb dX0_init_9 rfl (lv_at hl 0 rfl) ?_
  refine lv_iload_n hx hb dX0_init_10 rfl (lv_at hl 2 rfl) ?_
  refine va_putF (ci := 0) (v := .int r) (ty := .int) (C := RX0) (T := TX0) (N := 3) hx hb hts iw_X0init_X0 tyX0 tyX0_ok nmX0 hown hK hP hD hS 0 rfl rfl 1 (by decide) (hts (.fieldLink RX0 13 "BackMirror$Thing" "rights" "I") (by decide +kernel)) (fun _ h9 => h9) rfl hin rfl (by decide +kernel) rfl rfl (Nat.le_of_ble_eq_true rfl) dX0_init_11 (fun H locs hP hD hS => ?_)
  have hP : va_P D vwCl [(h, .inr (0, [.int k, .int r, .null]))] H := hP
  have hD : va_D A [(h, .inr (0, [.int k, .int r, .null]))] := hD
  refine lv_aload_n hx hb dX0_init_14 rfl (lv_at hl 0 rfl) ?_
  refine lv_aload_n hx hb dX0_init_15 rfl (lv_at hl 3 rfl) ?_
  refine va_putF (ci := 0) (v := .ref q) (ty := .array .int) (C := RX0) (T := TX0) (N := 3) hx hb hts iw_X0init_X0 tyX0 tyX0_ok nmX0 hown hK hP hD hS 0 rfl rfl 2 (by decide) (hts (.fieldLink RX0 16 "BackMirror$Thing" "numbers" "[I") (by decide +kernel)) (fun _ h9 => h9) rfl hin rfl (by decide +kernel) rfl rfl (Nat.le_of_ble_eq_true rfl) dX0_init_16 (fun H locs hP hD hS => ?_)
  have hP : va_P D vwCl [(h, .inr (0, [.int k, .int r, .ref q]))] H := hP
  have hD : va_D A [(h, .inr (0, [.int k, .int r, .ref q]))] := hD
  exact W.vret hx hb hr (fun t9 ht9 hW9 => ⟨⟨(), rfl, trivial, by rw [ht9]; exact hP, hD⟩, hS.F ht9⟩) hS.2.2 dX0_init_19

theorem iw_X0isLike_X0 : ∀ w ∈ u_ws RX0 TX0 3, w ∈ wsX0_isLike := by decide +kernel
set_option maxHeartbeats 4000000 in
set_option maxRecDepth 100000 in
theorem c_X0_isLike (l : Launch) {D : va_G} {cI cT cJ : ClassId} (a q1 b q2 n1 n2 : Nat) (k1 r1 k2 r2 : Int32) (f g : Nat → Int32) (hn1 : n1 ≤ 1000) (hn2 : n2 ≤ 1000) : Met l yX0_isLike wsX0_isLike (rmD 3 0 0) (XP D cI cT cJ [.ref a, .ref b] (fun H => va_P D vwCl [(a, .inr (0, [.int k1, .int r1, .ref q1])), (q1, .inl (cI, n1, .inl f)), (b, .inr (0, [.int k2, .int r2, .ref q2])), (q2, .inl (cI, n2, .inl g))] H)) (XSi (fun r => r = nI (bN (sameB (k1, r1, n1, f) (k2, r2, n2, g))))) 0 0 (fun _ => False) := by
  refine Met.ofW (cc := cX0_isLike) (maxL := 2) (ret := (some .boolean)) (by decide) rfl ?_
  intro p e s m args below meth c s₁ B hml hv
  obtain ⟨rfl, hP, hE⟩ := hv
  have hx := B.exec
  have hb := B.bytes
  have hr := B.returns
  have hts := atoms_spec (ws := wsX0_isLike) B.pre
  have hown : s.vm.findClass RX0 = some m.cls := findClass_of_methodNamed B.named
  have hlocks := B.notSynchronized
  have hl := lv_entry ([.ref a, .ref b]) (n := 2) (Nat.le_of_ble_eq_true rfl)
  rw [lg_entry_eq]
  generalize (lg_sl ([.ref a, .ref b]) ++ List.replicate (2 - (lg_sl ([.ref a, .ref b])).length) Slot.unset).toArray = ls at hl ⊢
  have hl : lv_has ls 2 [(0, .ref a), (1, .ref b)] := hl
  have hK := hE.1
  refine lv_aload_n hx hb dX0_isLike_0 rfl (lv_at hl 0 rfl) ?_
  refine va_get (ci := 0) (v := .int k1) (C := RX0) (T := TX0) (N := 3) hx hb hts iw_X0isLike_X0 hown hK hP 0 rfl rfl 0 (by decide) (hts (.fieldLink RX0 7 "BackMirror$Thing" "kind" "I") (by decide +kernel)) (fun _ h9 => h9) rfl dX0_isLike_1 ?_
  refine lv_aload_n hx hb dX0_isLike_4 rfl (lv_at hl 1 rfl) ?_
  refine va_get (ci := 0) (v := .int k2) (C := RX0) (T := TX0) (N := 3) hx hb hts iw_X0isLike_X0 hown hK hP 2 rfl rfl 0 (by decide) (hts (.fieldLink RX0 7 "BackMirror$Thing" "kind" "I") (by decide +kernel)) (fun _ h9 => h9) rfl dX0_isLike_5 ?_
  refine lv_icmp_ne (tgt := 40) hx hb dX0_isLike_8 (by decide) (fun c8 => ?_) (fun c8 => ?_)
  · refine lv_iconst (v := nI 0) hx hb dX0_isLike_40 (by decide) ?_
    exact W.zret hx hb hr (xnb _ (by omega)) (fun t9 ht9 hW9 => ⟨_, rfl, by first | (rw [sameB_t (a := (k1, r1, n1, f)) (b := (k2, r2, n2, g)) (by assumption) (by assumption) (by assumption)]; rfl) | (rw [sameB_f1 (a := (k1, r1, n1, f)) (b := (k2, r2, n2, g)) (by assumption)]; rfl) | (rw [sameB_f2 (a := (k1, r1, n1, f)) (b := (k2, r2, n2, g)) (by assumption)]; rfl) | (rw [sameB_f3 (a := (k1, r1, n1, f)) (b := (k2, r2, n2, g)) (by assumption)]; rfl), ht9⟩) (fun _ h => nomatch h) dX0_isLike_41
  · refine lv_aload_n hx hb dX0_isLike_11 rfl (lv_at hl 0 rfl) ?_
    refine va_get (ci := 0) (v := .int r1) (C := RX0) (T := TX0) (N := 3) hx hb hts iw_X0isLike_X0 hown hK hP 0 rfl rfl 1 (by decide) (hts (.fieldLink RX0 13 "BackMirror$Thing" "rights" "I") (by decide +kernel)) (fun _ h9 => h9) rfl dX0_isLike_12 ?_
    refine lv_aload_n hx hb dX0_isLike_15 rfl (lv_at hl 1 rfl) ?_
    refine va_get (ci := 0) (v := .int r2) (C := RX0) (T := TX0) (N := 3) hx hb hts iw_X0isLike_X0 hown hK hP 2 rfl rfl 1 (by decide) (hts (.fieldLink RX0 13 "BackMirror$Thing" "rights" "I") (by decide +kernel)) (fun _ h9 => h9) rfl dX0_isLike_16 ?_
    refine lv_icmp_ne (tgt := 40) hx hb dX0_isLike_19 (by decide) (fun c19 => ?_) (fun c19 => ?_)
    · refine lv_iconst (v := nI 0) hx hb dX0_isLike_40 (by decide) ?_
      exact W.zret hx hb hr (xnb _ (by omega)) (fun t9 ht9 hW9 => ⟨_, rfl, by first | (rw [sameB_t (a := (k1, r1, n1, f)) (b := (k2, r2, n2, g)) (by assumption) (by assumption) (by assumption)]; rfl) | (rw [sameB_f1 (a := (k1, r1, n1, f)) (b := (k2, r2, n2, g)) (by assumption)]; rfl) | (rw [sameB_f2 (a := (k1, r1, n1, f)) (b := (k2, r2, n2, g)) (by assumption)]; rfl) | (rw [sameB_f3 (a := (k1, r1, n1, f)) (b := (k2, r2, n2, g)) (by assumption)]; rfl), ht9⟩) (fun _ h => nomatch h) dX0_isLike_41
    · refine lv_aload_n hx hb dX0_isLike_22 rfl (lv_at hl 0 rfl) ?_
      refine va_get (ci := 0) (v := .ref q1) (C := RX0) (T := TX0) (N := 3) hx hb hts iw_X0isLike_X0 hown hK hP 0 rfl rfl 2 (by decide) (hts (.fieldLink RX0 16 "BackMirror$Thing" "numbers" "[I") (by decide +kernel)) (fun _ h9 => h9) rfl dX0_isLike_23 ?_
      refine lv_aload_n hx hb dX0_isLike_26 rfl (lv_at hl 1 rfl) ?_
      refine va_get (ci := 0) (v := .ref q2) (C := RX0) (T := TX0) (N := 3) hx hb hts iw_X0isLike_X0 hown hK hP 2 rfl rfl 2 (by decide) (hts (.fieldLink RX0 16 "BackMirror$Thing" "numbers" "[I") (by decide +kernel)) (fun _ h9 => h9) rfl dX0_isLike_27 ?_
      refine xc_sie (va_runSN (As := [.ref q1, .ref q2]) (rest := []) ⟨hx, hb, hml, hown, hts⟩ (c_X1_isSameRow l q1 q2 n1 n2 f g hn1 hn2) ⟨va_cnB 2 hts gX0_isLike_X1_isSameRow_n20 rfl rfl rfl hE.2.1 (hts (.initialized RX1) (by decide +kernel)) (by decide +kernel) ⟨(Nat.le_of_ble_eq_true rfl), (Nat.le_of_ble_eq_true rfl)⟩, hts (.static yX1_isSameRow) (by decide +kernel), trivial⟩ ⟨XP_blind, XP_pre hE (hP.sub [1, 3] rfl)⟩ rfl rfl hl.1 rfl (lv_room (Nat.le_of_ble_eq_true rfl)) dX0_isLike_30 ⟨Nat.le_of_ble_eq_true rfl, Nat.le_of_ble_eq_true rfl⟩) ?_
      refine lv_if_eq (tgt := 40) hx hb dX0_isLike_33 (by decide) (fun c33 => ?_) (fun c33 => ?_)
      · have c33 : (rowB n1 n2 f g) = false := bN_f c33
        refine lv_iconst (v := nI 0) hx hb dX0_isLike_40 (by decide) ?_
        exact W.zret hx hb hr (xnb _ (by omega)) (fun t9 ht9 hW9 => ⟨_, rfl, by first | (rw [sameB_t (a := (k1, r1, n1, f)) (b := (k2, r2, n2, g)) (by assumption) (by assumption) (by assumption)]; rfl) | (rw [sameB_f1 (a := (k1, r1, n1, f)) (b := (k2, r2, n2, g)) (by assumption)]; rfl) | (rw [sameB_f2 (a := (k1, r1, n1, f)) (b := (k2, r2, n2, g)) (by assumption)]; rfl) | (rw [sameB_f3 (a := (k1, r1, n1, f)) (b := (k2, r2, n2, g)) (by assumption)]; rfl), ht9⟩) (fun _ h => nomatch h) dX0_isLike_41
      · have c33 : (rowB n1 n2 f g) = true := bN_t c33
        refine lv_iconst (v := nI 1) hx hb dX0_isLike_36 (by decide) ?_
        refine lv_goto (tgt := 41) hx hb dX0_isLike_37 (by decide) ?_
        exact W.zret hx hb hr (xnb _ (by omega)) (fun t9 ht9 hW9 => ⟨_, rfl, by first | (rw [sameB_t (a := (k1, r1, n1, f)) (b := (k2, r2, n2, g)) (by assumption) (by assumption) (by assumption)]; rfl) | (rw [sameB_f1 (a := (k1, r1, n1, f)) (b := (k2, r2, n2, g)) (by assumption)]; rfl) | (rw [sameB_f2 (a := (k1, r1, n1, f)) (b := (k2, r2, n2, g)) (by assumption)]; rfl) | (rw [sameB_f3 (a := (k1, r1, n1, f)) (b := (k2, r2, n2, g)) (by assumption)]; rfl), ht9⟩) (fun _ h => nomatch h) dX0_isLike_41
