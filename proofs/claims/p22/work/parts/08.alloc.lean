/-! rowWith, rowWithout: a new row at the world's end -/
theorem xlast (ws : va_W) (c : Nat × va_E) : (ws ++ [c])[ws.length]? = some c := by simp
theorem xsetl (ws : va_W) (c e : Nat × va_E) : (ws ++ [c]).set ws.length e = ws ++ [e] := by simp
def insR (f : Nat → Int32) (sp : Nat) (x : Int32) : Nat → Int32 := fun j => if j < sp then f j else if j = sp then x else f (j - 1)
def delR (f : Nat → Int32) (sp : Nat) : Nat → Int32 := fun j => if j < sp then f j else f (j + 1)

set_option maxHeartbeats 4000000 in
set_option maxRecDepth 100000 in
theorem c_X1_rowWith (l : Launch) {D : va_G} {cI cT cJ : ClassId} (ws : va_W) (a n1 sp sz : Nat) (x : Int32) (f : Nat → Int32) (hm : (a, .inl (cI, n1, .inl f)) ∈ ws) (hn : n1 < 12) (hsp : sp ≤ n1) : Met l yX1_rowWith wsX1_rowWith (rmD 1 1 12) (XP D cI cT cJ [.ref a, .int (nI sp), .int x] (fun H => H.size = sz ∧ va_P D vwCl ws H ∧ va_D (fun _ => True) ws)) (va_Qr (S := Unit) (fun _ => True) (fun _ q t => ∃ f', (∀ j, j < n1 + 1 → f' j = insR f sp x j) ∧ va_P D vwCl (ws ++ [(q, .inl (cI, n1 + 1, .inl f'))]) t.heap ∧ va_D (va_A ws sz) (ws ++ [(q, .inl (cI, n1 + 1, .inl f'))])) (va_A ws sz)) 1 12 (va_A ws sz) := by
  refine Met.ofW (cc := cX1_rowWith) (maxL := 5) (ret := (some (.array .int))) (by decide) rfl ?_
  intro p e s m args below meth c s₁ B hml hv
  obtain ⟨rfl, ⟨hsz, hP, hD0⟩, hE⟩ := hv
  have hx := B.exec
  have hb := B.bytes
  have hr := B.returns
  have hts := atoms_spec (ws := wsX1_rowWith) B.pre
  have hown : s.vm.findClass RX1 = some m.cls := findClass_of_methodNamed B.named
  have hlocks := B.notSynchronized
  have hl := lv_entry ([.ref a, .int (nI sp), .int x]) (n := 5) (Nat.le_of_ble_eq_true rfl)
  rw [lg_entry_eq]
  generalize (lg_sl ([.ref a, .int (nI sp), .int x]) ++ List.replicate (5 - (lg_sl ([.ref a, .int (nI sp), .int x])).length) Slot.unset).toArray = ls at hl ⊢
  have hl : lv_has ls 5 [(0, .ref a), (1, .int (nI sp)), (2, .int x)] := hl
  have hK := hE.1
  subst hsz
  have hD := hD0.self (sz := s.heap.size)
  generalize hAe : va_A ws s.heap.size = A at hD ⊢
  have hA : ∀ q : Nat, s.heap.size ≤ q → A q := fun q h => by rw [← hAe]; exact Or.inr h
  have hS : va_S A s.heap s.heap [] := va_S.rf
  refine lv_aload_n hx hb dX1_rowWith_0 rfl (lv_at hl 0 rfl) ?_
  refine va_alen hx hb hK (x1 hP hm) 0 0 rfl rfl (v := nI n1) rfl dX1_rowWith_1 ?_
  refine lv_iconst (v := nI 1) hx hb dX1_rowWith_2 (by decide) ?_
  refine lv_iadd hx hb dX1_rowWith_3 ?_
  refine x_top (nI (n1 + 1)) (xadd (by omega)) ?_
  refine va_newa (atype := .int) (a0 := (n1 + 1, .inl (fun _ => 0))) hx hb (hts (.arrayClass .int) (by decide +kernel)) rfl hK hP hD hS hA (fun _ => rfl) (xlt0 (by omega)) (nI_clamp (by omega)) (by show _ * 4 ≤ _; omega) (by first | exact Nat.le_of_ble_eq_true rfl | (show _ + _ ≤ 1; omega)) (by first | exact Nat.le_of_ble_eq_true rfl | (show _ + _ ≤ 12; omega)) dX1_rowWith_4 (fun q cA9 H hK9 hP hD hS => ?_)
  have hc9 := xcI hK9 hK 3 0 rfl rfl
  rw [hc9] at hP hD
  clear hK9 hc9
  have hP : va_P D vwCl ((ws ++ [(q, .inl (cI, n1 + 1, .inl (fun _ => 0)))])) H := hP
  have hD : va_D A ((ws ++ [(q, .inl (cI, n1 + 1, .inl (fun _ => 0)))])) := hD
  refine lv_astore_n (lv' := [(3, .ref q), (0, .ref a), (1, .int (nI sp)), (2, .int x)]) hx hb dX1_rowWith_6 rfl hl (by decide) rfl (fun ls hl => ?_)
  refine lv_iconst (v := nI 0) hx hb dX1_rowWith_7 (by decide) ?_
  refine lv_istore (lv' := [(4, .int (nI 0)), (3, .ref q), (0, .ref a), (1, .int (nI sp)), (2, .int x)]) hx hb dX1_rowWith_8 hl (by decide) rfl (fun ls hl => ?_)
  refine x_loop (fun n H locs ls => ∃ (i k : Nat) (f' : Nat → Int32), (k + 1 = n) ∧ (n1 + 1 ≤ i + k) ∧ (i ≤ n1 + 1) ∧ (∀ j, j < i → f' j = insR f sp x j) ∧ va_P D vwCl ((ws ++ [(q, .inl (cI, n1 + 1, .inl f'))])) H ∧ va_D A ((ws ++ [(q, .inl (cI, n1 + 1, .inl f'))])) ∧ va_S A s.heap H locs ∧ lv_has ls 5 [(4, .int (nI i)), (3, .ref q), (0, .ref a), (1, .int (nI sp)), (2, .int x)]) (n1 + 1 + 1) ⟨0, n1 + 1, fun _ => 0, rfl, by omega, by omega, fun j hj => absurd hj (Nat.not_lt_zero j), hP, hD, hS, lv_sub hl [0, 1, 2, 3, 4] rfl⟩ (fun H locs ls h => by obtain ⟨i, k, f', hk, h1, h2, hv, -⟩ := h; omega) (fun n H locs ls h ih => ?_)
  obtain ⟨i, k, f', hk, h1, h2, hv, hP, hD, hS, hl⟩ := h
  refine lv_iload hx hb dX1_rowWith_10 (lv_at hl 0 rfl) ?_
  refine lv_aload_n hx hb dX1_rowWith_12 rfl (lv_at hl 1 rfl) ?_
  refine va_alen hx hb hK hP ws.length 0 (xlast _ _) rfl (v := nI (n1 + 1)) rfl dX1_rowWith_13 ?_
  refine lv_icmp_ge (tgt := 58) hx hb dX1_rowWith_14 (by decide) (fun c14 => ?_) (fun c14 => ?_)
  · have c14 : (n1 + 1) ≤ i := (xle (by omega) (by omega)).mp c14
    refine lv_aload_n hx hb dX1_rowWith_58 rfl (lv_at hl 1 rfl) ?_
    refine W.widen (k := 1) (n := 12) (Nat.le_refl _) (by show 0 + _ ≤ _; omega) ?_
    exact W.aret hx hb hr (Or.inr ⟨_, rfl⟩) (Or.inr ⟨_, rfl⟩) (fun t9 ht9 hW9 => ⟨⟨(), q, rfl, trivial, f', fun j hj => hv j (by omega), by rw [ht9]; exact hP, hD⟩, hS.F ht9⟩) hS.2.2 dX1_rowWith_59
  · have c14 : ¬ (n1 + 1) ≤ i := fun h => c14 ((xle (by omega) (by omega)).mpr h)
    refine lv_iload hx hb dX1_rowWith_17 (lv_at hl 0 rfl) ?_
    refine lv_iload_n hx hb dX1_rowWith_19 rfl (lv_at hl 3 rfl) ?_
    refine lv_icmp_ne (tgt := 31) hx hb dX1_rowWith_20 (by decide) (fun c20 => ?_) (fun c20 => ?_)
    · have c20 : ¬ i = sp := fun h => c20 ((xeq (by omega) (by omega)).mpr h)
      refine lv_aload_n hx hb dX1_rowWith_31 rfl (lv_at hl 1 rfl) ?_
      refine lv_iload hx hb dX1_rowWith_32 (lv_at hl 0 rfl) ?_
      refine lv_aload_n hx hb dX1_rowWith_34 rfl (lv_at hl 2 rfl) ?_
      refine lv_iload hx hb dX1_rowWith_35 (lv_at hl 0 rfl) ?_
      refine lv_iload_n hx hb dX1_rowWith_37 rfl (lv_at hl 3 rfl) ?_
      refine lv_icmp_ge (tgt := 46) hx hb dX1_rowWith_38 (by decide) (fun c38 => ?_) (fun c38 => ?_)
      · have c38 : sp ≤ i := (xle (by omega) (by omega)).mp c38
        refine lv_iload hx hb dX1_rowWith_46 (lv_at hl 0 rfl) ?_
        refine lv_iconst (v := nI 1) hx hb dX1_rowWith_48 (by decide) ?_
        refine lv_isub hx hb dX1_rowWith_49 ?_
        refine x_top (nI (i - 1)) (xsub (by omega)) ?_
        refine va_iald hx hb hK (x1 hP (List.mem_append_left _ hm)) 0 0 rfl rfl (xin (by omega) (by omega)) dX1_rowWith_50 ?_
        refine x_top (f (i - 1)) (by rw [nI_clamp (by omega)]) ?_
        refine va_iast hx hb hK hP hD hS ws.length 0 (xlast _ _) rfl (xin (by omega) (by omega)) dX1_rowWith_51 (fun H locs hP hD hS => ?_)
        rw [nI_clamp (show i < 2 ^ 31 by omega)] at hP hD
        rw [xsetl] at hP hD
        have hP : va_P D vwCl ((ws ++ [(q, .inl (cI, n1 + 1, .inl (upd f' i (f (i - 1)))))])) H := hP
        have hD : va_D A ((ws ++ [(q, .inl (cI, n1 + 1, .inl (upd f' i (f (i - 1)))))])) := hD
        refine lv_iinc (v := nI (i + 1)) (lv' := [(4, .int (nI (i + 1))), (3, .ref q), (0, .ref a), (1, .int (nI sp)), (2, .int x)]) hx hb dX1_rowWith_52 hl (k := 0) rfl (xinc _ 1 _ (by decide)) (by decide) rfl (fun ls hl => ?_)
        refine lv_goto (tgt := 10) hx hb dX1_rowWith_55 (by decide) ?_
        refine ih _ _ _ ⟨i + 1, k - 1, (upd f' i (f (i - 1))), by omega, by omega, by omega, fun j hj => ?_, hP, hD, hS, lv_sub hl [0, 1, 2, 3, 4] rfl⟩
        by_cases e : j = i
        · rw [e, pk_us]; show (f (i - 1)) = insR f sp x i; unfold insR; first | (rw [if_pos (by omega)]; done) | (rw [if_neg (by omega), if_pos (by omega)]; done) | (rw [if_neg (by omega), if_neg (by omega)]; done) | (rw [if_neg (by omega)]; done)
        · rw [pk_un e]; exact hv j (by omega)
      · have c38 : ¬ sp ≤ i := fun h => c38 ((xle (by omega) (by omega)).mpr h)
        refine lv_iload hx hb dX1_rowWith_41 (lv_at hl 0 rfl) ?_
        refine lv_goto (tgt := 50) hx hb dX1_rowWith_43 (by decide) ?_
        refine va_iald hx hb hK (x1 hP (List.mem_append_left _ hm)) 0 0 rfl rfl (xin (by omega) (by omega)) dX1_rowWith_50 ?_
        refine x_top (f i) (by rw [nI_clamp (by omega)]) ?_
        refine va_iast hx hb hK hP hD hS ws.length 0 (xlast _ _) rfl (xin (by omega) (by omega)) dX1_rowWith_51 (fun H locs hP hD hS => ?_)
        rw [nI_clamp (show i < 2 ^ 31 by omega)] at hP hD
        rw [xsetl] at hP hD
        have hP : va_P D vwCl ((ws ++ [(q, .inl (cI, n1 + 1, .inl (upd f' i (f i))))])) H := hP
        have hD : va_D A ((ws ++ [(q, .inl (cI, n1 + 1, .inl (upd f' i (f i))))])) := hD
        refine lv_iinc (v := nI (i + 1)) (lv' := [(4, .int (nI (i + 1))), (3, .ref q), (0, .ref a), (1, .int (nI sp)), (2, .int x)]) hx hb dX1_rowWith_52 hl (k := 0) rfl (xinc _ 1 _ (by decide)) (by decide) rfl (fun ls hl => ?_)
        refine lv_goto (tgt := 10) hx hb dX1_rowWith_55 (by decide) ?_
        refine ih _ _ _ ⟨i + 1, k - 1, (upd f' i (f i)), by omega, by omega, by omega, fun j hj => ?_, hP, hD, hS, lv_sub hl [0, 1, 2, 3, 4] rfl⟩
        by_cases e : j = i
        · rw [e, pk_us]; show (f i) = insR f sp x i; unfold insR; first | (rw [if_pos (by omega)]; done) | (rw [if_neg (by omega), if_pos (by omega)]; done) | (rw [if_neg (by omega), if_neg (by omega)]; done) | (rw [if_neg (by omega)]; done)
        · rw [pk_un e]; exact hv j (by omega)
    · have c20 : i = sp := (xeq (by omega) (by omega)).mp c20
      refine lv_aload_n hx hb dX1_rowWith_23 rfl (lv_at hl 1 rfl) ?_
      refine lv_iload hx hb dX1_rowWith_24 (lv_at hl 0 rfl) ?_
      refine lv_iload_n hx hb dX1_rowWith_26 rfl (lv_at hl 4 rfl) ?_
      refine va_iast hx hb hK hP hD hS ws.length 0 (xlast _ _) rfl (xin (by omega) (by omega)) dX1_rowWith_27 (fun H locs hP hD hS => ?_)
      rw [nI_clamp (show i < 2 ^ 31 by omega)] at hP hD
      rw [xsetl] at hP hD
      have hP : va_P D vwCl ((ws ++ [(q, .inl (cI, n1 + 1, .inl (upd f' i x)))])) H := hP
      have hD : va_D A ((ws ++ [(q, .inl (cI, n1 + 1, .inl (upd f' i x)))])) := hD
      refine lv_goto (tgt := 52) hx hb dX1_rowWith_28 (by decide) ?_
      refine lv_iinc (v := nI (i + 1)) (lv' := [(4, .int (nI (i + 1))), (3, .ref q), (0, .ref a), (1, .int (nI sp)), (2, .int x)]) hx hb dX1_rowWith_52 hl (k := 0) rfl (xinc _ 1 _ (by decide)) (by decide) rfl (fun ls hl => ?_)
      refine lv_goto (tgt := 10) hx hb dX1_rowWith_55 (by decide) ?_
      refine ih _ _ _ ⟨i + 1, k - 1, (upd f' i x), by omega, by omega, by omega, fun j hj => ?_, hP, hD, hS, lv_sub hl [0, 1, 2, 3, 4] rfl⟩
      by_cases e : j = i
      · rw [e, pk_us]; show x = insR f sp x i; unfold insR; first | (rw [if_pos (by omega)]; done) | (rw [if_neg (by omega), if_pos (by omega)]; done) | (rw [if_neg (by omega), if_neg (by omega)]; done) | (rw [if_neg (by omega)]; done)
      · rw [pk_un e]; exact hv j (by omega)

set_option maxHeartbeats 4000000 in
set_option maxRecDepth 100000 in
theorem c_X1_rowWithout (l : Launch) {D : va_G} {cI cT cJ : ClassId} (ws : va_W) (a n1 sp sz : Nat) (f : Nat → Int32) (hm : (a, .inl (cI, n1, .inl f)) ∈ ws) (hn : n1 ≤ 12) (hsp : sp < n1) : Met l yX1_rowWithout wsX1_rowWithout (rmD 1 1 12) (XP D cI cT cJ [.ref a, .int (nI sp)] (fun H => H.size = sz ∧ va_P D vwCl ws H ∧ va_D (fun _ => True) ws)) (va_Qr (S := Unit) (fun _ => True) (fun _ q t => ∃ f', (∀ j, j < n1 - 1 → f' j = delR f sp j) ∧ va_P D vwCl (ws ++ [(q, .inl (cI, n1 - 1, .inl f'))]) t.heap ∧ va_D (va_A ws sz) (ws ++ [(q, .inl (cI, n1 - 1, .inl f'))])) (va_A ws sz)) 1 12 (va_A ws sz) := by
  refine Met.ofW (cc := cX1_rowWithout) (maxL := 4) (ret := (some (.array .int))) (by decide) rfl ?_
  intro p e s m args below meth c s₁ B hml hv
  obtain ⟨rfl, ⟨hsz, hP, hD0⟩, hE⟩ := hv
  have hx := B.exec
  have hb := B.bytes
  have hr := B.returns
  have hts := atoms_spec (ws := wsX1_rowWithout) B.pre
  have hown : s.vm.findClass RX1 = some m.cls := findClass_of_methodNamed B.named
  have hlocks := B.notSynchronized
  have hl := lv_entry ([.ref a, .int (nI sp)]) (n := 4) (Nat.le_of_ble_eq_true rfl)
  rw [lg_entry_eq]
  generalize (lg_sl ([.ref a, .int (nI sp)]) ++ List.replicate (4 - (lg_sl ([.ref a, .int (nI sp)])).length) Slot.unset).toArray = ls at hl ⊢
  have hl : lv_has ls 4 [(0, .ref a), (1, .int (nI sp))] := hl
  have hK := hE.1
  subst hsz
  have hD := hD0.self (sz := s.heap.size)
  generalize hAe : va_A ws s.heap.size = A at hD ⊢
  have hA : ∀ q : Nat, s.heap.size ≤ q → A q := fun q h => by rw [← hAe]; exact Or.inr h
  have hS : va_S A s.heap s.heap [] := va_S.rf
  refine lv_aload_n hx hb dX1_rowWithout_0 rfl (lv_at hl 0 rfl) ?_
  refine va_alen hx hb hK (x1 hP hm) 0 0 rfl rfl (v := nI n1) rfl dX1_rowWithout_1 ?_
  refine lv_iconst (v := nI 1) hx hb dX1_rowWithout_2 (by decide) ?_
  refine lv_isub hx hb dX1_rowWithout_3 ?_
  refine x_top (nI (n1 - 1)) (xsub (by omega)) ?_
  refine va_newa (atype := .int) (a0 := (n1 - 1, .inl (fun _ => 0))) hx hb (hts (.arrayClass .int) (by decide +kernel)) rfl hK hP hD hS hA (fun _ => rfl) (xlt0 (by omega)) (nI_clamp (by omega)) (by show _ * 4 ≤ _; omega) (by first | exact Nat.le_of_ble_eq_true rfl | (show _ + _ ≤ 1; omega)) (by first | exact Nat.le_of_ble_eq_true rfl | (show _ + _ ≤ 12; omega)) dX1_rowWithout_4 (fun q cA9 H hK9 hP hD hS => ?_)
  have hc9 := xcI hK9 hK 3 0 rfl rfl
  rw [hc9] at hP hD
  clear hK9 hc9
  have hP : va_P D vwCl ((ws ++ [(q, .inl (cI, n1 - 1, .inl (fun _ => 0)))])) H := hP
  have hD : va_D A ((ws ++ [(q, .inl (cI, n1 - 1, .inl (fun _ => 0)))])) := hD
  refine lv_astore_n (lv' := [(2, .ref q), (0, .ref a), (1, .int (nI sp))]) hx hb dX1_rowWithout_6 rfl hl (by decide) rfl (fun ls hl => ?_)
  refine lv_iconst (v := nI 0) hx hb dX1_rowWithout_7 (by decide) ?_
  refine lv_istore_n (lv' := [(3, .int (nI 0)), (2, .ref q), (0, .ref a), (1, .int (nI sp))]) hx hb dX1_rowWithout_8 rfl hl (by decide) rfl (fun ls hl => ?_)
  refine x_loop (fun n H locs ls => ∃ (i k : Nat) (f' : Nat → Int32), (k + 1 = n) ∧ (n1 - 1 ≤ i + k) ∧ (i ≤ n1 - 1) ∧ (∀ j, j < i → f' j = delR f sp j) ∧ va_P D vwCl ((ws ++ [(q, .inl (cI, n1 - 1, .inl f'))])) H ∧ va_D A ((ws ++ [(q, .inl (cI, n1 - 1, .inl f'))])) ∧ va_S A s.heap H locs ∧ lv_has ls 4 [(3, .int (nI i)), (2, .ref q), (0, .ref a), (1, .int (nI sp))]) (n1 - 1 + 1) ⟨0, n1 - 1, fun _ => 0, rfl, by omega, by omega, fun j hj => absurd hj (Nat.not_lt_zero j), hP, hD, hS, lv_sub hl [0, 1, 2, 3] rfl⟩ (fun H locs ls h => by obtain ⟨i, k, f', hk, h1, h2, hv, -⟩ := h; omega) (fun n H locs ls h ih => ?_)
  obtain ⟨i, k, f', hk, h1, h2, hv, hP, hD, hS, hl⟩ := h
  refine lv_iload_n hx hb dX1_rowWithout_9 rfl (lv_at hl 0 rfl) ?_
  refine lv_aload_n hx hb dX1_rowWithout_10 rfl (lv_at hl 1 rfl) ?_
  refine va_alen hx hb hK hP ws.length 0 (xlast _ _) rfl (v := nI (n1 - 1)) rfl dX1_rowWithout_11 ?_
  refine lv_icmp_ge (tgt := 38) hx hb dX1_rowWithout_12 (by decide) (fun c12 => ?_) (fun c12 => ?_)
  · have c12 : (n1 - 1) ≤ i := (xle (by omega) (by omega)).mp c12
    refine lv_aload_n hx hb dX1_rowWithout_38 rfl (lv_at hl 1 rfl) ?_
    refine W.widen (k := 1) (n := 12) (Nat.le_refl _) (by show 0 + _ ≤ _; omega) ?_
    exact W.aret hx hb hr (Or.inr ⟨_, rfl⟩) (Or.inr ⟨_, rfl⟩) (fun t9 ht9 hW9 => ⟨⟨(), q, rfl, trivial, f', fun j hj => hv j (by omega), by rw [ht9]; exact hP, hD⟩, hS.F ht9⟩) hS.2.2 dX1_rowWithout_39
  · have c12 : ¬ (n1 - 1) ≤ i := fun h => c12 ((xle (by omega) (by omega)).mpr h)
    refine lv_aload_n hx hb dX1_rowWithout_15 rfl (lv_at hl 1 rfl) ?_
    refine lv_iload_n hx hb dX1_rowWithout_16 rfl (lv_at hl 0 rfl) ?_
    refine lv_aload_n hx hb dX1_rowWithout_17 rfl (lv_at hl 2 rfl) ?_
    refine lv_iload_n hx hb dX1_rowWithout_18 rfl (lv_at hl 0 rfl) ?_
    refine lv_iload_n hx hb dX1_rowWithout_19 rfl (lv_at hl 3 rfl) ?_
    refine lv_icmp_ge (tgt := 27) hx hb dX1_rowWithout_20 (by decide) (fun c20 => ?_) (fun c20 => ?_)
    · have c20 : sp ≤ i := (xle (by omega) (by omega)).mp c20
      refine lv_iload_n hx hb dX1_rowWithout_27 rfl (lv_at hl 0 rfl) ?_
      refine lv_iconst (v := nI 1) hx hb dX1_rowWithout_28 (by decide) ?_
      refine lv_iadd hx hb dX1_rowWithout_29 ?_
      refine x_top (nI (i + 1)) (xadd (by omega)) ?_
      refine va_iald hx hb hK (x1 hP (List.mem_append_left _ hm)) 0 0 rfl rfl (xin (by omega) (by omega)) dX1_rowWithout_30 ?_
      refine x_top (f (i + 1)) (by rw [nI_clamp (by omega)]) ?_
      refine va_iast hx hb hK hP hD hS ws.length 0 (xlast _ _) rfl (xin (by omega) (by omega)) dX1_rowWithout_31 (fun H locs hP hD hS => ?_)
      rw [nI_clamp (show i < 2 ^ 31 by omega)] at hP hD
      rw [xsetl] at hP hD
      have hP : va_P D vwCl ((ws ++ [(q, .inl (cI, n1 - 1, .inl (upd f' i (f (i + 1)))))])) H := hP
      have hD : va_D A ((ws ++ [(q, .inl (cI, n1 - 1, .inl (upd f' i (f (i + 1)))))])) := hD
      refine lv_iinc (v := nI (i + 1)) (lv' := [(3, .int (nI (i + 1))), (2, .ref q), (0, .ref a), (1, .int (nI sp))]) hx hb dX1_rowWithout_32 hl (k := 0) rfl (xinc _ 1 _ (by decide)) (by decide) rfl (fun ls hl => ?_)
      refine lv_goto (tgt := 9) hx hb dX1_rowWithout_35 (by decide) ?_
      refine ih _ _ _ ⟨i + 1, k - 1, (upd f' i (f (i + 1))), by omega, by omega, by omega, fun j hj => ?_, hP, hD, hS, lv_sub hl [0, 1, 2, 3] rfl⟩
      by_cases e : j = i
      · rw [e, pk_us]; show (f (i + 1)) = delR f sp i; unfold delR; first | (rw [if_pos (by omega)]; done) | (rw [if_neg (by omega), if_pos (by omega)]; done) | (rw [if_neg (by omega), if_neg (by omega)]; done) | (rw [if_neg (by omega)]; done)
      · rw [pk_un e]; exact hv j (by omega)
    · have c20 : ¬ sp ≤ i := fun h => c20 ((xle (by omega) (by omega)).mpr h)
      refine lv_iload_n hx hb dX1_rowWithout_23 rfl (lv_at hl 0 rfl) ?_
      refine lv_goto (tgt := 30) hx hb dX1_rowWithout_24 (by decide) ?_
      refine va_iald hx hb hK (x1 hP (List.mem_append_left _ hm)) 0 0 rfl rfl (xin (by omega) (by omega)) dX1_rowWithout_30 ?_
      refine x_top (f i) (by rw [nI_clamp (by omega)]) ?_
      refine va_iast hx hb hK hP hD hS ws.length 0 (xlast _ _) rfl (xin (by omega) (by omega)) dX1_rowWithout_31 (fun H locs hP hD hS => ?_)
      rw [nI_clamp (show i < 2 ^ 31 by omega)] at hP hD
      rw [xsetl] at hP hD
      have hP : va_P D vwCl ((ws ++ [(q, .inl (cI, n1 - 1, .inl (upd f' i (f i))))])) H := hP
      have hD : va_D A ((ws ++ [(q, .inl (cI, n1 - 1, .inl (upd f' i (f i))))])) := hD
      refine lv_iinc (v := nI (i + 1)) (lv' := [(3, .int (nI (i + 1))), (2, .ref q), (0, .ref a), (1, .int (nI sp))]) hx hb dX1_rowWithout_32 hl (k := 0) rfl (xinc _ 1 _ (by decide)) (by decide) rfl (fun ls hl => ?_)
      refine lv_goto (tgt := 9) hx hb dX1_rowWithout_35 (by decide) ?_
      refine ih _ _ _ ⟨i + 1, k - 1, (upd f' i (f i)), by omega, by omega, by omega, fun j hj => ?_, hP, hD, hS, lv_sub hl [0, 1, 2, 3] rfl⟩
      by_cases e : j = i
      · rw [e, pk_us]; show (f i) = delR f sp i; unfold delR; first | (rw [if_pos (by omega)]; done) | (rw [if_neg (by omega), if_pos (by omega)]; done) | (rw [if_neg (by omega), if_neg (by omega)]; done) | (rw [if_neg (by omega)]; done)
      · rw [pk_un e]; exact hv j (by omega)
