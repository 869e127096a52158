/-! from the law's entry to its loop -/
theorem x_va_P_nil {D : va_G} {H : Heap} : va_P D vwCl [] H := fun k q h => by simp at h
theorem xpm {α : Type} (A B : List α) (c : α) : ((A ++ B) ++ [c]).Perm (B ++ c :: A) := by
  have h1 : ((A ++ B) ++ [c]).Perm (c :: (A ++ B)) := List.perm_append_comm (l₁ := A ++ B) (l₂ := [c])
  have h2 : (A ++ B).Perm (B ++ A) := List.perm_append_comm
  exact h1.trans ((h2.cons c).trans List.perm_middle.symm)
theorem x_va_D_nil {A : Nat → Prop} : va_D A [] := ⟨fun i j p q h => by simp at h, fun k q h => by simp at h⟩
set_option maxHeartbeats 4000000 in
set_option maxRecDepth 100000 in
/-- YOUR PART: from the entry, for every script of at most 2048 ints, the law comes to its end with true ('hflags': the launch's flags, for a law that throws: no stack traces) -/
theorem whole_start {p : Program} {e : Env} {s : State} {m : MethodId} {below : List Frame} {meth : Method} {c : Code} (l : Launch) (hflags : l.flags = flags0) {b L : Nat} {xs : Nat → Int32} (hL : L ≤ 2048) (C0 : lw_At p s m meth c b L xs) : W p l e room_1 s m #[Value.ref b] below meth c s.heap [] 0 0 (lw_Z below #[Value.ref b] s) (entryFrame m ([Value.ref b] : List Value).toArray 7) := by
  obtain ⟨hx, hb, hr, hml, hownL, htsT, hX, hbl, hlocks, hgv⟩ := C0
  have hown : s.vm.findClass RL = some m.cls := hownL
  have hts : ∀ w ∈ wsL_law, w.before #[Value.ref b] s = true := fun w h => htsT w (wsL_law_in w h)
  have hs := flat_of_before _ hgv
  have hst : l.stackTraces = false := by
    unfold Launch.stackTraces
    rw [hflags]
    decide
  obtain ⟨D, cI, cT, cJ, hK⟩ := x_K hts (htsT _ x_ovrW)
  have hE : XE D cI cT cJ s := ⟨hK, va_Nw.of rfl (htsT _ x_nstW), htsT _ x_ovrW⟩
  have hcur : s.vm.findClass RX1 = some (D.1 1) := (hK.1 1 _ rfl).2.1
  have hT : XT (fun q : Nat => s.heap.size ≤ q) s s.heap := ⟨fun q hq => x_str hcur (htsT _ (x_strW q hq)), fun X hX => va_Nw.of rfl (htsT _ (x_casW X hX)), fun Y hY => va_Nw.of rfl (htsT _ (x_decW Y hY)),
    vx_Zqof (htsT _ x_layW.1) (htsT _ x_layW.2.2) (hs _ x_refW.1) (fun a h1 h2 => absurd h1 (Nat.not_lt.mpr h2)), vx_Zqof (htsT _ x_layW.2.1) (htsT _ x_layW.2.2) (hs _ x_refW.2) (fun a h1 h2 => absurd h1 (Nat.not_lt.mpr h2))⟩
  have hN : XN s := ⟨va_Nc.of (hs _ x_ncW.1), va_Nc.of (hs _ x_ncW.2.1), va_Nc.of (hs _ x_ncW.2.2.1), va_Nc.of (hs _ x_ncW.2.2.2)⟩
  have hA : ∀ q : Nat, s.heap.size ≤ q → (fun q : Nat => s.heap.size ≤ q) q := fun _ h => h
  have hX0 : LCX p l s m c D cI cT cJ (fun q : Nat => s.heap.size ≤ q) b L xs := ⟨hx, hb, hml, hown, hts, hX, hbl, hL, hst, hE, hT, hN, hA, Nat.not_le.mpr hbl⟩
  have hS : va_S (fun q : Nat => s.heap.size ≤ q) s.heap s.heap [] := va_S.rf
  have hP : va_P D vwCl [] s.heap := x_va_P_nil
  have hD : va_D (fun q : Nat => s.heap.size ≤ q) [] := x_va_D_nil
  have hl := lv_entry ([.ref b]) (n := 7) (Nat.le_of_ble_eq_true rfl)
  rw [lg_entry_eq]
  generalize (lg_sl ([.ref b]) ++ List.replicate (7 - (lg_sl ([.ref b])).length) Slot.unset).toArray = ls at hl ⊢
  have hl : lv_has ls 7 [(0, .ref b)] := hl
  refine va_new (ci := 1) (fs := [.null, .null, .int 0, .int 0, .int 0, .int 0]) (C := RX1) (T := TX1) (N := 6) hx hb hts inlX1 tyX1 tyX1_ok hown (hts (.classLink RL 8 RX1) (by decide +kernel)) (hts (.instantiable RX1 6) (by decide +kernel)) (hts (.initialized RX1) (by decide +kernel)) hK hP hD hS hA rfl (by intro j hj; match j, hj with | 0, _ => rfl | 1, _ => rfl | 2, _ => rfl | 3, _ => rfl | 4, _ => rfl | 5, _ => rfl) (Nat.le_of_ble_eq_true rfl) (Nat.le_of_ble_eq_true rfl) dL_law_0 (fun x H hP hD hS => ?_)
  have hP : va_P D vwCl [(x, .inr (1, [.null, .null, .int 0, .int 0, .int 0, .int 0]))] H := hP
  have hD : va_D (fun q : Nat => s.heap.size ≤ q) [(x, .inr (1, [.null, .null, .int 0, .int 0, .int 0, .int 0]))] := hD
  refine lv_dup hx hb dL_law_3 rfl ?_
  have hFc := xfree (wc := [(x, .inr (1, [.null, .null, .int 0, .int 0, .int 0, .int 0]))]) hD hS hA (fun _ h => h)
  refine va_callv (va_runI (As := []) (rest := [.ref x]) ⟨hx, hb, hml, hown, hts⟩ (c_X1_init l x H.size) (cwI 0 hts gL_law_X1_init rfl rfl rfl (hts (.initialized RX1) (by decide +kernel)) (hts (.methodLink RL 57 yX1_init) (by decide +kernel)) (hts (.instanceMethod yX1_init) (by decide +kernel)) rfl (by decide +kernel) ⟨(Nat.le_of_ble_eq_true rfl), (Nat.le_of_ble_eq_true rfl)⟩) ⟨XP_blind, XP_pre hE ⟨rfl, hP, hD.weaken (fun _ _ _ _ => trivial)⟩⟩ rfl rfl hl.1 rfl (lv_room (Nat.le_of_ble_eq_true rfl)) dL_law_4 ⟨Nat.le_of_ble_eq_true rfl, Nat.le_of_ble_eq_true rfl⟩) hS (fun q9 _ h => hFc q9 h) hFc (fun u t9 H1 locs ht9 hvm9 hw9 hB9 hzc hkc hS => ?_)
  obtain ⟨lv, kp⟩ := u
  obtain ⟨fL, fK, FZ, hP1, hD1, hC⟩ := hB9
  rw [ht9] at hP1
  obtain ⟨hP, hD⟩ := xjoin (wr := []) (wc := [(x, .inr (1, [.null, .null, .int 0, .int 0, .int 0, .int 0]))]) hP hD hkc hFc hP1 hD1
  generalize H1 = H at hP hS ⊢
  have hP : va_P D vwCl (CW cT x lv kp fL fK 0 0 0 0 FZ) H := hP
  have hD : va_D (fun q : Nat => s.heap.size ≤ q) (CW cT x lv kp fL fK 0 0 0 0 FZ) := hD
  refine lv_astore_n (lv' := [(1, .ref x), (0, .ref b)]) hx hb dL_law_7 rfl hl (by decide) rfl (fun ls hl => ?_)
  refine va_new (ci := 2) (fs := [.null, .null, .null, .null, .int 0, .int 0, .int 0, .int 0, .int 0]) (C := RX2) (T := TX2) (N := 9) hx hb hts inlX2 tyX2 tyX2_ok hown (hts (.classLink RL 58 RX2) (by decide +kernel)) (hts (.instantiable RX2 9) (by decide +kernel)) (hts (.initialized RX2) (by decide +kernel)) hK hP hD hS hA rfl (by intro j hj; match j, hj with | 0, _ => rfl | 1, _ => rfl | 2, _ => rfl | 3, _ => rfl | 4, _ => rfl | 5, _ => rfl | 6, _ => rfl | 7, _ => rfl | 8, _ => rfl) (Nat.le_of_ble_eq_true rfl) (Nat.le_of_ble_eq_true rfl) dL_law_8 (fun m0 H hP hD hS => ?_)
  refine lv_dup hx hb dL_law_11 rfl ?_
  have hFc := xfree (wc := [(m0, .inr (2, [.null, .null, .null, .null, .int 0, .int 0, .int 0, .int 0, .int 0]))]) hD hS hA (fun _ h => List.mem_append_right _ h)
  have hPc : va_P D vwCl [(m0, .inr (2, [.null, .null, .null, .null, .int 0, .int 0, .int 0, .int 0, .int 0]))] H := xP_sub (fun _ h => List.mem_append_right _ h) hP
  have hDc : va_D (fun _ => True) [(m0, .inr (2, [.null, .null, .null, .null, .int 0, .int 0, .int 0, .int 0, .int 0]))] := (xD_sub (List.sublist_append_right _ _) hD).weaken (fun _ _ _ _ => trivial)
  refine va_callv (va_runI (As := []) (rest := [.ref m0]) ⟨hx, hb, hml, hown, hts⟩ (c_X2_init l m0 H.size) (cwI 0 hts gL_law_X2_init rfl rfl rfl (hts (.initialized RX2) (by decide +kernel)) (hts (.methodLink RL 60 yX2_init) (by decide +kernel)) (hts (.instanceMethod yX2_init) (by decide +kernel)) rfl (by decide +kernel) ⟨(Nat.le_of_ble_eq_true rfl), (Nat.le_of_ble_eq_true rfl)⟩) ⟨XP_blind, XP_pre hE ⟨rfl, hPc, hDc⟩⟩ rfl rfl hl.1 rfl (lv_room (Nat.le_of_ble_eq_true rfl)) dL_law_12 ⟨Nat.le_of_ble_eq_true rfl, Nat.le_of_ble_eq_true rfl⟩) hS (fun q9 _ h => hFc q9 h) hFc (fun u t9 H1 locs ht9 hvm9 hw9 hB9 hzc hkc hS => ?_)
  obtain ⟨a1, a2, a3, a4⟩ := u
  obtain ⟨K, R, L', N, hP1, hD1, hM⟩ := hB9
  rw [ht9] at hP1
  obtain ⟨hP, hD⟩ := xjoin (wc := [(m0, .inr (2, [.null, .null, .null, .null, .int 0, .int 0, .int 0, .int 0, .int 0]))]) hP hD hkc hFc hP1 hD1
  generalize H1 = H at hP hS ⊢
  have hP : va_P D vwCl (CW cT x lv kp fL fK 0 0 0 0 FZ ++ MWs cI m0 a1 a2 a3 a4 K R L' N 0 0 0 0 0) H := hP
  have hD : va_D (fun q : Nat => s.heap.size ≤ q) (CW cT x lv kp fL fK 0 0 0 0 FZ ++ MWs cI m0 a1 a2 a3 a4 K R L' N 0 0 0 0 0) := hD
  refine lv_astore_n (lv' := [(2, .ref m0), (1, .ref x), (0, .ref b)]) hx hb dL_law_15 rfl hl (by decide) rfl (fun ls hl => ?_)
  refine lv_iconst (v := nI 1) hx hb dL_law_16 (by decide) ?_
  refine va_newa (atype := .long) (a0 := (1, .inr (.inl (fun _ => 0)))) hx hb (hts (.arrayClass .long) (by decide +kernel)) rfl hK hP hD hS hA (fun _ => rfl) (xlt0 (by omega)) (nI_clamp (by omega)) (Nat.le_of_ble_eq_true rfl) (Nat.le_of_ble_eq_true rfl) (Nat.le_of_ble_eq_true rfl) dL_law_17 (fun ou cA9 H hK9 hP hD hS => ?_)
  have hc9 := xcI hK9 hK 3 2 rfl rfl
  rw [hc9] at hP hD
  refine lv_astore_n (lv' := [(3, .ref ou), (2, .ref m0), (1, .ref x), (0, .ref b)]) hx hb dL_law_19 rfl hl (by decide) rfl (fun ls hl => ?_)
  refine lv_iconst (v := nI 0) hx hb dL_law_20 (by decide) ?_
  refine lv_istore (lv' := [(4, .int (nI 0)), (3, .ref ou), (2, .ref m0), (1, .ref x), (0, .ref b)]) hx hb dL_law_21 hl (by decide) rfl (fun ls hl => ?_)
  have hpm : ((CW cT x lv kp fL fK 0 0 0 0 FZ ++ MWs cI m0 a1 a2 a3 a4 K R L' N 0 0 0 0 0) ++ ([(ou, .inl (cJ, 1, .inr (.inl (fun _ => 0))))] : va_W)).Perm (MWs cI m0 a1 a2 a3 a4 K R L' N 0 0 0 0 0 ++ LWs cT cJ ou x lv kp (fun _ => 0) fL fK 0 0 0 0 FZ) :=
    xpm _ _ _
  have hP := xP_perm hpm hP
  have hD := xD_perm hpm hD
  refine W.widen (k := 19 + 8 * (513 - 513)) (n := 4316 + 40 * (513 - 513)) (Nat.le_of_ble_eq_true rfl) (Nat.le_of_ble_eq_true rfl) ?_
  exact law_loop hr hlocks hX0 (u0 := (G0, 0, 0, 0, 0)) ⟨Nat.le_refl _, Nat.zero_le _, Nat.zero_le _, fun _ => rfl⟩ ⟨0, fun _ => 0, fL, fK, FZ, K, R, L', N, hP, hD, hC, hM, hS⟩ (lv_sub hl [0, 4, 3, 2, 1] rfl)
