/-! the reference: its object and its four rows -/
def MA (G : Nat → Tv) (K R L N : Nat → Int32) : Prop := ∀ i, i < 252 → K i = (G i).1 ∧ R i = (G i).2.1 ∧ L i = nI (G i).2.2.1 ∧ (G i).2.2.1 ≤ 12 ∧ ∀ j, j < (G i).2.2.1 → N (12 * i + j) = (G i).2.2.2 j
abbrev MWs (cI : ClassId) (m0 a1 a2 a3 a4 : Nat) (K R L N : Nat → Int32) (ld o b k t : Nat) : va_W := [(m0, .inr (2, [.ref a1, .ref a2, .ref a3, .ref a4, .int (nI ld), .int (nI o), .int (nI b), .int (nI k), .int (nI t)])), (a1, .inl (cI, 252, .inl K)), (a2, .inl (cI, 252, .inl R)), (a3, .inl (cI, 252, .inl L)), (a4, .inl (cI, 3024, .inl N))]
def MB (D : va_G) (cI : ClassId) (m0 a1 a2 a3 a4 : Nat) (A : Nat → Prop) (u : Sv) (t : Nat) (H : Heap) : Prop := ∃ K R L N : Nat → Int32, va_P D vwCl (MWs cI m0 a1 a2 a3 a4 K R L N u.2.2.1 u.2.1 u.2.2.2.1 u.2.2.2.2 t) H ∧ va_D A (MWs cI m0 a1 a2 a3 a4 K R L N u.2.2.1 u.2.1 u.2.2.2.1 u.2.2.2.2 t) ∧ MA u.1 K R L N
theorem pl_t {j : Nat} (h : j < 6) : nI 0 ≤ nI j ∧ nI j ≤ nI 5 := ⟨nI_le (Nat.zero_le _) (by omega), nI_le (by omega) (by omega)⟩
theorem in_t {j a b : Nat} (h0 : a ≤ j) (h : j ≤ b) (hb : b < 2 ^ 31) : nI a ≤ nI j ∧ nI j ≤ nI b := ⟨nI_le h0 (by omega), nI_le h hb⟩
theorem in_of {v : Int32} {a b : Nat} (hb : b < 2 ^ 31) (ha : a < 2 ^ 31) (h : nI a ≤ v ∧ v ≤ nI b) : ∃ j, a ≤ j ∧ j ≤ b ∧ v = nI j := by
  have h0 : ¬ v < 0 := Int32.not_lt.mpr (Int32.le_trans (nI_pos' ha) h.1)
  obtain ⟨j, hj, rfl⟩ := xIn_t hb h0 h.2
  exact ⟨j, (xle ha (by omega)).mp h.1, hj, rfl⟩
theorem pl_f {v : Int32} (h : ¬ Pl v) : ¬ (nI 0 ≤ v ∧ v ≤ nI 5) := fun c => by
  obtain ⟨j, -, h2, h3⟩ := in_of (by omega) (by omega) c
  exact h ⟨j, by omega, h3⟩
theorem pl_of {v : Int32} (h : decide (nI 0 ≤ v ∧ v ≤ nI 5) = true) : Pl v := by
  obtain ⟨j, -, h2, h3⟩ := in_of (by omega) (by omega) (of_decide_eq_true h)
  exact ⟨j, by omega, h3⟩
theorem kp_of {v : Int32} {o ld : Nat} (hld : ld ≤ 40) (hold : o ≤ ld) (h : decide (nI o ≤ v ∧ v ≤ nI ld) = true) : Kp o ld v := by
  obtain ⟨j, h1, h2, h3⟩ := in_of (by omega) (by omega) (of_decide_eq_true h)
  exact ⟨j, h1, h2, h3⟩
theorem kp_f {v : Int32} {o ld : Nat} (hld : ld ≤ 40) (hold : o ≤ ld) (h : ¬ Kp o ld v) : ¬ (nI o ≤ v ∧ v ≤ nI ld) := fun c => h (kp_of hld hold (decide_eq_true c))
theorem MA.set {G : Nat → Tv} {K R L N K' R' L' N' : Nat → Int32} (h : MA G K R L N) {i : Nat} {v : Tv} (hlen : v.2.2.1 ≤ 12) (k1 : K' i = v.1) (k2 : ∀ z, z ≠ i → K' z = K z) (r1 : R' i = v.2.1) (r2 : ∀ z, z ≠ i → R' z = R z) (l1 : L' i = nI v.2.2.1) (l2 : ∀ z, z ≠ i → L' z = L z)
    (n1 : ∀ j, j < v.2.2.1 → N' (12 * i + j) = v.2.2.2 j) (n2 : ∀ z, z < 12 * i ∨ 12 * i + 12 ≤ z → N' z = N z) : MA (va_up G i v) K' R' L' N' := by
  intro z hz
  by_cases e : z = i
  · subst e
    rw [va_up_s]
    exact ⟨k1, r1, l1, hlen, n1⟩
  · rw [va_up_n e, k2 z e, r2 z e, l2 z e]
    obtain ⟨h1, h2, h3, h4, h5⟩ := h z hz
    exact ⟨h1, h2, h3, h4, fun j hj => by rw [n2 _ (by omega)]; exact h5 j hj⟩
/-- are the first q numbers the same, and the lengths -/
def arB (n1 n2 : Nat) (f g : Nat → Int32) (q : Nat) : Bool := decide (n1 = n2 ∧ ∀ z, z < q → f z = g z)
theorem arB_0t {n1 n2 : Nat} {f g : Nat → Int32} (h : n1 = n2) : 1 = bN (arB n1 n2 f g 0) := by
  unfold arB
  rw [decide_eq_true ⟨h, fun z hz => absurd hz (Nat.not_lt_zero z)⟩]; rfl
theorem arB_0f {n1 n2 : Nat} {f g : Nat → Int32} (h : ¬ n1 = n2) : 0 = bN (arB n1 n2 f g 0) := by
  unfold arB
  rw [decide_eq_false fun c => h c.1]; rfl
theorem arB_t {n1 n2 q : Nat} {f g : Nat → Int32} (h : arB n1 n2 f g q = true) (e : f q = g q) : 1 = bN (arB n1 n2 f g (q + 1)) := by
  have h := of_decide_eq_true h
  unfold arB
  rw [decide_eq_true ⟨h.1, fun z hz => if c : z = q then by rw [c]; exact e else h.2 z (by omega)⟩]; rfl
theorem arB_f {n1 n2 q : Nat} {f g : Nat → Int32} (e : ¬ f q = g q) : 0 = bN (arB n1 n2 f g (q + 1)) := by
  unfold arB
  rw [decide_eq_false fun c => e (c.2 q (Nat.lt_succ_self q))]; rfl
theorem arB_end {n1 n2 : Nat} {f g : Nat → Int32} : arB n1 n2 f g n1 = rowB n1 n2 f g := rfl
theorem arB_no {n1 n2 q : Nat} {f g : Nat → Int32} (hq : q ≤ n1) (h : arB n1 n2 f g q = false) : rowB n1 n2 f g = false := decide_eq_false fun c => absurd (decide_eq_true (p := n1 = n2 ∧ ∀ z, z < q → f z = g z) ⟨c.1, fun z hz => c.2 z (by omega)⟩) (by rw [show decide (n1 = n2 ∧ ∀ z, z < q → f z = g z) = false from h]; decide)

set_option maxHeartbeats 4000000 in
set_option maxRecDepth 100000 in
theorem c_X2_isIn (l : Launch) {D : va_G} {cI cT cJ : ClassId}  (v x y : Int32) : Met l yX2_isIn wsX2_isIn (rmD 1 0 0) (XP D cI cT cJ [.int v, .int x, .int y] (fun _ => True)) (XSi (fun r => r = nI (bN (decide (x ≤ v ∧ v ≤ y))))) 0 0 (fun _ => False) := by
  refine Met.ofW (cc := cX2_isIn) (maxL := 3) (ret := (some .boolean)) (by decide) rfl ?_
  intro p e s m args below meth c s₁ B hml hv
  obtain ⟨rfl, -, hE⟩ := hv
  have hx := B.exec
  have hb := B.bytes
  have hr := B.returns
  have hts := atoms_spec (ws := wsX2_isIn) B.pre
  have hown : s.vm.findClass RX2 = some m.cls := findClass_of_methodNamed B.named
  have hlocks := B.notSynchronized
  have hl := lv_entry ([.int v, .int x, .int y]) (n := 3) (Nat.le_of_ble_eq_true rfl)
  rw [lg_entry_eq]
  generalize (lg_sl ([.int v, .int x, .int y]) ++ List.replicate (3 - (lg_sl ([.int v, .int x, .int y])).length) Slot.unset).toArray = ls at hl ⊢
  have hl : lv_has ls 3 [(0, .int v), (1, .int x), (2, .int y)] := hl
  have hK := hE.1
  refine lv_iload_n hx hb dX2_isIn_0 rfl (lv_at hl 0 rfl) ?_
  refine lv_iload_n hx hb dX2_isIn_1 rfl (lv_at hl 1 rfl) ?_
  refine lv_icmp_lt (tgt := 14) hx hb dX2_isIn_2 (by decide) (fun c2 => ?_) (fun c2 => ?_)
  · refine lv_iconst (v := nI 0) hx hb dX2_isIn_14 (by decide) ?_
    exact W.zret hx hb hr (by decide) (fun t9 ht9 hW9 => ⟨_, rfl, by first | (rw [decide_eq_true (by exact ⟨Int32.not_lt.mp c2, Int32.not_lt.mp c7⟩)]; rfl) | (rw [decide_eq_false (by exact fun h => absurd c7 (Int32.not_lt.mpr h.2))]; rfl) | (rw [decide_eq_false (by exact fun h => absurd c2 (Int32.not_lt.mpr h.1))]; rfl), ht9⟩) (fun _ h => nomatch h) dX2_isIn_15
  · refine lv_iload_n hx hb dX2_isIn_5 rfl (lv_at hl 0 rfl) ?_
    refine lv_iload_n hx hb dX2_isIn_6 rfl (lv_at hl 2 rfl) ?_
    refine lv_icmp_gt (tgt := 14) hx hb dX2_isIn_7 (by decide) (fun c7 => ?_) (fun c7 => ?_)
    · refine lv_iconst (v := nI 0) hx hb dX2_isIn_14 (by decide) ?_
      exact W.zret hx hb hr (by decide) (fun t9 ht9 hW9 => ⟨_, rfl, by first | (rw [decide_eq_true (by exact ⟨Int32.not_lt.mp c2, Int32.not_lt.mp c7⟩)]; rfl) | (rw [decide_eq_false (by exact fun h => absurd c7 (Int32.not_lt.mpr h.2))]; rfl) | (rw [decide_eq_false (by exact fun h => absurd c2 (Int32.not_lt.mpr h.1))]; rfl), ht9⟩) (fun _ h => nomatch h) dX2_isIn_15
    · refine lv_iconst (v := nI 1) hx hb dX2_isIn_10 (by decide) ?_
      refine lv_goto (tgt := 15) hx hb dX2_isIn_11 (by decide) ?_
      exact W.zret hx hb hr (by decide) (fun t9 ht9 hW9 => ⟨_, rfl, by first | (rw [decide_eq_true (by exact ⟨Int32.not_lt.mp c2, Int32.not_lt.mp c7⟩)]; rfl) | (rw [decide_eq_false (by exact fun h => absurd c7 (Int32.not_lt.mpr h.2))]; rfl) | (rw [decide_eq_false (by exact fun h => absurd c2 (Int32.not_lt.mpr h.1))]; rfl), ht9⟩) (fun _ h => nomatch h) dX2_isIn_15

set_option maxHeartbeats 4000000 in
set_option maxRecDepth 100000 in
theorem c_X2_isPlace (l : Launch) {D : va_G} {cI cT cJ : ClassId}  (v : Int32) : Met l yX2_isPlace wsX2_isPlace (rmD 2 0 0) (XP D cI cT cJ [.int v] (fun _ => True)) (XSi (fun r => r = nI (bN (decide (nI 0 ≤ v ∧ v ≤ nI 5))))) 0 0 (fun _ => False) := by
  refine Met.ofW (cc := cX2_isPlace) (maxL := 1) (ret := (some .boolean)) (by decide) rfl ?_
  intro p e s m args below meth c s₁ B hml hv
  obtain ⟨rfl, -, hE⟩ := hv
  have hx := B.exec
  have hb := B.bytes
  have hr := B.returns
  have hts := atoms_spec (ws := wsX2_isPlace) B.pre
  have hown : s.vm.findClass RX2 = some m.cls := findClass_of_methodNamed B.named
  have hlocks := B.notSynchronized
  have hl := lv_entry ([.int v]) (n := 1) (Nat.le_of_ble_eq_true rfl)
  rw [lg_entry_eq]
  generalize (lg_sl ([.int v]) ++ List.replicate (1 - (lg_sl ([.int v])).length) Slot.unset).toArray = ls at hl ⊢
  have hl : lv_has ls 1 [(0, .int v)] := hl
  have hK := hE.1
  refine lv_iload_n hx hb dX2_isPlace_0 rfl (lv_at hl 0 rfl) ?_
  refine lv_iconst (v := nI 0) hx hb dX2_isPlace_1 (by decide) ?_
  refine lv_iconst (v := nI 5) hx hb dX2_isPlace_2 (by decide) ?_
  refine xc_sie (va_runS (As := [.int v, .int (nI 0), .int (nI 5)]) (rest := []) ⟨hx, hb, hml, hown, hts⟩ (c_X2_isIn l v (nI 0) (nI 5)) (va_cwS 3 hts gX2_isPlace_X2_isIn rfl rfl rfl (by decide +kernel) ⟨(Nat.le_of_ble_eq_true rfl), (Nat.le_of_ble_eq_true rfl)⟩) ⟨XP_blind, XP_pre hE trivial⟩ rfl rfl hl.1 rfl (lv_room (Nat.le_of_ble_eq_true rfl)) dX2_isPlace_3 ⟨Nat.le_of_ble_eq_true rfl, Nat.le_of_ble_eq_true rfl⟩) ?_
  exact W.zret hx hb hr (xnb _ (bN_le _)) (fun t9 ht9 hW9 => ⟨_, rfl, rfl, ht9⟩) (fun _ h => nomatch h) dX2_isPlace_6

set_option maxHeartbeats 4000000 in
set_option maxRecDepth 100000 in
theorem c_X2_at (l : Launch) {D : va_G} {cI cT cJ : ClassId}  (d q : Nat) : Met l yX2_at wsX2_at (rmD 1 0 0) (XP D cI cT cJ [.int (nI d), .int (nI q)] (fun _ => True)) (XSi (fun r => r = nI (6 * d + q))) 0 0 (fun _ => False) := by
  refine Met.ofW (cc := cX2_at) (maxL := 2) (ret := (some .int)) (by decide) rfl ?_
  intro p e s m args below meth c s₁ B hml hv
  obtain ⟨rfl, -, hE⟩ := hv
  have hx := B.exec
  have hb := B.bytes
  have hr := B.returns
  have hts := atoms_spec (ws := wsX2_at) B.pre
  have hown : s.vm.findClass RX2 = some m.cls := findClass_of_methodNamed B.named
  have hlocks := B.notSynchronized
  have hl := lv_entry ([.int (nI d), .int (nI q)]) (n := 2) (Nat.le_of_ble_eq_true rfl)
  rw [lg_entry_eq]
  generalize (lg_sl ([.int (nI d), .int (nI q)]) ++ List.replicate (2 - (lg_sl ([.int (nI d), .int (nI q)])).length) Slot.unset).toArray = ls at hl ⊢
  have hl : lv_has ls 2 [(0, .int (nI d)), (1, .int (nI q))] := hl
  have hK := hE.1
  refine lv_bipush (v := nI 6) hx hb dX2_at_0 (by decide) ?_
  refine lv_iload_n hx hb dX2_at_2 rfl (lv_at hl 0 rfl) ?_
  refine lv_imul hx hb dX2_at_3 ?_
  refine x_top (nI (6 * d)) (pk_mul _ _) ?_
  refine lv_iload_n hx hb dX2_at_4 rfl (lv_at hl 1 rfl) ?_
  refine lv_iadd hx hb dX2_at_5 ?_
  refine x_top (nI ((6 * d) + q)) (xadd (by omega)) ?_
  exact W.iret hx hb hr (fun t9 ht9 hW9 => ⟨_, rfl, rfl, ht9⟩) (fun _ h => nomatch h) dX2_at_6

set_option maxHeartbeats 4000000 in
set_option maxRecDepth 100000 in
theorem c_X2_live (l : Launch) {D : va_G} {cI cT cJ : ClassId}  (q : Nat) : Met l yX2_live wsX2_live (rmD 2 0 0) (XP D cI cT cJ [.int (nI q)] (fun _ => True)) (XSi (fun r => r = nI (246 + q))) 0 0 (fun _ => False) := by
  refine Met.ofW (cc := cX2_live) (maxL := 1) (ret := (some .int)) (by decide) rfl ?_
  intro p e s m args below meth c s₁ B hml hv
  obtain ⟨rfl, -, hE⟩ := hv
  have hx := B.exec
  have hb := B.bytes
  have hr := B.returns
  have hts := atoms_spec (ws := wsX2_live) B.pre
  have hown : s.vm.findClass RX2 = some m.cls := findClass_of_methodNamed B.named
  have hlocks := B.notSynchronized
  have hl := lv_entry ([.int (nI q)]) (n := 1) (Nat.le_of_ble_eq_true rfl)
  rw [lg_entry_eq]
  generalize (lg_sl ([.int (nI q)]) ++ List.replicate (1 - (lg_sl ([.int (nI q)])).length) Slot.unset).toArray = ls at hl ⊢
  have hl : lv_has ls 1 [(0, .int (nI q))] := hl
  have hK := hE.1
  refine lv_bipush (v := nI 41) hx hb dX2_live_0 (by decide) ?_
  refine lv_iload_n hx hb dX2_live_2 rfl (lv_at hl 0 rfl) ?_
  refine xc_sie (va_runS (As := [.int (nI 41), .int (nI q)]) (rest := []) ⟨hx, hb, hml, hown, hts⟩ (c_X2_at l 41 q) (va_cwS 2 hts gX2_live_X2_at rfl rfl rfl (by decide +kernel) ⟨(Nat.le_of_ble_eq_true rfl), (Nat.le_of_ble_eq_true rfl)⟩) ⟨XP_blind, XP_pre hE trivial⟩ rfl rfl hl.1 rfl (lv_room (Nat.le_of_ble_eq_true rfl)) dX2_live_3 ⟨Nat.le_of_ble_eq_true rfl, Nat.le_of_ble_eq_true rfl⟩) ?_
  refine x_top (nI (246 + q)) rfl ?_
  exact W.iret hx hb hr (fun t9 ht9 hW9 => ⟨_, rfl, rfl, ht9⟩) (fun _ h => nomatch h) dX2_live_6

theorem iw_X2thrown_X2 : ∀ w ∈ u_ws RX2 TX2 9, w ∈ wsX2_thrown := by decide +kernel
set_option maxHeartbeats 4000000 in
set_option maxRecDepth 100000 in
theorem c_X2_thrown (l : Launch) {D : va_G} {cI cT cJ : ClassId} (m0 a1 a2 a3 a4 : Nat) (K R L N : Nat → Int32) (ld o b k t : Nat)  : Met l yX2_thrown wsX2_thrown (rmD 1 0 0) (XP D cI cT cJ [.ref m0] (fun H => va_P D vwCl (MWs cI m0 a1 a2 a3 a4 K R L N ld o b k t) H)) (XSi (fun r => r = nI t)) 0 0 (fun _ => False) := by
  refine Met.ofW (cc := cX2_thrown) (maxL := 1) (ret := (some .int)) (by decide) rfl ?_
  intro p e s m args below meth c s₁ B hml hv
  obtain ⟨rfl, hP, hE⟩ := hv
  have hx := B.exec
  have hb := B.bytes
  have hr := B.returns
  have hts := atoms_spec (ws := wsX2_thrown) B.pre
  have hown : s.vm.findClass RX2 = some m.cls := findClass_of_methodNamed B.named
  have hlocks := B.notSynchronized
  have hl := lv_entry ([.ref m0]) (n := 1) (Nat.le_of_ble_eq_true rfl)
  rw [lg_entry_eq]
  generalize (lg_sl ([.ref m0]) ++ List.replicate (1 - (lg_sl ([.ref m0])).length) Slot.unset).toArray = ls at hl ⊢
  have hl : lv_has ls 1 [(0, .ref m0)] := hl
  have hK := hE.1
  refine lv_aload_n hx hb dX2_thrown_0 rfl (lv_at hl 0 rfl) ?_
  refine va_get (ci := 2) (v := .int (nI t)) (C := RX2) (T := TX2) (N := 9) hx hb hts iw_X2thrown_X2 hown hK hP 0 rfl rfl 8 (by decide) (hts (.fieldLink RX2 22 "BackMirrorModel" "thrown" "I") (by decide +kernel)) (fun _ h9 => h9) rfl dX2_thrown_1 ?_
  exact W.iret hx hb hr (fun t9 ht9 hW9 => ⟨_, rfl, rfl, ht9⟩) (fun _ h => nomatch h) dX2_thrown_4

theorem iw_X2goes_X2 : ∀ w ∈ u_ws RX2 TX2 9, w ∈ wsX2_goes := by decide +kernel
set_option maxHeartbeats 4000000 in
set_option maxRecDepth 100000 in
theorem c_X2_goes (l : Launch) {D : va_G} {cI cT cJ : ClassId} (m0 a1 a2 a3 a4 : Nat) (K R L N : Nat → Int32) (ld o b k t : Nat) (w : Nat) (hw : w ≤ 9) (sz : Nat) : Met l yX2_goes wsX2_goes (rmD 1 0 0) (XP D cI cT cJ [.ref m0, .int (nI w)] (fun H => H.size = sz ∧ va_P D vwCl (MWs cI m0 a1 a2 a3 a4 K R L N ld o b k t) H ∧ va_D (fun _ => True) (MWs cI m0 a1 a2 a3 a4 K R L N ld o b k t))) (va_Qi (S := Unit) (fun r _ => r = nI (bN (decide (w = 0)))) (fun _ t9 => va_P D vwCl (MWs cI m0 a1 a2 a3 a4 K R L N ld o b k w) t9.heap ∧ va_D (va_A (MWs cI m0 a1 a2 a3 a4 K R L N ld o b k t) sz) (MWs cI m0 a1 a2 a3 a4 K R L N ld o b k w)) (va_A (MWs cI m0 a1 a2 a3 a4 K R L N ld o b k t) sz)) 0 0 (va_A (MWs cI m0 a1 a2 a3 a4 K R L N ld o b k t) sz) := by
  refine Met.ofW (cc := cX2_goes) (maxL := 2) (ret := (some .boolean)) (by decide) rfl ?_
  intro p e s m args below meth c s₁ B hml hv
  obtain ⟨rfl, ⟨hsz, hP, hD0⟩, hE⟩ := hv
  have hx := B.exec
  have hb := B.bytes
  have hr := B.returns
  have hts := atoms_spec (ws := wsX2_goes) B.pre
  have hown : s.vm.findClass RX2 = some m.cls := findClass_of_methodNamed B.named
  have hlocks := B.notSynchronized
  have hl := lv_entry ([.ref m0, .int (nI w)]) (n := 2) (Nat.le_of_ble_eq_true rfl)
  rw [lg_entry_eq]
  generalize (lg_sl ([.ref m0, .int (nI w)]) ++ List.replicate (2 - (lg_sl ([.ref m0, .int (nI w)])).length) Slot.unset).toArray = ls at hl ⊢
  have hl : lv_has ls 2 [(0, .ref m0), (1, .int (nI w))] := hl
  have hK := hE.1
  subst hsz
  have hD := hD0.self (sz := s.heap.size)
  generalize hAe : va_A ((MWs cI m0 a1 a2 a3 a4 K R L N ld o b k t)) s.heap.size = A at hD ⊢
  have hA : ∀ q : Nat, s.heap.size ≤ q → A q := fun q h => by rw [← hAe]; exact Or.inr h
  have hS : va_S A s.heap s.heap [] := va_S.rf
  refine lv_aload_n hx hb dX2_goes_0 rfl (lv_at hl 0 rfl) ?_
  refine lv_iload_n hx hb dX2_goes_1 rfl (lv_at hl 1 rfl) ?_
  refine va_put (ci := 2) (v := .int (nI w)) (ty := .int) (C := RX2) (T := TX2) (N := 9) hx hb hts iw_X2goes_X2 tyX2 tyX2_ok nmX2 hown hK hP hD hS 0 rfl rfl 8 (by decide) (hts (.fieldLink RX2 22 "BackMirrorModel" "thrown" "I") (by decide +kernel)) (fun _ h9 => h9) rfl (by decide +kernel) rfl rfl (Nat.le_of_ble_eq_true rfl) dX2_goes_2 (fun H locs hP hD hS => ?_)
  have hP : va_P D vwCl [(m0, .inr (2, [.ref a1, .ref a2, .ref a3, .ref a4, .int (nI ld), .int (nI o), .int (nI b), .int (nI k), .int (nI w)])), (a1, .inl (cI, 252, .inl K)), (a2, .inl (cI, 252, .inl R)), (a3, .inl (cI, 252, .inl L)), (a4, .inl (cI, 3024, .inl N))] H := hP
  have hD : va_D A [(m0, .inr (2, [.ref a1, .ref a2, .ref a3, .ref a4, .int (nI ld), .int (nI o), .int (nI b), .int (nI k), .int (nI w)])), (a1, .inl (cI, 252, .inl K)), (a2, .inl (cI, 252, .inl R)), (a3, .inl (cI, 252, .inl L)), (a4, .inl (cI, 3024, .inl N))] := hD
  refine lv_iload_n hx hb dX2_goes_5 rfl (lv_at hl 1 rfl) ?_
  refine lv_if_ne (tgt := 13) hx hb dX2_goes_6 (by decide) (fun c6 => ?_) (fun c6 => ?_)
  · have c6 : ¬ nI w = nI 0 := c6
    have c6 : ¬ w = 0 := fun h => c6 ((xeq (by omega) (by omega)).mpr h)
    refine lv_iconst (v := nI 0) hx hb dX2_goes_13 (by decide) ?_
    exact W.zret hx hb hr (by decide) (fun t9 ht9 hW9 => ⟨⟨_, (), rfl, by first | (rw [decide_eq_true (by omega)]; rfl) | (rw [decide_eq_false (by omega)]; rfl), by rw [ht9]; exact hP, hD⟩, hS.F ht9⟩) hS.2.2 dX2_goes_14
  · have c6 : nI w = nI 0 := c6
    have c6 : w = 0 := (xeq (by omega) (by omega)).mp c6
    refine lv_iconst (v := nI 1) hx hb dX2_goes_9 (by decide) ?_
    refine lv_goto (tgt := 14) hx hb dX2_goes_10 (by decide) ?_
    exact W.zret hx hb hr (by decide) (fun t9 ht9 hW9 => ⟨⟨_, (), rfl, by first | (rw [decide_eq_true (by omega)]; rfl) | (rw [decide_eq_false (by omega)]; rfl), by rw [ht9]; exact hP, hD⟩, hS.F ht9⟩) hS.2.2 dX2_goes_14

theorem iw_X2mends_X2 : ∀ w ∈ u_ws RX2 TX2 9, w ∈ wsX2_mends := by decide +kernel
set_option maxHeartbeats 4000000 in
set_option maxRecDepth 100000 in
theorem c_X2_mends (l : Launch) {D : va_G} {cI cT cJ : ClassId} (m0 a1 a2 a3 a4 : Nat) (K R L N : Nat → Int32) (ld o b k t : Nat) (hbb : b ≤ 1) (hbk : b = 0 → k = 0) (sz : Nat) : Met l yX2_mends wsX2_mends (rmD 1 0 0) (XP D cI cT cJ [.ref m0] (fun H => H.size = sz ∧ va_P D vwCl (MWs cI m0 a1 a2 a3 a4 K R L N ld o b k t) H ∧ va_D (fun _ => True) (MWs cI m0 a1 a2 a3 a4 K R L N ld o b k t))) (va_Qi (S := Unit) (fun r _ => r = nI k) (fun _ t9 => va_P D vwCl (MWs cI m0 a1 a2 a3 a4 K R L N ld o 0 0 t) t9.heap ∧ va_D (va_A (MWs cI m0 a1 a2 a3 a4 K R L N ld o b k t) sz) (MWs cI m0 a1 a2 a3 a4 K R L N ld o 0 0 t)) (va_A (MWs cI m0 a1 a2 a3 a4 K R L N ld o b k t) sz)) 0 0 (va_A (MWs cI m0 a1 a2 a3 a4 K R L N ld o b k t) sz) := by
  refine Met.ofW (cc := cX2_mends) (maxL := 2) (ret := (some .int)) (by decide) rfl ?_
  intro p e s m args below meth c s₁ B hml hv
  obtain ⟨rfl, ⟨hsz, hP, hD0⟩, hE⟩ := hv
  have hx := B.exec
  have hb := B.bytes
  have hr := B.returns
  have hts := atoms_spec (ws := wsX2_mends) B.pre
  have hown : s.vm.findClass RX2 = some m.cls := findClass_of_methodNamed B.named
  have hlocks := B.notSynchronized
  have hl := lv_entry ([.ref m0]) (n := 2) (Nat.le_of_ble_eq_true rfl)
  rw [lg_entry_eq]
  generalize (lg_sl ([.ref m0]) ++ List.replicate (2 - (lg_sl ([.ref m0])).length) Slot.unset).toArray = ls at hl ⊢
  have hl : lv_has ls 2 [(0, .ref m0)] := hl
  have hK := hE.1
  subst hsz
  have hD := hD0.self (sz := s.heap.size)
  generalize hAe : va_A ((MWs cI m0 a1 a2 a3 a4 K R L N ld o b k t)) s.heap.size = A at hD ⊢
  have hA : ∀ q : Nat, s.heap.size ≤ q → A q := fun q h => by rw [← hAe]; exact Or.inr h
  have hS : va_S A s.heap s.heap [] := va_S.rf
  refine lv_aload_n hx hb dX2_mends_0 rfl (lv_at hl 0 rfl) ?_
  refine va_get (ci := 2) (v := .int (nI b)) (C := RX2) (T := TX2) (N := 9) hx hb hts iw_X2mends_X2 hown hK hP 0 rfl rfl 6 (by decide) (hts (.fieldLink RX2 55 "BackMirrorModel" "isBroken" "Z") (by decide +kernel)) (fun _ h9 => h9) rfl dX2_mends_1 ?_
  refine lv_if_eq (tgt := 14) hx hb dX2_mends_4 (by decide) (fun c4 => ?_) (fun c4 => ?_)
  · have c4 : nI b = nI 0 := c4
    have c4 : b = 0 := (xeq (by omega) (by omega)).mp c4
    refine lv_iconst (v := nI 0) hx hb dX2_mends_14 (by decide) ?_
    refine lv_istore_n (lv' := [(1, .int (nI 0)), (0, .ref m0)]) hx hb dX2_mends_15 rfl hl (by decide) rfl (fun ls hl => ?_)
    refine lv_aload_n hx hb dX2_mends_16 rfl (lv_at hl 1 rfl) ?_
    refine lv_iconst (v := nI 0) hx hb dX2_mends_17 (by decide) ?_
    refine va_put (ci := 2) (v := .int (nI 0)) (ty := .boolean) (C := RX2) (T := TX2) (N := 9) hx hb hts iw_X2mends_X2 tyX2 tyX2_ok nmX2 hown hK hP hD hS 0 rfl rfl 6 (by decide) (hts (.fieldLink RX2 55 "BackMirrorModel" "isBroken" "Z") (by decide +kernel)) (fun _ h9 => h9) rfl (by decide +kernel) (by decide) rfl (Nat.le_of_ble_eq_true rfl) dX2_mends_18 (fun H locs hP hD hS => ?_)
    have hP : va_P D vwCl [(m0, .inr (2, [.ref a1, .ref a2, .ref a3, .ref a4, .int (nI ld), .int (nI o), .int (nI 0), .int (nI k), .int (nI t)])), (a1, .inl (cI, 252, .inl K)), (a2, .inl (cI, 252, .inl R)), (a3, .inl (cI, 252, .inl L)), (a4, .inl (cI, 3024, .inl N))] H := hP
    have hD : va_D A [(m0, .inr (2, [.ref a1, .ref a2, .ref a3, .ref a4, .int (nI ld), .int (nI o), .int (nI 0), .int (nI k), .int (nI t)])), (a1, .inl (cI, 252, .inl K)), (a2, .inl (cI, 252, .inl R)), (a3, .inl (cI, 252, .inl L)), (a4, .inl (cI, 3024, .inl N))] := hD
    refine lv_aload_n hx hb dX2_mends_21 rfl (lv_at hl 1 rfl) ?_
    refine lv_iconst (v := nI 0) hx hb dX2_mends_22 (by decide) ?_
    refine va_put (ci := 2) (v := .int (nI 0)) (ty := .int) (C := RX2) (T := TX2) (N := 9) hx hb hts iw_X2mends_X2 tyX2 tyX2_ok nmX2 hown hK hP hD hS 0 rfl rfl 7 (by decide) (hts (.fieldLink RX2 59 "BackMirrorModel" "made" "I") (by decide +kernel)) (fun _ h9 => h9) rfl (by decide +kernel) rfl rfl (Nat.le_of_ble_eq_true rfl) dX2_mends_23 (fun H locs hP hD hS => ?_)
    have hP : va_P D vwCl [(m0, .inr (2, [.ref a1, .ref a2, .ref a3, .ref a4, .int (nI ld), .int (nI o), .int (nI 0), .int (nI 0), .int (nI t)])), (a1, .inl (cI, 252, .inl K)), (a2, .inl (cI, 252, .inl R)), (a3, .inl (cI, 252, .inl L)), (a4, .inl (cI, 3024, .inl N))] H := hP
    have hD : va_D A [(m0, .inr (2, [.ref a1, .ref a2, .ref a3, .ref a4, .int (nI ld), .int (nI o), .int (nI 0), .int (nI 0), .int (nI t)])), (a1, .inl (cI, 252, .inl K)), (a2, .inl (cI, 252, .inl R)), (a3, .inl (cI, 252, .inl L)), (a4, .inl (cI, 3024, .inl N))] := hD
    refine lv_iload_n hx hb dX2_mends_26 rfl (lv_at hl 0 rfl) ?_
    exact W.iret hx hb hr (fun t9 ht9 hW9 => ⟨⟨_, (), rfl, by first | rfl | rw [hbk (by omega)], by rw [ht9]; exact hP, hD⟩, hS.F ht9⟩) hS.2.2 dX2_mends_27
  · have c4 : ¬ nI b = nI 0 := c4
    have c4 : ¬ b = 0 := fun h => c4 ((xeq (by omega) (by omega)).mpr h)
    refine lv_aload_n hx hb dX2_mends_7 rfl (lv_at hl 0 rfl) ?_
    refine va_get (ci := 2) (v := .int (nI k)) (C := RX2) (T := TX2) (N := 9) hx hb hts iw_X2mends_X2 hown hK hP 0 rfl rfl 7 (by decide) (hts (.fieldLink RX2 59 "BackMirrorModel" "made" "I") (by decide +kernel)) (fun _ h9 => h9) rfl dX2_mends_8 ?_
    refine lv_goto (tgt := 15) hx hb dX2_mends_11 (by decide) ?_
    refine lv_istore_n (lv' := [(1, .int (nI k)), (0, .ref m0)]) hx hb dX2_mends_15 rfl hl (by decide) rfl (fun ls hl => ?_)
    refine lv_aload_n hx hb dX2_mends_16 rfl (lv_at hl 1 rfl) ?_
    refine lv_iconst (v := nI 0) hx hb dX2_mends_17 (by decide) ?_
    refine va_put (ci := 2) (v := .int (nI 0)) (ty := .boolean) (C := RX2) (T := TX2) (N := 9) hx hb hts iw_X2mends_X2 tyX2 tyX2_ok nmX2 hown hK hP hD hS 0 rfl rfl 6 (by decide) (hts (.fieldLink RX2 55 "BackMirrorModel" "isBroken" "Z") (by decide +kernel)) (fun _ h9 => h9) rfl (by decide +kernel) (by decide) rfl (Nat.le_of_ble_eq_true rfl) dX2_mends_18 (fun H locs hP hD hS => ?_)
    have hP : va_P D vwCl [(m0, .inr (2, [.ref a1, .ref a2, .ref a3, .ref a4, .int (nI ld), .int (nI o), .int (nI 0), .int (nI k), .int (nI t)])), (a1, .inl (cI, 252, .inl K)), (a2, .inl (cI, 252, .inl R)), (a3, .inl (cI, 252, .inl L)), (a4, .inl (cI, 3024, .inl N))] H := hP
    have hD : va_D A [(m0, .inr (2, [.ref a1, .ref a2, .ref a3, .ref a4, .int (nI ld), .int (nI o), .int (nI 0), .int (nI k), .int (nI t)])), (a1, .inl (cI, 252, .inl K)), (a2, .inl (cI, 252, .inl R)), (a3, .inl (cI, 252, .inl L)), (a4, .inl (cI, 3024, .inl N))] := hD
    refine lv_aload_n hx hb dX2_mends_21 rfl (lv_at hl 1 rfl) ?_
    refine lv_iconst (v := nI 0) hx hb dX2_mends_22 (by decide) ?_
    refine va_put (ci := 2) (v := .int (nI 0)) (ty := .int) (C := RX2) (T := TX2) (N := 9) hx hb hts iw_X2mends_X2 tyX2 tyX2_ok nmX2 hown hK hP hD hS 0 rfl rfl 7 (by decide) (hts (.fieldLink RX2 59 "BackMirrorModel" "made" "I") (by decide +kernel)) (fun _ h9 => h9) rfl (by decide +kernel) rfl rfl (Nat.le_of_ble_eq_true rfl) dX2_mends_23 (fun H locs hP hD hS => ?_)
    have hP : va_P D vwCl [(m0, .inr (2, [.ref a1, .ref a2, .ref a3, .ref a4, .int (nI ld), .int (nI o), .int (nI 0), .int (nI 0), .int (nI t)])), (a1, .inl (cI, 252, .inl K)), (a2, .inl (cI, 252, .inl R)), (a3, .inl (cI, 252, .inl L)), (a4, .inl (cI, 3024, .inl N))] H := hP
    have hD : va_D A [(m0, .inr (2, [.ref a1, .ref a2, .ref a3, .ref a4, .int (nI ld), .int (nI o), .int (nI 0), .int (nI 0), .int (nI t)])), (a1, .inl (cI, 252, .inl K)), (a2, .inl (cI, 252, .inl R)), (a3, .inl (cI, 252, .inl L)), (a4, .inl (cI, 3024, .inl N))] := hD
    refine lv_iload_n hx hb dX2_mends_26 rfl (lv_at hl 0 rfl) ?_
    exact W.iret hx hb hr (fun t9 ht9 hW9 => ⟨⟨_, (), rfl, by first | rfl | rw [hbk (by omega)], by rw [ht9]; exact hP, hD⟩, hS.F ht9⟩) hS.2.2 dX2_mends_27

theorem iw_X2becomes_X2 : ∀ w ∈ u_ws RX2 TX2 9, w ∈ wsX2_becomes := by decide +kernel
set_option maxHeartbeats 4000000 in
set_option maxRecDepth 100000 in
theorem c_X2_becomes (l : Launch) {D : va_G} {cI cT cJ : ClassId} (m0 a1 a2 a3 a4 : Nat) (K R L N : Nat → Int32) (ld o b k t : Nat) (G : Nat → Tv) (hM : MA G K R L N) (j w : Nat) (hj : j < 6) (sz : Nat) : Met l yX2_becomes wsX2_becomes (rmD 3 0 0) (XP D cI cT cJ [.ref m0, .int (nI j), .int (nI w)] (fun H => H.size = sz ∧ va_P D vwCl (MWs cI m0 a1 a2 a3 a4 K R L N ld o b k t) H ∧ va_D (fun _ => True) (MWs cI m0 a1 a2 a3 a4 K R L N ld o b k t))) (va_Qi (S := Unit) (fun r _ => r = (G (246 + j)).1) (fun _ t9 => va_P D vwCl (MWs cI m0 a1 a2 a3 a4 (upd K (246 + j) (nI w)) (upd R (246 + j) (nI 0)) (upd L (246 + j) (nI 0)) N ld o b k t) t9.heap ∧ va_D (va_A (MWs cI m0 a1 a2 a3 a4 K R L N ld o b k t) sz) (MWs cI m0 a1 a2 a3 a4 (upd K (246 + j) (nI w)) (upd R (246 + j) (nI 0)) (upd L (246 + j) (nI 0)) N ld o b k t)) (va_A (MWs cI m0 a1 a2 a3 a4 K R L N ld o b k t) sz)) 0 0 (va_A (MWs cI m0 a1 a2 a3 a4 K R L N ld o b k t) sz) := by
  refine Met.ofW (cc := cX2_becomes) (maxL := 4) (ret := (some .int)) (by decide) rfl ?_
  intro p e s m args below meth c s₁ B hml hv
  obtain ⟨rfl, ⟨hsz, hP, hD0⟩, hE⟩ := hv
  have hx := B.exec
  have hb := B.bytes
  have hr := B.returns
  have hts := atoms_spec (ws := wsX2_becomes) B.pre
  have hown : s.vm.findClass RX2 = some m.cls := findClass_of_methodNamed B.named
  have hlocks := B.notSynchronized
  have hl := lv_entry ([.ref m0, .int (nI j), .int (nI w)]) (n := 4) (Nat.le_of_ble_eq_true rfl)
  rw [lg_entry_eq]
  generalize (lg_sl ([.ref m0, .int (nI j), .int (nI w)]) ++ List.replicate (4 - (lg_sl ([.ref m0, .int (nI j), .int (nI w)])).length) Slot.unset).toArray = ls at hl ⊢
  have hl : lv_has ls 4 [(0, .ref m0), (1, .int (nI j)), (2, .int (nI w))] := hl
  have hK := hE.1
  subst hsz
  have hD := hD0.self (sz := s.heap.size)
  generalize hAe : va_A ((MWs cI m0 a1 a2 a3 a4 K R L N ld o b k t)) s.heap.size = A at hD ⊢
  have hA : ∀ q : Nat, s.heap.size ≤ q → A q := fun q h => by rw [← hAe]; exact Or.inr h
  have hS : va_S A s.heap s.heap [] := va_S.rf
  refine lv_aload_n hx hb dX2_becomes_0 rfl (lv_at hl 0 rfl) ?_
  refine va_get (ci := 2) (v := .ref a1) (C := RX2) (T := TX2) (N := 9) hx hb hts iw_X2becomes_X2 hown hK hP 0 rfl rfl 0 (by decide) (hts (.fieldLink RX2 7 "BackMirrorModel" "kinds" "[I") (by decide +kernel)) (fun _ h9 => h9) rfl dX2_becomes_1 ?_
  refine lv_iload_n hx hb dX2_becomes_4 rfl (lv_at hl 1 rfl) ?_
  refine xc_sie (va_runS (As := [.int (nI j)]) (rest := [.ref a1]) ⟨hx, hb, hml, hown, hts⟩ (c_X2_live l j) (va_cwS 1 hts gX2_becomes_X2_live rfl rfl rfl (by decide +kernel) ⟨(Nat.le_of_ble_eq_true rfl), (Nat.le_of_ble_eq_true rfl)⟩) ⟨XP_blind, XP_pre hE trivial⟩ rfl rfl hl.1 rfl (lv_room (Nat.le_of_ble_eq_true rfl)) dX2_becomes_5 ⟨Nat.le_of_ble_eq_true rfl, Nat.le_of_ble_eq_true rfl⟩) ?_
  refine va_iald hx hb hK hP 1 0 rfl rfl (xin (by omega) (by omega)) dX2_becomes_8 ?_
  refine x_top (K (246 + j)) (by rw [nI_clamp (by omega)]) ?_
  refine x_top ((G (246 + j)).1) ((hM (246 + j) (by omega)).1) ?_
  refine lv_istore_n (lv' := [(3, .int ((G (246 + j)).1)), (0, .ref m0), (1, .int (nI j)), (2, .int (nI w))]) hx hb dX2_becomes_9 rfl hl (by decide) rfl (fun ls hl => ?_)
  refine lv_aload_n hx hb dX2_becomes_10 rfl (lv_at hl 1 rfl) ?_
  refine va_get (ci := 2) (v := .ref a1) (C := RX2) (T := TX2) (N := 9) hx hb hts iw_X2becomes_X2 hown hK hP 0 rfl rfl 0 (by decide) (hts (.fieldLink RX2 7 "BackMirrorModel" "kinds" "[I") (by decide +kernel)) (fun _ h9 => h9) rfl dX2_becomes_11 ?_
  refine lv_iload_n hx hb dX2_becomes_14 rfl (lv_at hl 2 rfl) ?_
  refine xc_sie (va_runS (As := [.int (nI j)]) (rest := [.ref a1]) ⟨hx, hb, hml, hown, hts⟩ (c_X2_live l j) (va_cwS 1 hts gX2_becomes_X2_live rfl rfl rfl (by decide +kernel) ⟨(Nat.le_of_ble_eq_true rfl), (Nat.le_of_ble_eq_true rfl)⟩) ⟨XP_blind, XP_pre hE trivial⟩ rfl rfl hl.1 rfl (lv_room (Nat.le_of_ble_eq_true rfl)) dX2_becomes_15 ⟨Nat.le_of_ble_eq_true rfl, Nat.le_of_ble_eq_true rfl⟩) ?_
  refine lv_iload_n hx hb dX2_becomes_18 rfl (lv_at hl 3 rfl) ?_
  refine va_iast hx hb hK hP hD hS 1 0 rfl rfl (xin (by omega) (by omega)) dX2_becomes_19 (fun H locs hP hD hS => ?_)
  rw [nI_clamp (show 246 + j < 2 ^ 31 by omega)] at hP hD
  have hP : va_P D vwCl [(m0, .inr (2, [.ref a1, .ref a2, .ref a3, .ref a4, .int (nI ld), .int (nI o), .int (nI b), .int (nI k), .int (nI t)])), (a1, .inl (cI, 252, .inl (upd K (246 + j) (nI w)))), (a2, .inl (cI, 252, .inl R)), (a3, .inl (cI, 252, .inl L)), (a4, .inl (cI, 3024, .inl N))] H := hP
  have hD : va_D A [(m0, .inr (2, [.ref a1, .ref a2, .ref a3, .ref a4, .int (nI ld), .int (nI o), .int (nI b), .int (nI k), .int (nI t)])), (a1, .inl (cI, 252, .inl (upd K (246 + j) (nI w)))), (a2, .inl (cI, 252, .inl R)), (a3, .inl (cI, 252, .inl L)), (a4, .inl (cI, 3024, .inl N))] := hD
  refine lv_aload_n hx hb dX2_becomes_20 rfl (lv_at hl 1 rfl) ?_
  refine va_get (ci := 2) (v := .ref a2) (C := RX2) (T := TX2) (N := 9) hx hb hts iw_X2becomes_X2 hown hK hP 0 rfl rfl 1 (by decide) (hts (.fieldLink RX2 13 "BackMirrorModel" "rights" "[I") (by decide +kernel)) (fun _ h9 => h9) rfl dX2_becomes_21 ?_
  refine lv_iload_n hx hb dX2_becomes_24 rfl (lv_at hl 2 rfl) ?_
  refine xc_sie (va_runS (As := [.int (nI j)]) (rest := [.ref a2]) ⟨hx, hb, hml, hown, hts⟩ (c_X2_live l j) (va_cwS 1 hts gX2_becomes_X2_live rfl rfl rfl (by decide +kernel) ⟨(Nat.le_of_ble_eq_true rfl), (Nat.le_of_ble_eq_true rfl)⟩) ⟨XP_blind, XP_pre hE trivial⟩ rfl rfl hl.1 rfl (lv_room (Nat.le_of_ble_eq_true rfl)) dX2_becomes_25 ⟨Nat.le_of_ble_eq_true rfl, Nat.le_of_ble_eq_true rfl⟩) ?_
  refine lv_iconst (v := nI 0) hx hb dX2_becomes_28 (by decide) ?_
  refine va_iast hx hb hK hP hD hS 2 0 rfl rfl (xin (by omega) (by omega)) dX2_becomes_29 (fun H locs hP hD hS => ?_)
  rw [nI_clamp (show 246 + j < 2 ^ 31 by omega)] at hP hD
  have hP : va_P D vwCl [(m0, .inr (2, [.ref a1, .ref a2, .ref a3, .ref a4, .int (nI ld), .int (nI o), .int (nI b), .int (nI k), .int (nI t)])), (a1, .inl (cI, 252, .inl (upd K (246 + j) (nI w)))), (a2, .inl (cI, 252, .inl (upd R (246 + j) (nI 0)))), (a3, .inl (cI, 252, .inl L)), (a4, .inl (cI, 3024, .inl N))] H := hP
  have hD : va_D A [(m0, .inr (2, [.ref a1, .ref a2, .ref a3, .ref a4, .int (nI ld), .int (nI o), .int (nI b), .int (nI k), .int (nI t)])), (a1, .inl (cI, 252, .inl (upd K (246 + j) (nI w)))), (a2, .inl (cI, 252, .inl (upd R (246 + j) (nI 0)))), (a3, .inl (cI, 252, .inl L)), (a4, .inl (cI, 3024, .inl N))] := hD
  refine lv_aload_n hx hb dX2_becomes_30 rfl (lv_at hl 1 rfl) ?_
  refine va_get (ci := 2) (v := .ref a3) (C := RX2) (T := TX2) (N := 9) hx hb hts iw_X2becomes_X2 hown hK hP 0 rfl rfl 2 (by decide) (hts (.fieldLink RX2 16 "BackMirrorModel" "lengths" "[I") (by decide +kernel)) (fun _ h9 => h9) rfl dX2_becomes_31 ?_
  refine lv_iload_n hx hb dX2_becomes_34 rfl (lv_at hl 2 rfl) ?_
  refine xc_sie (va_runS (As := [.int (nI j)]) (rest := [.ref a3]) ⟨hx, hb, hml, hown, hts⟩ (c_X2_live l j) (va_cwS 1 hts gX2_becomes_X2_live rfl rfl rfl (by decide +kernel) ⟨(Nat.le_of_ble_eq_true rfl), (Nat.le_of_ble_eq_true rfl)⟩) ⟨XP_blind, XP_pre hE trivial⟩ rfl rfl hl.1 rfl (lv_room (Nat.le_of_ble_eq_true rfl)) dX2_becomes_35 ⟨Nat.le_of_ble_eq_true rfl, Nat.le_of_ble_eq_true rfl⟩) ?_
  refine lv_iconst (v := nI 0) hx hb dX2_becomes_38 (by decide) ?_
  refine va_iast hx hb hK hP hD hS 3 0 rfl rfl (xin (by omega) (by omega)) dX2_becomes_39 (fun H locs hP hD hS => ?_)
  rw [nI_clamp (show 246 + j < 2 ^ 31 by omega)] at hP hD
  have hP : va_P D vwCl [(m0, .inr (2, [.ref a1, .ref a2, .ref a3, .ref a4, .int (nI ld), .int (nI o), .int (nI b), .int (nI k), .int (nI t)])), (a1, .inl (cI, 252, .inl (upd K (246 + j) (nI w)))), (a2, .inl (cI, 252, .inl (upd R (246 + j) (nI 0)))), (a3, .inl (cI, 252, .inl (upd L (246 + j) (nI 0)))), (a4, .inl (cI, 3024, .inl N))] H := hP
  have hD : va_D A [(m0, .inr (2, [.ref a1, .ref a2, .ref a3, .ref a4, .int (nI ld), .int (nI o), .int (nI b), .int (nI k), .int (nI t)])), (a1, .inl (cI, 252, .inl (upd K (246 + j) (nI w)))), (a2, .inl (cI, 252, .inl (upd R (246 + j) (nI 0)))), (a3, .inl (cI, 252, .inl (upd L (246 + j) (nI 0)))), (a4, .inl (cI, 3024, .inl N))] := hD
  refine lv_iload_n hx hb dX2_becomes_40 rfl (lv_at hl 0 rfl) ?_
  exact W.iret hx hb hr (fun t9 ht9 hW9 => ⟨⟨_, (), rfl, rfl, by rw [ht9]; exact hP, hD⟩, hS.F ht9⟩) hS.2.2 dX2_becomes_41

theorem iw_X2areSameNumbers_X2 : ∀ w ∈ u_ws RX2 TX2 9, w ∈ wsX2_areSameNumbers := by decide +kernel
set_option maxHeartbeats 4000000 in
set_option maxRecDepth 100000 in
theorem c_X2_areSameNumbers (l : Launch) {D : va_G} {cI cT cJ : ClassId} (m0 a1 a2 a3 a4 : Nat) (K R L N : Nat → Int32) (ld o b k t : Nat) (G : Nat → Tv) (hM : MA G K R L N) (i1 i2 : Nat) (hi1 : i1 < 252) (hi2 : i2 < 252) : Met l yX2_areSameNumbers wsX2_areSameNumbers (rmD 1 0 0) (XP D cI cT cJ [.ref m0, .int (nI i1), .int (nI i2)] (fun H => va_P D vwCl (MWs cI m0 a1 a2 a3 a4 K R L N ld o b k t) H)) (XSi (fun r => r = nI (bN (rowB (G i1).2.2.1 (G i2).2.2.1 (G i1).2.2.2 (G i2).2.2.2)))) 0 0 (fun _ => False) := by
  refine Met.ofW (cc := cX2_areSameNumbers) (maxL := 5) (ret := (some .boolean)) (by decide) rfl ?_
  intro p e s m args below meth c s₁ B hml hv
  obtain ⟨rfl, hP, hE⟩ := hv
  have hx := B.exec
  have hb := B.bytes
  have hr := B.returns
  have hts := atoms_spec (ws := wsX2_areSameNumbers) B.pre
  have hown : s.vm.findClass RX2 = some m.cls := findClass_of_methodNamed B.named
  have hlocks := B.notSynchronized
  have hl := lv_entry ([.ref m0, .int (nI i1), .int (nI i2)]) (n := 5) (Nat.le_of_ble_eq_true rfl)
  rw [lg_entry_eq]
  generalize (lg_sl ([.ref m0, .int (nI i1), .int (nI i2)]) ++ List.replicate (5 - (lg_sl ([.ref m0, .int (nI i1), .int (nI i2)])).length) Slot.unset).toArray = ls at hl ⊢
  have hl : lv_has ls 5 [(0, .ref m0), (1, .int (nI i1)), (2, .int (nI i2))] := hl
  have hK := hE.1
  refine lv_aload_n hx hb dX2_areSameNumbers_0 rfl (lv_at hl 0 rfl) ?_
  refine va_get (ci := 2) (v := .ref a3) (C := RX2) (T := TX2) (N := 9) hx hb hts iw_X2areSameNumbers_X2 hown hK hP 0 rfl rfl 2 (by decide) (hts (.fieldLink RX2 16 "BackMirrorModel" "lengths" "[I") (by decide +kernel)) (fun _ h9 => h9) rfl dX2_areSameNumbers_1 ?_
  refine lv_iload_n hx hb dX2_areSameNumbers_4 rfl (lv_at hl 1 rfl) ?_
  refine va_iald hx hb hK hP 3 0 rfl rfl (xin (by omega) (by omega)) dX2_areSameNumbers_5 ?_
  refine x_top (L i1) (by rw [nI_clamp (by omega)]) ?_
  have hb5 := (hM (i1) (by omega)).2.2.2.1
  refine x_top (nI ((G (i1)).2.2.1)) ((hM (i1) (by omega)).2.2.1) ?_
  refine lv_aload_n hx hb dX2_areSameNumbers_6 rfl (lv_at hl 0 rfl) ?_
  refine va_get (ci := 2) (v := .ref a3) (C := RX2) (T := TX2) (N := 9) hx hb hts iw_X2areSameNumbers_X2 hown hK hP 0 rfl rfl 2 (by decide) (hts (.fieldLink RX2 16 "BackMirrorModel" "lengths" "[I") (by decide +kernel)) (fun _ h9 => h9) rfl dX2_areSameNumbers_7 ?_
  refine lv_iload_n hx hb dX2_areSameNumbers_10 rfl (lv_at hl 2 rfl) ?_
  refine va_iald hx hb hK hP 3 0 rfl rfl (xin (by omega) (by omega)) dX2_areSameNumbers_11 ?_
  refine x_top (L i2) (by rw [nI_clamp (by omega)]) ?_
  have hb11 := (hM (i2) (by omega)).2.2.2.1
  refine x_top (nI ((G (i2)).2.2.1)) ((hM (i2) (by omega)).2.2.1) ?_
  refine lv_icmp_ne (tgt := 19) hx hb dX2_areSameNumbers_12 (by decide) (fun c12 => ?_) (fun c12 => ?_)
  · have c12 : ¬ ((G (i1)).2.2.1) = ((G (i2)).2.2.1) := fun h => c12 ((xeq (by omega) (by omega)).mpr h)
    refine lv_iconst (v := nI 0) hx hb dX2_areSameNumbers_19 (by decide) ?_
    refine lv_istore_n (lv' := [(3, .int (nI 0)), (0, .ref m0), (1, .int (nI i1)), (2, .int (nI i2))]) hx hb dX2_areSameNumbers_20 rfl hl (by decide) rfl (fun ls hl => ?_)
    refine lv_iconst (v := nI 0) hx hb dX2_areSameNumbers_21 (by decide) ?_
    refine lv_istore (lv' := [(4, .int (nI 0)), (3, .int (nI 0)), (0, .ref m0), (1, .int (nI i1)), (2, .int (nI i2))]) hx hb dX2_areSameNumbers_22 hl (by decide) rfl (fun ls hl => ?_)
    have hw : 0 = bN (arB (G i1).2.2.1 (G i2).2.2.1 (G i1).2.2.2 (G i2).2.2.2 0) := by first | exact arB_0t (by omega) | exact arB_0f (by omega)
    have hl : lv_has ls 5 [(4, .int (nI 0)), (3, .int (nI (bN (arB (G i1).2.2.1 (G i2).2.2.1 (G i1).2.2.2 (G i2).2.2.2 0)))), (0, .ref m0), (1, .int (nI i1)), (2, .int (nI i2))] := by rw [← hw]; exact hl
    refine x_loopP (fun n ls => ∃ q j : Nat, (j + 1 = n) ∧ ((G i1).2.2.1 ≤ q + j) ∧ (q ≤ (G i1).2.2.1) ∧ lv_has ls 5 [(4, .int (nI q)), (3, .int (nI (bN (arB (G i1).2.2.1 (G i2).2.2.1 (G i1).2.2.2 (G i2).2.2.2 q)))), (0, .ref m0), (1, .int (nI i1)), (2, .int (nI i2))]) ((G i1).2.2.1 + 1) ⟨0, (G i1).2.2.1, rfl, by omega, by omega, lv_sub hl [0, 1, 2, 3, 4] rfl⟩ (fun ls h => by obtain ⟨q, j, hk, h1, h2, -⟩ := h; omega) (fun n ls h ih => ?_)
    obtain ⟨q, j, hk, h1, h2, hl⟩ := h
    refine lv_iload hx hb dX2_areSameNumbers_24 (lv_at hl 0 rfl) ?_
    refine lv_aload_n hx hb dX2_areSameNumbers_26 rfl (lv_at hl 2 rfl) ?_
    refine va_get (ci := 2) (v := .ref a3) (C := RX2) (T := TX2) (N := 9) hx hb hts iw_X2areSameNumbers_X2 hown hK hP 0 rfl rfl 2 (by decide) (hts (.fieldLink RX2 16 "BackMirrorModel" "lengths" "[I") (by decide +kernel)) (fun _ h9 => h9) rfl dX2_areSameNumbers_27 ?_
    refine lv_iload_n hx hb dX2_areSameNumbers_30 rfl (lv_at hl 3 rfl) ?_
    refine va_iald hx hb hK hP 3 0 rfl rfl (xin (by omega) (by omega)) dX2_areSameNumbers_31 ?_
    refine x_top (L i1) (by rw [nI_clamp (by omega)]) ?_
    have hb31 := (hM (i1) (by omega)).2.2.2.1
    refine x_top (nI ((G (i1)).2.2.1)) ((hM (i1) (by omega)).2.2.1) ?_
    refine lv_icmp_ge (tgt := 78) hx hb dX2_areSameNumbers_32 (by decide) (fun c32 => ?_) (fun c32 => ?_)
    · have c32 : ((G (i1)).2.2.1) ≤ q := (xle (by omega) (by omega)).mp c32
      refine lv_iload_n hx hb dX2_areSameNumbers_78 rfl (lv_at hl 1 rfl) ?_
      exact W.zret hx hb hr (xnb _ (bN_le _)) (fun t9 ht9 hW9 => ⟨_, rfl, by first | (rw [show q = (G i1).2.2.1 by omega]; rfl) | (rw [c36, arB_no h2 c36]), ht9⟩) (fun _ h => nomatch h) dX2_areSameNumbers_79
    · have c32 : ¬ ((G (i1)).2.2.1) ≤ q := fun h => c32 ((xle (by omega) (by omega)).mpr h)
      refine lv_iload_n hx hb dX2_areSameNumbers_35 rfl (lv_at hl 1 rfl) ?_
      refine lv_if_eq (tgt := 78) hx hb dX2_areSameNumbers_36 (by decide) (fun c36 => ?_) (fun c36 => ?_)
      · have c36 : (arB (G i1).2.2.1 (G i2).2.2.1 (G i1).2.2.2 (G i2).2.2.2 q) = false := bN_f c36
        refine lv_iload_n hx hb dX2_areSameNumbers_78 rfl (lv_at hl 1 rfl) ?_
        exact W.zret hx hb hr (xnb _ (bN_le _)) (fun t9 ht9 hW9 => ⟨_, rfl, by first | (rw [show q = (G i1).2.2.1 by omega]; rfl) | (rw [c36, arB_no h2 c36]), ht9⟩) (fun _ h => nomatch h) dX2_areSameNumbers_79
      · have c36 : (arB (G i1).2.2.1 (G i2).2.2.1 (G i1).2.2.2 (G i2).2.2.2 q) = true := bN_t c36
        have hn := (of_decide_eq_true c36 : (G i1).2.2.1 = (G i2).2.2.1 ∧ _).1
        refine lv_aload_n hx hb dX2_areSameNumbers_39 rfl (lv_at hl 2 rfl) ?_
        refine va_get (ci := 2) (v := .ref a4) (C := RX2) (T := TX2) (N := 9) hx hb hts iw_X2areSameNumbers_X2 hown hK hP 0 rfl rfl 3 (by decide) (hts (.fieldLink RX2 19 "BackMirrorModel" "numbers" "[I") (by decide +kernel)) (fun _ h9 => h9) rfl dX2_areSameNumbers_40 ?_
        refine lv_bipush (v := nI 12) hx hb dX2_areSameNumbers_43 (by decide) ?_
        refine lv_iload_n hx hb dX2_areSameNumbers_45 rfl (lv_at hl 3 rfl) ?_
        refine lv_imul hx hb dX2_areSameNumbers_46 ?_
        refine x_top (nI (12 * i1)) (pk_mul _ _) ?_
        refine lv_iload hx hb dX2_areSameNumbers_47 (lv_at hl 0 rfl) ?_
        refine lv_iadd hx hb dX2_areSameNumbers_49 ?_
        refine x_top (nI ((12 * i1) + q)) (xadd (by omega)) ?_
        refine va_iald hx hb hK hP 4 0 rfl rfl (xin (by omega) (by omega)) dX2_areSameNumbers_50 ?_
        refine x_top (N ((12 * i1) + q)) (by rw [nI_clamp (by omega)]) ?_
        refine x_top ((G i1).2.2.2 q) ((hM i1 (by omega)).2.2.2.2 q (by omega)) ?_
        refine lv_aload_n hx hb dX2_areSameNumbers_51 rfl (lv_at hl 2 rfl) ?_
        refine va_get (ci := 2) (v := .ref a4) (C := RX2) (T := TX2) (N := 9) hx hb hts iw_X2areSameNumbers_X2 hown hK hP 0 rfl rfl 3 (by decide) (hts (.fieldLink RX2 19 "BackMirrorModel" "numbers" "[I") (by decide +kernel)) (fun _ h9 => h9) rfl dX2_areSameNumbers_52 ?_
        refine lv_bipush (v := nI 12) hx hb dX2_areSameNumbers_55 (by decide) ?_
        refine lv_iload_n hx hb dX2_areSameNumbers_57 rfl (lv_at hl 4 rfl) ?_
        refine lv_imul hx hb dX2_areSameNumbers_58 ?_
        refine x_top (nI (12 * i2)) (pk_mul _ _) ?_
        refine lv_iload hx hb dX2_areSameNumbers_59 (lv_at hl 0 rfl) ?_
        refine lv_iadd hx hb dX2_areSameNumbers_61 ?_
        refine x_top (nI ((12 * i2) + q)) (xadd (by omega)) ?_
        refine va_iald hx hb hK hP 4 0 rfl rfl (xin (by omega) (by omega)) dX2_areSameNumbers_62 ?_
        refine x_top (N ((12 * i2) + q)) (by rw [nI_clamp (by omega)]) ?_
        refine x_top ((G i2).2.2.2 q) ((hM i2 (by omega)).2.2.2.2 q (by omega)) ?_
        refine lv_icmp_ne (tgt := 70) hx hb dX2_areSameNumbers_63 (by decide) (fun c63 => ?_) (fun c63 => ?_)
        · refine lv_iconst (v := nI 0) hx hb dX2_areSameNumbers_70 (by decide) ?_
          refine lv_istore_n (lv' := [(3, .int (nI 0)), (4, .int (nI q)), (0, .ref m0), (1, .int (nI i1)), (2, .int (nI i2))]) hx hb dX2_areSameNumbers_71 rfl hl (by decide) rfl (fun ls hl => ?_)
          refine lv_iinc (v := nI (q + 1)) (lv' := [(4, .int (nI (q + 1))), (3, .int (nI 0)), (0, .ref m0), (1, .int (nI i1)), (2, .int (nI i2))]) hx hb dX2_areSameNumbers_72 hl (k := 1) rfl (xinc _ 1 _ (by decide)) (by decide) rfl (fun ls hl => ?_)
          refine lv_goto (tgt := 24) hx hb dX2_areSameNumbers_75 (by decide) ?_
          have hw : 0 = bN (arB (G i1).2.2.1 (G i2).2.2.1 (G i1).2.2.2 (G i2).2.2.2 (q + 1)) := by first | exact arB_t c36 (by assumption) | exact arB_f (by assumption)
          have hl : lv_has ls 5 [(4, .int (nI (q + 1))), (3, .int (nI (bN (arB (G i1).2.2.1 (G i2).2.2.1 (G i1).2.2.2 (G i2).2.2.2 (q + 1))))), (0, .ref m0), (1, .int (nI i1)), (2, .int (nI i2))] := by rw [← hw]; exact hl
          exact ih _ ⟨q + 1, j - 1, by omega, by omega, by omega, lv_sub hl [0, 1, 2, 3, 4] rfl⟩
        · refine lv_iconst (v := nI 1) hx hb dX2_areSameNumbers_66 (by decide) ?_
          refine lv_goto (tgt := 71) hx hb dX2_areSameNumbers_67 (by decide) ?_
          refine lv_istore_n (lv' := [(3, .int (nI 1)), (4, .int (nI q)), (0, .ref m0), (1, .int (nI i1)), (2, .int (nI i2))]) hx hb dX2_areSameNumbers_71 rfl hl (by decide) rfl (fun ls hl => ?_)
          refine lv_iinc (v := nI (q + 1)) (lv' := [(4, .int (nI (q + 1))), (3, .int (nI 1)), (0, .ref m0), (1, .int (nI i1)), (2, .int (nI i2))]) hx hb dX2_areSameNumbers_72 hl (k := 1) rfl (xinc _ 1 _ (by decide)) (by decide) rfl (fun ls hl => ?_)
          refine lv_goto (tgt := 24) hx hb dX2_areSameNumbers_75 (by decide) ?_
          have hw : 1 = bN (arB (G i1).2.2.1 (G i2).2.2.1 (G i1).2.2.2 (G i2).2.2.2 (q + 1)) := by first | exact arB_t c36 (by assumption) | exact arB_f (by assumption)
          have hl : lv_has ls 5 [(4, .int (nI (q + 1))), (3, .int (nI (bN (arB (G i1).2.2.1 (G i2).2.2.1 (G i1).2.2.2 (G i2).2.2.2 (q + 1))))), (0, .ref m0), (1, .int (nI i1)), (2, .int (nI i2))] := by rw [← hw]; exact hl
          exact ih _ ⟨q + 1, j - 1, by omega, by omega, by omega, lv_sub hl [0, 1, 2, 3, 4] rfl⟩
  · have c12 : ((G (i1)).2.2.1) = ((G (i2)).2.2.1) := (xeq (by omega) (by omega)).mp c12
    refine lv_iconst (v := nI 1) hx hb dX2_areSameNumbers_15 (by decide) ?_
    refine lv_goto (tgt := 20) hx hb dX2_areSameNumbers_16 (by decide) ?_
    refine lv_istore_n (lv' := [(3, .int (nI 1)), (0, .ref m0), (1, .int (nI i1)), (2, .int (nI i2))]) hx hb dX2_areSameNumbers_20 rfl hl (by decide) rfl (fun ls hl => ?_)
    refine lv_iconst (v := nI 0) hx hb dX2_areSameNumbers_21 (by decide) ?_
    refine lv_istore (lv' := [(4, .int (nI 0)), (3, .int (nI 1)), (0, .ref m0), (1, .int (nI i1)), (2, .int (nI i2))]) hx hb dX2_areSameNumbers_22 hl (by decide) rfl (fun ls hl => ?_)
    have hw : 1 = bN (arB (G i1).2.2.1 (G i2).2.2.1 (G i1).2.2.2 (G i2).2.2.2 0) := by first | exact arB_0t (by omega) | exact arB_0f (by omega)
    have hl : lv_has ls 5 [(4, .int (nI 0)), (3, .int (nI (bN (arB (G i1).2.2.1 (G i2).2.2.1 (G i1).2.2.2 (G i2).2.2.2 0)))), (0, .ref m0), (1, .int (nI i1)), (2, .int (nI i2))] := by rw [← hw]; exact hl
    refine x_loopP (fun n ls => ∃ q j : Nat, (j + 1 = n) ∧ ((G i1).2.2.1 ≤ q + j) ∧ (q ≤ (G i1).2.2.1) ∧ lv_has ls 5 [(4, .int (nI q)), (3, .int (nI (bN (arB (G i1).2.2.1 (G i2).2.2.1 (G i1).2.2.2 (G i2).2.2.2 q)))), (0, .ref m0), (1, .int (nI i1)), (2, .int (nI i2))]) ((G i1).2.2.1 + 1) ⟨0, (G i1).2.2.1, rfl, by omega, by omega, lv_sub hl [0, 1, 2, 3, 4] rfl⟩ (fun ls h => by obtain ⟨q, j, hk, h1, h2, -⟩ := h; omega) (fun n ls h ih => ?_)
    obtain ⟨q, j, hk, h1, h2, hl⟩ := h
    refine lv_iload hx hb dX2_areSameNumbers_24 (lv_at hl 0 rfl) ?_
    refine lv_aload_n hx hb dX2_areSameNumbers_26 rfl (lv_at hl 2 rfl) ?_
    refine va_get (ci := 2) (v := .ref a3) (C := RX2) (T := TX2) (N := 9) hx hb hts iw_X2areSameNumbers_X2 hown hK hP 0 rfl rfl 2 (by decide) (hts (.fieldLink RX2 16 "BackMirrorModel" "lengths" "[I") (by decide +kernel)) (fun _ h9 => h9) rfl dX2_areSameNumbers_27 ?_
    refine lv_iload_n hx hb dX2_areSameNumbers_30 rfl (lv_at hl 3 rfl) ?_
    refine va_iald hx hb hK hP 3 0 rfl rfl (xin (by omega) (by omega)) dX2_areSameNumbers_31 ?_
    refine x_top (L i1) (by rw [nI_clamp (by omega)]) ?_
    have hb31 := (hM (i1) (by omega)).2.2.2.1
    refine x_top (nI ((G (i1)).2.2.1)) ((hM (i1) (by omega)).2.2.1) ?_
    refine lv_icmp_ge (tgt := 78) hx hb dX2_areSameNumbers_32 (by decide) (fun c32 => ?_) (fun c32 => ?_)
    · have c32 : ((G (i1)).2.2.1) ≤ q := (xle (by omega) (by omega)).mp c32
      refine lv_iload_n hx hb dX2_areSameNumbers_78 rfl (lv_at hl 1 rfl) ?_
      exact W.zret hx hb hr (xnb _ (bN_le _)) (fun t9 ht9 hW9 => ⟨_, rfl, by first | (rw [show q = (G i1).2.2.1 by omega]; rfl) | (rw [c36, arB_no h2 c36]), ht9⟩) (fun _ h => nomatch h) dX2_areSameNumbers_79
    · have c32 : ¬ ((G (i1)).2.2.1) ≤ q := fun h => c32 ((xle (by omega) (by omega)).mpr h)
      refine lv_iload_n hx hb dX2_areSameNumbers_35 rfl (lv_at hl 1 rfl) ?_
      refine lv_if_eq (tgt := 78) hx hb dX2_areSameNumbers_36 (by decide) (fun c36 => ?_) (fun c36 => ?_)
      · have c36 : (arB (G i1).2.2.1 (G i2).2.2.1 (G i1).2.2.2 (G i2).2.2.2 q) = false := bN_f c36
        refine lv_iload_n hx hb dX2_areSameNumbers_78 rfl (lv_at hl 1 rfl) ?_
        exact W.zret hx hb hr (xnb _ (bN_le _)) (fun t9 ht9 hW9 => ⟨_, rfl, by first | (rw [show q = (G i1).2.2.1 by omega]; rfl) | (rw [c36, arB_no h2 c36]), ht9⟩) (fun _ h => nomatch h) dX2_areSameNumbers_79
      · have c36 : (arB (G i1).2.2.1 (G i2).2.2.1 (G i1).2.2.2 (G i2).2.2.2 q) = true := bN_t c36
        have hn := (of_decide_eq_true c36 : (G i1).2.2.1 = (G i2).2.2.1 ∧ _).1
        refine lv_aload_n hx hb dX2_areSameNumbers_39 rfl (lv_at hl 2 rfl) ?_
        refine va_get (ci := 2) (v := .ref a4) (C := RX2) (T := TX2) (N := 9) hx hb hts iw_X2areSameNumbers_X2 hown hK hP 0 rfl rfl 3 (by decide) (hts (.fieldLink RX2 19 "BackMirrorModel" "numbers" "[I") (by decide +kernel)) (fun _ h9 => h9) rfl dX2_areSameNumbers_40 ?_
        refine lv_bipush (v := nI 12) hx hb dX2_areSameNumbers_43 (by decide) ?_
        refine lv_iload_n hx hb dX2_areSameNumbers_45 rfl (lv_at hl 3 rfl) ?_
        refine lv_imul hx hb dX2_areSameNumbers_46 ?_
        refine x_top (nI (12 * i1)) (pk_mul _ _) ?_
        refine lv_iload hx hb dX2_areSameNumbers_47 (lv_at hl 0 rfl) ?_
        refine lv_iadd hx hb dX2_areSameNumbers_49 ?_
        refine x_top (nI ((12 * i1) + q)) (xadd (by omega)) ?_
        refine va_iald hx hb hK hP 4 0 rfl rfl (xin (by omega) (by omega)) dX2_areSameNumbers_50 ?_
        refine x_top (N ((12 * i1) + q)) (by rw [nI_clamp (by omega)]) ?_
        refine x_top ((G i1).2.2.2 q) ((hM i1 (by omega)).2.2.2.2 q (by omega)) ?_
        refine lv_aload_n hx hb dX2_areSameNumbers_51 rfl (lv_at hl 2 rfl) ?_
        refine va_get (ci := 2) (v := .ref a4) (C := RX2) (T := TX2) (N := 9) hx hb hts iw_X2areSameNumbers_X2 hown hK hP 0 rfl rfl 3 (by decide) (hts (.fieldLink RX2 19 "BackMirrorModel" "numbers" "[I") (by decide +kernel)) (fun _ h9 => h9) rfl dX2_areSameNumbers_52 ?_
        refine lv_bipush (v := nI 12) hx hb dX2_areSameNumbers_55 (by decide) ?_
        refine lv_iload_n hx hb dX2_areSameNumbers_57 rfl (lv_at hl 4 rfl) ?_
        refine lv_imul hx hb dX2_areSameNumbers_58 ?_
        refine x_top (nI (12 * i2)) (pk_mul _ _) ?_
        refine lv_iload hx hb dX2_areSameNumbers_59 (lv_at hl 0 rfl) ?_
        refine lv_iadd hx hb dX2_areSameNumbers_61 ?_
        refine x_top (nI ((12 * i2) + q)) (xadd (by omega)) ?_
        refine va_iald hx hb hK hP 4 0 rfl rfl (xin (by omega) (by omega)) dX2_areSameNumbers_62 ?_
        refine x_top (N ((12 * i2) + q)) (by rw [nI_clamp (by omega)]) ?_
        refine x_top ((G i2).2.2.2 q) ((hM i2 (by omega)).2.2.2.2 q (by omega)) ?_
        refine lv_icmp_ne (tgt := 70) hx hb dX2_areSameNumbers_63 (by decide) (fun c63 => ?_) (fun c63 => ?_)
        · refine lv_iconst (v := nI 0) hx hb dX2_areSameNumbers_70 (by decide) ?_
          refine lv_istore_n (lv' := [(3, .int (nI 0)), (4, .int (nI q)), (0, .ref m0), (1, .int (nI i1)), (2, .int (nI i2))]) hx hb dX2_areSameNumbers_71 rfl hl (by decide) rfl (fun ls hl => ?_)
          refine lv_iinc (v := nI (q + 1)) (lv' := [(4, .int (nI (q + 1))), (3, .int (nI 0)), (0, .ref m0), (1, .int (nI i1)), (2, .int (nI i2))]) hx hb dX2_areSameNumbers_72 hl (k := 1) rfl (xinc _ 1 _ (by decide)) (by decide) rfl (fun ls hl => ?_)
          refine lv_goto (tgt := 24) hx hb dX2_areSameNumbers_75 (by decide) ?_
          have hw : 0 = bN (arB (G i1).2.2.1 (G i2).2.2.1 (G i1).2.2.2 (G i2).2.2.2 (q + 1)) := by first | exact arB_t c36 (by assumption) | exact arB_f (by assumption)
          have hl : lv_has ls 5 [(4, .int (nI (q + 1))), (3, .int (nI (bN (arB (G i1).2.2.1 (G i2).2.2.1 (G i1).2.2.2 (G i2).2.2.2 (q + 1))))), (0, .ref m0), (1, .int (nI i1)), (2, .int (nI i2))] := by rw [← hw]; exact hl
          exact ih _ ⟨q + 1, j - 1, by omega, by omega, by omega, lv_sub hl [0, 1, 2, 3, 4] rfl⟩
        · refine lv_iconst (v := nI 1) hx hb dX2_areSameNumbers_66 (by decide) ?_
          refine lv_goto (tgt := 71) hx hb dX2_areSameNumbers_67 (by decide) ?_
          refine lv_istore_n (lv' := [(3, .int (nI 1)), (4, .int (nI q)), (0, .ref m0), (1, .int (nI i1)), (2, .int (nI i2))]) hx hb dX2_areSameNumbers_71 rfl hl (by decide) rfl (fun ls hl => ?_)
          refine lv_iinc (v := nI (q + 1)) (lv' := [(4, .int (nI (q + 1))), (3, .int (nI 1)), (0, .ref m0), (1, .int (nI i1)), (2, .int (nI i2))]) hx hb dX2_areSameNumbers_72 hl (k := 1) rfl (xinc _ 1 _ (by decide)) (by decide) rfl (fun ls hl => ?_)
          refine lv_goto (tgt := 24) hx hb dX2_areSameNumbers_75 (by decide) ?_
          have hw : 1 = bN (arB (G i1).2.2.1 (G i2).2.2.1 (G i1).2.2.2 (G i2).2.2.2 (q + 1)) := by first | exact arB_t c36 (by assumption) | exact arB_f (by assumption)
          have hl : lv_has ls 5 [(4, .int (nI (q + 1))), (3, .int (nI (bN (arB (G i1).2.2.1 (G i2).2.2.1 (G i1).2.2.2 (G i2).2.2.2 (q + 1))))), (0, .ref m0), (1, .int (nI i1)), (2, .int (nI i2))] := by rw [← hw]; exact hl
          exact ih _ ⟨q + 1, j - 1, by omega, by omega, by omega, lv_sub hl [0, 1, 2, 3, 4] rfl⟩

theorem iw_X2areSame_X2 : ∀ w ∈ u_ws RX2 TX2 9, w ∈ wsX2_areSame := by decide +kernel
set_option maxHeartbeats 4000000 in
set_option maxRecDepth 100000 in
theorem c_X2_areSame (l : Launch) {D : va_G} {cI cT cJ : ClassId} (m0 a1 a2 a3 a4 : Nat) (K R L N : Nat → Int32) (ld o b k t : Nat) (G : Nat → Tv) (hM : MA G K R L N) (i1 i2 : Nat) (hi1 : i1 < 252) (hi2 : i2 < 252) : Met l yX2_areSame wsX2_areSame (rmD 2 0 0) (XP D cI cT cJ [.ref m0, .int (nI i1), .int (nI i2)] (fun H => va_P D vwCl (MWs cI m0 a1 a2 a3 a4 K R L N ld o b k t) H)) (XSi (fun r => r = nI (bN (sameB (G i1) (G i2))))) 0 0 (fun _ => False) := by
  refine Met.ofW (cc := cX2_areSame) (maxL := 3) (ret := (some .boolean)) (by decide) rfl ?_
  intro p e s m args below meth c s₁ B hml hv
  obtain ⟨rfl, hP, hE⟩ := hv
  have hx := B.exec
  have hb := B.bytes
  have hr := B.returns
  have hts := atoms_spec (ws := wsX2_areSame) B.pre
  have hown : s.vm.findClass RX2 = some m.cls := findClass_of_methodNamed B.named
  have hlocks := B.notSynchronized
  have hl := lv_entry ([.ref m0, .int (nI i1), .int (nI i2)]) (n := 3) (Nat.le_of_ble_eq_true rfl)
  rw [lg_entry_eq]
  generalize (lg_sl ([.ref m0, .int (nI i1), .int (nI i2)]) ++ List.replicate (3 - (lg_sl ([.ref m0, .int (nI i1), .int (nI i2)])).length) Slot.unset).toArray = ls at hl ⊢
  have hl : lv_has ls 3 [(0, .ref m0), (1, .int (nI i1)), (2, .int (nI i2))] := hl
  have hK := hE.1
  refine lv_aload_n hx hb dX2_areSame_0 rfl (lv_at hl 0 rfl) ?_
  refine va_get (ci := 2) (v := .ref a1) (C := RX2) (T := TX2) (N := 9) hx hb hts iw_X2areSame_X2 hown hK hP 0 rfl rfl 0 (by decide) (hts (.fieldLink RX2 7 "BackMirrorModel" "kinds" "[I") (by decide +kernel)) (fun _ h9 => h9) rfl dX2_areSame_1 ?_
  refine lv_iload_n hx hb dX2_areSame_4 rfl (lv_at hl 1 rfl) ?_
  refine va_iald hx hb hK hP 1 0 rfl rfl (xin (by omega) (by omega)) dX2_areSame_5 ?_
  refine x_top (K i1) (by rw [nI_clamp (by omega)]) ?_
  refine x_top ((G (i1)).1) ((hM (i1) (by omega)).1) ?_
  refine lv_aload_n hx hb dX2_areSame_6 rfl (lv_at hl 0 rfl) ?_
  refine va_get (ci := 2) (v := .ref a1) (C := RX2) (T := TX2) (N := 9) hx hb hts iw_X2areSame_X2 hown hK hP 0 rfl rfl 0 (by decide) (hts (.fieldLink RX2 7 "BackMirrorModel" "kinds" "[I") (by decide +kernel)) (fun _ h9 => h9) rfl dX2_areSame_7 ?_
  refine lv_iload_n hx hb dX2_areSame_10 rfl (lv_at hl 2 rfl) ?_
  refine va_iald hx hb hK hP 1 0 rfl rfl (xin (by omega) (by omega)) dX2_areSame_11 ?_
  refine x_top (K i2) (by rw [nI_clamp (by omega)]) ?_
  refine x_top ((G (i2)).1) ((hM (i2) (by omega)).1) ?_
  refine lv_icmp_ne (tgt := 43) hx hb dX2_areSame_12 (by decide) (fun c12 => ?_) (fun c12 => ?_)
  · refine lv_iconst (v := nI 0) hx hb dX2_areSame_43 (by decide) ?_
    exact W.zret hx hb hr (xnb _ (by omega)) (fun t9 ht9 hW9 => ⟨_, rfl, by first | (rw [sameB_t (by assumption) (by assumption) (by assumption)]; rfl) | (rw [sameB_f1 (by assumption)]; rfl) | (rw [sameB_f2 (by assumption)]; rfl) | (rw [sameB_f3 (by assumption)]; rfl), ht9⟩) (fun _ h => nomatch h) dX2_areSame_44
  · refine lv_aload_n hx hb dX2_areSame_15 rfl (lv_at hl 0 rfl) ?_
    refine va_get (ci := 2) (v := .ref a2) (C := RX2) (T := TX2) (N := 9) hx hb hts iw_X2areSame_X2 hown hK hP 0 rfl rfl 1 (by decide) (hts (.fieldLink RX2 13 "BackMirrorModel" "rights" "[I") (by decide +kernel)) (fun _ h9 => h9) rfl dX2_areSame_16 ?_
    refine lv_iload_n hx hb dX2_areSame_19 rfl (lv_at hl 1 rfl) ?_
    refine va_iald hx hb hK hP 2 0 rfl rfl (xin (by omega) (by omega)) dX2_areSame_20 ?_
    refine x_top (R i1) (by rw [nI_clamp (by omega)]) ?_
    refine x_top ((G (i1)).2.1) ((hM (i1) (by omega)).2.1) ?_
    refine lv_aload_n hx hb dX2_areSame_21 rfl (lv_at hl 0 rfl) ?_
    refine va_get (ci := 2) (v := .ref a2) (C := RX2) (T := TX2) (N := 9) hx hb hts iw_X2areSame_X2 hown hK hP 0 rfl rfl 1 (by decide) (hts (.fieldLink RX2 13 "BackMirrorModel" "rights" "[I") (by decide +kernel)) (fun _ h9 => h9) rfl dX2_areSame_22 ?_
    refine lv_iload_n hx hb dX2_areSame_25 rfl (lv_at hl 2 rfl) ?_
    refine va_iald hx hb hK hP 2 0 rfl rfl (xin (by omega) (by omega)) dX2_areSame_26 ?_
    refine x_top (R i2) (by rw [nI_clamp (by omega)]) ?_
    refine x_top ((G (i2)).2.1) ((hM (i2) (by omega)).2.1) ?_
    refine lv_icmp_ne (tgt := 43) hx hb dX2_areSame_27 (by decide) (fun c27 => ?_) (fun c27 => ?_)
    · refine lv_iconst (v := nI 0) hx hb dX2_areSame_43 (by decide) ?_
      exact W.zret hx hb hr (xnb _ (by omega)) (fun t9 ht9 hW9 => ⟨_, rfl, by first | (rw [sameB_t (by assumption) (by assumption) (by assumption)]; rfl) | (rw [sameB_f1 (by assumption)]; rfl) | (rw [sameB_f2 (by assumption)]; rfl) | (rw [sameB_f3 (by assumption)]; rfl), ht9⟩) (fun _ h => nomatch h) dX2_areSame_44
    · refine lv_aload_n hx hb dX2_areSame_30 rfl (lv_at hl 0 rfl) ?_
      refine lv_iload_n hx hb dX2_areSame_31 rfl (lv_at hl 1 rfl) ?_
      refine lv_iload_n hx hb dX2_areSame_32 rfl (lv_at hl 2 rfl) ?_
      refine xc_sie (va_runV (As := [.int (nI i1), .int (nI i2)]) (rest := []) ⟨hx, hb, hml, hown, hts⟩ (c_X2_areSameNumbers l m0 a1 a2 a3 a4 K R L N ld o b k t G hM i1 i2 (by omega) (by omega)) (cwV 2 hts gX2_areSame_X2_areSameNumbers rfl rfl rfl (by decide +kernel) ⟨(Nat.le_of_ble_eq_true rfl), (Nat.le_of_ble_eq_true rfl)⟩) ⟨XP_blind, va_recv hK hP (ci := 2) (q0 := 0) rfl rfl, XP_pre hE hP⟩ rfl rfl hl.1 rfl (lv_room (Nat.le_of_ble_eq_true rfl)) dX2_areSame_33 ⟨Nat.le_of_ble_eq_true rfl, Nat.le_of_ble_eq_true rfl⟩) ?_
      refine lv_if_eq (tgt := 43) hx hb dX2_areSame_36 (by decide) (fun c36 => ?_) (fun c36 => ?_)
      · have c36 : (rowB (G (i1)).2.2.1 (G (i2)).2.2.1 (G (i1)).2.2.2 (G (i2)).2.2.2) = false := bN_f c36
        refine lv_iconst (v := nI 0) hx hb dX2_areSame_43 (by decide) ?_
        exact W.zret hx hb hr (xnb _ (by omega)) (fun t9 ht9 hW9 => ⟨_, rfl, by first | (rw [sameB_t (by assumption) (by assumption) (by assumption)]; rfl) | (rw [sameB_f1 (by assumption)]; rfl) | (rw [sameB_f2 (by assumption)]; rfl) | (rw [sameB_f3 (by assumption)]; rfl), ht9⟩) (fun _ h => nomatch h) dX2_areSame_44
      · have c36 : (rowB (G (i1)).2.2.1 (G (i2)).2.2.1 (G (i1)).2.2.2 (G (i2)).2.2.2) = true := bN_t c36
        refine lv_iconst (v := nI 1) hx hb dX2_areSame_39 (by decide) ?_
        refine lv_goto (tgt := 44) hx hb dX2_areSame_40 (by decide) ?_
        exact W.zret hx hb hr (xnb _ (by omega)) (fun t9 ht9 hW9 => ⟨_, rfl, by first | (rw [sameB_t (by assumption) (by assumption) (by assumption)]; rfl) | (rw [sameB_f1 (by assumption)]; rfl) | (rw [sameB_f2 (by assumption)]; rfl) | (rw [sameB_f3 (by assumption)]; rfl), ht9⟩) (fun _ h => nomatch h) dX2_areSame_44

set_option maxHeartbeats 4000000 in
set_option maxRecDepth 100000 in
theorem c_X2_differs (l : Launch) {D : va_G} {cI cT cJ : ClassId} (m0 a1 a2 a3 a4 : Nat) (K R L N : Nat → Int32) (ld o b k t : Nat) (G : Nat → Tv) (hM : MA G K R L N) (d : Nat) (hd : d ≤ 40) : Met l yX2_differs wsX2_differs (rmD 3 0 0) (XP D cI cT cJ [.ref m0, .int (nI d)] (fun H => va_P D vwCl (MWs cI m0 a1 a2 a3 a4 K R L N ld o b k t) H)) (XSi (fun r => r = nI (dfN G d 6))) 0 0 (fun _ => False) := by
  refine Met.ofW (cc := cX2_differs) (maxL := 4) (ret := (some .int)) (by decide) rfl ?_
  intro p e s m args below meth c s₁ B hml hv
  obtain ⟨rfl, hP, hE⟩ := hv
  have hx := B.exec
  have hb := B.bytes
  have hr := B.returns
  have hts := atoms_spec (ws := wsX2_differs) B.pre
  have hown : s.vm.findClass RX2 = some m.cls := findClass_of_methodNamed B.named
  have hlocks := B.notSynchronized
  have hl := lv_entry ([.ref m0, .int (nI d)]) (n := 4) (Nat.le_of_ble_eq_true rfl)
  rw [lg_entry_eq]
  generalize (lg_sl ([.ref m0, .int (nI d)]) ++ List.replicate (4 - (lg_sl ([.ref m0, .int (nI d)])).length) Slot.unset).toArray = ls at hl ⊢
  have hl : lv_has ls 4 [(0, .ref m0), (1, .int (nI d))] := hl
  have hK := hE.1
  refine lv_iconst (v := nI 0) hx hb dX2_differs_0 (by decide) ?_
  refine lv_istore_n (lv' := [(2, .int (nI 0)), (0, .ref m0), (1, .int (nI d))]) hx hb dX2_differs_1 rfl hl (by decide) rfl (fun ls hl => ?_)
  refine lv_iconst (v := nI 0) hx hb dX2_differs_2 (by decide) ?_
  refine lv_istore_n (lv' := [(3, .int (nI 0)), (2, .int (nI 0)), (0, .ref m0), (1, .int (nI d))]) hx hb dX2_differs_3 rfl hl (by decide) rfl (fun ls hl => ?_)
  refine x_loopP (fun n ls => ∃ q j : Nat, (j + 1 = n) ∧ (6 ≤ q + j) ∧ (q ≤ 6) ∧ lv_has ls 4 [(3, .int (nI q)), (2, .int (nI (dfN G d q))), (0, .ref m0), (1, .int (nI d))]) (7) ⟨0, 6, rfl, by omega, by omega, lv_sub hl [0, 1, 2, 3] rfl⟩ (fun ls h => by obtain ⟨q, j, hk, h1, h2, -⟩ := h; omega) (fun n ls h ih => ?_)
  obtain ⟨q, j, hk, h1, h2, hl⟩ := h
  have hg1 := dfN_le (G := G) (d := d) q
  refine lv_iload_n hx hb dX2_differs_4 rfl (lv_at hl 0 rfl) ?_
  refine lv_bipush (v := nI 6) hx hb dX2_differs_5 (by decide) ?_
  refine lv_icmp_ge (tgt := 40) hx hb dX2_differs_7 (by decide) (fun c7 => ?_) (fun c7 => ?_)
  · have c7 : 6 ≤ q := (xle (by omega) (by omega)).mp c7
    refine lv_iload_n hx hb dX2_differs_40 rfl (lv_at hl 1 rfl) ?_
    exact W.iret hx hb hr (fun t9 ht9 hW9 => ⟨_, rfl, by rw [show q = 6 by omega], ht9⟩) (fun _ h => nomatch h) dX2_differs_41
  · have c7 : ¬ 6 ≤ q := fun h => c7 ((xle (by omega) (by omega)).mpr h)
    refine lv_iload_n hx hb dX2_differs_10 rfl (lv_at hl 1 rfl) ?_
    refine lv_aload_n hx hb dX2_differs_11 rfl (lv_at hl 2 rfl) ?_
    refine lv_iload_n hx hb dX2_differs_12 rfl (lv_at hl 3 rfl) ?_
    refine lv_iload_n hx hb dX2_differs_13 rfl (lv_at hl 0 rfl) ?_
    refine xc_sie (va_runS (As := [.int (nI d), .int (nI q)]) (rest := [.ref m0, .int (nI (dfN G d q))]) ⟨hx, hb, hml, hown, hts⟩ (c_X2_at l d q) (va_cwS 2 hts gX2_differs_X2_at rfl rfl rfl (by decide +kernel) ⟨(Nat.le_of_ble_eq_true rfl), (Nat.le_of_ble_eq_true rfl)⟩) ⟨XP_blind, XP_pre hE trivial⟩ rfl rfl hl.1 rfl (lv_room (Nat.le_of_ble_eq_true rfl)) dX2_differs_14 ⟨Nat.le_of_ble_eq_true rfl, Nat.le_of_ble_eq_true rfl⟩) ?_
    refine lv_iload_n hx hb dX2_differs_17 rfl (lv_at hl 0 rfl) ?_
    refine xc_sie (va_runS (As := [.int (nI q)]) (rest := [.int (nI (6 * d + q)), .ref m0, .int (nI (dfN G d q))]) ⟨hx, hb, hml, hown, hts⟩ (c_X2_live l q) (va_cwS 1 hts gX2_differs_X2_live rfl rfl rfl (by decide +kernel) ⟨(Nat.le_of_ble_eq_true rfl), (Nat.le_of_ble_eq_true rfl)⟩) ⟨XP_blind, XP_pre hE trivial⟩ rfl rfl hl.1 rfl (lv_room (Nat.le_of_ble_eq_true rfl)) dX2_differs_18 ⟨Nat.le_of_ble_eq_true rfl, Nat.le_of_ble_eq_true rfl⟩) ?_
    refine xc_sie (va_runV (As := [.int (nI (6 * d + q)), .int (nI (246 + q))]) (rest := [.int (nI (dfN G d q))]) ⟨hx, hb, hml, hown, hts⟩ (c_X2_areSame l m0 a1 a2 a3 a4 K R L N ld o b k t G hM (6 * d + q) (246 + q) (by omega) (by omega)) (cwV 2 hts gX2_differs_X2_areSame rfl rfl rfl (by decide +kernel) ⟨(Nat.le_of_ble_eq_true rfl), (Nat.le_of_ble_eq_true rfl)⟩) ⟨XP_blind, va_recv hK hP (ci := 2) (q0 := 0) rfl rfl, XP_pre hE hP⟩ rfl rfl hl.1 rfl (lv_room (Nat.le_of_ble_eq_true rfl)) dX2_differs_21 ⟨Nat.le_of_ble_eq_true rfl, Nat.le_of_ble_eq_true rfl⟩) ?_
    refine lv_if_eq (tgt := 31) hx hb dX2_differs_24 (by decide) (fun c24 => ?_) (fun c24 => ?_)
    · have c24 : (sameB (G (6 * d + q)) (G (246 + q))) = false := bN_f c24
      refine lv_iconst (v := nI 1) hx hb dX2_differs_31 (by decide) ?_
      refine lv_iadd hx hb dX2_differs_32 ?_
      refine x_top (nI (dfN G d q + 1)) (xadd (by omega)) ?_
      refine lv_istore_n (lv' := [(2, .int (nI (dfN G d q + 1))), (3, .int (nI q)), (0, .ref m0), (1, .int (nI d))]) hx hb dX2_differs_33 rfl hl (by decide) rfl (fun ls hl => ?_)
      refine lv_iinc (v := nI (q + 1)) (lv' := [(3, .int (nI (q + 1))), (2, .int (nI (dfN G d q + 1))), (0, .ref m0), (1, .int (nI d))]) hx hb dX2_differs_34 hl (k := 1) rfl (xinc _ 1 _ (by decide)) (by decide) rfl (fun ls hl => ?_)
      refine lv_goto (tgt := 4) hx hb dX2_differs_37 (by decide) ?_
      have hw : dfN G d q + 1 = dfN G d (q + 1) := by simp only [dfN]; rw [c24]; rfl
      have hl : lv_has ls 4 [(3, .int (nI (q + 1))), (2, .int (nI (dfN G d (q + 1)))), (0, .ref m0), (1, .int (nI d))] := by rw [← hw]; exact hl
      exact ih _ ⟨q + 1, j - 1, by omega, by omega, by omega, lv_sub hl [0, 1, 2, 3] rfl⟩
    · have c24 : (sameB (G (6 * d + q)) (G (246 + q))) = true := bN_t c24
      refine lv_iconst (v := nI 0) hx hb dX2_differs_27 (by decide) ?_
      refine lv_goto (tgt := 32) hx hb dX2_differs_28 (by decide) ?_
      refine lv_iadd hx hb dX2_differs_32 ?_
      refine x_top (nI (dfN G d q)) (xadd (by omega)) ?_
      refine lv_istore_n (lv' := [(2, .int (nI (dfN G d q))), (3, .int (nI q)), (0, .ref m0), (1, .int (nI d))]) hx hb dX2_differs_33 rfl hl (by decide) rfl (fun ls hl => ?_)
      refine lv_iinc (v := nI (q + 1)) (lv' := [(3, .int (nI (q + 1))), (2, .int (nI (dfN G d q))), (0, .ref m0), (1, .int (nI d))]) hx hb dX2_differs_34 hl (k := 1) rfl (xinc _ 1 _ (by decide)) (by decide) rfl (fun ls hl => ?_)
      refine lv_goto (tgt := 4) hx hb dX2_differs_37 (by decide) ?_
      have hw : dfN G d q = dfN G d (q + 1) := by simp only [dfN]; rw [c24]; rfl
      have hl : lv_has ls 4 [(3, .int (nI (q + 1))), (2, .int (nI (dfN G d (q + 1)))), (0, .ref m0), (1, .int (nI d))] := by rw [← hw]; exact hl
      exact ih _ ⟨q + 1, j - 1, by omega, by omega, by omega, lv_sub hl [0, 1, 2, 3] rfl⟩
