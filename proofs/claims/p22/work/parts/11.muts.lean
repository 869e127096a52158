/-! methods that change the mirror -/
section XCW
variable {p : Program} {l : Launch} {e : Env} {R : Room} {s : State} {m : MethodId} {args : Array Value} {below : List Frame} {meth : Method} {c : Code} {H : Heap} {locs : List Loc} {cells slots mc ms : Nat} {Q : State → Prop}
variable {pc : Nat} {ls : Array Slot} {rest st0 : List Value} {a : Array Value} {A0 A1 : Nat → Prop} {H0 : Heap} {free : Addr → Prop}
/-- a call that changes its world, or throws and changes nothing -/
theorem xcw {S : Type} {post : Int32 → S → Prop} {B : S → State → Prop} {PX : String → Prop} (hr : vx_Run p l e R s m args below meth c H locs cells slots mc ms (F0 m pc ls st0) rest (va_Qi post B A1 a) (XXc PX) free) (hS : va_S A0 H0 H locs) (hA : ∀ q, q < H.size → A1 q → A0 q) (hf : ∀ q, free q → A0 q)
    (kx : ∀ (E : String) (ce : Cell) (q9 : Addr) (H1 : Heap) (locs1 : List Loc), PX E → H.size ≤ H1.size → (∀ q : Nat, q < H.size → H1[q]? = H[q]?) → va_S A0 H0 H1 locs1 → H1[q9]? = some ce → ce.vm = .none → s.vm.findClass E = some ce.cls → vx_W p l e R s m args below meth c H1 locs1 (cells + mc) (slots + ms) Q (F0 m pc ls rest) q9)
    (kk : ∀ (r : Int32) (u : S) (t : State) (H1 : Heap) (locs1 : List Loc), t.heap = H1 → s.vm.Alike t.vm → post r u → B u t → H.size ≤ H1.size → (∀ q : Nat, q < H.size → ¬ A1 q → H1[q]? = H[q]?) → va_S A0 H0 H1 locs1 → W p l e R s m args below meth c H1 locs1 (cells + mc) (slots + ms) Q (F0 m (pc + 3) ls (.int r :: rest))) : W p l e R s m args below meth c H locs cells slots Q (F0 m pc ls st0) := by
  intro T hT X
  rcases hr T hT X with ⟨v, st₀, t, T', L, h0, X', hL, e1, e2, ⟨⟨r, u, hv, hp, hb⟩, hF⟩, st⟩ | ⟨q, st₀, t, T', L, E, ce, h0, X', hL, e1, e2, ⟨hp, hz, hk⟩, hce, hcv, hcl, st⟩
  · cases hv
    obtain ⟨k1, k2, k3⟩ := vx_keep h0 e1 hS hA hf hL hF
    obtain ⟨t2, a1, b1⟩ := kk r u t T'.heap (locs ++ L) e1.symm (by rw [← e2]; exact X'.warmed.alike) hp hb k1 k2 k3 T' rfl X'
    exact ⟨t2, st t2 a1, b1⟩
  · obtain ⟨k1, k2, k3⟩ := vx_keep (A1 := fun _ => False) h0 e1 hS (fun _ _ h => h.elim) hf hL ⟨hz, fun q h1 _ => hk q h1⟩
    obtain ⟨t2, a1, b1⟩ := kx E ce q T'.heap (locs ++ L) hp k1 (fun q hq => k2 q hq (fun h => h)) k3 (by rw [e1]; exact hce) hcv hcl T' rfl X'
    exact ⟨t2, st.trans a1, b1⟩
end XCW
theorem va_up_s {α : Type} {f : Nat → α} {k : Nat} {v : α} : va_up f k v k = v := if_pos rfl
theorem va_up_n {α : Type} {f : Nat → α} {k j : Nat} {v : α} (h : j ≠ k) : va_up f k v j = f j := if_neg h
theorem CA.live {cI : ClassId} {FZ : va_W} {fL fK : Nat → Option Nat} {G : Nat → Tv} (h : CA cI FZ fL fK G) {j a : Nat} {v : Tv} (hv : TH cI FZ a v) : CA cI FZ (va_up fL j (some a)) fK (va_up G (246 + j) v) := by
  refine ⟨fun i hi => ?_, fun i hi => ?_⟩
  · rw [va_up_n (by omega)]; exact h.1 i hi
  · by_cases e : i = j
    · subst e; exact ⟨a, va_up_s, by rw [va_up_s]; exact hv⟩
    · rw [va_up_n e, va_up_n (by omega)]; exact h.2 i hi
theorem CA.kept {cI : ClassId} {FZ : va_W} {fL fK : Nat → Option Nat} {G : Nat → Tv} (h : CA cI FZ fL fK G) {j a : Nat} {v : Tv} (hj : j < 246) (hv : TH cI FZ a v) : CA cI FZ fL (va_up fK j (some a)) (va_up G j v) := by
  refine ⟨fun i hi => ?_, fun i hi => ?_⟩
  · by_cases e : i = j
    · subst e; exact ⟨a, va_up_s, by rw [va_up_s]; exact hv⟩
    · rw [va_up_n e, va_up_n e]; exact h.1 i hi
  · rw [va_up_n (by omega)]; exact h.2 i hi
theorem xsw3 {α : Type} (a b c u v : α) (F : List α) : (a :: b :: c :: ((F ++ [u]) ++ [v])).Perm ((a :: b :: c :: (F ++ [v])) ++ [u]) := by
  have h : ((F ++ [u]) ++ [v]).Perm ((F ++ [v]) ++ [u]) := by
    rw [List.append_assoc, List.append_assoc]
    exact List.Perm.append_left F (List.Perm.swap v u [])
  exact (h.cons c).cons b |>.cons a
theorem insR_congr {f g : Nat → Int32} {n sp : Nat} {x : Int32} (h : ∀ j, j < n → f j = g j) (hs : sp ≤ n) (j : Nat) (hj : j < n + 1) : insR f sp x j = insR g sp x j := by
  unfold insR
  split
  · exact h j (by omega)
  · split
    · rfl
    · exact h (j - 1) (by omega)
theorem delR_congr {f g : Nat → Int32} {n sp : Nat} (h : ∀ j, j < n → f j = g j) (j : Nat) (hj : j < n - 1) : delR f sp j = delR g sp j := by
  unfold delR
  split
  · exact h j (by omega)
  · exact h (j + 1) (by omega)
/-- the live tree, p places of it, into the date d; and the other way -/
def cpD (G : Nat → Tv) (d p : Nat) : Nat → Tv := fun i => if 6 * d ≤ i ∧ i < 6 * d + p then G (246 + (i - 6 * d)) else G i
def cpL (G : Nat → Tv) (d p : Nat) : Nat → Tv := fun i => if 246 ≤ i ∧ i < 246 + p then G (6 * d + (i - 246)) else G i
theorem cpD_0 {G : Nat → Tv} {d : Nat} : cpD G d 0 = G := funext fun i => if_neg (by omega)
theorem cpL_0 {G : Nat → Tv} {d : Nat} : cpL G d 0 = G := funext fun i => if_neg (by omega)
theorem cpD_live {G : Nat → Tv} {d p i : Nat} (hd : d ≤ 40) (hp : p ≤ 6) (hi : 246 ≤ i) : cpD G d p i = G i := if_neg (by omega)
theorem cpL_kept {G : Nat → Tv} {d p i : Nat} (hi : i < 246) : cpL G d p i = G i := if_neg (by omega)
theorem cpL_at {G : Nat → Tv} {d p : Nat} : cpL G d p (246 + p) = G (246 + p) := if_neg (by omega)
theorem cpD_s {G : Nat → Tv} {d p : Nat} (hd : d ≤ 40) (hp : p < 6) : cpD G d (p + 1) = va_up (cpD G d p) (6 * d + p) (cpD G d p (246 + p)) := by
  funext i
  by_cases e : i = 6 * d + p
  · subst e
    have e2 : cpD G d p (246 + p) = G (246 + p) := cpD_live hd (by omega) (by omega)
    rw [va_up_s, e2]
    unfold cpD
    rw [if_pos (by omega), show 6 * d + p - 6 * d = p by omega]
  · rw [va_up_n e]
    unfold cpD
    by_cases c : 6 * d ≤ i ∧ i < 6 * d + p
    · rw [if_pos (by omega), if_pos c]
    · rw [if_neg (by omega), if_neg c]
theorem cpL_s {G : Nat → Tv} {d p : Nat} (hd : d ≤ 40) (hp : p < 6) : cpL G d (p + 1) = va_up (cpL G d p) (246 + p) (cpL G d p (6 * d + p)) := by
  funext i
  by_cases e : i = 246 + p
  · subst e
    have e2 : cpL G d p (6 * d + p) = G (6 * d + p) := cpL_kept (by omega)
    rw [va_up_s, e2]
    unfold cpL
    rw [if_pos (by omega), show 246 + p - 246 = p by omega]
  · rw [va_up_n e]
    unfold cpL
    by_cases c : 246 ≤ i ∧ i < 246 + p
    · rw [if_pos (by omega), if_pos c]
    · rw [if_neg (by omega), if_neg c]
/-- where a number may be put -/
def PutK (t : Tv) : Prop := t.1 = nI 1 ∧ t.2.2.1 < 12
theorem xIn_t {v : Int32} {n : Nat} (hn : n < 2 ^ 31) (h0 : ¬ v < 0) (h1 : v ≤ nI n) : ∃ j, j ≤ n ∧ v = nI j := by
  by_cases e : v = nI n
  · exact ⟨n, Nat.le_refl _, e⟩
  · rcases pk_ix v hn with h | h | ⟨j, hj, rfl⟩
    · exact absurd h h0
    · exact absurd (Int32.le_antisymm h1 h) e
    · exact ⟨j, by omega, rfl⟩
theorem xLt_t {v : Int32} {n : Nat} (hn : n < 2 ^ 31) (h0 : ¬ v < 0) (h1 : v < nI n) : ∃ j, j < n ∧ v = nI j := by
  rcases pk_ix v hn with h | h | ⟨j, hj, rfl⟩
  · exact absurd h h0
  · exact absurd h1 (Int32.not_lt.mpr h)
  · exact ⟨j, hj, rfl⟩
theorem xN0 {j : Nat} (h : j < 2 ^ 31) (c : nI j < 0) : False := xlt0 h c
theorem xNle {j n : Nat} (hj : j ≤ n) (hn : n < 2 ^ 31) (c : ¬ nI j ≤ nI n) : False := c ((xle (by omega) hn).mpr hj)
theorem xNgt {j n : Nat} (hj : j ≤ n) (hn : n < 2 ^ 31) (c : nI n < nI j) : False := absurd ((xlt hn (by omega)).mp c) (by omega)
theorem xNlt {j n : Nat} (hj : j < n) (hn : n < 2 ^ 31) (c : ¬ nI j < nI n) : False := c ((xlt (by omega) hn).mpr hj)
/-- a BackMirror that holds G, its oldest date, last date, whether it is broken, behind how many steps -/
abbrev Sv : Type := (Nat → Tv) × Nat × Nat × Nat × Nat
def CB (D : va_G) (cI cT : ClassId) (x lv kp : Nat) (A : Nat → Prop) (u : Sv) (H : Heap) : Prop := ∃ (fL fK : Nat → Option Nat) (FZ : va_W), va_P D vwCl (CW cT x lv kp fL fK u.2.1 u.2.2.1 u.2.2.2.1 u.2.2.2.2 FZ) H ∧ va_D A (CW cT x lv kp fL fK u.2.1 u.2.2.1 u.2.2.2.1 u.2.2.2.2 FZ) ∧ CA cI FZ fL fK u.1

theorem iw_X1makeFile_X0 : ∀ w ∈ u_ws RX0 TX0 3, w ∈ wsX1_makeFile := by decide +kernel
set_option maxHeartbeats 4000000 in
set_option maxRecDepth 100000 in
theorem c_X1_makeFile (l : Launch) (hst : l.stackTraces = false) {D : va_G} {cI cT cJ : ClassId} (Ax : Nat → Prop) (x lv kp : Nat) (fL fK : Nat → Option Nat) (o ld b k : Nat) (FZ : va_W) (G : Nat → Tv) (hC : CA cI FZ fL fK G) (v : Int32)  (sz : Nat) : vx_Met l yX1_makeFile wsX1_makeFile (rmD 8 8 40) (XPx D cI cT cJ Ax [.ref x, .int v] (fun H => H.size = sz ∧ va_P D vwCl (CW cT x lv kp fL fK o ld b k FZ) H ∧ va_D (fun _ => True) (CW cT x lv kp fL fK o ld b k FZ))) (va_Qi (S := Sv) (fun r u => ∃ j, j < 6 ∧ v = nI j ∧ r = (G (246 + j)).1 ∧ u = (va_up G (246 + j) (nI 1, nI 0, 0, fun _ => 0), o, ld, b, k)) (fun u t => CB D cI cT x lv kp (va_A (CW cT x lv kp fL fK o ld b k FZ) sz) u t.heap) (va_A (CW cT x lv kp fL fK o ld b k FZ) sz)) (XXc (fun E => E = nIO ∧ ¬ Pl v)) 8 40 (va_A (CW cT x lv kp fL fK o ld b k FZ) sz) := by
  refine vx_ofW (cc := cX1_makeFile) (maxL := 2) (ret := (some .int)) (by decide) rfl ?_
  intro p e s m args below meth c s₁ B hml hnt hv
  obtain ⟨rfl, ⟨hsz, hP, hD0⟩, hE, hT⟩ := hv
  have hx := B.exec
  have hb := B.bytes
  have hr := B.returns
  have hts := atoms_spec (ws := wsX1_makeFile) B.pre
  have hown : s.vm.findClass RX1 = some m.cls := findClass_of_methodNamed B.named
  have hlocks := B.notSynchronized
  have hl := lv_entry ([.ref x, .int v]) (n := 2) (Nat.le_of_ble_eq_true rfl)
  rw [lg_entry_eq]
  generalize (lg_sl ([.ref x, .int v]) ++ List.replicate (2 - (lg_sl ([.ref x, .int v])).length) Slot.unset).toArray = ls at hl ⊢
  have hl : lv_has ls 2 [(0, .ref x), (1, .int v)] := hl
  have hK := hE.1
  subst hsz
  have hD := hD0.self (sz := s.heap.size)
  generalize hAe : va_A (CW cT x lv kp fL fK o ld b k FZ) s.heap.size = A at hD ⊢
  have hA : ∀ q : Nat, s.heap.size ≤ q → A q := fun q h => by rw [← hAe]; exact Or.inr h
  have hS : va_S A s.heap s.heap [] := va_S.rf
  refine lv_iload_n hx hb dX1_makeFile_0 rfl (lv_at hl 1 rfl) ?_
  refine xcx (vx_runS (As := [.int v]) (rest := []) ⟨hx, hb, hml, hown, hts⟩ (c_X1_checkPlace l hst _ v) (va_cwS 1 hts gX1_makeFile_X1_checkPlace rfl rfl rfl (by decide +kernel) ⟨(Nat.le_of_ble_eq_true rfl), (Nat.le_of_ble_eq_true rfl)⟩) ⟨XPx_blind, XPx_pre hE hT trivial⟩ rfl rfl hl.1 rfl (lv_room (Nat.le_of_ble_eq_true rfl)) dX1_makeFile_1 ⟨Nat.le_of_ble_eq_true rfl, Nat.le_of_ble_eq_true rfl⟩) (fun E9 ce9 q9 H1 hp9 hz9 hk9 hc9 hv9 hcl9 => ?_) (fun v9 hw9 => ?_)
  · exact vx_out (fun x h => (hnt x h).elim) hlocks hc9 hv9 hcl9 (fun t9 ht9 _ => ⟨hp9, by rw [ht9]; exact hz9, fun q hq => by rw [ht9]; exact hk9 q hq⟩) (fun _ h => nomatch h) (Nat.le_of_ble_eq_true rfl) (Nat.le_of_ble_eq_true rfl)
  obtain ⟨rfl, ⟨j, hj, rfl⟩⟩ := hw9
  refine W.eq (g2 := F0 m 4 ls []) rfl ?_
  refine lv_aload_n hx hb dX1_makeFile_4 rfl (lv_at hl 0 rfl) ?_
  refine lv_iload_n hx hb dX1_makeFile_5 rfl (lv_at hl 1 rfl) ?_
  refine va_new (ci := 0) (fs := [.int 0, .int 0, .null]) (C := RX0) (T := TX0) (N := 3) hx hb hts iw_X1makeFile_X0 tyX0 tyX0_ok hown (hts (.classLink RX1 7 RX0) (by decide +kernel)) (hts (.instantiable RX0 3) (by decide +kernel)) (hts (.initialized RX0) (by decide +kernel)) hK hP hD hS hA rfl (by intro j hj; match j, hj with | 0, _ => rfl | 1, _ => rfl | 2, _ => rfl) (by first | exact Nat.le_of_ble_eq_true rfl | (show _ ≤ 8; omega)) (by first | exact Nat.le_of_ble_eq_true rfl | (show _ ≤ 40; omega)) dX1_makeFile_6 (fun q6 H hP hD hS => ?_)
  have hP : va_P D vwCl ((x, .inr (1, [.ref lv, .ref kp, .int (nI o), .int (nI ld), .int (nI b), .int (nI k)])) :: (lv, .inl (cT, 6, .inr (.inr (.inr (.inr fL))))) :: (kp, .inl (cT, 246, .inr (.inr (.inr (.inr fK))))) :: (FZ ++ [(q6, .inr (0, [.int 0, .int 0, .null]))])) H := hP
  have hD : va_D A ((x, .inr (1, [.ref lv, .ref kp, .int (nI o), .int (nI ld), .int (nI b), .int (nI k)])) :: (lv, .inl (cT, 6, .inr (.inr (.inr (.inr fL))))) :: (kp, .inl (cT, 246, .inr (.inr (.inr (.inr fK))))) :: (FZ ++ [(q6, .inr (0, [.int 0, .int 0, .null]))])) := hD
  refine lv_dup hx hb dX1_makeFile_9 rfl ?_
  refine lv_iconst (v := nI 1) hx hb dX1_makeFile_10 (by decide) ?_
  refine lv_iconst (v := nI 0) hx hb dX1_makeFile_11 (by decide) ?_
  refine lv_iconst (v := nI 0) hx hb dX1_makeFile_12 (by decide) ?_
  refine va_newa (atype := .int) (a0 := (0, .inl (fun _ => 0))) hx hb (hts (.arrayClass .int) (by decide +kernel)) rfl hK hP hD hS hA (fun _ => rfl) (xlt0 (by omega)) (nI_clamp (by omega)) (by show _ * 4 ≤ _; omega) (by first | exact Nat.le_of_ble_eq_true rfl | (show _ + _ ≤ 8; omega)) (by first | exact Nat.le_of_ble_eq_true rfl | (show _ + _ ≤ 40; omega)) dX1_makeFile_13 (fun q13 cA9 H hK9 hP hD hS => ?_)
  have hc9 := xcI hK9 hK 3 0 rfl rfl
  rw [hc9] at hP hD
  clear hK9 hc9
  have hP : va_P D vwCl ((x, .inr (1, [.ref lv, .ref kp, .int (nI o), .int (nI ld), .int (nI b), .int (nI k)])) :: (lv, .inl (cT, 6, .inr (.inr (.inr (.inr fL))))) :: (kp, .inl (cT, 246, .inr (.inr (.inr (.inr fK))))) :: ((FZ ++ [(q6, .inr (0, [.int 0, .int 0, .null]))]) ++ [(q13, .inl (cI, 0, .inl (fun _ => 0)))])) H := hP
  have hD : va_D A ((x, .inr (1, [.ref lv, .ref kp, .int (nI o), .int (nI ld), .int (nI b), .int (nI k)])) :: (lv, .inl (cT, 6, .inr (.inr (.inr (.inr fL))))) :: (kp, .inl (cT, 246, .inr (.inr (.inr (.inr fK))))) :: ((FZ ++ [(q6, .inr (0, [.int 0, .int 0, .null]))]) ++ [(q13, .inl (cI, 0, .inl (fun _ => 0)))])) := hD
  have hP := xP_perm (xsw3 _ _ _ _ _ _) hP
  have hD := xD_perm (xsw3 _ _ _ _ _ _) hD
  have hP : va_P D vwCl (((x, .inr (1, [.ref lv, .ref kp, .int (nI o), .int (nI ld), .int (nI b), .int (nI k)])) :: (lv, .inl (cT, 6, .inr (.inr (.inr (.inr fL))))) :: (kp, .inl (cT, 246, .inr (.inr (.inr (.inr fK))))) :: (FZ ++ [(q13, .inl (cI, 0, .inl (fun _ => 0)))])) ++ [(q6, .inr (0, [.int 0, .int 0, .null]))]) H := hP
  have hD : va_D A (((x, .inr (1, [.ref lv, .ref kp, .int (nI o), .int (nI ld), .int (nI b), .int (nI k)])) :: (lv, .inl (cT, 6, .inr (.inr (.inr (.inr fL))))) :: (kp, .inl (cT, 246, .inr (.inr (.inr (.inr fK))))) :: (FZ ++ [(q13, .inl (cI, 0, .inl (fun _ => 0)))])) ++ [(q6, .inr (0, [.int 0, .int 0, .null]))]) := hD
  have hFc := xfree (wc := [(q6, .inr (0, [.int 0, .int 0, .null]))]) hD hS hA (fun _ h => List.mem_append_right _ h)
  have hPc := xP_sub (w2 := [(q6, .inr (0, [.int 0, .int 0, .null]))]) (fun _ h => List.mem_append_right _ h) hP
  have hDc : va_D (fun _ => True) [(q6, .inr (0, [.int 0, .int 0, .null]))] := (xD_sub (List.sublist_append_right _ _) hD).weaken (fun _ _ _ _ => trivial)
  refine va_callv (va_runI (As := [.int (nI 1), .int (nI 0), .ref q13]) (rest := [.ref q6, .int (nI j), .ref x]) ⟨hx, hb, hml, hown, hts⟩ (c_X0_init l q6 q13 H.size (nI 1) (nI 0)) (cwI 3 hts gX1_makeFile_X0_init rfl rfl rfl (hts (.initialized RX0) (by decide +kernel)) (hts (.methodLink RX1 11 yX0_init) (by decide +kernel)) (hts (.instanceMethod yX0_init) (by decide +kernel)) rfl (by decide +kernel) ⟨(Nat.le_of_ble_eq_true rfl), (Nat.le_of_ble_eq_true rfl)⟩) ⟨XP_blind, XP_pre hE ⟨rfl, hPc, hDc⟩⟩ rfl rfl hl.1 rfl (lv_room (Nat.le_of_ble_eq_true rfl)) dX1_makeFile_15 ⟨by first | exact Nat.le_of_ble_eq_true rfl | (show _ + _ ≤ _; omega), by first | exact Nat.le_of_ble_eq_true rfl | (show _ + _ ≤ _; omega)⟩) hS (fun q9 _ h => hFc q9 h) hFc (fun u t9 H1 locs ht9 hvm9 hw9 hB9 hzc hkc hS => ?_)
  obtain ⟨hP1, hD1⟩ := hB9
  rw [ht9] at hP1
  obtain ⟨hP, hD⟩ := xjoin (wr := ((x, .inr (1, [.ref lv, .ref kp, .int (nI o), .int (nI ld), .int (nI b), .int (nI k)])) :: (lv, .inl (cT, 6, .inr (.inr (.inr (.inr fL))))) :: (kp, .inl (cT, 246, .inr (.inr (.inr (.inr fK))))) :: (FZ ++ [(q13, .inl (cI, 0, .inl (fun _ => 0)))]))) (wc := [(q6, .inr (0, [.int 0, .int 0, .null]))]) (w1 := [(q6, .inr (0, [.int (nI 1), .int (nI 0), .ref q13]))]) hP hD hkc hFc hP1 hD1
  generalize H1 = H at hP hS ⊢
  have hP : va_P D vwCl ((x, .inr (1, [.ref lv, .ref kp, .int (nI o), .int (nI ld), .int (nI b), .int (nI k)])) :: (lv, .inl (cT, 6, .inr (.inr (.inr (.inr fL))))) :: (kp, .inl (cT, 246, .inr (.inr (.inr (.inr fK))))) :: ((FZ ++ [(q13, .inl (cI, 0, .inl (fun _ => 0)))]) ++ [(q6, .inr (0, [.int (nI 1), .int (nI 0), .ref q13]))])) H := hP
  have hD : va_D A ((x, .inr (1, [.ref lv, .ref kp, .int (nI o), .int (nI ld), .int (nI b), .int (nI k)])) :: (lv, .inl (cT, 6, .inr (.inr (.inr (.inr fL))))) :: (kp, .inl (cT, 246, .inr (.inr (.inr (.inr fK))))) :: ((FZ ++ [(q13, .inl (cI, 0, .inl (fun _ => 0)))]) ++ [(q6, .inr (0, [.int (nI 1), .int (nI 0), .ref q13]))])) := hD
  have hP : va_P D vwCl ([] ++ (CW cT x lv kp fL fK o ld b k ((FZ ++ [(q13, .inl (cI, 0, .inl (fun _ => 0)))]) ++ [(q6, .inr (0, [.int (nI 1), .int (nI 0), .ref q13]))]))) H := hP
  have hD : va_D A ([] ++ (CW cT x lv kp fL fK o ld b k ((FZ ++ [(q13, .inl (cI, 0, .inl (fun _ => 0)))]) ++ [(q6, .inr (0, [.int (nI 1), .int (nI 0), .ref q13]))]))) := hD
  have hFc := xfree (wc := (CW cT x lv kp fL fK o ld b k ((FZ ++ [(q13, .inl (cI, 0, .inl (fun _ => 0)))]) ++ [(q6, .inr (0, [.int (nI 1), .int (nI 0), .ref q13]))]))) hD hS hA (fun _ h => List.mem_append_right _ h)
  have hPc := xP_sub (w2 := (CW cT x lv kp fL fK o ld b k ((FZ ++ [(q13, .inl (cI, 0, .inl (fun _ => 0)))]) ++ [(q6, .inr (0, [.int (nI 1), .int (nI 0), .ref q13]))]))) (fun _ h => List.mem_append_right _ h) hP
  have hDc : va_D (fun _ => True) (CW cT x lv kp fL fK o ld b k ((FZ ++ [(q13, .inl (cI, 0, .inl (fun _ => 0)))]) ++ [(q6, .inr (0, [.int (nI 1), .int (nI 0), .ref q13]))])) := (xD_sub (List.sublist_append_right _ _) hD).weaken (fun _ _ _ _ => trivial)
  refine va_calli (va_runV (As := [.int (nI j), .ref q6]) (rest := []) ⟨hx, hb, hml, hown, hts⟩ (c_X1_exchange l x lv kp fL fK o ld b k ((FZ ++ [(q13, .inl (cI, 0, .inl (fun _ => 0)))]) ++ [(q6, .inr (0, [.int (nI 1), .int (nI 0), .ref q13]))]) G (hC.app.app) j q6 H.size [.int (nI 1), .int (nI 0), .ref q13] hj (List.mem_append_right _ (List.mem_singleton.mpr rfl))) (cwV 2 hts gX1_makeFile_X1_exchange rfl rfl rfl (by decide +kernel) ⟨(Nat.le_of_ble_eq_true rfl), (Nat.le_of_ble_eq_true rfl)⟩) ⟨XP_blind, va_recv hK hP (ci := 1) (q0 := 0) rfl rfl, XP_pre hE ⟨rfl, hPc, hDc⟩⟩ rfl rfl hl.1 rfl (lv_room (Nat.le_of_ble_eq_true rfl)) dX1_makeFile_18 ⟨by first | exact Nat.le_of_ble_eq_true rfl | (show _ + _ ≤ _; omega), by first | exact Nat.le_of_ble_eq_true rfl | (show _ + _ ≤ _; omega)⟩) hS (fun q9 _ h => hFc q9 h) hFc (fun r9 u t9 H1 locs ht9 hvm9 hw9 hB9 hzc hkc hS => ?_)
  obtain ⟨hP1, hD1⟩ := hB9
  rw [ht9] at hP1
  obtain ⟨hP, hD⟩ := xjoin (wr := []) (wc := (CW cT x lv kp fL fK o ld b k ((FZ ++ [(q13, .inl (cI, 0, .inl (fun _ => 0)))]) ++ [(q6, .inr (0, [.int (nI 1), .int (nI 0), .ref q13]))]))) (w1 := (CW cT x lv kp (va_up fL j (some q6)) fK o ld b k ((FZ ++ [(q13, .inl (cI, 0, .inl (fun _ => 0)))]) ++ [(q6, .inr (0, [.int (nI 1), .int (nI 0), .ref q13]))]))) hP hD hkc hFc hP1 hD1
  generalize H1 = H at hP hS ⊢
  subst hw9
  have hP : va_P D vwCl ((x, .inr (1, [.ref lv, .ref kp, .int (nI o), .int (nI ld), .int (nI b), .int (nI k)])) :: (lv, .inl (cT, 6, .inr (.inr (.inr (.inr (va_up fL j (some q6))))))) :: (kp, .inl (cT, 246, .inr (.inr (.inr (.inr fK))))) :: ((FZ ++ [(q13, .inl (cI, 0, .inl (fun _ => 0)))]) ++ [(q6, .inr (0, [.int (nI 1), .int (nI 0), .ref q13]))])) H := hP
  have hD : va_D A ((x, .inr (1, [.ref lv, .ref kp, .int (nI o), .int (nI ld), .int (nI b), .int (nI k)])) :: (lv, .inl (cT, 6, .inr (.inr (.inr (.inr (va_up fL j (some q6))))))) :: (kp, .inl (cT, 246, .inr (.inr (.inr (.inr fK))))) :: ((FZ ++ [(q13, .inl (cI, 0, .inl (fun _ => 0)))]) ++ [(q6, .inr (0, [.int (nI 1), .int (nI 0), .ref q13]))])) := hD
  refine vx_ret ?_
  refine W.widen (k := 8) (n := 40) (by first | exact Nat.le_of_ble_eq_true rfl | (show _ ≤ 8; omega)) (by first | exact Nat.le_of_ble_eq_true rfl | (show _ ≤ 40; omega)) ?_
  exact W.iret hx hb hr (fun t9 ht9 hW9 => ⟨⟨_, (va_up G (246 + j) (nI 1, nI 0, 0, fun _ => 0), o, ld, b, k), rfl, ⟨j, hj, rfl, rfl, rfl⟩, ⟨_, _, _, by rw [ht9]; exact hP, hD, (hC.app.app).live (v := (nI 1, nI 0, 0, fun _ => 0)) ⟨Nat.le_of_ble_eq_true rfl, _, _, List.mem_append_right _ (List.mem_singleton.mpr rfl), List.mem_append_left _ (List.mem_append_right _ (List.mem_singleton.mpr rfl)), fun _ _ => rfl⟩⟩⟩, hS.F ht9⟩) hS.2.2 dX1_makeFile_21

theorem iw_X1remove_X0 : ∀ w ∈ u_ws RX0 TX0 3, w ∈ wsX1_remove := by decide +kernel
set_option maxHeartbeats 4000000 in
set_option maxRecDepth 100000 in
theorem c_X1_remove (l : Launch) (hst : l.stackTraces = false) {D : va_G} {cI cT cJ : ClassId} (Ax : Nat → Prop) (x lv kp : Nat) (fL fK : Nat → Option Nat) (o ld b k : Nat) (FZ : va_W) (G : Nat → Tv) (hC : CA cI FZ fL fK G) (v : Int32)  (sz : Nat) : vx_Met l yX1_remove wsX1_remove (rmD 8 8 40) (XPx D cI cT cJ Ax [.ref x, .int v] (fun H => H.size = sz ∧ va_P D vwCl (CW cT x lv kp fL fK o ld b k FZ) H ∧ va_D (fun _ => True) (CW cT x lv kp fL fK o ld b k FZ))) (va_Qi (S := Sv) (fun r u => ∃ j, j < 6 ∧ v = nI j ∧ r = (G (246 + j)).1 ∧ u = (va_up G (246 + j) (nI 0, nI 0, 0, fun _ => 0), o, ld, b, k)) (fun u t => CB D cI cT x lv kp (va_A (CW cT x lv kp fL fK o ld b k FZ) sz) u t.heap) (va_A (CW cT x lv kp fL fK o ld b k FZ) sz)) (XXc (fun E => E = nIO ∧ ¬ Pl v)) 8 40 (va_A (CW cT x lv kp fL fK o ld b k FZ) sz) := by
  refine vx_ofW (cc := cX1_remove) (maxL := 2) (ret := (some .int)) (by decide) rfl ?_
  intro p e s m args below meth c s₁ B hml hnt hv
  obtain ⟨rfl, ⟨hsz, hP, hD0⟩, hE, hT⟩ := hv
  have hx := B.exec
  have hb := B.bytes
  have hr := B.returns
  have hts := atoms_spec (ws := wsX1_remove) B.pre
  have hown : s.vm.findClass RX1 = some m.cls := findClass_of_methodNamed B.named
  have hlocks := B.notSynchronized
  have hl := lv_entry ([.ref x, .int v]) (n := 2) (Nat.le_of_ble_eq_true rfl)
  rw [lg_entry_eq]
  generalize (lg_sl ([.ref x, .int v]) ++ List.replicate (2 - (lg_sl ([.ref x, .int v])).length) Slot.unset).toArray = ls at hl ⊢
  have hl : lv_has ls 2 [(0, .ref x), (1, .int v)] := hl
  have hK := hE.1
  subst hsz
  have hD := hD0.self (sz := s.heap.size)
  generalize hAe : va_A (CW cT x lv kp fL fK o ld b k FZ) s.heap.size = A at hD ⊢
  have hA : ∀ q : Nat, s.heap.size ≤ q → A q := fun q h => by rw [← hAe]; exact Or.inr h
  have hS : va_S A s.heap s.heap [] := va_S.rf
  refine lv_iload_n hx hb dX1_remove_0 rfl (lv_at hl 1 rfl) ?_
  refine xcx (vx_runS (As := [.int v]) (rest := []) ⟨hx, hb, hml, hown, hts⟩ (c_X1_checkPlace l hst _ v) (va_cwS 1 hts gX1_remove_X1_checkPlace rfl rfl rfl (by decide +kernel) ⟨(Nat.le_of_ble_eq_true rfl), (Nat.le_of_ble_eq_true rfl)⟩) ⟨XPx_blind, XPx_pre hE hT trivial⟩ rfl rfl hl.1 rfl (lv_room (Nat.le_of_ble_eq_true rfl)) dX1_remove_1 ⟨Nat.le_of_ble_eq_true rfl, Nat.le_of_ble_eq_true rfl⟩) (fun E9 ce9 q9 H1 hp9 hz9 hk9 hc9 hv9 hcl9 => ?_) (fun v9 hw9 => ?_)
  · exact vx_out (fun x h => (hnt x h).elim) hlocks hc9 hv9 hcl9 (fun t9 ht9 _ => ⟨hp9, by rw [ht9]; exact hz9, fun q hq => by rw [ht9]; exact hk9 q hq⟩) (fun _ h => nomatch h) (Nat.le_of_ble_eq_true rfl) (Nat.le_of_ble_eq_true rfl)
  obtain ⟨rfl, ⟨j, hj, rfl⟩⟩ := hw9
  refine W.eq (g2 := F0 m 4 ls []) rfl ?_
  refine lv_aload_n hx hb dX1_remove_4 rfl (lv_at hl 0 rfl) ?_
  refine lv_iload_n hx hb dX1_remove_5 rfl (lv_at hl 1 rfl) ?_
  refine va_new (ci := 0) (fs := [.int 0, .int 0, .null]) (C := RX0) (T := TX0) (N := 3) hx hb hts iw_X1remove_X0 tyX0 tyX0_ok hown (hts (.classLink RX1 7 RX0) (by decide +kernel)) (hts (.instantiable RX0 3) (by decide +kernel)) (hts (.initialized RX0) (by decide +kernel)) hK hP hD hS hA rfl (by intro j hj; match j, hj with | 0, _ => rfl | 1, _ => rfl | 2, _ => rfl) (by first | exact Nat.le_of_ble_eq_true rfl | (show _ ≤ 8; omega)) (by first | exact Nat.le_of_ble_eq_true rfl | (show _ ≤ 40; omega)) dX1_remove_6 (fun q6 H hP hD hS => ?_)
  have hP : va_P D vwCl ((x, .inr (1, [.ref lv, .ref kp, .int (nI o), .int (nI ld), .int (nI b), .int (nI k)])) :: (lv, .inl (cT, 6, .inr (.inr (.inr (.inr fL))))) :: (kp, .inl (cT, 246, .inr (.inr (.inr (.inr fK))))) :: (FZ ++ [(q6, .inr (0, [.int 0, .int 0, .null]))])) H := hP
  have hD : va_D A ((x, .inr (1, [.ref lv, .ref kp, .int (nI o), .int (nI ld), .int (nI b), .int (nI k)])) :: (lv, .inl (cT, 6, .inr (.inr (.inr (.inr fL))))) :: (kp, .inl (cT, 246, .inr (.inr (.inr (.inr fK))))) :: (FZ ++ [(q6, .inr (0, [.int 0, .int 0, .null]))])) := hD
  refine lv_dup hx hb dX1_remove_9 rfl ?_
  refine lv_iconst (v := nI 0) hx hb dX1_remove_10 (by decide) ?_
  refine lv_iconst (v := nI 0) hx hb dX1_remove_11 (by decide) ?_
  refine lv_iconst (v := nI 0) hx hb dX1_remove_12 (by decide) ?_
  refine va_newa (atype := .int) (a0 := (0, .inl (fun _ => 0))) hx hb (hts (.arrayClass .int) (by decide +kernel)) rfl hK hP hD hS hA (fun _ => rfl) (xlt0 (by omega)) (nI_clamp (by omega)) (by show _ * 4 ≤ _; omega) (by first | exact Nat.le_of_ble_eq_true rfl | (show _ + _ ≤ 8; omega)) (by first | exact Nat.le_of_ble_eq_true rfl | (show _ + _ ≤ 40; omega)) dX1_remove_13 (fun q13 cA9 H hK9 hP hD hS => ?_)
  have hc9 := xcI hK9 hK 3 0 rfl rfl
  rw [hc9] at hP hD
  clear hK9 hc9
  have hP : va_P D vwCl ((x, .inr (1, [.ref lv, .ref kp, .int (nI o), .int (nI ld), .int (nI b), .int (nI k)])) :: (lv, .inl (cT, 6, .inr (.inr (.inr (.inr fL))))) :: (kp, .inl (cT, 246, .inr (.inr (.inr (.inr fK))))) :: ((FZ ++ [(q6, .inr (0, [.int 0, .int 0, .null]))]) ++ [(q13, .inl (cI, 0, .inl (fun _ => 0)))])) H := hP
  have hD : va_D A ((x, .inr (1, [.ref lv, .ref kp, .int (nI o), .int (nI ld), .int (nI b), .int (nI k)])) :: (lv, .inl (cT, 6, .inr (.inr (.inr (.inr fL))))) :: (kp, .inl (cT, 246, .inr (.inr (.inr (.inr fK))))) :: ((FZ ++ [(q6, .inr (0, [.int 0, .int 0, .null]))]) ++ [(q13, .inl (cI, 0, .inl (fun _ => 0)))])) := hD
  have hP := xP_perm (xsw3 _ _ _ _ _ _) hP
  have hD := xD_perm (xsw3 _ _ _ _ _ _) hD
  have hP : va_P D vwCl (((x, .inr (1, [.ref lv, .ref kp, .int (nI o), .int (nI ld), .int (nI b), .int (nI k)])) :: (lv, .inl (cT, 6, .inr (.inr (.inr (.inr fL))))) :: (kp, .inl (cT, 246, .inr (.inr (.inr (.inr fK))))) :: (FZ ++ [(q13, .inl (cI, 0, .inl (fun _ => 0)))])) ++ [(q6, .inr (0, [.int 0, .int 0, .null]))]) H := hP
  have hD : va_D A (((x, .inr (1, [.ref lv, .ref kp, .int (nI o), .int (nI ld), .int (nI b), .int (nI k)])) :: (lv, .inl (cT, 6, .inr (.inr (.inr (.inr fL))))) :: (kp, .inl (cT, 246, .inr (.inr (.inr (.inr fK))))) :: (FZ ++ [(q13, .inl (cI, 0, .inl (fun _ => 0)))])) ++ [(q6, .inr (0, [.int 0, .int 0, .null]))]) := hD
  have hFc := xfree (wc := [(q6, .inr (0, [.int 0, .int 0, .null]))]) hD hS hA (fun _ h => List.mem_append_right _ h)
  have hPc := xP_sub (w2 := [(q6, .inr (0, [.int 0, .int 0, .null]))]) (fun _ h => List.mem_append_right _ h) hP
  have hDc : va_D (fun _ => True) [(q6, .inr (0, [.int 0, .int 0, .null]))] := (xD_sub (List.sublist_append_right _ _) hD).weaken (fun _ _ _ _ => trivial)
  refine va_callv (va_runI (As := [.int (nI 0), .int (nI 0), .ref q13]) (rest := [.ref q6, .int (nI j), .ref x]) ⟨hx, hb, hml, hown, hts⟩ (c_X0_init l q6 q13 H.size (nI 0) (nI 0)) (cwI 3 hts gX1_remove_X0_init rfl rfl rfl (hts (.initialized RX0) (by decide +kernel)) (hts (.methodLink RX1 11 yX0_init) (by decide +kernel)) (hts (.instanceMethod yX0_init) (by decide +kernel)) rfl (by decide +kernel) ⟨(Nat.le_of_ble_eq_true rfl), (Nat.le_of_ble_eq_true rfl)⟩) ⟨XP_blind, XP_pre hE ⟨rfl, hPc, hDc⟩⟩ rfl rfl hl.1 rfl (lv_room (Nat.le_of_ble_eq_true rfl)) dX1_remove_15 ⟨by first | exact Nat.le_of_ble_eq_true rfl | (show _ + _ ≤ _; omega), by first | exact Nat.le_of_ble_eq_true rfl | (show _ + _ ≤ _; omega)⟩) hS (fun q9 _ h => hFc q9 h) hFc (fun u t9 H1 locs ht9 hvm9 hw9 hB9 hzc hkc hS => ?_)
  obtain ⟨hP1, hD1⟩ := hB9
  rw [ht9] at hP1
  obtain ⟨hP, hD⟩ := xjoin (wr := ((x, .inr (1, [.ref lv, .ref kp, .int (nI o), .int (nI ld), .int (nI b), .int (nI k)])) :: (lv, .inl (cT, 6, .inr (.inr (.inr (.inr fL))))) :: (kp, .inl (cT, 246, .inr (.inr (.inr (.inr fK))))) :: (FZ ++ [(q13, .inl (cI, 0, .inl (fun _ => 0)))]))) (wc := [(q6, .inr (0, [.int 0, .int 0, .null]))]) (w1 := [(q6, .inr (0, [.int (nI 0), .int (nI 0), .ref q13]))]) hP hD hkc hFc hP1 hD1
  generalize H1 = H at hP hS ⊢
  have hP : va_P D vwCl ((x, .inr (1, [.ref lv, .ref kp, .int (nI o), .int (nI ld), .int (nI b), .int (nI k)])) :: (lv, .inl (cT, 6, .inr (.inr (.inr (.inr fL))))) :: (kp, .inl (cT, 246, .inr (.inr (.inr (.inr fK))))) :: ((FZ ++ [(q13, .inl (cI, 0, .inl (fun _ => 0)))]) ++ [(q6, .inr (0, [.int (nI 0), .int (nI 0), .ref q13]))])) H := hP
  have hD : va_D A ((x, .inr (1, [.ref lv, .ref kp, .int (nI o), .int (nI ld), .int (nI b), .int (nI k)])) :: (lv, .inl (cT, 6, .inr (.inr (.inr (.inr fL))))) :: (kp, .inl (cT, 246, .inr (.inr (.inr (.inr fK))))) :: ((FZ ++ [(q13, .inl (cI, 0, .inl (fun _ => 0)))]) ++ [(q6, .inr (0, [.int (nI 0), .int (nI 0), .ref q13]))])) := hD
  have hP : va_P D vwCl ([] ++ (CW cT x lv kp fL fK o ld b k ((FZ ++ [(q13, .inl (cI, 0, .inl (fun _ => 0)))]) ++ [(q6, .inr (0, [.int (nI 0), .int (nI 0), .ref q13]))]))) H := hP
  have hD : va_D A ([] ++ (CW cT x lv kp fL fK o ld b k ((FZ ++ [(q13, .inl (cI, 0, .inl (fun _ => 0)))]) ++ [(q6, .inr (0, [.int (nI 0), .int (nI 0), .ref q13]))]))) := hD
  have hFc := xfree (wc := (CW cT x lv kp fL fK o ld b k ((FZ ++ [(q13, .inl (cI, 0, .inl (fun _ => 0)))]) ++ [(q6, .inr (0, [.int (nI 0), .int (nI 0), .ref q13]))]))) hD hS hA (fun _ h => List.mem_append_right _ h)
  have hPc := xP_sub (w2 := (CW cT x lv kp fL fK o ld b k ((FZ ++ [(q13, .inl (cI, 0, .inl (fun _ => 0)))]) ++ [(q6, .inr (0, [.int (nI 0), .int (nI 0), .ref q13]))]))) (fun _ h => List.mem_append_right _ h) hP
  have hDc : va_D (fun _ => True) (CW cT x lv kp fL fK o ld b k ((FZ ++ [(q13, .inl (cI, 0, .inl (fun _ => 0)))]) ++ [(q6, .inr (0, [.int (nI 0), .int (nI 0), .ref q13]))])) := (xD_sub (List.sublist_append_right _ _) hD).weaken (fun _ _ _ _ => trivial)
  refine va_calli (va_runV (As := [.int (nI j), .ref q6]) (rest := []) ⟨hx, hb, hml, hown, hts⟩ (c_X1_exchange l x lv kp fL fK o ld b k ((FZ ++ [(q13, .inl (cI, 0, .inl (fun _ => 0)))]) ++ [(q6, .inr (0, [.int (nI 0), .int (nI 0), .ref q13]))]) G (hC.app.app) j q6 H.size [.int (nI 0), .int (nI 0), .ref q13] hj (List.mem_append_right _ (List.mem_singleton.mpr rfl))) (cwV 2 hts gX1_remove_X1_exchange rfl rfl rfl (by decide +kernel) ⟨(Nat.le_of_ble_eq_true rfl), (Nat.le_of_ble_eq_true rfl)⟩) ⟨XP_blind, va_recv hK hP (ci := 1) (q0 := 0) rfl rfl, XP_pre hE ⟨rfl, hPc, hDc⟩⟩ rfl rfl hl.1 rfl (lv_room (Nat.le_of_ble_eq_true rfl)) dX1_remove_18 ⟨by first | exact Nat.le_of_ble_eq_true rfl | (show _ + _ ≤ _; omega), by first | exact Nat.le_of_ble_eq_true rfl | (show _ + _ ≤ _; omega)⟩) hS (fun q9 _ h => hFc q9 h) hFc (fun r9 u t9 H1 locs ht9 hvm9 hw9 hB9 hzc hkc hS => ?_)
  obtain ⟨hP1, hD1⟩ := hB9
  rw [ht9] at hP1
  obtain ⟨hP, hD⟩ := xjoin (wr := []) (wc := (CW cT x lv kp fL fK o ld b k ((FZ ++ [(q13, .inl (cI, 0, .inl (fun _ => 0)))]) ++ [(q6, .inr (0, [.int (nI 0), .int (nI 0), .ref q13]))]))) (w1 := (CW cT x lv kp (va_up fL j (some q6)) fK o ld b k ((FZ ++ [(q13, .inl (cI, 0, .inl (fun _ => 0)))]) ++ [(q6, .inr (0, [.int (nI 0), .int (nI 0), .ref q13]))]))) hP hD hkc hFc hP1 hD1
  generalize H1 = H at hP hS ⊢
  subst hw9
  have hP : va_P D vwCl ((x, .inr (1, [.ref lv, .ref kp, .int (nI o), .int (nI ld), .int (nI b), .int (nI k)])) :: (lv, .inl (cT, 6, .inr (.inr (.inr (.inr (va_up fL j (some q6))))))) :: (kp, .inl (cT, 246, .inr (.inr (.inr (.inr fK))))) :: ((FZ ++ [(q13, .inl (cI, 0, .inl (fun _ => 0)))]) ++ [(q6, .inr (0, [.int (nI 0), .int (nI 0), .ref q13]))])) H := hP
  have hD : va_D A ((x, .inr (1, [.ref lv, .ref kp, .int (nI o), .int (nI ld), .int (nI b), .int (nI k)])) :: (lv, .inl (cT, 6, .inr (.inr (.inr (.inr (va_up fL j (some q6))))))) :: (kp, .inl (cT, 246, .inr (.inr (.inr (.inr fK))))) :: ((FZ ++ [(q13, .inl (cI, 0, .inl (fun _ => 0)))]) ++ [(q6, .inr (0, [.int (nI 0), .int (nI 0), .ref q13]))])) := hD
  refine vx_ret ?_
  refine W.widen (k := 8) (n := 40) (by first | exact Nat.le_of_ble_eq_true rfl | (show _ ≤ 8; omega)) (by first | exact Nat.le_of_ble_eq_true rfl | (show _ ≤ 40; omega)) ?_
  exact W.iret hx hb hr (fun t9 ht9 hW9 => ⟨⟨_, (va_up G (246 + j) (nI 0, nI 0, 0, fun _ => 0), o, ld, b, k), rfl, ⟨j, hj, rfl, rfl, rfl⟩, ⟨_, _, _, by rw [ht9]; exact hP, hD, (hC.app.app).live (v := (nI 0, nI 0, 0, fun _ => 0)) ⟨Nat.le_of_ble_eq_true rfl, _, _, List.mem_append_right _ (List.mem_singleton.mpr rfl), List.mem_append_left _ (List.mem_append_right _ (List.mem_singleton.mpr rfl)), fun _ _ => rfl⟩⟩⟩, hS.F ht9⟩) hS.2.2 dX1_remove_21

theorem iw_X1makeLink_X0 : ∀ w ∈ u_ws RX0 TX0 3, w ∈ wsX1_makeLink := by decide +kernel
set_option maxHeartbeats 4000000 in
set_option maxRecDepth 100000 in
theorem c_X1_makeLink (l : Launch) (hst : l.stackTraces = false) {D : va_G} {cI cT cJ : ClassId} (Ax : Nat → Prop) (x lv kp : Nat) (fL fK : Nat → Option Nat) (o ld b k : Nat) (FZ : va_W) (G : Nat → Tv) (hC : CA cI FZ fL fK G) (v w : Int32)  (sz : Nat) : vx_Met l yX1_makeLink wsX1_makeLink (rmD 8 8 40) (XPx D cI cT cJ Ax [.ref x, .int v, .int w] (fun H => H.size = sz ∧ va_P D vwCl (CW cT x lv kp fL fK o ld b k FZ) H ∧ va_D (fun _ => True) (CW cT x lv kp fL fK o ld b k FZ))) (va_Qi (S := Sv) (fun r u => ∃ j t, j < 6 ∧ t < 6 ∧ v = nI j ∧ w = nI t ∧ r = (G (246 + j)).1 ∧ u = (va_up G (246 + j) (nI 2, nI 0, 1, fun _ => nI t), o, ld, b, k)) (fun u t => CB D cI cT x lv kp (va_A (CW cT x lv kp fL fK o ld b k FZ) sz) u t.heap) (va_A (CW cT x lv kp fL fK o ld b k FZ) sz)) (XXc (fun E => E = nIO ∧ ¬ (Pl v ∧ Pl w))) 8 40 (va_A (CW cT x lv kp fL fK o ld b k FZ) sz) := by
  refine vx_ofW (cc := cX1_makeLink) (maxL := 3) (ret := (some .int)) (by decide) rfl ?_
  intro p e s m args below meth c s₁ B hml hnt hv
  obtain ⟨rfl, ⟨hsz, hP, hD0⟩, hE, hT⟩ := hv
  have hx := B.exec
  have hb := B.bytes
  have hr := B.returns
  have hts := atoms_spec (ws := wsX1_makeLink) B.pre
  have hown : s.vm.findClass RX1 = some m.cls := findClass_of_methodNamed B.named
  have hlocks := B.notSynchronized
  have hl := lv_entry ([.ref x, .int v, .int w]) (n := 3) (Nat.le_of_ble_eq_true rfl)
  rw [lg_entry_eq]
  generalize (lg_sl ([.ref x, .int v, .int w]) ++ List.replicate (3 - (lg_sl ([.ref x, .int v, .int w])).length) Slot.unset).toArray = ls at hl ⊢
  have hl : lv_has ls 3 [(0, .ref x), (1, .int v), (2, .int w)] := hl
  have hK := hE.1
  subst hsz
  have hD := hD0.self (sz := s.heap.size)
  generalize hAe : va_A (CW cT x lv kp fL fK o ld b k FZ) s.heap.size = A at hD ⊢
  have hA : ∀ q : Nat, s.heap.size ≤ q → A q := fun q h => by rw [← hAe]; exact Or.inr h
  have hS : va_S A s.heap s.heap [] := va_S.rf
  refine lv_iload_n hx hb dX1_makeLink_0 rfl (lv_at hl 1 rfl) ?_
  refine xcx (vx_runS (As := [.int v]) (rest := []) ⟨hx, hb, hml, hown, hts⟩ (c_X1_checkPlace l hst _ v) (va_cwS 1 hts gX1_makeLink_X1_checkPlace rfl rfl rfl (by decide +kernel) ⟨(Nat.le_of_ble_eq_true rfl), (Nat.le_of_ble_eq_true rfl)⟩) ⟨XPx_blind, XPx_pre hE hT trivial⟩ rfl rfl hl.1 rfl (lv_room (Nat.le_of_ble_eq_true rfl)) dX1_makeLink_1 ⟨Nat.le_of_ble_eq_true rfl, Nat.le_of_ble_eq_true rfl⟩) (fun E9 ce9 q9 H1 hp9 hz9 hk9 hc9 hv9 hcl9 => ?_) (fun v9 hw9 => ?_)
  · exact vx_out (fun x h => (hnt x h).elim) hlocks hc9 hv9 hcl9 (fun t9 ht9 _ => ⟨⟨hp9.1, fun h => hp9.2 h.1⟩, by rw [ht9]; exact hz9, fun q hq => by rw [ht9]; exact hk9 q hq⟩) (fun _ h => nomatch h) (Nat.le_of_ble_eq_true rfl) (Nat.le_of_ble_eq_true rfl)
  obtain ⟨rfl, ⟨j, hj, rfl⟩⟩ := hw9
  refine W.eq (g2 := F0 m 4 ls []) rfl ?_
  refine lv_iload_n hx hb dX1_makeLink_4 rfl (lv_at hl 2 rfl) ?_
  refine xcx (vx_runS (As := [.int w]) (rest := []) ⟨hx, hb, hml, hown, hts⟩ (c_X1_checkPlace l hst _ w) (va_cwS 1 hts gX1_makeLink_X1_checkPlace rfl rfl rfl (by decide +kernel) ⟨(Nat.le_of_ble_eq_true rfl), (Nat.le_of_ble_eq_true rfl)⟩) ⟨XPx_blind, XPx_pre hE hT trivial⟩ rfl rfl hl.1 rfl (lv_room (Nat.le_of_ble_eq_true rfl)) dX1_makeLink_5 ⟨Nat.le_of_ble_eq_true rfl, Nat.le_of_ble_eq_true rfl⟩) (fun E9 ce9 q9 H1 hp9 hz9 hk9 hc9 hv9 hcl9 => ?_) (fun v9 hw9 => ?_)
  · exact vx_out (fun x h => (hnt x h).elim) hlocks hc9 hv9 hcl9 (fun t9 ht9 _ => ⟨⟨hp9.1, fun h => hp9.2 h.2⟩, by rw [ht9]; exact hz9, fun q hq => by rw [ht9]; exact hk9 q hq⟩) (fun _ h => nomatch h) (Nat.le_of_ble_eq_true rfl) (Nat.le_of_ble_eq_true rfl)
  obtain ⟨rfl, ⟨t, ht, rfl⟩⟩ := hw9
  refine W.eq (g2 := F0 m 8 ls []) rfl ?_
  refine lv_aload_n hx hb dX1_makeLink_8 rfl (lv_at hl 0 rfl) ?_
  refine lv_iload_n hx hb dX1_makeLink_9 rfl (lv_at hl 1 rfl) ?_
  refine va_new (ci := 0) (fs := [.int 0, .int 0, .null]) (C := RX0) (T := TX0) (N := 3) hx hb hts iw_X1makeLink_X0 tyX0 tyX0_ok hown (hts (.classLink RX1 7 RX0) (by decide +kernel)) (hts (.instantiable RX0 3) (by decide +kernel)) (hts (.initialized RX0) (by decide +kernel)) hK hP hD hS hA rfl (by intro j hj; match j, hj with | 0, _ => rfl | 1, _ => rfl | 2, _ => rfl) (by first | exact Nat.le_of_ble_eq_true rfl | (show _ ≤ 8; omega)) (by first | exact Nat.le_of_ble_eq_true rfl | (show _ ≤ 40; omega)) dX1_makeLink_10 (fun q10 H hP hD hS => ?_)
  have hP : va_P D vwCl ((x, .inr (1, [.ref lv, .ref kp, .int (nI o), .int (nI ld), .int (nI b), .int (nI k)])) :: (lv, .inl (cT, 6, .inr (.inr (.inr (.inr fL))))) :: (kp, .inl (cT, 246, .inr (.inr (.inr (.inr fK))))) :: (FZ ++ [(q10, .inr (0, [.int 0, .int 0, .null]))])) H := hP
  have hD : va_D A ((x, .inr (1, [.ref lv, .ref kp, .int (nI o), .int (nI ld), .int (nI b), .int (nI k)])) :: (lv, .inl (cT, 6, .inr (.inr (.inr (.inr fL))))) :: (kp, .inl (cT, 246, .inr (.inr (.inr (.inr fK))))) :: (FZ ++ [(q10, .inr (0, [.int 0, .int 0, .null]))])) := hD
  refine lv_dup hx hb dX1_makeLink_13 rfl ?_
  refine lv_iconst (v := nI 2) hx hb dX1_makeLink_14 (by decide) ?_
  refine lv_iconst (v := nI 0) hx hb dX1_makeLink_15 (by decide) ?_
  refine lv_iconst (v := nI 1) hx hb dX1_makeLink_16 (by decide) ?_
  refine va_newa (atype := .int) (a0 := (1, .inl (fun _ => 0))) hx hb (hts (.arrayClass .int) (by decide +kernel)) rfl hK hP hD hS hA (fun _ => rfl) (xlt0 (by omega)) (nI_clamp (by omega)) (by show _ * 4 ≤ _; omega) (by first | exact Nat.le_of_ble_eq_true rfl | (show _ + _ ≤ 8; omega)) (by first | exact Nat.le_of_ble_eq_true rfl | (show _ + _ ≤ 40; omega)) dX1_makeLink_17 (fun q17 cA9 H hK9 hP hD hS => ?_)
  have hc9 := xcI hK9 hK 3 0 rfl rfl
  rw [hc9] at hP hD
  clear hK9 hc9
  have hP : va_P D vwCl ((x, .inr (1, [.ref lv, .ref kp, .int (nI o), .int (nI ld), .int (nI b), .int (nI k)])) :: (lv, .inl (cT, 6, .inr (.inr (.inr (.inr fL))))) :: (kp, .inl (cT, 246, .inr (.inr (.inr (.inr fK))))) :: ((FZ ++ [(q10, .inr (0, [.int 0, .int 0, .null]))]) ++ [(q17, .inl (cI, 1, .inl (fun _ => 0)))])) H := hP
  have hD : va_D A ((x, .inr (1, [.ref lv, .ref kp, .int (nI o), .int (nI ld), .int (nI b), .int (nI k)])) :: (lv, .inl (cT, 6, .inr (.inr (.inr (.inr fL))))) :: (kp, .inl (cT, 246, .inr (.inr (.inr (.inr fK))))) :: ((FZ ++ [(q10, .inr (0, [.int 0, .int 0, .null]))]) ++ [(q17, .inl (cI, 1, .inl (fun _ => 0)))])) := hD
  refine lv_dup hx hb dX1_makeLink_19 rfl ?_
  refine lv_iconst (v := nI 0) hx hb dX1_makeLink_20 (by decide) ?_
  refine lv_iload_n hx hb dX1_makeLink_21 rfl (lv_at hl 2 rfl) ?_
  have hP : va_P D vwCl (((x, .inr (1, [.ref lv, .ref kp, .int (nI o), .int (nI ld), .int (nI b), .int (nI k)])) :: (lv, .inl (cT, 6, .inr (.inr (.inr (.inr fL))))) :: (kp, .inl (cT, 246, .inr (.inr (.inr (.inr fK))))) :: (FZ ++ [(q10, .inr (0, [.int 0, .int 0, .null]))])) ++ [(q17, .inl (cI, 1, .inl (fun _ => 0)))]) H := hP
  have hD : va_D A (((x, .inr (1, [.ref lv, .ref kp, .int (nI o), .int (nI ld), .int (nI b), .int (nI k)])) :: (lv, .inl (cT, 6, .inr (.inr (.inr (.inr fL))))) :: (kp, .inl (cT, 246, .inr (.inr (.inr (.inr fK))))) :: (FZ ++ [(q10, .inr (0, [.int 0, .int 0, .null]))])) ++ [(q17, .inl (cI, 1, .inl (fun _ => 0)))]) := hD
  refine va_iast hx hb hK hP hD hS (((x, .inr (1, [.ref lv, .ref kp, .int (nI o), .int (nI ld), .int (nI b), .int (nI k)])) :: (lv, .inl (cT, 6, .inr (.inr (.inr (.inr fL))))) :: (kp, .inl (cT, 246, .inr (.inr (.inr (.inr fK))))) :: (FZ ++ [(q10, .inr (0, [.int 0, .int 0, .null]))]))).length 0 (xlast _ _) rfl (xin (by omega) (by omega)) dX1_makeLink_22 (fun H locs hP hD hS => ?_)
  rw [nI_clamp (show 0 < 2 ^ 31 by omega)] at hP hD
  rw [xsetl] at hP hD
  have hP : va_P D vwCl ((x, .inr (1, [.ref lv, .ref kp, .int (nI o), .int (nI ld), .int (nI b), .int (nI k)])) :: (lv, .inl (cT, 6, .inr (.inr (.inr (.inr fL))))) :: (kp, .inl (cT, 246, .inr (.inr (.inr (.inr fK))))) :: ((FZ ++ [(q10, .inr (0, [.int 0, .int 0, .null]))]) ++ [(q17, .inl (cI, 1, .inl (upd (fun _ => 0) 0 (nI t))))])) H := hP
  have hD : va_D A ((x, .inr (1, [.ref lv, .ref kp, .int (nI o), .int (nI ld), .int (nI b), .int (nI k)])) :: (lv, .inl (cT, 6, .inr (.inr (.inr (.inr fL))))) :: (kp, .inl (cT, 246, .inr (.inr (.inr (.inr fK))))) :: ((FZ ++ [(q10, .inr (0, [.int 0, .int 0, .null]))]) ++ [(q17, .inl (cI, 1, .inl (upd (fun _ => 0) 0 (nI t))))])) := hD
  have hP := xP_perm (xsw3 _ _ _ _ _ _) hP
  have hD := xD_perm (xsw3 _ _ _ _ _ _) hD
  have hP : va_P D vwCl (((x, .inr (1, [.ref lv, .ref kp, .int (nI o), .int (nI ld), .int (nI b), .int (nI k)])) :: (lv, .inl (cT, 6, .inr (.inr (.inr (.inr fL))))) :: (kp, .inl (cT, 246, .inr (.inr (.inr (.inr fK))))) :: (FZ ++ [(q17, .inl (cI, 1, .inl (upd (fun _ => 0) 0 (nI t))))])) ++ [(q10, .inr (0, [.int 0, .int 0, .null]))]) H := hP
  have hD : va_D A (((x, .inr (1, [.ref lv, .ref kp, .int (nI o), .int (nI ld), .int (nI b), .int (nI k)])) :: (lv, .inl (cT, 6, .inr (.inr (.inr (.inr fL))))) :: (kp, .inl (cT, 246, .inr (.inr (.inr (.inr fK))))) :: (FZ ++ [(q17, .inl (cI, 1, .inl (upd (fun _ => 0) 0 (nI t))))])) ++ [(q10, .inr (0, [.int 0, .int 0, .null]))]) := hD
  have hFc := xfree (wc := [(q10, .inr (0, [.int 0, .int 0, .null]))]) hD hS hA (fun _ h => List.mem_append_right _ h)
  have hPc := xP_sub (w2 := [(q10, .inr (0, [.int 0, .int 0, .null]))]) (fun _ h => List.mem_append_right _ h) hP
  have hDc : va_D (fun _ => True) [(q10, .inr (0, [.int 0, .int 0, .null]))] := (xD_sub (List.sublist_append_right _ _) hD).weaken (fun _ _ _ _ => trivial)
  refine va_callv (va_runI (As := [.int (nI 2), .int (nI 0), .ref q17]) (rest := [.ref q10, .int (nI j), .ref x]) ⟨hx, hb, hml, hown, hts⟩ (c_X0_init l q10 q17 H.size (nI 2) (nI 0)) (cwI 3 hts gX1_makeLink_X0_init rfl rfl rfl (hts (.initialized RX0) (by decide +kernel)) (hts (.methodLink RX1 11 yX0_init) (by decide +kernel)) (hts (.instanceMethod yX0_init) (by decide +kernel)) rfl (by decide +kernel) ⟨(Nat.le_of_ble_eq_true rfl), (Nat.le_of_ble_eq_true rfl)⟩) ⟨XP_blind, XP_pre hE ⟨rfl, hPc, hDc⟩⟩ rfl rfl hl.1 rfl (lv_room (Nat.le_of_ble_eq_true rfl)) dX1_makeLink_23 ⟨by first | exact Nat.le_of_ble_eq_true rfl | (show _ + _ ≤ _; omega), by first | exact Nat.le_of_ble_eq_true rfl | (show _ + _ ≤ _; omega)⟩) hS (fun q9 _ h => hFc q9 h) hFc (fun u t9 H1 locs ht9 hvm9 hw9 hB9 hzc hkc hS => ?_)
  obtain ⟨hP1, hD1⟩ := hB9
  rw [ht9] at hP1
  obtain ⟨hP, hD⟩ := xjoin (wr := ((x, .inr (1, [.ref lv, .ref kp, .int (nI o), .int (nI ld), .int (nI b), .int (nI k)])) :: (lv, .inl (cT, 6, .inr (.inr (.inr (.inr fL))))) :: (kp, .inl (cT, 246, .inr (.inr (.inr (.inr fK))))) :: (FZ ++ [(q17, .inl (cI, 1, .inl (upd (fun _ => 0) 0 (nI t))))]))) (wc := [(q10, .inr (0, [.int 0, .int 0, .null]))]) (w1 := [(q10, .inr (0, [.int (nI 2), .int (nI 0), .ref q17]))]) hP hD hkc hFc hP1 hD1
  generalize H1 = H at hP hS ⊢
  have hP : va_P D vwCl ((x, .inr (1, [.ref lv, .ref kp, .int (nI o), .int (nI ld), .int (nI b), .int (nI k)])) :: (lv, .inl (cT, 6, .inr (.inr (.inr (.inr fL))))) :: (kp, .inl (cT, 246, .inr (.inr (.inr (.inr fK))))) :: ((FZ ++ [(q17, .inl (cI, 1, .inl (upd (fun _ => 0) 0 (nI t))))]) ++ [(q10, .inr (0, [.int (nI 2), .int (nI 0), .ref q17]))])) H := hP
  have hD : va_D A ((x, .inr (1, [.ref lv, .ref kp, .int (nI o), .int (nI ld), .int (nI b), .int (nI k)])) :: (lv, .inl (cT, 6, .inr (.inr (.inr (.inr fL))))) :: (kp, .inl (cT, 246, .inr (.inr (.inr (.inr fK))))) :: ((FZ ++ [(q17, .inl (cI, 1, .inl (upd (fun _ => 0) 0 (nI t))))]) ++ [(q10, .inr (0, [.int (nI 2), .int (nI 0), .ref q17]))])) := hD
  have hP : va_P D vwCl ([] ++ (CW cT x lv kp fL fK o ld b k ((FZ ++ [(q17, .inl (cI, 1, .inl (upd (fun _ => 0) 0 (nI t))))]) ++ [(q10, .inr (0, [.int (nI 2), .int (nI 0), .ref q17]))]))) H := hP
  have hD : va_D A ([] ++ (CW cT x lv kp fL fK o ld b k ((FZ ++ [(q17, .inl (cI, 1, .inl (upd (fun _ => 0) 0 (nI t))))]) ++ [(q10, .inr (0, [.int (nI 2), .int (nI 0), .ref q17]))]))) := hD
  have hFc := xfree (wc := (CW cT x lv kp fL fK o ld b k ((FZ ++ [(q17, .inl (cI, 1, .inl (upd (fun _ => 0) 0 (nI t))))]) ++ [(q10, .inr (0, [.int (nI 2), .int (nI 0), .ref q17]))]))) hD hS hA (fun _ h => List.mem_append_right _ h)
  have hPc := xP_sub (w2 := (CW cT x lv kp fL fK o ld b k ((FZ ++ [(q17, .inl (cI, 1, .inl (upd (fun _ => 0) 0 (nI t))))]) ++ [(q10, .inr (0, [.int (nI 2), .int (nI 0), .ref q17]))]))) (fun _ h => List.mem_append_right _ h) hP
  have hDc : va_D (fun _ => True) (CW cT x lv kp fL fK o ld b k ((FZ ++ [(q17, .inl (cI, 1, .inl (upd (fun _ => 0) 0 (nI t))))]) ++ [(q10, .inr (0, [.int (nI 2), .int (nI 0), .ref q17]))])) := (xD_sub (List.sublist_append_right _ _) hD).weaken (fun _ _ _ _ => trivial)
  refine va_calli (va_runV (As := [.int (nI j), .ref q10]) (rest := []) ⟨hx, hb, hml, hown, hts⟩ (c_X1_exchange l x lv kp fL fK o ld b k ((FZ ++ [(q17, .inl (cI, 1, .inl (upd (fun _ => 0) 0 (nI t))))]) ++ [(q10, .inr (0, [.int (nI 2), .int (nI 0), .ref q17]))]) G (hC.app.app) j q10 H.size [.int (nI 2), .int (nI 0), .ref q17] hj (List.mem_append_right _ (List.mem_singleton.mpr rfl))) (cwV 2 hts gX1_makeLink_X1_exchange rfl rfl rfl (by decide +kernel) ⟨(Nat.le_of_ble_eq_true rfl), (Nat.le_of_ble_eq_true rfl)⟩) ⟨XP_blind, va_recv hK hP (ci := 1) (q0 := 0) rfl rfl, XP_pre hE ⟨rfl, hPc, hDc⟩⟩ rfl rfl hl.1 rfl (lv_room (Nat.le_of_ble_eq_true rfl)) dX1_makeLink_26 ⟨by first | exact Nat.le_of_ble_eq_true rfl | (show _ + _ ≤ _; omega), by first | exact Nat.le_of_ble_eq_true rfl | (show _ + _ ≤ _; omega)⟩) hS (fun q9 _ h => hFc q9 h) hFc (fun r9 u t9 H1 locs ht9 hvm9 hw9 hB9 hzc hkc hS => ?_)
  obtain ⟨hP1, hD1⟩ := hB9
  rw [ht9] at hP1
  obtain ⟨hP, hD⟩ := xjoin (wr := []) (wc := (CW cT x lv kp fL fK o ld b k ((FZ ++ [(q17, .inl (cI, 1, .inl (upd (fun _ => 0) 0 (nI t))))]) ++ [(q10, .inr (0, [.int (nI 2), .int (nI 0), .ref q17]))]))) (w1 := (CW cT x lv kp (va_up fL j (some q10)) fK o ld b k ((FZ ++ [(q17, .inl (cI, 1, .inl (upd (fun _ => 0) 0 (nI t))))]) ++ [(q10, .inr (0, [.int (nI 2), .int (nI 0), .ref q17]))]))) hP hD hkc hFc hP1 hD1
  generalize H1 = H at hP hS ⊢
  subst hw9
  have hP : va_P D vwCl ((x, .inr (1, [.ref lv, .ref kp, .int (nI o), .int (nI ld), .int (nI b), .int (nI k)])) :: (lv, .inl (cT, 6, .inr (.inr (.inr (.inr (va_up fL j (some q10))))))) :: (kp, .inl (cT, 246, .inr (.inr (.inr (.inr fK))))) :: ((FZ ++ [(q17, .inl (cI, 1, .inl (upd (fun _ => 0) 0 (nI t))))]) ++ [(q10, .inr (0, [.int (nI 2), .int (nI 0), .ref q17]))])) H := hP
  have hD : va_D A ((x, .inr (1, [.ref lv, .ref kp, .int (nI o), .int (nI ld), .int (nI b), .int (nI k)])) :: (lv, .inl (cT, 6, .inr (.inr (.inr (.inr (va_up fL j (some q10))))))) :: (kp, .inl (cT, 246, .inr (.inr (.inr (.inr fK))))) :: ((FZ ++ [(q17, .inl (cI, 1, .inl (upd (fun _ => 0) 0 (nI t))))]) ++ [(q10, .inr (0, [.int (nI 2), .int (nI 0), .ref q17]))])) := hD
  refine vx_ret ?_
  refine W.widen (k := 8) (n := 40) (by first | exact Nat.le_of_ble_eq_true rfl | (show _ ≤ 8; omega)) (by first | exact Nat.le_of_ble_eq_true rfl | (show _ ≤ 40; omega)) ?_
  exact W.iret hx hb hr (fun t9 ht9 hW9 => ⟨⟨_, (va_up G (246 + j) (nI 2, nI 0, 1, fun _ => nI t), o, ld, b, k), rfl, ⟨j, t, hj, ht, rfl, rfl, rfl, rfl⟩, ⟨_, _, _, by rw [ht9]; exact hP, hD, (hC.app.app).live (v := (nI 2, nI 0, 1, fun _ => nI t)) ⟨Nat.le_of_ble_eq_true rfl, _, _, List.mem_append_right _ (List.mem_singleton.mpr rfl), List.mem_append_left _ (List.mem_append_right _ (List.mem_singleton.mpr rfl)), fun i hi => by rw [show i = 0 from Nat.lt_one_iff.mp hi, pk_us]⟩⟩⟩, hS.F ht9⟩) hS.2.2 dX1_makeLink_29

theorem iw_X1put_X0 : ∀ w ∈ u_ws RX0 TX0 3, w ∈ wsX1_put := by decide +kernel
theorem iw_X1put_X1 : ∀ w ∈ u_ws RX1 TX1 6, w ∈ wsX1_put := by decide +kernel
set_option maxHeartbeats 4000000 in
set_option maxRecDepth 100000 in
theorem c_X1_put (l : Launch) (hst : l.stackTraces = false) {D : va_G} {cI cT cJ : ClassId} (Ax : Nat → Prop) (x lv kp : Nat) (fL fK : Nat → Option Nat) (o ld b k : Nat) (FZ : va_W) (G : Nat → Tv) (hC : CA cI FZ fL fK G) (v w z : Int32)  (sz : Nat) : vx_Met l yX1_put wsX1_put (rmD 8 8 40) (XPx D cI cT cJ Ax [.ref x, .int v, .int w, .int z] (fun H => H.size = sz ∧ va_P D vwCl (CW cT x lv kp fL fK o ld b k FZ) H ∧ va_D (fun _ => True) (CW cT x lv kp fL fK o ld b k FZ))) (va_Qi (S := Sv) (fun r u => ∃ j sp y, j < 6 ∧ v = nI j ∧ PutK (G (246 + j)) ∧ sp ≤ (G (246 + j)).2.2.1 ∧ w = nI sp ∧ y ≤ 9 ∧ z = nI y ∧ r = nI ((G (246 + j)).2.2.1 + 1) ∧ u = (va_up G (246 + j) (nI 1, (G (246 + j)).2.1, (G (246 + j)).2.2.1 + 1, insR (G (246 + j)).2.2.2 sp (nI y)), o, ld, b, k)) (fun u t => CB D cI cT x lv kp (va_A (CW cT x lv kp fL fK o ld b k FZ) sz) u t.heap) (va_A (CW cT x lv kp fL fK o ld b k FZ) sz)) (XXc (fun E => (E = nIO ∧ ¬ Pl v) ∨ (E = nIS ∧ ∃ j, j < 6 ∧ v = nI j ∧ ¬ PutK (G (246 + j))) ∨ (E = nIA ∧ ∃ j, j < 6 ∧ v = nI j ∧ PutK (G (246 + j)) ∧ ¬ ∃ sp y, sp ≤ (G (246 + j)).2.2.1 ∧ w = nI sp ∧ y ≤ 9 ∧ z = nI y))) 8 40 (va_A (CW cT x lv kp fL fK o ld b k FZ) sz) := by
  refine vx_ofW (cc := cX1_put) (maxL := 6) (ret := (some .int)) (by decide) rfl ?_
  intro p e s m args below meth c s₁ B hml hnt hv
  obtain ⟨rfl, ⟨hsz, hP, hD0⟩, hE, hT⟩ := hv
  have hx := B.exec
  have hb := B.bytes
  have hr := B.returns
  have hts := atoms_spec (ws := wsX1_put) B.pre
  have hown : s.vm.findClass RX1 = some m.cls := findClass_of_methodNamed B.named
  have hlocks := B.notSynchronized
  have hl := lv_entry ([.ref x, .int v, .int w, .int z]) (n := 6) (Nat.le_of_ble_eq_true rfl)
  rw [lg_entry_eq]
  generalize (lg_sl ([.ref x, .int v, .int w, .int z]) ++ List.replicate (6 - (lg_sl ([.ref x, .int v, .int w, .int z])).length) Slot.unset).toArray = ls at hl ⊢
  have hl : lv_has ls 6 [(0, .ref x), (1, .int v), (2, .int w), (3, .int z)] := hl
  have hK := hE.1
  subst hsz
  have hD := hD0.self (sz := s.heap.size)
  generalize hAe : va_A (CW cT x lv kp fL fK o ld b k FZ) s.heap.size = A at hD ⊢
  have hA : ∀ q : Nat, s.heap.size ≤ q → A q := fun q h => by rw [← hAe]; exact Or.inr h
  have hS : va_S A s.heap s.heap [] := va_S.rf
  refine lv_iload_n hx hb dX1_put_0 rfl (lv_at hl 1 rfl) ?_
  refine xcx (vx_runS (As := [.int v]) (rest := []) ⟨hx, hb, hml, hown, hts⟩ (c_X1_checkPlace l hst _ v) (va_cwS 1 hts gX1_put_X1_checkPlace rfl rfl rfl (by decide +kernel) ⟨(Nat.le_of_ble_eq_true rfl), (Nat.le_of_ble_eq_true rfl)⟩) ⟨XPx_blind, XPx_pre hE hT trivial⟩ rfl rfl hl.1 rfl (lv_room (Nat.le_of_ble_eq_true rfl)) dX1_put_1 ⟨Nat.le_of_ble_eq_true rfl, Nat.le_of_ble_eq_true rfl⟩) (fun E9 ce9 q9 H1 hp9 hz9 hk9 hc9 hv9 hcl9 => ?_) (fun v9 hw9 => ?_)
  · exact vx_out (fun x h => (hnt x h).elim) hlocks hc9 hv9 hcl9 (fun t9 ht9 _ => ⟨Or.inl hp9, by rw [ht9]; exact hz9, fun q hq => by rw [ht9]; exact hk9 q hq⟩) (fun _ h => nomatch h) (Nat.le_of_ble_eq_true rfl) (Nat.le_of_ble_eq_true rfl)
  obtain ⟨rfl, ⟨j, hj, rfl⟩⟩ := hw9
  refine W.eq (g2 := F0 m 4 ls []) rfl ?_
  refine lv_aload_n hx hb dX1_put_4 rfl (lv_at hl 0 rfl) ?_
  refine va_get (ci := 1) (v := .ref lv) (C := RX1) (T := TX1) (N := 6) hx hb hts iw_X1put_X1 hown hK hP 0 rfl rfl 0 (by decide) (hts (.fieldLink RX1 14 "BackMirror" "live" "[LBackMirror$Thing;") (by decide +kernel)) (fun _ h9 => h9) rfl dX1_put_5 ?_
  refine lv_iload_n hx hb dX1_put_8 rfl (lv_at hl 1 rfl) ?_
  refine va_aldq hx hb hK hP 1 1 rfl rfl (xin (by omega) (by omega)) dX1_put_9 ?_
  obtain ⟨a1, ha1, hT1⟩ := hC.2 (j) (by omega)
  refine x_toprf (y := a1) (by rw [nI_clamp (by omega)]; exact ha1) ?_
  obtain ⟨hz1, q1, f1, hm1, hr1, he1⟩ := hT1
  refine lv_astore (lv' := [(4, .ref a1), (0, .ref x), (1, .int (nI j)), (2, .int w), (3, .int z)]) hx hb dX1_put_10 hl (by decide) rfl (fun ls hl => ?_)
  refine lv_aload hx hb dX1_put_12 (lv_at hl 0 rfl) ?_
  refine va_get (ci := 0) (v := .ref q1) (C := RX0) (T := TX0) (N := 3) hx hb hts iw_X1put_X0 hown hK (x1 hP (xm3 hm1)) 0 rfl rfl 2 (by decide) (hts (.fieldLink RX1 43 "BackMirror$Thing" "numbers" "[I") (by decide +kernel)) (fun _ h9 => h9) rfl dX1_put_14 ?_
  refine va_alen hx hb hK (x1 hP (xm3 hr1)) 0 0 rfl rfl (v := nI ((G (246 + j)).2.2.1)) rfl dX1_put_17 ?_
  refine lv_istore (lv' := [(5, .int (nI ((G (246 + j)).2.2.1))), (4, .ref a1), (0, .ref x), (1, .int (nI j)), (2, .int w), (3, .int z)]) hx hb dX1_put_18 hl (by decide) rfl (fun ls hl => ?_)
  refine lv_aload hx hb dX1_put_20 (lv_at hl 1 rfl) ?_
  refine va_get (ci := 0) (v := .int ((G (246 + j)).1)) (C := RX0) (T := TX0) (N := 3) hx hb hts iw_X1put_X0 hown hK (x1 hP (xm3 hm1)) 0 rfl rfl 0 (by decide) (hts (.fieldLink RX1 47 "BackMirror$Thing" "kind" "I") (by decide +kernel)) (fun _ h9 => h9) rfl dX1_put_22 ?_
  refine lv_iconst (v := nI 1) hx hb dX1_put_25 (by decide) ?_
  refine lv_icmp_ne (tgt := 36) hx hb dX1_put_26 (by decide) (fun c26 => ?_) (fun c26 => ?_)
  · obtain ⟨sa9, hsa9⟩ := hT.1 (52, "no file, or a full one") (by decide)
    exact vx_throwS hx hb hst (own := RX1) (cls := nIS) (text := "no file, or a full one") (names := nUP) (ik := 50) (is := 52) (ic := 54) hown (by decide +kernel) (by decide +kernel) (hts (.classLink RX1 50 nIS) (by decide +kernel)) (hts (.initialized nIS) (by decide +kernel)) hsa9 (vx_hat (fun w h => hts w (List.mem_cons_of_mem _ (List.mem_append_left _ (List.mem_append_left _ (List.mem_append_right _ h))))) xb_IS (hT.use (X := nIS) (by decide))) xg_IS hT.2.2.2.1 hT.2.2.2.2 va_S.rf (hl.1.trans hml.symm) dX1_put_36 dX1_put_39 dX1_put_40 dX1_put_42 dX1_put_45 (fun x h => (hnt x h).elim) (Nat.le_of_ble_eq_true rfl) (Nat.le_of_ble_eq_true rfl) (Nat.le_of_ble_eq_true rfl) (Nat.le_of_ble_eq_true rfl) hlocks (fun t9 _ hz9 hk9 => ⟨Or.inr (Or.inl ⟨rfl, j, hj, rfl, by rintro ⟨h1, h2⟩; first | exact c26 h1 | omega⟩), hz9, hk9⟩) (fun _ h => nomatch h) (Nat.le_of_ble_eq_true rfl) (Nat.le_of_ble_eq_true rfl)
  · refine lv_iload hx hb dX1_put_29 (lv_at hl 0 rfl) ?_
    refine lv_bipush (v := nI 12) hx hb dX1_put_31 (by decide) ?_
    refine lv_icmp_lt (tgt := 46) hx hb dX1_put_33 (by decide) (fun c33 => ?_) (fun c33 => ?_)
    · have c33 : ((G (246 + j)).2.2.1) < 12 := (xlt (by omega) (by omega)).mp c33
      refine lv_iload_n hx hb dX1_put_46 rfl (lv_at hl 4 rfl) ?_
      refine lv_if_lt (tgt := 66) hx hb dX1_put_47 (by decide) (fun c47 => ?_) (fun c47 => ?_)
      · obtain ⟨sa9, hsa9⟩ := hT.1 (59, "no such spot or number") (by decide)
        exact vx_throwS hx hb hst (own := RX1) (cls := nIA) (text := "no such spot or number") (names := nUP) (ik := 57) (is := 59) (ic := 61) hown (by decide +kernel) (by decide +kernel) (hts (.classLink RX1 57 nIA) (by decide +kernel)) (hts (.initialized nIA) (by decide +kernel)) hsa9 (vx_hat (fun w h => hts w (List.mem_cons_of_mem _ (List.mem_append_left _ (List.mem_append_right _ h)))) xb_IA (hT.use (X := nIA) (by decide))) xg_IA hT.2.2.2.1 hT.2.2.2.2 va_S.rf (hl.1.trans hml.symm) dX1_put_66 dX1_put_69 dX1_put_70 dX1_put_72 dX1_put_75 (fun x h => (hnt x h).elim) (Nat.le_of_ble_eq_true rfl) (Nat.le_of_ble_eq_true rfl) (Nat.le_of_ble_eq_true rfl) (Nat.le_of_ble_eq_true rfl) hlocks (fun t9 _ hz9 hk9 => ⟨Or.inr (Or.inr ⟨rfl, j, hj, rfl, ⟨c26, by omega⟩, by rintro ⟨s9, y9, h1, rfl, h2, rfl⟩; first | exact xN0 (by omega) c47 | exact xNgt h1 (by omega) c53 | exact xN0 (by omega) c57 | exact xNle h2 (by omega) c63⟩), hz9, hk9⟩) (fun _ h => nomatch h) (Nat.le_of_ble_eq_true rfl) (Nat.le_of_ble_eq_true rfl)
      · refine lv_iload_n hx hb dX1_put_50 rfl (lv_at hl 4 rfl) ?_
        refine lv_iload hx hb dX1_put_51 (lv_at hl 0 rfl) ?_
        refine lv_icmp_gt (tgt := 66) hx hb dX1_put_53 (by decide) (fun c53 => ?_) (fun c53 => ?_)
        · obtain ⟨sa9, hsa9⟩ := hT.1 (59, "no such spot or number") (by decide)
          exact vx_throwS hx hb hst (own := RX1) (cls := nIA) (text := "no such spot or number") (names := nUP) (ik := 57) (is := 59) (ic := 61) hown (by decide +kernel) (by decide +kernel) (hts (.classLink RX1 57 nIA) (by decide +kernel)) (hts (.initialized nIA) (by decide +kernel)) hsa9 (vx_hat (fun w h => hts w (List.mem_cons_of_mem _ (List.mem_append_left _ (List.mem_append_right _ h)))) xb_IA (hT.use (X := nIA) (by decide))) xg_IA hT.2.2.2.1 hT.2.2.2.2 va_S.rf (hl.1.trans hml.symm) dX1_put_66 dX1_put_69 dX1_put_70 dX1_put_72 dX1_put_75 (fun x h => (hnt x h).elim) (Nat.le_of_ble_eq_true rfl) (Nat.le_of_ble_eq_true rfl) (Nat.le_of_ble_eq_true rfl) (Nat.le_of_ble_eq_true rfl) hlocks (fun t9 _ hz9 hk9 => ⟨Or.inr (Or.inr ⟨rfl, j, hj, rfl, ⟨c26, by omega⟩, by rintro ⟨s9, y9, h1, rfl, h2, rfl⟩; first | exact xN0 (by omega) c47 | exact xNgt h1 (by omega) c53 | exact xN0 (by omega) c57 | exact xNle h2 (by omega) c63⟩), hz9, hk9⟩) (fun _ h => nomatch h) (Nat.le_of_ble_eq_true rfl) (Nat.le_of_ble_eq_true rfl)
        · refine lv_iload_n hx hb dX1_put_56 rfl (lv_at hl 5 rfl) ?_
          refine lv_if_lt (tgt := 66) hx hb dX1_put_57 (by decide) (fun c57 => ?_) (fun c57 => ?_)
          · obtain ⟨sa9, hsa9⟩ := hT.1 (59, "no such spot or number") (by decide)
            exact vx_throwS hx hb hst (own := RX1) (cls := nIA) (text := "no such spot or number") (names := nUP) (ik := 57) (is := 59) (ic := 61) hown (by decide +kernel) (by decide +kernel) (hts (.classLink RX1 57 nIA) (by decide +kernel)) (hts (.initialized nIA) (by decide +kernel)) hsa9 (vx_hat (fun w h => hts w (List.mem_cons_of_mem _ (List.mem_append_left _ (List.mem_append_right _ h)))) xb_IA (hT.use (X := nIA) (by decide))) xg_IA hT.2.2.2.1 hT.2.2.2.2 va_S.rf (hl.1.trans hml.symm) dX1_put_66 dX1_put_69 dX1_put_70 dX1_put_72 dX1_put_75 (fun x h => (hnt x h).elim) (Nat.le_of_ble_eq_true rfl) (Nat.le_of_ble_eq_true rfl) (Nat.le_of_ble_eq_true rfl) (Nat.le_of_ble_eq_true rfl) hlocks (fun t9 _ hz9 hk9 => ⟨Or.inr (Or.inr ⟨rfl, j, hj, rfl, ⟨c26, by omega⟩, by rintro ⟨s9, y9, h1, rfl, h2, rfl⟩; first | exact xN0 (by omega) c47 | exact xNgt h1 (by omega) c53 | exact xN0 (by omega) c57 | exact xNle h2 (by omega) c63⟩), hz9, hk9⟩) (fun _ h => nomatch h) (Nat.le_of_ble_eq_true rfl) (Nat.le_of_ble_eq_true rfl)
          · refine lv_iload_n hx hb dX1_put_60 rfl (lv_at hl 5 rfl) ?_
            refine lv_bipush (v := nI 9) hx hb dX1_put_61 (by decide) ?_
            refine lv_icmp_le (tgt := 76) hx hb dX1_put_63 (by decide) (fun c63 => ?_) (fun c63 => ?_)
            · obtain ⟨sp, hsp, rfl⟩ := xIn_t (by omega) c47 (Int32.not_lt.mp c53)
              obtain ⟨y, hy, rfl⟩ := xIn_t (n := 9) (by omega) c57 c63
              refine lv_aload_n hx hb dX1_put_76 rfl (lv_at hl 2 rfl) ?_
              refine va_get (ci := 1) (v := .ref lv) (C := RX1) (T := TX1) (N := 6) hx hb hts iw_X1put_X1 hown hK hP 0 rfl rfl 0 (by decide) (hts (.fieldLink RX1 14 "BackMirror" "live" "[LBackMirror$Thing;") (by decide +kernel)) (fun _ h9 => h9) rfl dX1_put_77 ?_
              refine lv_iload_n hx hb dX1_put_80 rfl (lv_at hl 3 rfl) ?_
              refine va_new (ci := 0) (fs := [.int 0, .int 0, .null]) (C := RX0) (T := TX0) (N := 3) hx hb hts iw_X1put_X0 tyX0 tyX0_ok hown (hts (.classLink RX1 7 RX0) (by decide +kernel)) (hts (.instantiable RX0 3) (by decide +kernel)) (hts (.initialized RX0) (by decide +kernel)) hK hP hD hS hA rfl (by intro j hj; match j, hj with | 0, _ => rfl | 1, _ => rfl | 2, _ => rfl) (by first | exact Nat.le_of_ble_eq_true rfl | (show _ ≤ 8; omega)) (by first | exact Nat.le_of_ble_eq_true rfl | (show _ ≤ 40; omega)) dX1_put_81 (fun q81 H hP hD hS => ?_)
              have hP : va_P D vwCl ((x, .inr (1, [.ref lv, .ref kp, .int (nI o), .int (nI ld), .int (nI b), .int (nI k)])) :: (lv, .inl (cT, 6, .inr (.inr (.inr (.inr fL))))) :: (kp, .inl (cT, 246, .inr (.inr (.inr (.inr fK))))) :: (FZ ++ [(q81, .inr (0, [.int 0, .int 0, .null]))])) H := hP
              have hD : va_D A ((x, .inr (1, [.ref lv, .ref kp, .int (nI o), .int (nI ld), .int (nI b), .int (nI k)])) :: (lv, .inl (cT, 6, .inr (.inr (.inr (.inr fL))))) :: (kp, .inl (cT, 246, .inr (.inr (.inr (.inr fK))))) :: (FZ ++ [(q81, .inr (0, [.int 0, .int 0, .null]))])) := hD
              refine lv_dup hx hb dX1_put_84 rfl ?_
              refine lv_iconst (v := nI 1) hx hb dX1_put_85 (by decide) ?_
              refine lv_aload hx hb dX1_put_86 (lv_at hl 1 rfl) ?_
              refine va_get (ci := 0) (v := .int ((G (246 + j)).2.1)) (C := RX0) (T := TX0) (N := 3) hx hb hts iw_X1put_X0 hown hK (x1 hP (xm3 (List.mem_append_left _ (hm1)))) 0 rfl rfl 1 (by decide) (hts (.fieldLink RX1 62 "BackMirror$Thing" "rights" "I") (by decide +kernel)) (fun _ h9 => h9) rfl dX1_put_88 ?_
              refine lv_aload hx hb dX1_put_91 (lv_at hl 1 rfl) ?_
              refine va_get (ci := 0) (v := .ref q1) (C := RX0) (T := TX0) (N := 3) hx hb hts iw_X1put_X0 hown hK (x1 hP (xm3 (List.mem_append_left _ (hm1)))) 0 rfl rfl 2 (by decide) (hts (.fieldLink RX1 43 "BackMirror$Thing" "numbers" "[I") (by decide +kernel)) (fun _ h9 => h9) rfl dX1_put_93 ?_
              refine lv_iload_n hx hb dX1_put_96 rfl (lv_at hl 4 rfl) ?_
              refine lv_iload_n hx hb dX1_put_97 rfl (lv_at hl 5 rfl) ?_
              have hFc := xfree (wc := ((x, .inr (1, [.ref lv, .ref kp, .int (nI o), .int (nI ld), .int (nI b), .int (nI k)])) :: (lv, .inl (cT, 6, .inr (.inr (.inr (.inr fL))))) :: (kp, .inl (cT, 246, .inr (.inr (.inr (.inr fK))))) :: (FZ ++ [(q81, .inr (0, [.int 0, .int 0, .null]))]))) hD hS hA (fun _ h => h)
              refine va_callr (va_runS (As := [.ref q1, .int (nI sp), .int (nI y)]) (rest := [.int ((G (246 + j)).2.1), .int (nI 1), .ref q81, .ref q81, .int (nI j), .ref lv]) ⟨hx, hb, hml, hown, hts⟩ (c_X1_rowWith l ((x, .inr (1, [.ref lv, .ref kp, .int (nI o), .int (nI ld), .int (nI b), .int (nI k)])) :: (lv, .inl (cT, 6, .inr (.inr (.inr (.inr fL))))) :: (kp, .inl (cT, 246, .inr (.inr (.inr (.inr fK))))) :: (FZ ++ [(q81, .inr (0, [.int 0, .int 0, .null]))])) q1 ((G (246 + j)).2.2.1) sp H.size (nI y) f1 (xm3 (List.mem_append_left _ (hr1))) (by omega) (by omega)) (va_cwS 3 hts gX1_put_X1_rowWith rfl rfl rfl (by decide +kernel) ⟨(Nat.le_of_ble_eq_true rfl), (Nat.le_of_ble_eq_true rfl)⟩) ⟨XP_blind, XP_pre hE ⟨rfl, hP, hD.weaken (fun _ _ _ _ => trivial)⟩⟩ rfl rfl hl.1 rfl (lv_room (Nat.le_of_ble_eq_true rfl)) dX1_put_98 ⟨Nat.le_of_ble_eq_true rfl, Nat.le_of_ble_eq_true rfl⟩) hS (fun q9 _ h => hFc q9 h) hFc (fun u r98 t9 H1 locs ht9 hvm9 hw9 hB9 hzc hkc hS => ?_)
              obtain ⟨f', hf', hP1, hD1⟩ := hB9
              rw [ht9] at hP1
              obtain ⟨hP, hD⟩ := xjoin (wr := []) (wc := ((x, .inr (1, [.ref lv, .ref kp, .int (nI o), .int (nI ld), .int (nI b), .int (nI k)])) :: (lv, .inl (cT, 6, .inr (.inr (.inr (.inr fL))))) :: (kp, .inl (cT, 246, .inr (.inr (.inr (.inr fK))))) :: (FZ ++ [(q81, .inr (0, [.int 0, .int 0, .null]))]))) hP hD hkc hFc hP1 hD1
              generalize H1 = H at hP hS ⊢
              have hP : va_P D vwCl ((x, .inr (1, [.ref lv, .ref kp, .int (nI o), .int (nI ld), .int (nI b), .int (nI k)])) :: (lv, .inl (cT, 6, .inr (.inr (.inr (.inr fL))))) :: (kp, .inl (cT, 246, .inr (.inr (.inr (.inr fK))))) :: ((FZ ++ [(q81, .inr (0, [.int 0, .int 0, .null]))]) ++ [(r98, .inl (cI, (G (246 + j)).2.2.1 + 1, .inl f'))])) H := hP
              have hD : va_D A ((x, .inr (1, [.ref lv, .ref kp, .int (nI o), .int (nI ld), .int (nI b), .int (nI k)])) :: (lv, .inl (cT, 6, .inr (.inr (.inr (.inr fL))))) :: (kp, .inl (cT, 246, .inr (.inr (.inr (.inr fK))))) :: ((FZ ++ [(q81, .inr (0, [.int 0, .int 0, .null]))]) ++ [(r98, .inl (cI, (G (246 + j)).2.2.1 + 1, .inl f'))])) := hD
              have hP := xP_perm (xsw3 _ _ _ _ _ _) hP
              have hD := xD_perm (xsw3 _ _ _ _ _ _) hD
              have hP : va_P D vwCl (((x, .inr (1, [.ref lv, .ref kp, .int (nI o), .int (nI ld), .int (nI b), .int (nI k)])) :: (lv, .inl (cT, 6, .inr (.inr (.inr (.inr fL))))) :: (kp, .inl (cT, 246, .inr (.inr (.inr (.inr fK))))) :: (FZ ++ [(r98, .inl (cI, (G (246 + j)).2.2.1 + 1, .inl f'))])) ++ [(q81, .inr (0, [.int 0, .int 0, .null]))]) H := hP
              have hD : va_D A (((x, .inr (1, [.ref lv, .ref kp, .int (nI o), .int (nI ld), .int (nI b), .int (nI k)])) :: (lv, .inl (cT, 6, .inr (.inr (.inr (.inr fL))))) :: (kp, .inl (cT, 246, .inr (.inr (.inr (.inr fK))))) :: (FZ ++ [(r98, .inl (cI, (G (246 + j)).2.2.1 + 1, .inl f'))])) ++ [(q81, .inr (0, [.int 0, .int 0, .null]))]) := hD
              have hFc := xfree (wc := [(q81, .inr (0, [.int 0, .int 0, .null]))]) hD hS hA (fun _ h => List.mem_append_right _ h)
              have hPc := xP_sub (w2 := [(q81, .inr (0, [.int 0, .int 0, .null]))]) (fun _ h => List.mem_append_right _ h) hP
              have hDc : va_D (fun _ => True) [(q81, .inr (0, [.int 0, .int 0, .null]))] := (xD_sub (List.sublist_append_right _ _) hD).weaken (fun _ _ _ _ => trivial)
              refine va_callv (va_runI (As := [.int (nI 1), .int ((G (246 + j)).2.1), .ref r98]) (rest := [.ref q81, .int (nI j), .ref lv]) ⟨hx, hb, hml, hown, hts⟩ (c_X0_init l q81 r98 H.size (nI 1) ((G (246 + j)).2.1)) (cwI 3 hts gX1_put_X0_init rfl rfl rfl (hts (.initialized RX0) (by decide +kernel)) (hts (.methodLink RX1 11 yX0_init) (by decide +kernel)) (hts (.instanceMethod yX0_init) (by decide +kernel)) rfl (by decide +kernel) ⟨(Nat.le_of_ble_eq_true rfl), (Nat.le_of_ble_eq_true rfl)⟩) ⟨XP_blind, XP_pre hE ⟨rfl, hPc, hDc⟩⟩ rfl rfl hl.1 rfl (lv_room (Nat.le_of_ble_eq_true rfl)) dX1_put_101 ⟨by first | exact Nat.le_of_ble_eq_true rfl | (show _ + _ ≤ _; omega), by first | exact Nat.le_of_ble_eq_true rfl | (show _ + _ ≤ _; omega)⟩) hS (fun q9 _ h => hFc q9 h) hFc (fun u t9 H1 locs ht9 hvm9 hw9 hB9 hzc hkc hS => ?_)
              obtain ⟨hP1, hD1⟩ := hB9
              rw [ht9] at hP1
              obtain ⟨hP, hD⟩ := xjoin (wr := ((x, .inr (1, [.ref lv, .ref kp, .int (nI o), .int (nI ld), .int (nI b), .int (nI k)])) :: (lv, .inl (cT, 6, .inr (.inr (.inr (.inr fL))))) :: (kp, .inl (cT, 246, .inr (.inr (.inr (.inr fK))))) :: (FZ ++ [(r98, .inl (cI, (G (246 + j)).2.2.1 + 1, .inl f'))]))) (wc := [(q81, .inr (0, [.int 0, .int 0, .null]))]) (w1 := [(q81, .inr (0, [.int (nI 1), .int ((G (246 + j)).2.1), .ref r98]))]) hP hD hkc hFc hP1 hD1
              generalize H1 = H at hP hS ⊢
              have hP : va_P D vwCl ((x, .inr (1, [.ref lv, .ref kp, .int (nI o), .int (nI ld), .int (nI b), .int (nI k)])) :: (lv, .inl (cT, 6, .inr (.inr (.inr (.inr fL))))) :: (kp, .inl (cT, 246, .inr (.inr (.inr (.inr fK))))) :: ((FZ ++ [(r98, .inl (cI, (G (246 + j)).2.2.1 + 1, .inl f'))]) ++ [(q81, .inr (0, [.int (nI 1), .int ((G (246 + j)).2.1), .ref r98]))])) H := hP
              have hD : va_D A ((x, .inr (1, [.ref lv, .ref kp, .int (nI o), .int (nI ld), .int (nI b), .int (nI k)])) :: (lv, .inl (cT, 6, .inr (.inr (.inr (.inr fL))))) :: (kp, .inl (cT, 246, .inr (.inr (.inr (.inr fK))))) :: ((FZ ++ [(r98, .inl (cI, (G (246 + j)).2.2.1 + 1, .inl f'))]) ++ [(q81, .inr (0, [.int (nI 1), .int ((G (246 + j)).2.1), .ref r98]))])) := hD
              obtain ⟨j9, hj9⟩ := List.getElem?_of_mem (show (((q81, .inr (0, [.int (nI 1), .int ((G (246 + j)).2.1), .ref r98])) : Nat × va_E)) ∈ ((FZ ++ [(r98, .inl (cI, (G (246 + j)).2.2.1 + 1, .inl f'))]) ++ [(q81, .inr (0, [.int (nI 1), .int ((G (246 + j)).2.1), .ref r98]))]) from List.mem_append_right _ (List.mem_singleton.mpr rfl))
              refine va_astq (r := (RX0, TX0, 3)) hx hb hK hP hD hS 1 1 (j9 + 3) 0 rfl rfl hj9 rfl (xin (by omega) (by omega)) dX1_put_104 (fun H locs hP hD hS => ?_)
              rw [nI_clamp (show j < 2 ^ 31 by omega)] at hP hD
              have hP : va_P D vwCl ((x, .inr (1, [.ref lv, .ref kp, .int (nI o), .int (nI ld), .int (nI b), .int (nI k)])) :: (lv, .inl (cT, 6, .inr (.inr (.inr (.inr (va_up fL j (some q81))))))) :: (kp, .inl (cT, 246, .inr (.inr (.inr (.inr fK))))) :: ((FZ ++ [(r98, .inl (cI, (G (246 + j)).2.2.1 + 1, .inl f'))]) ++ [(q81, .inr (0, [.int (nI 1), .int ((G (246 + j)).2.1), .ref r98]))])) H := hP
              have hD : va_D A ((x, .inr (1, [.ref lv, .ref kp, .int (nI o), .int (nI ld), .int (nI b), .int (nI k)])) :: (lv, .inl (cT, 6, .inr (.inr (.inr (.inr (va_up fL j (some q81))))))) :: (kp, .inl (cT, 246, .inr (.inr (.inr (.inr fK))))) :: ((FZ ++ [(r98, .inl (cI, (G (246 + j)).2.2.1 + 1, .inl f'))]) ++ [(q81, .inr (0, [.int (nI 1), .int ((G (246 + j)).2.1), .ref r98]))])) := hD
              refine lv_iload hx hb dX1_put_105 (lv_at hl 0 rfl) ?_
              refine lv_iconst (v := nI 1) hx hb dX1_put_107 (by decide) ?_
              refine lv_iadd hx hb dX1_put_108 ?_
              refine x_top (nI (((G (246 + j)).2.2.1) + 1)) (xadd (by omega)) ?_
              refine vx_ret ?_
              refine W.widen (k := 8) (n := 40) (by first | exact Nat.le_of_ble_eq_true rfl | (show _ ≤ 8; omega)) (by first | exact Nat.le_of_ble_eq_true rfl | (show _ ≤ 40; omega)) ?_
              exact W.iret hx hb hr (fun t9 ht9 hW9 => ⟨⟨_, (va_up G (246 + j) (nI 1, (G (246 + j)).2.1, (G (246 + j)).2.2.1 + 1, insR (G (246 + j)).2.2.2 sp (nI y)), o, ld, b, k), rfl, ⟨j, sp, y, hj, rfl, ⟨c26, by omega⟩, hsp, rfl, hy, rfl, rfl, rfl⟩, ⟨_, _, _, by rw [ht9]; exact hP, hD, (hC.app.app).live (v := (nI 1, (G (246 + j)).2.1, (G (246 + j)).2.2.1 + 1, insR (G (246 + j)).2.2.2 sp (nI y))) ⟨(by show (G (246 + j)).2.2.1 + 1 ≤ 12; omega), _, _, List.mem_append_right _ (List.mem_singleton.mpr rfl), List.mem_append_left _ (List.mem_append_right _ (List.mem_singleton.mpr rfl)), fun i hi => (hf' i hi).trans (insR_congr he1 hsp i hi)⟩⟩⟩, hS.F ht9⟩) hS.2.2 dX1_put_109
            · obtain ⟨sa9, hsa9⟩ := hT.1 (59, "no such spot or number") (by decide)
              exact vx_throwS hx hb hst (own := RX1) (cls := nIA) (text := "no such spot or number") (names := nUP) (ik := 57) (is := 59) (ic := 61) hown (by decide +kernel) (by decide +kernel) (hts (.classLink RX1 57 nIA) (by decide +kernel)) (hts (.initialized nIA) (by decide +kernel)) hsa9 (vx_hat (fun w h => hts w (List.mem_cons_of_mem _ (List.mem_append_left _ (List.mem_append_right _ h)))) xb_IA (hT.use (X := nIA) (by decide))) xg_IA hT.2.2.2.1 hT.2.2.2.2 va_S.rf (hl.1.trans hml.symm) dX1_put_66 dX1_put_69 dX1_put_70 dX1_put_72 dX1_put_75 (fun x h => (hnt x h).elim) (Nat.le_of_ble_eq_true rfl) (Nat.le_of_ble_eq_true rfl) (Nat.le_of_ble_eq_true rfl) (Nat.le_of_ble_eq_true rfl) hlocks (fun t9 _ hz9 hk9 => ⟨Or.inr (Or.inr ⟨rfl, j, hj, rfl, ⟨c26, by omega⟩, by rintro ⟨s9, y9, h1, rfl, h2, rfl⟩; first | exact xN0 (by omega) c47 | exact xNgt h1 (by omega) c53 | exact xN0 (by omega) c57 | exact xNle h2 (by omega) c63⟩), hz9, hk9⟩) (fun _ h => nomatch h) (Nat.le_of_ble_eq_true rfl) (Nat.le_of_ble_eq_true rfl)
    · have c33 : ¬ ((G (246 + j)).2.2.1) < 12 := fun h => c33 ((xlt (by omega) (by omega)).mpr h)
      obtain ⟨sa9, hsa9⟩ := hT.1 (52, "no file, or a full one") (by decide)
      exact vx_throwS hx hb hst (own := RX1) (cls := nIS) (text := "no file, or a full one") (names := nUP) (ik := 50) (is := 52) (ic := 54) hown (by decide +kernel) (by decide +kernel) (hts (.classLink RX1 50 nIS) (by decide +kernel)) (hts (.initialized nIS) (by decide +kernel)) hsa9 (vx_hat (fun w h => hts w (List.mem_cons_of_mem _ (List.mem_append_left _ (List.mem_append_left _ (List.mem_append_right _ h))))) xb_IS (hT.use (X := nIS) (by decide))) xg_IS hT.2.2.2.1 hT.2.2.2.2 va_S.rf (hl.1.trans hml.symm) dX1_put_36 dX1_put_39 dX1_put_40 dX1_put_42 dX1_put_45 (fun x h => (hnt x h).elim) (Nat.le_of_ble_eq_true rfl) (Nat.le_of_ble_eq_true rfl) (Nat.le_of_ble_eq_true rfl) (Nat.le_of_ble_eq_true rfl) hlocks (fun t9 _ hz9 hk9 => ⟨Or.inr (Or.inl ⟨rfl, j, hj, rfl, by rintro ⟨h1, h2⟩; first | exact c26 h1 | omega⟩), hz9, hk9⟩) (fun _ h => nomatch h) (Nat.le_of_ble_eq_true rfl) (Nat.le_of_ble_eq_true rfl)

theorem iw_X1take_X0 : ∀ w ∈ u_ws RX0 TX0 3, w ∈ wsX1_take := by decide +kernel
theorem iw_X1take_X1 : ∀ w ∈ u_ws RX1 TX1 6, w ∈ wsX1_take := by decide +kernel
set_option maxHeartbeats 4000000 in
set_option maxRecDepth 100000 in
theorem c_X1_take (l : Launch) (hst : l.stackTraces = false) {D : va_G} {cI cT cJ : ClassId} (Ax : Nat → Prop) (x lv kp : Nat) (fL fK : Nat → Option Nat) (o ld b k : Nat) (FZ : va_W) (G : Nat → Tv) (hC : CA cI FZ fL fK G) (v w : Int32)  (sz : Nat) : vx_Met l yX1_take wsX1_take (rmD 8 8 40) (XPx D cI cT cJ Ax [.ref x, .int v, .int w] (fun H => H.size = sz ∧ va_P D vwCl (CW cT x lv kp fL fK o ld b k FZ) H ∧ va_D (fun _ => True) (CW cT x lv kp fL fK o ld b k FZ))) (va_Qi (S := Sv) (fun r u => ∃ j sp, j < 6 ∧ v = nI j ∧ (G (246 + j)).1 = nI 1 ∧ sp < (G (246 + j)).2.2.1 ∧ w = nI sp ∧ r = (G (246 + j)).2.2.2 sp ∧ u = (va_up G (246 + j) (nI 1, (G (246 + j)).2.1, (G (246 + j)).2.2.1 - 1, delR (G (246 + j)).2.2.2 sp), o, ld, b, k)) (fun u t => CB D cI cT x lv kp (va_A (CW cT x lv kp fL fK o ld b k FZ) sz) u t.heap) (va_A (CW cT x lv kp fL fK o ld b k FZ) sz)) (XXc (fun E => (E = nIO ∧ ¬ Pl v) ∨ (E = nIS ∧ ∃ j, j < 6 ∧ v = nI j ∧ ¬ (G (246 + j)).1 = nI 1) ∨ (E = nIA ∧ ∃ j, j < 6 ∧ v = nI j ∧ (G (246 + j)).1 = nI 1 ∧ ¬ ∃ sp, sp < (G (246 + j)).2.2.1 ∧ w = nI sp))) 8 40 (va_A (CW cT x lv kp fL fK o ld b k FZ) sz) := by
  refine vx_ofW (cc := cX1_take) (maxL := 4) (ret := (some .int)) (by decide) rfl ?_
  intro p e s m args below meth c s₁ B hml hnt hv
  obtain ⟨rfl, ⟨hsz, hP, hD0⟩, hE, hT⟩ := hv
  have hx := B.exec
  have hb := B.bytes
  have hr := B.returns
  have hts := atoms_spec (ws := wsX1_take) B.pre
  have hown : s.vm.findClass RX1 = some m.cls := findClass_of_methodNamed B.named
  have hlocks := B.notSynchronized
  have hl := lv_entry ([.ref x, .int v, .int w]) (n := 4) (Nat.le_of_ble_eq_true rfl)
  rw [lg_entry_eq]
  generalize (lg_sl ([.ref x, .int v, .int w]) ++ List.replicate (4 - (lg_sl ([.ref x, .int v, .int w])).length) Slot.unset).toArray = ls at hl ⊢
  have hl : lv_has ls 4 [(0, .ref x), (1, .int v), (2, .int w)] := hl
  have hK := hE.1
  subst hsz
  have hD := hD0.self (sz := s.heap.size)
  generalize hAe : va_A (CW cT x lv kp fL fK o ld b k FZ) s.heap.size = A at hD ⊢
  have hA : ∀ q : Nat, s.heap.size ≤ q → A q := fun q h => by rw [← hAe]; exact Or.inr h
  have hS : va_S A s.heap s.heap [] := va_S.rf
  refine lv_iload_n hx hb dX1_take_0 rfl (lv_at hl 1 rfl) ?_
  refine xcx (vx_runS (As := [.int v]) (rest := []) ⟨hx, hb, hml, hown, hts⟩ (c_X1_checkPlace l hst _ v) (va_cwS 1 hts gX1_take_X1_checkPlace rfl rfl rfl (by decide +kernel) ⟨(Nat.le_of_ble_eq_true rfl), (Nat.le_of_ble_eq_true rfl)⟩) ⟨XPx_blind, XPx_pre hE hT trivial⟩ rfl rfl hl.1 rfl (lv_room (Nat.le_of_ble_eq_true rfl)) dX1_take_1 ⟨Nat.le_of_ble_eq_true rfl, Nat.le_of_ble_eq_true rfl⟩) (fun E9 ce9 q9 H1 hp9 hz9 hk9 hc9 hv9 hcl9 => ?_) (fun v9 hw9 => ?_)
  · exact vx_out (fun x h => (hnt x h).elim) hlocks hc9 hv9 hcl9 (fun t9 ht9 _ => ⟨Or.inl hp9, by rw [ht9]; exact hz9, fun q hq => by rw [ht9]; exact hk9 q hq⟩) (fun _ h => nomatch h) (Nat.le_of_ble_eq_true rfl) (Nat.le_of_ble_eq_true rfl)
  obtain ⟨rfl, ⟨j, hj, rfl⟩⟩ := hw9
  refine W.eq (g2 := F0 m 4 ls []) rfl ?_
  refine lv_aload_n hx hb dX1_take_4 rfl (lv_at hl 0 rfl) ?_
  refine va_get (ci := 1) (v := .ref lv) (C := RX1) (T := TX1) (N := 6) hx hb hts iw_X1take_X1 hown hK hP 0 rfl rfl 0 (by decide) (hts (.fieldLink RX1 14 "BackMirror" "live" "[LBackMirror$Thing;") (by decide +kernel)) (fun _ h9 => h9) rfl dX1_take_5 ?_
  refine lv_iload_n hx hb dX1_take_8 rfl (lv_at hl 1 rfl) ?_
  refine va_aldq hx hb hK hP 1 1 rfl rfl (xin (by omega) (by omega)) dX1_take_9 ?_
  obtain ⟨a1, ha1, hT1⟩ := hC.2 (j) (by omega)
  refine x_toprf (y := a1) (by rw [nI_clamp (by omega)]; exact ha1) ?_
  obtain ⟨hz1, q1, f1, hm1, hr1, he1⟩ := hT1
  refine lv_astore_n (lv' := [(3, .ref a1), (0, .ref x), (1, .int (nI j)), (2, .int w)]) hx hb dX1_take_10 rfl hl (by decide) rfl (fun ls hl => ?_)
  refine lv_aload_n hx hb dX1_take_11 rfl (lv_at hl 0 rfl) ?_
  refine va_get (ci := 0) (v := .int ((G (246 + j)).1)) (C := RX0) (T := TX0) (N := 3) hx hb hts iw_X1take_X0 hown hK (x1 hP (xm3 hm1)) 0 rfl rfl 0 (by decide) (hts (.fieldLink RX1 47 "BackMirror$Thing" "kind" "I") (by decide +kernel)) (fun _ h9 => h9) rfl dX1_take_12 ?_
  refine lv_iconst (v := nI 1) hx hb dX1_take_15 (by decide) ?_
  refine lv_icmp_eq (tgt := 29) hx hb dX1_take_16 (by decide) (fun c16 => ?_) (fun c16 => ?_)
  · refine lv_iload_n hx hb dX1_take_29 rfl (lv_at hl 3 rfl) ?_
    refine lv_if_lt (tgt := 42) hx hb dX1_take_30 (by decide) (fun c30 => ?_) (fun c30 => ?_)
    · obtain ⟨sa9, hsa9⟩ := hT.1 (71, "no such spot") (by decide)
      exact vx_throwS hx hb hst (own := RX1) (cls := nIA) (text := "no such spot") (names := nUP) (ik := 57) (is := 71) (ic := 61) hown (by decide +kernel) (by decide +kernel) (hts (.classLink RX1 57 nIA) (by decide +kernel)) (hts (.initialized nIA) (by decide +kernel)) hsa9 (vx_hat (fun w h => hts w (List.mem_cons_of_mem _ (List.mem_append_left _ (List.mem_append_right _ h)))) xb_IA (hT.use (X := nIA) (by decide))) xg_IA hT.2.2.2.1 hT.2.2.2.2 va_S.rf (hl.1.trans hml.symm) dX1_take_42 dX1_take_45 dX1_take_46 dX1_take_48 dX1_take_51 (fun x h => (hnt x h).elim) (Nat.le_of_ble_eq_true rfl) (Nat.le_of_ble_eq_true rfl) (Nat.le_of_ble_eq_true rfl) (Nat.le_of_ble_eq_true rfl) hlocks (fun t9 _ hz9 hk9 => ⟨Or.inr (Or.inr ⟨rfl, j, hj, rfl, c16, by rintro ⟨s9, h1, rfl⟩; first | exact xN0 (by omega) c30 | exact xNlt h1 (by omega) c39⟩), hz9, hk9⟩) (fun _ h => nomatch h) (Nat.le_of_ble_eq_true rfl) (Nat.le_of_ble_eq_true rfl)
    · refine lv_iload_n hx hb dX1_take_33 rfl (lv_at hl 3 rfl) ?_
      refine lv_aload_n hx hb dX1_take_34 rfl (lv_at hl 0 rfl) ?_
      refine va_get (ci := 0) (v := .ref q1) (C := RX0) (T := TX0) (N := 3) hx hb hts iw_X1take_X0 hown hK (x1 hP (xm3 hm1)) 0 rfl rfl 2 (by decide) (hts (.fieldLink RX1 43 "BackMirror$Thing" "numbers" "[I") (by decide +kernel)) (fun _ h9 => h9) rfl dX1_take_35 ?_
      refine va_alen hx hb hK (x1 hP (xm3 hr1)) 0 0 rfl rfl (v := nI ((G (246 + j)).2.2.1)) rfl dX1_take_38 ?_
      refine lv_icmp_lt (tgt := 52) hx hb dX1_take_39 (by decide) (fun c39 => ?_) (fun c39 => ?_)
      · obtain ⟨sp, hsp, rfl⟩ := xLt_t (by omega) c30 c39
        refine lv_aload_n hx hb dX1_take_52 rfl (lv_at hl 1 rfl) ?_
        refine va_get (ci := 1) (v := .ref lv) (C := RX1) (T := TX1) (N := 6) hx hb hts iw_X1take_X1 hown hK hP 0 rfl rfl 0 (by decide) (hts (.fieldLink RX1 14 "BackMirror" "live" "[LBackMirror$Thing;") (by decide +kernel)) (fun _ h9 => h9) rfl dX1_take_53 ?_
        refine lv_iload_n hx hb dX1_take_56 rfl (lv_at hl 2 rfl) ?_
        refine va_new (ci := 0) (fs := [.int 0, .int 0, .null]) (C := RX0) (T := TX0) (N := 3) hx hb hts iw_X1take_X0 tyX0 tyX0_ok hown (hts (.classLink RX1 7 RX0) (by decide +kernel)) (hts (.instantiable RX0 3) (by decide +kernel)) (hts (.initialized RX0) (by decide +kernel)) hK hP hD hS hA rfl (by intro j hj; match j, hj with | 0, _ => rfl | 1, _ => rfl | 2, _ => rfl) (by first | exact Nat.le_of_ble_eq_true rfl | (show _ ≤ 8; omega)) (by first | exact Nat.le_of_ble_eq_true rfl | (show _ ≤ 40; omega)) dX1_take_57 (fun q57 H hP hD hS => ?_)
        have hP : va_P D vwCl ((x, .inr (1, [.ref lv, .ref kp, .int (nI o), .int (nI ld), .int (nI b), .int (nI k)])) :: (lv, .inl (cT, 6, .inr (.inr (.inr (.inr fL))))) :: (kp, .inl (cT, 246, .inr (.inr (.inr (.inr fK))))) :: (FZ ++ [(q57, .inr (0, [.int 0, .int 0, .null]))])) H := hP
        have hD : va_D A ((x, .inr (1, [.ref lv, .ref kp, .int (nI o), .int (nI ld), .int (nI b), .int (nI k)])) :: (lv, .inl (cT, 6, .inr (.inr (.inr (.inr fL))))) :: (kp, .inl (cT, 246, .inr (.inr (.inr (.inr fK))))) :: (FZ ++ [(q57, .inr (0, [.int 0, .int 0, .null]))])) := hD
        refine lv_dup hx hb dX1_take_60 rfl ?_
        refine lv_iconst (v := nI 1) hx hb dX1_take_61 (by decide) ?_
        refine lv_aload_n hx hb dX1_take_62 rfl (lv_at hl 0 rfl) ?_
        refine va_get (ci := 0) (v := .int ((G (246 + j)).2.1)) (C := RX0) (T := TX0) (N := 3) hx hb hts iw_X1take_X0 hown hK (x1 hP (xm3 (List.mem_append_left _ (hm1)))) 0 rfl rfl 1 (by decide) (hts (.fieldLink RX1 62 "BackMirror$Thing" "rights" "I") (by decide +kernel)) (fun _ h9 => h9) rfl dX1_take_63 ?_
        refine lv_aload_n hx hb dX1_take_66 rfl (lv_at hl 0 rfl) ?_
        refine va_get (ci := 0) (v := .ref q1) (C := RX0) (T := TX0) (N := 3) hx hb hts iw_X1take_X0 hown hK (x1 hP (xm3 (List.mem_append_left _ (hm1)))) 0 rfl rfl 2 (by decide) (hts (.fieldLink RX1 43 "BackMirror$Thing" "numbers" "[I") (by decide +kernel)) (fun _ h9 => h9) rfl dX1_take_67 ?_
        refine lv_iload_n hx hb dX1_take_70 rfl (lv_at hl 3 rfl) ?_
        have hFc := xfree (wc := ((x, .inr (1, [.ref lv, .ref kp, .int (nI o), .int (nI ld), .int (nI b), .int (nI k)])) :: (lv, .inl (cT, 6, .inr (.inr (.inr (.inr fL))))) :: (kp, .inl (cT, 246, .inr (.inr (.inr (.inr fK))))) :: (FZ ++ [(q57, .inr (0, [.int 0, .int 0, .null]))]))) hD hS hA (fun _ h => h)
        refine va_callr (va_runS (As := [.ref q1, .int (nI sp)]) (rest := [.int ((G (246 + j)).2.1), .int (nI 1), .ref q57, .ref q57, .int (nI j), .ref lv]) ⟨hx, hb, hml, hown, hts⟩ (c_X1_rowWithout l ((x, .inr (1, [.ref lv, .ref kp, .int (nI o), .int (nI ld), .int (nI b), .int (nI k)])) :: (lv, .inl (cT, 6, .inr (.inr (.inr (.inr fL))))) :: (kp, .inl (cT, 246, .inr (.inr (.inr (.inr fK))))) :: (FZ ++ [(q57, .inr (0, [.int 0, .int 0, .null]))])) q1 ((G (246 + j)).2.2.1) sp H.size f1 (xm3 (List.mem_append_left _ (hr1))) (by omega) (by omega)) (va_cwS 2 hts gX1_take_X1_rowWithout rfl rfl rfl (by decide +kernel) ⟨(Nat.le_of_ble_eq_true rfl), (Nat.le_of_ble_eq_true rfl)⟩) ⟨XP_blind, XP_pre hE ⟨rfl, hP, hD.weaken (fun _ _ _ _ => trivial)⟩⟩ rfl rfl hl.1 rfl (lv_room (Nat.le_of_ble_eq_true rfl)) dX1_take_71 ⟨Nat.le_of_ble_eq_true rfl, Nat.le_of_ble_eq_true rfl⟩) hS (fun q9 _ h => hFc q9 h) hFc (fun u r71 t9 H1 locs ht9 hvm9 hw9 hB9 hzc hkc hS => ?_)
        obtain ⟨f', hf', hP1, hD1⟩ := hB9
        rw [ht9] at hP1
        obtain ⟨hP, hD⟩ := xjoin (wr := []) (wc := ((x, .inr (1, [.ref lv, .ref kp, .int (nI o), .int (nI ld), .int (nI b), .int (nI k)])) :: (lv, .inl (cT, 6, .inr (.inr (.inr (.inr fL))))) :: (kp, .inl (cT, 246, .inr (.inr (.inr (.inr fK))))) :: (FZ ++ [(q57, .inr (0, [.int 0, .int 0, .null]))]))) hP hD hkc hFc hP1 hD1
        generalize H1 = H at hP hS ⊢
        have hP : va_P D vwCl ((x, .inr (1, [.ref lv, .ref kp, .int (nI o), .int (nI ld), .int (nI b), .int (nI k)])) :: (lv, .inl (cT, 6, .inr (.inr (.inr (.inr fL))))) :: (kp, .inl (cT, 246, .inr (.inr (.inr (.inr fK))))) :: ((FZ ++ [(q57, .inr (0, [.int 0, .int 0, .null]))]) ++ [(r71, .inl (cI, (G (246 + j)).2.2.1 - 1, .inl f'))])) H := hP
        have hD : va_D A ((x, .inr (1, [.ref lv, .ref kp, .int (nI o), .int (nI ld), .int (nI b), .int (nI k)])) :: (lv, .inl (cT, 6, .inr (.inr (.inr (.inr fL))))) :: (kp, .inl (cT, 246, .inr (.inr (.inr (.inr fK))))) :: ((FZ ++ [(q57, .inr (0, [.int 0, .int 0, .null]))]) ++ [(r71, .inl (cI, (G (246 + j)).2.2.1 - 1, .inl f'))])) := hD
        have hP := xP_perm (xsw3 _ _ _ _ _ _) hP
        have hD := xD_perm (xsw3 _ _ _ _ _ _) hD
        have hP : va_P D vwCl (((x, .inr (1, [.ref lv, .ref kp, .int (nI o), .int (nI ld), .int (nI b), .int (nI k)])) :: (lv, .inl (cT, 6, .inr (.inr (.inr (.inr fL))))) :: (kp, .inl (cT, 246, .inr (.inr (.inr (.inr fK))))) :: (FZ ++ [(r71, .inl (cI, (G (246 + j)).2.2.1 - 1, .inl f'))])) ++ [(q57, .inr (0, [.int 0, .int 0, .null]))]) H := hP
        have hD : va_D A (((x, .inr (1, [.ref lv, .ref kp, .int (nI o), .int (nI ld), .int (nI b), .int (nI k)])) :: (lv, .inl (cT, 6, .inr (.inr (.inr (.inr fL))))) :: (kp, .inl (cT, 246, .inr (.inr (.inr (.inr fK))))) :: (FZ ++ [(r71, .inl (cI, (G (246 + j)).2.2.1 - 1, .inl f'))])) ++ [(q57, .inr (0, [.int 0, .int 0, .null]))]) := hD
        have hFc := xfree (wc := [(q57, .inr (0, [.int 0, .int 0, .null]))]) hD hS hA (fun _ h => List.mem_append_right _ h)
        have hPc := xP_sub (w2 := [(q57, .inr (0, [.int 0, .int 0, .null]))]) (fun _ h => List.mem_append_right _ h) hP
        have hDc : va_D (fun _ => True) [(q57, .inr (0, [.int 0, .int 0, .null]))] := (xD_sub (List.sublist_append_right _ _) hD).weaken (fun _ _ _ _ => trivial)
        refine va_callv (va_runI (As := [.int (nI 1), .int ((G (246 + j)).2.1), .ref r71]) (rest := [.ref q57, .int (nI j), .ref lv]) ⟨hx, hb, hml, hown, hts⟩ (c_X0_init l q57 r71 H.size (nI 1) ((G (246 + j)).2.1)) (cwI 3 hts gX1_take_X0_init rfl rfl rfl (hts (.initialized RX0) (by decide +kernel)) (hts (.methodLink RX1 11 yX0_init) (by decide +kernel)) (hts (.instanceMethod yX0_init) (by decide +kernel)) rfl (by decide +kernel) ⟨(Nat.le_of_ble_eq_true rfl), (Nat.le_of_ble_eq_true rfl)⟩) ⟨XP_blind, XP_pre hE ⟨rfl, hPc, hDc⟩⟩ rfl rfl hl.1 rfl (lv_room (Nat.le_of_ble_eq_true rfl)) dX1_take_74 ⟨by first | exact Nat.le_of_ble_eq_true rfl | (show _ + _ ≤ _; omega), by first | exact Nat.le_of_ble_eq_true rfl | (show _ + _ ≤ _; omega)⟩) hS (fun q9 _ h => hFc q9 h) hFc (fun u t9 H1 locs ht9 hvm9 hw9 hB9 hzc hkc hS => ?_)
        obtain ⟨hP1, hD1⟩ := hB9
        rw [ht9] at hP1
        obtain ⟨hP, hD⟩ := xjoin (wr := ((x, .inr (1, [.ref lv, .ref kp, .int (nI o), .int (nI ld), .int (nI b), .int (nI k)])) :: (lv, .inl (cT, 6, .inr (.inr (.inr (.inr fL))))) :: (kp, .inl (cT, 246, .inr (.inr (.inr (.inr fK))))) :: (FZ ++ [(r71, .inl (cI, (G (246 + j)).2.2.1 - 1, .inl f'))]))) (wc := [(q57, .inr (0, [.int 0, .int 0, .null]))]) (w1 := [(q57, .inr (0, [.int (nI 1), .int ((G (246 + j)).2.1), .ref r71]))]) hP hD hkc hFc hP1 hD1
        generalize H1 = H at hP hS ⊢
        have hP : va_P D vwCl ((x, .inr (1, [.ref lv, .ref kp, .int (nI o), .int (nI ld), .int (nI b), .int (nI k)])) :: (lv, .inl (cT, 6, .inr (.inr (.inr (.inr fL))))) :: (kp, .inl (cT, 246, .inr (.inr (.inr (.inr fK))))) :: ((FZ ++ [(r71, .inl (cI, (G (246 + j)).2.2.1 - 1, .inl f'))]) ++ [(q57, .inr (0, [.int (nI 1), .int ((G (246 + j)).2.1), .ref r71]))])) H := hP
        have hD : va_D A ((x, .inr (1, [.ref lv, .ref kp, .int (nI o), .int (nI ld), .int (nI b), .int (nI k)])) :: (lv, .inl (cT, 6, .inr (.inr (.inr (.inr fL))))) :: (kp, .inl (cT, 246, .inr (.inr (.inr (.inr fK))))) :: ((FZ ++ [(r71, .inl (cI, (G (246 + j)).2.2.1 - 1, .inl f'))]) ++ [(q57, .inr (0, [.int (nI 1), .int ((G (246 + j)).2.1), .ref r71]))])) := hD
        obtain ⟨j9, hj9⟩ := List.getElem?_of_mem (show (((q57, .inr (0, [.int (nI 1), .int ((G (246 + j)).2.1), .ref r71])) : Nat × va_E)) ∈ ((FZ ++ [(r71, .inl (cI, (G (246 + j)).2.2.1 - 1, .inl f'))]) ++ [(q57, .inr (0, [.int (nI 1), .int ((G (246 + j)).2.1), .ref r71]))]) from List.mem_append_right _ (List.mem_singleton.mpr rfl))
        refine va_astq (r := (RX0, TX0, 3)) hx hb hK hP hD hS 1 1 (j9 + 3) 0 rfl rfl hj9 rfl (xin (by omega) (by omega)) dX1_take_77 (fun H locs hP hD hS => ?_)
        rw [nI_clamp (show j < 2 ^ 31 by omega)] at hP hD
        have hP : va_P D vwCl ((x, .inr (1, [.ref lv, .ref kp, .int (nI o), .int (nI ld), .int (nI b), .int (nI k)])) :: (lv, .inl (cT, 6, .inr (.inr (.inr (.inr (va_up fL j (some q57))))))) :: (kp, .inl (cT, 246, .inr (.inr (.inr (.inr fK))))) :: ((FZ ++ [(r71, .inl (cI, (G (246 + j)).2.2.1 - 1, .inl f'))]) ++ [(q57, .inr (0, [.int (nI 1), .int ((G (246 + j)).2.1), .ref r71]))])) H := hP
        have hD : va_D A ((x, .inr (1, [.ref lv, .ref kp, .int (nI o), .int (nI ld), .int (nI b), .int (nI k)])) :: (lv, .inl (cT, 6, .inr (.inr (.inr (.inr (va_up fL j (some q57))))))) :: (kp, .inl (cT, 246, .inr (.inr (.inr (.inr fK))))) :: ((FZ ++ [(r71, .inl (cI, (G (246 + j)).2.2.1 - 1, .inl f'))]) ++ [(q57, .inr (0, [.int (nI 1), .int ((G (246 + j)).2.1), .ref r71]))])) := hD
        refine lv_aload_n hx hb dX1_take_78 rfl (lv_at hl 0 rfl) ?_
        refine va_get (ci := 0) (v := .ref q1) (C := RX0) (T := TX0) (N := 3) hx hb hts iw_X1take_X0 hown hK (x1 hP (xm3 (List.mem_append_left _ (List.mem_append_left _ (hm1))))) 0 rfl rfl 2 (by decide) (hts (.fieldLink RX1 43 "BackMirror$Thing" "numbers" "[I") (by decide +kernel)) (fun _ h9 => h9) rfl dX1_take_79 ?_
        refine lv_iload_n hx hb dX1_take_82 rfl (lv_at hl 3 rfl) ?_
        refine va_iald hx hb hK (x1 hP (xm3 (List.mem_append_left _ (List.mem_append_left _ (hr1))))) 0 0 rfl rfl (xin (by omega) (by omega)) dX1_take_83 ?_
        refine x_top (f1 sp) (by rw [nI_clamp (by omega)]) ?_
        refine vx_ret ?_
        refine W.widen (k := 8) (n := 40) (by first | exact Nat.le_of_ble_eq_true rfl | (show _ ≤ 8; omega)) (by first | exact Nat.le_of_ble_eq_true rfl | (show _ ≤ 40; omega)) ?_
        exact W.iret hx hb hr (fun t9 ht9 hW9 => ⟨⟨_, (va_up G (246 + j) (nI 1, (G (246 + j)).2.1, (G (246 + j)).2.2.1 - 1, delR (G (246 + j)).2.2.2 sp), o, ld, b, k), rfl, ⟨j, sp, hj, rfl, c16, hsp, rfl, he1 sp hsp, rfl⟩, ⟨_, _, _, by rw [ht9]; exact hP, hD, (hC.app.app).live (v := (nI 1, (G (246 + j)).2.1, (G (246 + j)).2.2.1 - 1, delR (G (246 + j)).2.2.2 sp)) ⟨(by show (G (246 + j)).2.2.1 - 1 ≤ 12; omega), _, _, List.mem_append_right _ (List.mem_singleton.mpr rfl), List.mem_append_left _ (List.mem_append_right _ (List.mem_singleton.mpr rfl)), fun i hi => (hf' i hi).trans (delR_congr he1 i hi)⟩⟩⟩, hS.F ht9⟩) hS.2.2 dX1_take_84
      · obtain ⟨sa9, hsa9⟩ := hT.1 (71, "no such spot") (by decide)
        exact vx_throwS hx hb hst (own := RX1) (cls := nIA) (text := "no such spot") (names := nUP) (ik := 57) (is := 71) (ic := 61) hown (by decide +kernel) (by decide +kernel) (hts (.classLink RX1 57 nIA) (by decide +kernel)) (hts (.initialized nIA) (by decide +kernel)) hsa9 (vx_hat (fun w h => hts w (List.mem_cons_of_mem _ (List.mem_append_left _ (List.mem_append_right _ h)))) xb_IA (hT.use (X := nIA) (by decide))) xg_IA hT.2.2.2.1 hT.2.2.2.2 va_S.rf (hl.1.trans hml.symm) dX1_take_42 dX1_take_45 dX1_take_46 dX1_take_48 dX1_take_51 (fun x h => (hnt x h).elim) (Nat.le_of_ble_eq_true rfl) (Nat.le_of_ble_eq_true rfl) (Nat.le_of_ble_eq_true rfl) (Nat.le_of_ble_eq_true rfl) hlocks (fun t9 _ hz9 hk9 => ⟨Or.inr (Or.inr ⟨rfl, j, hj, rfl, c16, by rintro ⟨s9, h1, rfl⟩; first | exact xN0 (by omega) c30 | exact xNlt h1 (by omega) c39⟩), hz9, hk9⟩) (fun _ h => nomatch h) (Nat.le_of_ble_eq_true rfl) (Nat.le_of_ble_eq_true rfl)
  · obtain ⟨sa9, hsa9⟩ := hT.1 (69, "no file") (by decide)
    exact vx_throwS hx hb hst (own := RX1) (cls := nIS) (text := "no file") (names := nUP) (ik := 50) (is := 69) (ic := 54) hown (by decide +kernel) (by decide +kernel) (hts (.classLink RX1 50 nIS) (by decide +kernel)) (hts (.initialized nIS) (by decide +kernel)) hsa9 (vx_hat (fun w h => hts w (List.mem_cons_of_mem _ (List.mem_append_left _ (List.mem_append_left _ (List.mem_append_right _ h))))) xb_IS (hT.use (X := nIS) (by decide))) xg_IS hT.2.2.2.1 hT.2.2.2.2 va_S.rf (hl.1.trans hml.symm) dX1_take_19 dX1_take_22 dX1_take_23 dX1_take_25 dX1_take_28 (fun x h => (hnt x h).elim) (Nat.le_of_ble_eq_true rfl) (Nat.le_of_ble_eq_true rfl) (Nat.le_of_ble_eq_true rfl) (Nat.le_of_ble_eq_true rfl) hlocks (fun t9 _ hz9 hk9 => ⟨Or.inr (Or.inl ⟨rfl, j, hj, rfl, c16⟩), hz9, hk9⟩) (fun _ h => nomatch h) (Nat.le_of_ble_eq_true rfl) (Nat.le_of_ble_eq_true rfl)

theorem iw_X1setRights_X0 : ∀ w ∈ u_ws RX0 TX0 3, w ∈ wsX1_setRights := by decide +kernel
theorem iw_X1setRights_X1 : ∀ w ∈ u_ws RX1 TX1 6, w ∈ wsX1_setRights := by decide +kernel
set_option maxHeartbeats 4000000 in
set_option maxRecDepth 100000 in
theorem c_X1_setRights (l : Launch) (hst : l.stackTraces = false) {D : va_G} {cI cT cJ : ClassId} (Ax : Nat → Prop) (x lv kp : Nat) (fL fK : Nat → Option Nat) (o ld b k : Nat) (FZ : va_W) (G : Nat → Tv) (hC : CA cI FZ fL fK G) (v w : Int32)  (sz : Nat) : vx_Met l yX1_setRights wsX1_setRights (rmD 8 8 40) (XPx D cI cT cJ Ax [.ref x, .int v, .int w] (fun H => H.size = sz ∧ va_P D vwCl (CW cT x lv kp fL fK o ld b k FZ) H ∧ va_D (fun _ => True) (CW cT x lv kp fL fK o ld b k FZ))) (va_Qi (S := Sv) (fun r u => ∃ j y, j < 6 ∧ v = nI j ∧ ¬ (G (246 + j)).1 = nI 0 ∧ y ≤ 7 ∧ w = nI y ∧ r = (G (246 + j)).2.1 ∧ u = (va_up G (246 + j) ((G (246 + j)).1, nI y, (G (246 + j)).2.2.1, (G (246 + j)).2.2.2), o, ld, b, k)) (fun u t => CB D cI cT x lv kp (va_A (CW cT x lv kp fL fK o ld b k FZ) sz) u t.heap) (va_A (CW cT x lv kp fL fK o ld b k FZ) sz)) (XXc (fun E => (E = nIO ∧ ¬ Pl v) ∨ (E = nIS ∧ ∃ j, j < 6 ∧ v = nI j ∧ (G (246 + j)).1 = nI 0) ∨ (E = nIA ∧ ∃ j, j < 6 ∧ v = nI j ∧ ¬ (G (246 + j)).1 = nI 0 ∧ ¬ ∃ y, y ≤ 7 ∧ w = nI y))) 8 40 (va_A (CW cT x lv kp fL fK o ld b k FZ) sz) := by
  refine vx_ofW (cc := cX1_setRights) (maxL := 4) (ret := (some .int)) (by decide) rfl ?_
  intro p e s m args below meth c s₁ B hml hnt hv
  obtain ⟨rfl, ⟨hsz, hP, hD0⟩, hE, hT⟩ := hv
  have hx := B.exec
  have hb := B.bytes
  have hr := B.returns
  have hts := atoms_spec (ws := wsX1_setRights) B.pre
  have hown : s.vm.findClass RX1 = some m.cls := findClass_of_methodNamed B.named
  have hlocks := B.notSynchronized
  have hl := lv_entry ([.ref x, .int v, .int w]) (n := 4) (Nat.le_of_ble_eq_true rfl)
  rw [lg_entry_eq]
  generalize (lg_sl ([.ref x, .int v, .int w]) ++ List.replicate (4 - (lg_sl ([.ref x, .int v, .int w])).length) Slot.unset).toArray = ls at hl ⊢
  have hl : lv_has ls 4 [(0, .ref x), (1, .int v), (2, .int w)] := hl
  have hK := hE.1
  subst hsz
  have hD := hD0.self (sz := s.heap.size)
  generalize hAe : va_A (CW cT x lv kp fL fK o ld b k FZ) s.heap.size = A at hD ⊢
  have hA : ∀ q : Nat, s.heap.size ≤ q → A q := fun q h => by rw [← hAe]; exact Or.inr h
  have hS : va_S A s.heap s.heap [] := va_S.rf
  refine lv_iload_n hx hb dX1_setRights_0 rfl (lv_at hl 1 rfl) ?_
  refine xcx (vx_runS (As := [.int v]) (rest := []) ⟨hx, hb, hml, hown, hts⟩ (c_X1_checkPlace l hst _ v) (va_cwS 1 hts gX1_setRights_X1_checkPlace rfl rfl rfl (by decide +kernel) ⟨(Nat.le_of_ble_eq_true rfl), (Nat.le_of_ble_eq_true rfl)⟩) ⟨XPx_blind, XPx_pre hE hT trivial⟩ rfl rfl hl.1 rfl (lv_room (Nat.le_of_ble_eq_true rfl)) dX1_setRights_1 ⟨Nat.le_of_ble_eq_true rfl, Nat.le_of_ble_eq_true rfl⟩) (fun E9 ce9 q9 H1 hp9 hz9 hk9 hc9 hv9 hcl9 => ?_) (fun v9 hw9 => ?_)
  · exact vx_out (fun x h => (hnt x h).elim) hlocks hc9 hv9 hcl9 (fun t9 ht9 _ => ⟨Or.inl hp9, by rw [ht9]; exact hz9, fun q hq => by rw [ht9]; exact hk9 q hq⟩) (fun _ h => nomatch h) (Nat.le_of_ble_eq_true rfl) (Nat.le_of_ble_eq_true rfl)
  obtain ⟨rfl, ⟨j, hj, rfl⟩⟩ := hw9
  refine W.eq (g2 := F0 m 4 ls []) rfl ?_
  refine lv_aload_n hx hb dX1_setRights_4 rfl (lv_at hl 0 rfl) ?_
  refine va_get (ci := 1) (v := .ref lv) (C := RX1) (T := TX1) (N := 6) hx hb hts iw_X1setRights_X1 hown hK hP 0 rfl rfl 0 (by decide) (hts (.fieldLink RX1 14 "BackMirror" "live" "[LBackMirror$Thing;") (by decide +kernel)) (fun _ h9 => h9) rfl dX1_setRights_5 ?_
  refine lv_iload_n hx hb dX1_setRights_8 rfl (lv_at hl 1 rfl) ?_
  refine va_aldq hx hb hK hP 1 1 rfl rfl (xin (by omega) (by omega)) dX1_setRights_9 ?_
  obtain ⟨a1, ha1, hT1⟩ := hC.2 (j) (by omega)
  refine x_toprf (y := a1) (by rw [nI_clamp (by omega)]; exact ha1) ?_
  obtain ⟨hz1, q1, f1, hm1, hr1, he1⟩ := hT1
  refine lv_astore_n (lv' := [(3, .ref a1), (0, .ref x), (1, .int (nI j)), (2, .int w)]) hx hb dX1_setRights_10 rfl hl (by decide) rfl (fun ls hl => ?_)
  refine lv_aload_n hx hb dX1_setRights_11 rfl (lv_at hl 0 rfl) ?_
  refine va_get (ci := 0) (v := .int ((G (246 + j)).1)) (C := RX0) (T := TX0) (N := 3) hx hb hts iw_X1setRights_X0 hown hK (x1 hP (xm3 hm1)) 0 rfl rfl 0 (by decide) (hts (.fieldLink RX1 47 "BackMirror$Thing" "kind" "I") (by decide +kernel)) (fun _ h9 => h9) rfl dX1_setRights_12 ?_
  refine lv_if_ne (tgt := 28) hx hb dX1_setRights_15 (by decide) (fun c15 => ?_) (fun c15 => ?_)
  · refine lv_iload_n hx hb dX1_setRights_28 rfl (lv_at hl 3 rfl) ?_
    refine lv_if_lt (tgt := 38) hx hb dX1_setRights_29 (by decide) (fun c29 => ?_) (fun c29 => ?_)
    · obtain ⟨sa9, hsa9⟩ := hT.1 (79, "no such rights") (by decide)
      exact vx_throwS hx hb hst (own := RX1) (cls := nIA) (text := "no such rights") (names := nUP) (ik := 57) (is := 79) (ic := 61) hown (by decide +kernel) (by decide +kernel) (hts (.classLink RX1 57 nIA) (by decide +kernel)) (hts (.initialized nIA) (by decide +kernel)) hsa9 (vx_hat (fun w h => hts w (List.mem_cons_of_mem _ (List.mem_append_left _ (List.mem_append_right _ h)))) xb_IA (hT.use (X := nIA) (by decide))) xg_IA hT.2.2.2.1 hT.2.2.2.2 va_S.rf (hl.1.trans hml.symm) dX1_setRights_38 dX1_setRights_41 dX1_setRights_42 dX1_setRights_44 dX1_setRights_47 (fun x h => (hnt x h).elim) (Nat.le_of_ble_eq_true rfl) (Nat.le_of_ble_eq_true rfl) (Nat.le_of_ble_eq_true rfl) (Nat.le_of_ble_eq_true rfl) hlocks (fun t9 _ hz9 hk9 => ⟨Or.inr (Or.inr ⟨rfl, j, hj, rfl, c15, by rintro ⟨y9, h1, rfl⟩; first | exact xN0 (by omega) c29 | exact xNle h1 (by omega) c35⟩), hz9, hk9⟩) (fun _ h => nomatch h) (Nat.le_of_ble_eq_true rfl) (Nat.le_of_ble_eq_true rfl)
    · refine lv_iload_n hx hb dX1_setRights_32 rfl (lv_at hl 3 rfl) ?_
      refine lv_bipush (v := nI 7) hx hb dX1_setRights_33 (by decide) ?_
      refine lv_icmp_le (tgt := 48) hx hb dX1_setRights_35 (by decide) (fun c35 => ?_) (fun c35 => ?_)
      · obtain ⟨y, hy, rfl⟩ := xIn_t (n := 7) (by omega) c29 c35
        refine lv_aload_n hx hb dX1_setRights_48 rfl (lv_at hl 1 rfl) ?_
        refine va_get (ci := 1) (v := .ref lv) (C := RX1) (T := TX1) (N := 6) hx hb hts iw_X1setRights_X1 hown hK hP 0 rfl rfl 0 (by decide) (hts (.fieldLink RX1 14 "BackMirror" "live" "[LBackMirror$Thing;") (by decide +kernel)) (fun _ h9 => h9) rfl dX1_setRights_49 ?_
        refine lv_iload_n hx hb dX1_setRights_52 rfl (lv_at hl 2 rfl) ?_
        refine va_new (ci := 0) (fs := [.int 0, .int 0, .null]) (C := RX0) (T := TX0) (N := 3) hx hb hts iw_X1setRights_X0 tyX0 tyX0_ok hown (hts (.classLink RX1 7 RX0) (by decide +kernel)) (hts (.instantiable RX0 3) (by decide +kernel)) (hts (.initialized RX0) (by decide +kernel)) hK hP hD hS hA rfl (by intro j hj; match j, hj with | 0, _ => rfl | 1, _ => rfl | 2, _ => rfl) (by first | exact Nat.le_of_ble_eq_true rfl | (show _ ≤ 8; omega)) (by first | exact Nat.le_of_ble_eq_true rfl | (show _ ≤ 40; omega)) dX1_setRights_53 (fun q53 H hP hD hS => ?_)
        have hP : va_P D vwCl ((x, .inr (1, [.ref lv, .ref kp, .int (nI o), .int (nI ld), .int (nI b), .int (nI k)])) :: (lv, .inl (cT, 6, .inr (.inr (.inr (.inr fL))))) :: (kp, .inl (cT, 246, .inr (.inr (.inr (.inr fK))))) :: (FZ ++ [(q53, .inr (0, [.int 0, .int 0, .null]))])) H := hP
        have hD : va_D A ((x, .inr (1, [.ref lv, .ref kp, .int (nI o), .int (nI ld), .int (nI b), .int (nI k)])) :: (lv, .inl (cT, 6, .inr (.inr (.inr (.inr fL))))) :: (kp, .inl (cT, 246, .inr (.inr (.inr (.inr fK))))) :: (FZ ++ [(q53, .inr (0, [.int 0, .int 0, .null]))])) := hD
        refine lv_dup hx hb dX1_setRights_56 rfl ?_
        refine lv_aload_n hx hb dX1_setRights_57 rfl (lv_at hl 0 rfl) ?_
        refine va_get (ci := 0) (v := .int ((G (246 + j)).1)) (C := RX0) (T := TX0) (N := 3) hx hb hts iw_X1setRights_X0 hown hK (x1 hP (xm3 (List.mem_append_left _ (hm1)))) 0 rfl rfl 0 (by decide) (hts (.fieldLink RX1 47 "BackMirror$Thing" "kind" "I") (by decide +kernel)) (fun _ h9 => h9) rfl dX1_setRights_58 ?_
        refine lv_iload_n hx hb dX1_setRights_61 rfl (lv_at hl 3 rfl) ?_
        refine lv_aload_n hx hb dX1_setRights_62 rfl (lv_at hl 0 rfl) ?_
        refine va_get (ci := 0) (v := .ref q1) (C := RX0) (T := TX0) (N := 3) hx hb hts iw_X1setRights_X0 hown hK (x1 hP (xm3 (List.mem_append_left _ (hm1)))) 0 rfl rfl 2 (by decide) (hts (.fieldLink RX1 43 "BackMirror$Thing" "numbers" "[I") (by decide +kernel)) (fun _ h9 => h9) rfl dX1_setRights_63 ?_
        have hP : va_P D vwCl (((x, .inr (1, [.ref lv, .ref kp, .int (nI o), .int (nI ld), .int (nI b), .int (nI k)])) :: (lv, .inl (cT, 6, .inr (.inr (.inr (.inr fL))))) :: (kp, .inl (cT, 246, .inr (.inr (.inr (.inr fK))))) :: FZ) ++ [(q53, .inr (0, [.int 0, .int 0, .null]))]) H := hP
        have hD : va_D A (((x, .inr (1, [.ref lv, .ref kp, .int (nI o), .int (nI ld), .int (nI b), .int (nI k)])) :: (lv, .inl (cT, 6, .inr (.inr (.inr (.inr fL))))) :: (kp, .inl (cT, 246, .inr (.inr (.inr (.inr fK))))) :: FZ) ++ [(q53, .inr (0, [.int 0, .int 0, .null]))]) := hD
        have hFc := xfree (wc := [(q53, .inr (0, [.int 0, .int 0, .null]))]) hD hS hA (fun _ h => List.mem_append_right _ h)
        have hPc := xP_sub (w2 := [(q53, .inr (0, [.int 0, .int 0, .null]))]) (fun _ h => List.mem_append_right _ h) hP
        have hDc : va_D (fun _ => True) [(q53, .inr (0, [.int 0, .int 0, .null]))] := (xD_sub (List.sublist_append_right _ _) hD).weaken (fun _ _ _ _ => trivial)
        refine va_callv (va_runI (As := [.int ((G (246 + j)).1), .int (nI y), .ref q1]) (rest := [.ref q53, .int (nI j), .ref lv]) ⟨hx, hb, hml, hown, hts⟩ (c_X0_init l q53 q1 H.size ((G (246 + j)).1) (nI y)) (cwI 3 hts gX1_setRights_X0_init rfl rfl rfl (hts (.initialized RX0) (by decide +kernel)) (hts (.methodLink RX1 11 yX0_init) (by decide +kernel)) (hts (.instanceMethod yX0_init) (by decide +kernel)) rfl (by decide +kernel) ⟨(Nat.le_of_ble_eq_true rfl), (Nat.le_of_ble_eq_true rfl)⟩) ⟨XP_blind, XP_pre hE ⟨rfl, hPc, hDc⟩⟩ rfl rfl hl.1 rfl (lv_room (Nat.le_of_ble_eq_true rfl)) dX1_setRights_66 ⟨by first | exact Nat.le_of_ble_eq_true rfl | (show _ + _ ≤ _; omega), by first | exact Nat.le_of_ble_eq_true rfl | (show _ + _ ≤ _; omega)⟩) hS (fun q9 _ h => hFc q9 h) hFc (fun u t9 H1 locs ht9 hvm9 hw9 hB9 hzc hkc hS => ?_)
        obtain ⟨hP1, hD1⟩ := hB9
        rw [ht9] at hP1
        obtain ⟨hP, hD⟩ := xjoin (wr := ((x, .inr (1, [.ref lv, .ref kp, .int (nI o), .int (nI ld), .int (nI b), .int (nI k)])) :: (lv, .inl (cT, 6, .inr (.inr (.inr (.inr fL))))) :: (kp, .inl (cT, 246, .inr (.inr (.inr (.inr fK))))) :: FZ)) (wc := [(q53, .inr (0, [.int 0, .int 0, .null]))]) (w1 := [(q53, .inr (0, [.int ((G (246 + j)).1), .int (nI y), .ref q1]))]) hP hD hkc hFc hP1 hD1
        generalize H1 = H at hP hS ⊢
        have hP : va_P D vwCl ((x, .inr (1, [.ref lv, .ref kp, .int (nI o), .int (nI ld), .int (nI b), .int (nI k)])) :: (lv, .inl (cT, 6, .inr (.inr (.inr (.inr fL))))) :: (kp, .inl (cT, 246, .inr (.inr (.inr (.inr fK))))) :: (FZ ++ [(q53, .inr (0, [.int ((G (246 + j)).1), .int (nI y), .ref q1]))])) H := hP
        have hD : va_D A ((x, .inr (1, [.ref lv, .ref kp, .int (nI o), .int (nI ld), .int (nI b), .int (nI k)])) :: (lv, .inl (cT, 6, .inr (.inr (.inr (.inr fL))))) :: (kp, .inl (cT, 246, .inr (.inr (.inr (.inr fK))))) :: (FZ ++ [(q53, .inr (0, [.int ((G (246 + j)).1), .int (nI y), .ref q1]))])) := hD
        obtain ⟨j9, hj9⟩ := List.getElem?_of_mem (show (((q53, .inr (0, [.int ((G (246 + j)).1), .int (nI y), .ref q1])) : Nat × va_E)) ∈ (FZ ++ [(q53, .inr (0, [.int ((G (246 + j)).1), .int (nI y), .ref q1]))]) from List.mem_append_right _ (List.mem_singleton.mpr rfl))
        refine va_astq (r := (RX0, TX0, 3)) hx hb hK hP hD hS 1 1 (j9 + 3) 0 rfl rfl hj9 rfl (xin (by omega) (by omega)) dX1_setRights_69 (fun H locs hP hD hS => ?_)
        rw [nI_clamp (show j < 2 ^ 31 by omega)] at hP hD
        have hP : va_P D vwCl ((x, .inr (1, [.ref lv, .ref kp, .int (nI o), .int (nI ld), .int (nI b), .int (nI k)])) :: (lv, .inl (cT, 6, .inr (.inr (.inr (.inr (va_up fL j (some q53))))))) :: (kp, .inl (cT, 246, .inr (.inr (.inr (.inr fK))))) :: (FZ ++ [(q53, .inr (0, [.int ((G (246 + j)).1), .int (nI y), .ref q1]))])) H := hP
        have hD : va_D A ((x, .inr (1, [.ref lv, .ref kp, .int (nI o), .int (nI ld), .int (nI b), .int (nI k)])) :: (lv, .inl (cT, 6, .inr (.inr (.inr (.inr (va_up fL j (some q53))))))) :: (kp, .inl (cT, 246, .inr (.inr (.inr (.inr fK))))) :: (FZ ++ [(q53, .inr (0, [.int ((G (246 + j)).1), .int (nI y), .ref q1]))])) := hD
        refine lv_aload_n hx hb dX1_setRights_70 rfl (lv_at hl 0 rfl) ?_
        refine va_get (ci := 0) (v := .int ((G (246 + j)).2.1)) (C := RX0) (T := TX0) (N := 3) hx hb hts iw_X1setRights_X0 hown hK (x1 hP (xm3 (List.mem_append_left _ (hm1)))) 0 rfl rfl 1 (by decide) (hts (.fieldLink RX1 62 "BackMirror$Thing" "rights" "I") (by decide +kernel)) (fun _ h9 => h9) rfl dX1_setRights_71 ?_
        refine vx_ret ?_
        refine W.widen (k := 8) (n := 40) (by first | exact Nat.le_of_ble_eq_true rfl | (show _ ≤ 8; omega)) (by first | exact Nat.le_of_ble_eq_true rfl | (show _ ≤ 40; omega)) ?_
        exact W.iret hx hb hr (fun t9 ht9 hW9 => ⟨⟨_, (va_up G (246 + j) ((G (246 + j)).1, nI y, (G (246 + j)).2.2.1, (G (246 + j)).2.2.2), o, ld, b, k), rfl, ⟨j, y, hj, rfl, c15, hy, rfl, rfl, rfl⟩, ⟨_, _, _, by rw [ht9]; exact hP, hD, (hC.app).live (v := ((G (246 + j)).1, nI y, (G (246 + j)).2.2.1, (G (246 + j)).2.2.2)) ⟨hz1, q1, f1, List.mem_append_right _ (List.mem_singleton.mpr rfl), List.mem_append_left _ hr1, he1⟩⟩⟩, hS.F ht9⟩) hS.2.2 dX1_setRights_74
      · obtain ⟨sa9, hsa9⟩ := hT.1 (79, "no such rights") (by decide)
        exact vx_throwS hx hb hst (own := RX1) (cls := nIA) (text := "no such rights") (names := nUP) (ik := 57) (is := 79) (ic := 61) hown (by decide +kernel) (by decide +kernel) (hts (.classLink RX1 57 nIA) (by decide +kernel)) (hts (.initialized nIA) (by decide +kernel)) hsa9 (vx_hat (fun w h => hts w (List.mem_cons_of_mem _ (List.mem_append_left _ (List.mem_append_right _ h)))) xb_IA (hT.use (X := nIA) (by decide))) xg_IA hT.2.2.2.1 hT.2.2.2.2 va_S.rf (hl.1.trans hml.symm) dX1_setRights_38 dX1_setRights_41 dX1_setRights_42 dX1_setRights_44 dX1_setRights_47 (fun x h => (hnt x h).elim) (Nat.le_of_ble_eq_true rfl) (Nat.le_of_ble_eq_true rfl) (Nat.le_of_ble_eq_true rfl) (Nat.le_of_ble_eq_true rfl) hlocks (fun t9 _ hz9 hk9 => ⟨Or.inr (Or.inr ⟨rfl, j, hj, rfl, c15, by rintro ⟨y9, h1, rfl⟩; first | exact xN0 (by omega) c29 | exact xNle h1 (by omega) c35⟩), hz9, hk9⟩) (fun _ h => nomatch h) (Nat.le_of_ble_eq_true rfl) (Nat.le_of_ble_eq_true rfl)
  · obtain ⟨sa9, hsa9⟩ := hT.1 (77, "nothing there") (by decide)
    exact vx_throwS hx hb hst (own := RX1) (cls := nIS) (text := "nothing there") (names := nUP) (ik := 50) (is := 77) (ic := 54) hown (by decide +kernel) (by decide +kernel) (hts (.classLink RX1 50 nIS) (by decide +kernel)) (hts (.initialized nIS) (by decide +kernel)) hsa9 (vx_hat (fun w h => hts w (List.mem_cons_of_mem _ (List.mem_append_left _ (List.mem_append_left _ (List.mem_append_right _ h))))) xb_IS (hT.use (X := nIS) (by decide))) xg_IS hT.2.2.2.1 hT.2.2.2.2 va_S.rf (hl.1.trans hml.symm) dX1_setRights_18 dX1_setRights_21 dX1_setRights_22 dX1_setRights_24 dX1_setRights_27 (fun x h => (hnt x h).elim) (Nat.le_of_ble_eq_true rfl) (Nat.le_of_ble_eq_true rfl) (Nat.le_of_ble_eq_true rfl) (Nat.le_of_ble_eq_true rfl) hlocks (fun t9 _ hz9 hk9 => ⟨Or.inr (Or.inl ⟨rfl, j, hj, rfl, c15⟩), hz9, hk9⟩) (fun _ h => nomatch h) (Nat.le_of_ble_eq_true rfl) (Nat.le_of_ble_eq_true rfl)
