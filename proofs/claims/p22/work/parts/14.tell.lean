/-! what the law's told tells of a place, and that it tells places apart -/
def num (v : Tv) (i : Nat) : Int32 := if i < v.2.2.1 then v.2.2.2 i else -1
def tlL (v : Tv) : Nat → Int64
  | 0 => v.1.toInt64 + 3 * v.2.1.toInt64
  | i + 1 => 12 * tlL v i + (num v i).toInt64 + 1
/-- what a place may hold -/
def WFT (v : Tv) : Prop := ∃ k r : Nat, v.1 = nI k ∧ k ≤ 2 ∧ v.2.1 = nI r ∧ r ≤ 7 ∧ v.2.2.1 ≤ 12 ∧ (∀ j, j < v.2.2.1 → ∃ y : Nat, y ≤ 9 ∧ v.2.2.2 j = nI y) ∧ (k = 0 → r = 0 ∧ v.2.2.1 = 0) ∧ (k = 2 → v.2.2.1 = 1)
def WFG (G : Nat → Tv) : Prop := ∀ i, i < 252 → WFT (G i)
def dg (v : Tv) (i : Nat) : Nat := if i < v.2.2.1 then (v.2.2.2 i).toNatClampNeg + 1 else 0
def tlN (v : Tv) : Nat → Nat
  | 0 => v.1.toNatClampNeg + 3 * v.2.1.toNatClampNeg
  | i + 1 => 12 * tlN v i + dg v i
theorem dg_lt {v : Tv} (h : WFT v) (i : Nat) : dg v i < 12 := by
  obtain ⟨k, r, h1, h2, h3, h4, h5, h6, h7, h8⟩ := h
  unfold dg
  split
  · rename_i c
    obtain ⟨y, hy, e⟩ := h6 i c
    rw [e, nI_clamp (by omega)]; omega
  · omega
theorem tlL_step {v : Tv} (h : WFT v) (i a : Nat) : 12 * lN a + (num v i).toInt64 + 1 = lN (12 * a + dg v i) := by
  obtain ⟨k, r, h1, h2, h3, h4, h5, h6, h7, h8⟩ := h
  have e12 : (12 : Int64) = lN 12 := rfl
  have e1 : (1 : Int64) = lN 1 := rfl
  unfold num dg
  split
  · rename_i c
    obtain ⟨y, hy, e⟩ := h6 i c
    rw [e, nI_clamp (by omega), nI_l (by omega), e12, e1, lN_mul, lN_add, lN_add, Nat.add_assoc]
  · rw [e12, lN_mul, show ((-1 : Int32)).toInt64 = (-1 : Int64) from by decide, Int64.add_assoc, show (-1 : Int64) + 1 = 0 from by decide, Int64.add_zero, Nat.add_zero]
theorem tlL_N {v : Tv} (h : WFT v) : ∀ i, tlL v i = lN (tlN v i) := by
  intro i
  induction i with
  | zero =>
    obtain ⟨k, r, h1, h2, h3, h4, h5, h6, h7, h8⟩ := h
    have e3 : (3 : Int64) = lN 3 := rfl
    simp only [tlL, tlN]
    rw [h1, h3, nI_clamp (by omega), nI_clamp (by omega), nI_l (by omega), nI_l (by omega), e3, lN_mul, lN_add]
  | succ i ih =>
    simp only [tlL, tlN]
    rw [ih]
    exact tlL_step h i _
theorem tlN_0 {v : Tv} (h : WFT v) : tlN v 0 < 24 := by
  obtain ⟨k, r, h1, h2, h3, h4, h5, h6, h7, h8⟩ := h
  simp only [tlN]
  rw [h1, h3, nI_clamp (by omega), nI_clamp (by omega)]
  omega
theorem tlN_lt {v : Tv} (h : WFT v) : ∀ i, tlN v i < 24 * 12 ^ i := by
  intro i
  induction i with
  | zero => have := tlN_0 h; omega
  | succ i ih =>
    have := dg_lt h i
    simp only [tlN]
    rw [Nat.pow_succ]
    omega
theorem tlN_inj {a b : Tv} (ha : WFT a) (hb : WFT b) : ∀ n, tlN a n = tlN b n → tlN a 0 = tlN b 0 ∧ ∀ i, i < n → dg a i = dg b i := by
  intro n
  induction n with
  | zero => intro h; exact ⟨h, fun i hi => absurd hi (Nat.not_lt_zero i)⟩
  | succ n ih =>
    intro h
    simp only [tlN] at h
    have h1 := dg_lt ha n
    have h2 := dg_lt hb n
    have h3 : tlN a n = tlN b n := by omega
    obtain ⟨h4, h5⟩ := ih h3
    refine ⟨h4, fun i hi => ?_⟩
    by_cases c : i = n
    · subst c; omega
    · exact h5 i (by omega)
theorem sameB_iff {a b : Tv} : sameB a b = true ↔ a.1 = b.1 ∧ a.2.1 = b.2.1 ∧ a.2.2.1 = b.2.2.1 ∧ ∀ j, j < a.2.2.1 → a.2.2.2 j = b.2.2.2 j := by
  unfold sameB rowB
  rw [Bool.and_eq_true, Bool.and_eq_true, decide_eq_true_eq, decide_eq_true_eq, decide_eq_true_eq]
  exact ⟨fun h => ⟨h.1.1, h.1.2, h.2⟩, fun h => ⟨⟨h.1, h.2.1⟩, h.2.2⟩⟩
theorem num_same {a b : Tv} (h : sameB a b = true) (i : Nat) : num a i = num b i := by
  obtain ⟨-, -, h3, h4⟩ := sameB_iff.mp h
  unfold num
  rw [← h3]
  split
  · rename_i c; exact h4 i c
  · rfl
theorem tlL_same {a b : Tv} (h : sameB a b = true) : ∀ n, tlL a n = tlL b n := by
  intro n
  induction n with
  | zero => obtain ⟨h1, h2, -⟩ := sameB_iff.mp h; simp only [tlL]; rw [h1, h2]
  | succ n ih => simp only [tlL]; rw [ih, num_same h]
theorem tl_same {a b : Tv} (ha : WFT a) (hb : WFT b) : tlL a 12 = tlL b 12 ↔ sameB a b = true := by
  refine ⟨fun h => ?_, fun h => tlL_same h 12⟩
  rw [tlL_N ha, tlL_N hb, pk_lEQ (Nat.lt_trans (tlN_lt ha 12) (by decide)) (Nat.lt_trans (tlN_lt hb 12) (by decide))] at h
  obtain ⟨h0, hd⟩ := tlN_inj ha hb 12 h
  obtain ⟨k1, r1, a1, a2, a3, a4, a5, a6, a7, a8⟩ := ha
  obtain ⟨k2, r2, b1, b2, b3, b4, b5, b6, b7, b8⟩ := hb
  simp only [tlN] at h0
  rw [a1, a3, b1, b3, nI_clamp (by omega), nI_clamp (by omega), nI_clamp (by omega), nI_clamp (by omega)] at h0
  have hk : k1 = k2 := by omega
  have hr : r1 = r2 := by omega
  have hn : a.2.2.1 = b.2.2.1 := by
    rcases Nat.lt_trichotomy a.2.2.1 b.2.2.1 with c | c | c
    · have := hd a.2.2.1 (by omega)
      unfold dg at this
      rw [if_neg (by omega), if_pos c] at this
      omega
    · exact c
    · have := hd b.2.2.1 (by omega)
      unfold dg at this
      rw [if_pos c, if_neg (by omega)] at this
      omega
  refine sameB_iff.mpr ⟨by rw [a1, b1, hk], by rw [a3, b3, hr], hn, fun j hj => ?_⟩
  have := hd j (by omega)
  unfold dg at this
  rw [if_pos hj, if_pos (by omega)] at this
  obtain ⟨y1, hy1, e1⟩ := a6 j hj
  obtain ⟨y2, hy2, e2⟩ := b6 j (by omega)
  rw [e1, e2, nI_clamp (by omega), nI_clamp (by omega)] at this
  rw [e1, e2]
  have : y1 = y2 := by omega
  rw [this]
theorem sameB_rf (a : Tv) : sameB a a = true := sameB_iff.mpr ⟨rfl, rfl, rfl, fun _ _ => rfl⟩
theorem sameB_sy {a b : Tv} (h : sameB a b = true) : sameB b a = true := by
  obtain ⟨h1, h2, h3, h4⟩ := sameB_iff.mp h
  exact sameB_iff.mpr ⟨h1.symm, h2.symm, h3.symm, fun j hj => (h4 j (by omega)).symm⟩
theorem num_neg {v : Tv} (h : WFT v) {i : Nat} : num v i < 0 ↔ ¬ i < v.2.2.1 := by
  obtain ⟨k, r, h1, h2, h3, h4, h5, h6, h7, h8⟩ := h
  unfold num
  split
  · rename_i c
    obtain ⟨y, hy, e⟩ := h6 i c
    rw [e]
    exact ⟨fun h => (xlt0 (by omega) h).elim, fun h => absurd c h⟩
  · rename_i c; exact ⟨fun _ => c, fun _ => by decide⟩
theorem num_in {v : Tv} {i : Nat} (h : i < v.2.2.1) : num v i = v.2.2.2 i := if_pos h
theorem num_out {v : Tv} {i : Nat} (h : ¬ i < v.2.2.1) : num v i = -1 := if_neg h
/-! places that edits make -/
theorem wt_empty : WFT (nI 0, nI 0, 0, fun _ => 0) := ⟨0, 0, rfl, by omega, rfl, by omega, by dsimp only; omega, fun j hj => absurd hj (Nat.not_lt_zero j), fun _ => ⟨rfl, rfl⟩, fun h => by omega⟩
theorem wt_file : WFT (nI 1, nI 0, 0, fun _ => 0) := ⟨1, 0, rfl, by omega, rfl, by omega, by dsimp only; omega, fun j hj => absurd hj (Nat.not_lt_zero j), fun h => by omega, fun h => by omega⟩
theorem wt_link {t : Nat} (ht : t < 6) : WFT (nI 2, nI 0, 1, fun _ => nI t) := ⟨2, 0, rfl, by omega, rfl, by omega, by dsimp only; omega, fun j hj => ⟨t, by omega, rfl⟩, fun h => by omega, fun _ => rfl⟩
theorem wt_k {v : Tv} (h : WFT v) {j : Nat} (hj : j ≤ 2) (e : v.1 = nI j) {k : Nat} (hk : k ≤ 2) (e2 : v.1 = nI k) : k = j := (nI_eq (by omega) (by omega)).mp (e2.symm.trans e)
theorem wt_put {v : Tv} (h : WFT v) (h1 : v.1 = nI 1) (h2 : v.2.2.1 < 12) {sp y : Nat} (hs : sp ≤ v.2.2.1) (hy : y ≤ 9) : WFT (nI 1, v.2.1, v.2.2.1 + 1, insR v.2.2.2 sp (nI y)) := by
  obtain ⟨k, r, a1, a2, a3, a4, a5, a6, a7, a8⟩ := h
  refine ⟨1, r, rfl, by omega, a3, a4, by dsimp only; omega, fun j hj => ?_, fun h => by omega, fun h => by omega⟩
  dsimp only at hj ⊢
  unfold insR
  split
  · exact a6 j (by omega)
  · split
    · exact ⟨y, hy, rfl⟩
    · exact a6 (j - 1) (by omega)
theorem wt_take {v : Tv} (h : WFT v) (h1 : v.1 = nI 1) {sp : Nat} (hs : sp < v.2.2.1) : WFT (nI 1, v.2.1, v.2.2.1 - 1, delR v.2.2.2 sp) := by
  obtain ⟨k, r, a1, a2, a3, a4, a5, a6, a7, a8⟩ := h
  refine ⟨1, r, rfl, by omega, a3, a4, by dsimp only; omega, fun j hj => ?_, fun h => by omega, fun h => by omega⟩
  dsimp only at hj ⊢
  unfold delR
  split
  · exact a6 j (by omega)
  · exact a6 (j + 1) (by omega)
theorem wt_rights {v : Tv} (h : WFT v) (h0 : ¬ v.1 = nI 0) {y : Nat} (hy : y ≤ 7) : WFT (v.1, nI y, v.2.2.1, v.2.2.2) := by
  obtain ⟨k, r, a1, a2, a3, a4, a5, a6, a7, a8⟩ := h
  exact ⟨k, y, a1, a2, rfl, hy, a5, a6, fun h => absurd (by rw [a1, h]) h0, a8⟩
theorem ins_del {v : Tv} (h1 : v.1 = nI 1) {sp : Nat} {y : Int32} (hs : sp < v.2.2.1) : sameB (nI 1, v.2.1, v.2.2.1 + 1 - 1, delR (insR v.2.2.2 sp y) sp) v = true := by
  refine sameB_iff.mpr ⟨h1.symm, rfl, by dsimp only; omega, fun j hj => ?_⟩
  dsimp only at hj ⊢
  unfold delR insR
  split
  · rfl
  · rw [if_neg (by omega), if_neg (by omega), Nat.add_sub_cancel]
theorem va_up_up {α : Type} {f : Nat → α} {k : Nat} {v w : α} : va_up (va_up f k v) k w = va_up f k w := by
  funext i
  by_cases c : i = k
  · subst c; rw [va_up_s, va_up_s]
  · rw [va_up_n c, va_up_n c, va_up_n c]
theorem va_up_id {α : Type} {f : Nat → α} {k : Nat} : va_up f k (f k) = f := by
  funext i
  by_cases c : i = k
  · subst c; rw [va_up_s]
  · rw [va_up_n c]
theorem WFG.up {G : Nat → Tv} (h : WFG G) {i : Nat} {v : Tv} (hv : WFT v) : WFG (va_up G i v) := by
  intro j hj
  by_cases c : j = i
  · subst c; rw [va_up_s]; exact hv
  · rw [va_up_n c]; exact h j hj
theorem WFG.g0 : WFG G0 := fun i _ => wt_empty
theorem WFG.cpD {G : Nat → Tv} (h : WFG G) {d : Nat} : WFG (cpD G d 6) := by
  intro j hj
  show WFT (if 6 * d ≤ j ∧ j < 6 * d + 6 then G (246 + (j - 6 * d)) else G j)
  split
  · exact h _ (by omega)
  · exact h _ hj
theorem WFG.cpL {G : Nat → Tv} (h : WFG G) {d : Nat} (hd : d ≤ 40) : WFG (cpL G d 6) := by
  intro j hj
  show WFT (if 246 ≤ j ∧ j < 246 + 6 then G (6 * d + (j - 246)) else G j)
  split
  · exact h _ (by omega)
  · exact h _ hj
/-! a run that is whole -/
theorem dif_same {a b : Tv} (h : sameB a b = true) : dif a b = 0 := if_pos h
theorem dfN_0 {G : Nat → Tv} {d : Nat} : ∀ k, (∀ p, p < k → sameB (G (6 * d + p)) (G (246 + p)) = true) → dfN G d k = 0 := by
  intro k
  induction k with
  | zero => intro _; rfl
  | succ k ih =>
    intro h
    simp only [dfN]
    rw [ih (fun p hp => h p (by omega)), h k (by omega)]; rfl
theorem dfN_all {G : Nat → Tv} {d : Nat} : ∀ k, dfN G d k = 0 → ∀ p, p < k → sameB (G (6 * d + p)) (G (246 + p)) = true := by
  intro k
  induction k with
  | zero => intro _ p hp; exact absurd hp (Nat.not_lt_zero p)
  | succ k ih =>
    intro h p hp
    simp only [dfN] at h
    by_cases c : p = k
    · subst c
      have h2 : bN (!sameB (G (6 * d + p)) (G (246 + p))) = 0 := by omega
      cases e : sameB (G (6 * d + p)) (G (246 + p))
      · rw [e] at h2; exact absurd h2 (by decide)
      · rfl
    · exact ih (by omega) p (by omega)
theorem cpD_at {G : Nat → Tv} {d p : Nat} (hp : p < 6) : cpD G d 6 (6 * d + p) = G (246 + p) := by
  show (if 6 * d ≤ 6 * d + p ∧ 6 * d + p < 6 * d + 6 then G (246 + (6 * d + p - 6 * d)) else G (6 * d + p)) = _
  rw [if_pos (by omega), show 6 * d + p - 6 * d = p by omega]
theorem cpD_other {G : Nat → Tv} {d i : Nat} (h : i < 6 * d ∨ 6 * d + 6 ≤ i) : cpD G d 6 i = G i := if_neg (by omega)
theorem cpL_live {G : Nat → Tv} {d p : Nat} (hp : p < 6) : cpL G d 6 (246 + p) = G (6 * d + p) := by
  show (if 246 ≤ 246 + p ∧ 246 + p < 246 + 6 then G (6 * d + (246 + p - 246)) else G (246 + p)) = _
  rw [if_pos (by omega), show 246 + p - 246 = p by omega]
theorem run_needs {G : Nat → Tv} {d : Nat} (hd : d ≤ 40) : dfN (cpD G d 6) d 6 = 0 := dfN_0 6 fun p hp => by
  rw [cpD_at hp, cpD_live hd (Nat.le_refl 6) (by omega)]; exact sameB_rf _
theorem szN_add {G : Nat → Tv} {k0 : Nat} : ∀ n m, szN G k0 (n + m) = szN G k0 n + szN G (k0 + n) m := by
  intro n m
  induction m with
  | zero => rfl
  | succ m ih =>
    show szN G k0 (n + m) + dif (G (k0 + (n + m))) (G (k0 + (n + m) + 6)) = szN G k0 n + (szN G (k0 + n) m + dif (G (k0 + n + m)) (G (k0 + n + m + 6)))
    rw [ih, show k0 + (n + m) = k0 + n + m by omega, Nat.add_assoc]
theorem szN_congr {G G' : Nat → Tv} {k0 : Nat} : ∀ n, (∀ i, k0 ≤ i → i < k0 + n + 6 → G i = G' i) → szN G k0 n = szN G' k0 n := by
  intro n
  induction n with
  | zero => intro _; rfl
  | succ n ih =>
    intro h
    simp only [szN]
    rw [ih (fun i h1 h2 => h i h1 (by omega)), h (k0 + n) (by omega) (by omega), h (k0 + n + 6) (by omega) (by omega)]
theorem szN_0 {G : Nat → Tv} {k0 : Nat} : ∀ n, (∀ j, j < n → sameB (G (k0 + j)) (G (k0 + j + 6)) = true) → szN G k0 n = 0 := by
  intro n
  induction n with
  | zero => intro _; rfl
  | succ n ih =>
    intro h
    simp only [szN]
    rw [ih (fun j hj => h j (by omega)), dif_same (h n (by omega))]
/-- the sizes behind a whole run: those before, and the new differences -/
theorem run_size {G : Nat → Tv} {o ld : Nat} (ho : o ≤ ld) : ∃ z, szN (cpD G (ld + 1) 6) (6 * o) (6 * (ld + 1 - o)) = szN G (6 * o) (6 * (ld - o)) + z ∧ (dfN G ld 6 = 0 → z = 0) := by
  refine ⟨szN (cpD G (ld + 1) 6) (6 * o + 6 * (ld - o)) 6, ?_, fun h => szN_0 6 fun j hj => ?_⟩
  · rw [show 6 * (ld + 1 - o) = 6 * (ld - o) + 6 by omega, szN_add, szN_congr (G := G) (G' := cpD G (ld + 1) 6) (k0 := 6 * o) (6 * (ld - o)) (fun i h1 h2 => (cpD_other (Or.inl (by omega))).symm)]
  · rw [show 6 * o + 6 * (ld - o) + j + 6 = 6 * (ld + 1) + j by omega, cpD_at hj, show 6 * o + 6 * (ld - o) + j = 6 * ld + j by omega, cpD_other (Or.inl (by omega))]
    exact dfN_all 6 h j hj
theorem szN_le {G : Nat → Tv} (hG : ∀ i, i < 252 → (G i).2.2.1 ≤ 12) {k0 : Nat} : ∀ n, k0 + n ≤ 252 → szN G k0 n ≤ 26 * n := by
  intro n
  induction n with
  | zero => intro _; exact Nat.le_refl 0
  | succ n ih =>
    intro h
    have h1 := ih (by omega)
    have h2 := hG (k0 + n) (by omega)
    have h3 := dif_le (a := G (k0 + n)) (b := G (k0 + n + 6))
    simp only [szN]
    omega
/-! what a difference takes, as the law counts it -/
theorem lng_past {f g : Nat → Int32} {n1 n2 s : Nat} : ∀ t, n2 ≤ t → lng f g n1 n2 s t = lng f g n1 n2 s n2 := by
  intro t
  induction t with
  | zero => intro h; rw [show n2 = 0 by omega]
  | succ t ih =>
    intro h
    by_cases c : n2 = t + 1
    · rw [c]
    · have e : shL f g n1 n2 s t = 0 := shl_stop _ _ (by omega)
      simp only [lng]
      rw [ih (by omega), e, if_neg (by omega)]
theorem num_eq {a b : Tv} (ha : WFT a) {i j : Nat} (hi : i < a.2.2.1) : num a i = num b j ↔ j < b.2.2.1 ∧ a.2.2.2 i = b.2.2.2 j := by
  rw [num_in hi]
  unfold num
  split
  · rename_i c; exact ⟨fun h => ⟨c, h⟩, fun h => h.2⟩
  · rename_i c
    obtain ⟨k, r, h1, h2, h3, h4, h5, h6, h7, h8⟩ := ha
    obtain ⟨y, hy, e⟩ := h6 i hi
    refine ⟨fun h => ?_, fun h => absurd h.1 c⟩
    rw [e] at h
    exact absurd h (nI_m1 (by omega))
