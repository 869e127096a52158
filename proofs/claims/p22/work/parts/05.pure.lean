/-! the numbers behind the class and the reference: what is alike, what a difference takes -/
/-- what is at a place: kind, rights, how many numbers, the numbers -/
abbrev Tv : Type := Int32 × Int32 × Nat × (Nat → Int32)
/-- how long a row of numbers from s and t on is shared, k steps at most, i found -/
def shl (f g : Nat → Int32) (n1 n2 s t : Nat) : Nat → Nat → Nat
  | 0, i => i
  | k + 1, i => if s + i < n1 ∧ t + i < n2 ∧ f (s + i) = g (t + i) then shl f g n1 n2 s t k (i + 1) else i
def shL (f g : Nat → Int32) (n1 n2 s t : Nat) : Nat := shl f g n1 n2 s t n1 0
def lng (f g : Nat → Int32) (n1 n2 s : Nat) : Nat → Nat
  | 0 => 0
  | t + 1 => if lng f g n1 n2 s t < shL f g n1 n2 s t then shL f g n1 n2 s t else lng f g n1 n2 s t
def tak (f g : Nat → Int32) (n1 n2 : Nat) : Nat → Nat → Nat
  | 0, _ => 0
  | k + 1, s => if s < n1 then (if lng f g n1 n2 s n2 < 3 then 1 + tak f g n1 n2 k (s + 1) else 2 + tak f g n1 n2 k (s + lng f g n1 n2 s n2)) else 0
def rowB (n1 n2 : Nat) (f g : Nat → Int32) : Bool := decide (n1 = n2 ∧ ∀ j, j < n1 → f j = g j)
def sameB (a b : Tv) : Bool := decide (a.1 = b.1) && decide (a.2.1 = b.2.1) && rowB a.2.2.1 b.2.2.1 a.2.2.2 b.2.2.2
/-- at how many of the first k places a date differs from the live tree -/
def dfN (G : Nat → Tv) (d : Nat) : Nat → Nat
  | 0 => 0
  | k + 1 => dfN G d k + bN (!sameB (G (6 * d + k)) (G (246 + k)))
def dif (a b : Tv) : Nat := if sameB a b = true then 0 else (if a.1 = nI 1 ∧ b.1 = nI 1 then tak a.2.2.2 b.2.2.2 a.2.2.1 b.2.2.1 a.2.2.1 0 else if a.1 = nI 1 then a.2.2.1 + 1 else 1) + (if a.2.1 = b.2.1 then 0 else 1)
/-- the differences of n places from place k0 on, by the flat numbers of dates and places -/
def szN (G : Nat → Tv) (k0 : Nat) : Nat → Nat
  | 0 => 0
  | n + 1 => szN G k0 n + dif (G (k0 + n)) (G (k0 + n + 6))
theorem shl_stop {f g : Nat → Int32} {n1 n2 s t : Nat} (k i : Nat) (h : ¬ (s + i < n1 ∧ t + i < n2 ∧ f (s + i) = g (t + i))) : shl f g n1 n2 s t k i = i := by
  cases k with
  | zero => rfl
  | succ k => simp only [shl, if_neg h]
theorem shl_step {f g : Nat → Int32} {n1 n2 s t : Nat} (k i : Nat) (h : s + i < n1 ∧ t + i < n2 ∧ f (s + i) = g (t + i)) : shl f g n1 n2 s t (k + 1) i = shl f g n1 n2 s t k (i + 1) := by simp only [shl, if_pos h]
theorem shl_le {f g : Nat → Int32} {n1 n2 s t : Nat} : ∀ k i, s + i ≤ n1 → s + shl f g n1 n2 s t k i ≤ n1 := by
  intro k
  induction k with
  | zero => intro i h; exact h
  | succ k ih =>
    intro i h
    simp only [shl]
    split
    · rename_i c; exact ih (i + 1) (by omega)
    · exact h
theorem shL_le {f g : Nat → Int32} {n1 n2 s t : Nat} (h : s ≤ n1) : s + shL f g n1 n2 s t ≤ n1 := shl_le n1 0 h
theorem lng_le {f g : Nat → Int32} {n1 n2 s : Nat} (h : s ≤ n1) : ∀ t, s + lng f g n1 n2 s t ≤ n1 := by
  intro t
  induction t with
  | zero => exact h
  | succ t ih =>
    simp only [lng]
    split
    · exact shL_le h
    · exact ih
theorem tak_le {f g : Nat → Int32} {n1 n2 : Nat} : ∀ k s, tak f g n1 n2 k s ≤ 2 * k := by
  intro k
  induction k with
  | zero => intro s; exact Nat.le_refl _
  | succ k ih =>
    intro s
    simp only [tak]
    split
    · split
      · have := ih (s + 1); omega
      · have := ih (s + lng f g n1 n2 s n2); omega
    · omega
theorem shl_congr {f g f' g' : Nat → Int32} {n1 n2 s t : Nat} (hf : ∀ j, j < n1 → f j = f' j) (hg : ∀ j, j < n2 → g j = g' j) : ∀ k i, shl f g n1 n2 s t k i = shl f' g' n1 n2 s t k i := by
  intro k
  induction k with
  | zero => intro i; rfl
  | succ k ih =>
    intro i
    by_cases c : s + i < n1 ∧ t + i < n2 ∧ f (s + i) = g (t + i)
    · rw [shl_step k i c, shl_step k i ⟨c.1, c.2.1, by rw [← hf _ c.1, ← hg _ c.2.1]; exact c.2.2⟩]; exact ih _
    · rw [shl_stop _ i c, shl_stop _ i (fun h => c ⟨h.1, h.2.1, by rw [hf _ h.1, hg _ h.2.1]; exact h.2.2⟩)]
theorem lng_congr {f g f' g' : Nat → Int32} {n1 n2 s : Nat} (hf : ∀ j, j < n1 → f j = f' j) (hg : ∀ j, j < n2 → g j = g' j) : ∀ t, lng f g n1 n2 s t = lng f' g' n1 n2 s t := by
  intro t
  induction t with
  | zero => rfl
  | succ t ih =>
    have e : shL f g n1 n2 s t = shL f' g' n1 n2 s t := shl_congr hf hg _ _
    simp only [lng]
    rw [ih, e]
theorem tak_congr {f g f' g' : Nat → Int32} {n1 n2 : Nat} (hf : ∀ j, j < n1 → f j = f' j) (hg : ∀ j, j < n2 → g j = g' j) : ∀ k s, tak f g n1 n2 k s = tak f' g' n1 n2 k s := by
  intro k
  induction k with
  | zero => intro s; rfl
  | succ k ih => intro s; simp only [tak, ih, lng_congr hf hg]
theorem rowB_congr {f g f' g' : Nat → Int32} {n1 n2 : Nat} (hf : ∀ j, j < n1 → f j = f' j) (hg : ∀ j, j < n2 → g j = g' j) : rowB n1 n2 f g = rowB n1 n2 f' g' := by
  unfold rowB
  refine decide_eq_decide.mpr ⟨fun h => ⟨h.1, fun j hj => ?_⟩, fun h => ⟨h.1, fun j hj => ?_⟩⟩
  · rw [← hf j hj, ← hg j (by omega)]; exact h.2 j hj
  · rw [hf j hj, hg j (by omega)]; exact h.2 j hj
/-- all of a row is shared just when the rows are the same -/
theorem shl_all {f g : Nat → Int32} {n : Nat} : ∀ k i, n ≤ i + k → i ≤ n → (shl f g n n 0 0 k i = n ↔ ∀ j, i ≤ j → j < n → f j = g j) := by
  intro k
  induction k with
  | zero => intro i h1 h2; simp only [shl]; exact ⟨fun _ j h3 h4 => absurd h4 (by omega), fun _ => by omega⟩
  | succ k ih =>
    intro i h1 h2
    by_cases c : i < n ∧ f i = g i
    · rw [shl_step k i (by simp only [Nat.zero_add]; exact ⟨c.1, c.1, c.2⟩), ih (i + 1) (by omega) c.1]
      refine ⟨fun h j h3 h4 => ?_, fun h j h3 h4 => h j (by omega) h4⟩
      by_cases e : j = i
      · rw [e]; exact c.2
      · exact h j (by omega) h4
    · rw [shl_stop _ i (by simp only [Nat.zero_add]; exact fun h => c ⟨h.1, h.2.2⟩)]
      refine ⟨fun h j h3 h4 => by omega, fun h => ?_⟩
      by_cases e : i < n
      · exact absurd ⟨e, h i (Nat.le_refl _) e⟩ c
      · omega
theorem shL_all {f g : Nat → Int32} {n : Nat} : shL f g n n 0 0 = n ↔ ∀ j, j < n → f j = g j := (shl_all n 0 (by omega) (Nat.zero_le _)).trans ⟨fun h j hj => h j (Nat.zero_le _) hj, fun h j _ hj => h j hj⟩
theorem dfN_le {G : Nat → Tv} {d : Nat} : ∀ k, dfN G d k ≤ k := by
  intro k
  induction k with
  | zero => exact Nat.le_refl _
  | succ k ih => simp only [dfN]; have := bN_le (!sameB (G (6 * d + k)) (G (246 + k))); omega
theorem dif_le {a b : Tv} : dif a b ≤ 2 * a.2.2.1 + 2 := by
  unfold dif
  have := tak_le (f := a.2.2.2) (g := b.2.2.2) (n1 := a.2.2.1) (n2 := b.2.2.1) a.2.2.1 0
  split
  · omega
  · split <;> split <;> (try split) <;> omega
