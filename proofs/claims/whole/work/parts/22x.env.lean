/-! the law's start: the classes, the two objects, the long's row -/
theorem x_intArr {s : State} {args : Array Value} {ty : FieldType} (hty : ∀ C, ty ≠ .object C) (h : (Cond.arrayClass ty).before args s = true) : ∃ cA : ClassId, ArrOfT s cA ty ∧ va_RA s cA ty := by
  obtain ⟨cA, kA, comp, h1, h2, h3⟩ := Cond.arrayClass_spec (show (Cond.arrayClass ty).holds args s none s [] = true from h)
  refine ⟨cA, fun n z => ⟨fun k h => (by cases h), kA, h2, comp, h3⟩, ?_⟩
  cases ty with
  | object C => exact absurd rfl (hty C)
  | _ => exact h1
theorem x_objArr {s : State} {args : Array Value} {C : String} (h : (Cond.arrayOver (.object C)).before args s = true) : ∃ cA : ClassId, ArrOfT s cA (.object C) ∧ va_RA s cA (.object C) := by
  obtain ⟨comp, cA, kA, h1, h2, h3, h4, h5⟩ := Cond.arrayOver_spec (show (Cond.arrayOver (.object C)).holds args s none s [] = true from h)
  exact ⟨cA, fun n z => ⟨fun k h => (by cases h), kA, h3, comp, h4⟩, kA, comp, h3, h4, h1, h5⟩
theorem x_K {s : State} {args : Array Value} (hts : ∀ w ∈ wsL_law, w.before args s = true) (hO : (Cond.arrayOver (.object "BackMirror$Thing")).before args s = true) : ∃ (D : va_G) (cI cT cJ : ClassId), va_K D vwCl (TY cI cT cJ) s := by
  obtain ⟨c0, i0, k0⟩ := u_known (C := RX0) (T := TX0) (N := 3) hts inlX0 (hts (.instantiable RX0 3) (by decide +kernel))
  obtain ⟨c1, i1, k1⟩ := u_known (C := RX1) (T := TX1) (N := 6) hts inlX1 (hts (.instantiable RX1 6) (by decide +kernel))
  obtain ⟨c2, i2, k2⟩ := u_known (C := RX2) (T := TX2) (N := 9) hts inlX2 (hts (.instantiable RX2 9) (by decide +kernel))
  obtain ⟨cI, hI⟩ := x_intArr (ty := .int) (fun C h => by cases h) (hts (.arrayClass .int) (by decide +kernel))
  obtain ⟨cJ, hJ⟩ := x_intArr (ty := .long) (fun C h => by cases h) (hts (.arrayClass .long) (by decide +kernel))
  obtain ⟨cT, hT⟩ := x_objArr hO
  refine ⟨(fun q => match q with | 0 => c0 | 1 => c1 | _ => c2, fun q => match q with | 0 => i0 | 1 => i1 | _ => i2), cI, cT, cJ, fun q r hq => ?_, fun q r hq => ?_⟩
  · match q, hq with
    | 0, hq => cases hq; exact k0
    | 1, hq => cases hq; exact k1
    | 2, hq => cases hq; exact k2
    | q + 3, hq => simp at hq
  · match q, hq with
    | 0, hq => cases hq; exact hI
    | 1, hq => cases hq; exact hT
    | 2, hq => cases hq; exact hJ
    | q + 3, hq => simp at hq
theorem x_str {s : State} {args : Array Value} {own tx : String} {k cur : Nat} (hcur : s.vm.findClass own = some cur) (h : (Cond.stringRef own k tx).before args s = true) : ∃ sa, vk_R own k tx sa s := by
  obtain ⟨-, -, -, a, -, -, -, -, -, h2⟩ := Cond.stringRef_spec hcur (show (Cond.stringRef own k tx).holds args s none s [] = true from h)
  have h3 : (Term.string own k).eval args s none [] s = some (.ref a) := h2
  exact ⟨a, vk_R.of h h3⟩
set_option maxRecDepth 100000 in
theorem x_strW : ∀ q ∈ XSTR, Cond.stringRef RX1 q.1 q.2 ∈ lw_tbl := by decide +kernel
set_option maxRecDepth 100000 in
theorem x_casW : ∀ X ∈ [nIO, nIS, nIA], Cond.castable X X ∈ lw_tbl := by decide +kernel
set_option maxRecDepth 100000 in
theorem x_decW : ∀ Y ∈ nUP2, Cond.declares (Bundle.initS Y) ∈ lw_tbl := by decide +kernel
set_option maxRecDepth 100000 in
theorem x_nstW : Cond.methodLinkNest RX0 20 yX1_isSameRow RX1 ∈ lw_tbl := by decide +kernel
set_option maxRecDepth 100000 in
theorem x_ovrW : Cond.arrayOver (.object "BackMirror$Thing") ∈ lw_tbl := by decide +kernel
set_option maxRecDepth 100000 in
theorem x_layW : Cond.laysStatic Bundle.tN "UNASSIGNED_STACK" Bundle.steD ∈ lw_tbl ∧ Cond.laysStatic Bundle.tN "SUPPRESSED_SENTINEL" Bundle.listD ∈ lw_tbl ∧ Cond.initialized Bundle.tN ∈ lw_tbl := by decide +kernel
set_option maxRecDepth 100000 in
theorem x_refW : Cond.isRef (.static Bundle.tN "UNASSIGNED_STACK" Bundle.steD) ∈ flatC (Jvm.Cond.and given_1 narrow_1) ∧ Cond.isRef (.static Bundle.tN "SUPPRESSED_SENTINEL" Bundle.listD) ∈ flatC (Jvm.Cond.and given_1 narrow_1) := by decide +kernel
set_option maxRecDepth 100000 in
theorem x_ncW : Cond.not (.castable nIS nIO) ∈ flatC (Jvm.Cond.and given_1 narrow_1) ∧ Cond.not (.castable nIA nIO) ∈ flatC (Jvm.Cond.and given_1 narrow_1) ∧ Cond.not (.castable nIA nIS) ∈ flatC (Jvm.Cond.and given_1 narrow_1) ∧ Cond.not (.castable nIS nIA) ∈ flatC (Jvm.Cond.and given_1 narrow_1) := by decide +kernel
