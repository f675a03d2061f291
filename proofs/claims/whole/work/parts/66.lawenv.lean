/-! ===== what the law's start gives: the classes and array classes, the words beside the tables' ===== -/
theorem l_arr {args : Array Value} {s : State} {ty : FieldType} (h : (Cond.arrayClass ty).before args s = true) : ∃ c, ArrOfT s c ty ∧ s.vm.findClass ("[" ++ ty.toString) = some c := by
  obtain ⟨c, k, comp, h1, h2, h3⟩ := Cond.arrayClass_spec h
  exact ⟨c, fun n z => ⟨fun k h => (by cases h), k, h2, comp, h3⟩, h1⟩
theorem l_arrO {args : Array Value} {s : State} {C : String} (h : (Cond.arrayOver (.object C)).before args s = true) : ∃ c, ArrOfT s c (.object C) ∧ va_RA s c (.object C) := by
  obtain ⟨comp, c, k, h1, h0, h2, h3, h4⟩ := Cond.arrayOver_spec h
  exact ⟨c, fun n z => ⟨fun k h => (by cases h), k, h2, comp, h3⟩, k, comp, h2, h3, h1, h4⟩
theorem l_str {args : Array Value} {s : State} {own tx : String} {k : Nat} (h1 : (Cond.stringRef own k tx).before args s = true) (h2 : (Cond.exactly (.string own k) "java/lang/String").before args s = true) : ∃ a, vk_R own k tx a s := by
  obtain ⟨a, c, cell, kk, hv, hh⟩ := Cond.exactly_spec h2
  exact ⟨a, vk_R.of h1 hv⟩
set_option maxRecDepth 20000 in
theorem l_env {s : State} {b : Nat} (hts : ∀ w ∈ lw_tbl, w.before #[Value.ref b] s = true) (hgv : (Jvm.Cond.and given_1 narrow_1).before #[Value.ref b] s = true) : eL (fun q : Nat => s.heap.size ≤ q) s ∧ eI s := by
  have hs := flat_of_before _ hgv
  have hA : ∀ a : Nat, a < s.heap.size → ¬ (fun q : Nat => s.heap.size ≤ q) a := fun a h => Nat.not_le.mpr h
  refine ⟨⟨⟨va_Nw.of rfl (hts (.methodLinkNest RX2 32 yX3_isWithin RX3) (by decide +kernel)), va_Nw.of rfl (hts _ (by decide +kernel)), va_Nw.of rfl (hts _ (by decide +kernel)), va_Nw.of rfl (hts _ (by decide +kernel)), va_Nw.of rfl (hts _ (by decide +kernel)), va_Nw.of rfl (hts _ (by decide +kernel)),
    l_str (hts _ (by decide +kernel)) (hs _ (by decide +kernel)), l_str (hts _ (by decide +kernel)) (hs _ (by decide +kernel)), l_str (hts _ (by decide +kernel)) (hs _ (by decide +kernel)), l_str (hts _ (by decide +kernel)) (hs _ (by decide +kernel)), l_str (hts _ (by decide +kernel)) (hs _ (by decide +kernel)), l_str (hts _ (by decide +kernel)) (hs _ (by decide +kernel)),
    vx_Zqof (hts _ (by decide +kernel)) (hts _ (by decide +kernel)) (hs _ (by decide +kernel)) hA, vx_Zqof (hts _ (by decide +kernel)) (hts _ (by decide +kernel)) (hs _ (by decide +kernel)) hA⟩, va_Nc.of (hs (.not (.castable "java/lang/IllegalStateException" "java/lang/IllegalArgumentException")) (by decide +kernel))⟩,
    va_Nw.of rfl (hts (.methodLinkNest RX3 9 yX2_init RX3) (by decide +kernel)), va_Nw.of rfl (hts (.methodLinkNest RX3 18 yX0_init RX3) (by decide +kernel)), va_AO.of (hts (.arrayOver (.object RX1)) (by decide +kernel))⟩
set_option maxRecDepth 20000 in
theorem l_K {s : State} {b : Nat} (hts : ∀ w ∈ lw_tbl, w.before #[Value.ref b] s = true) : ∃ (D : va_G) (cI cZ cR cJ : ClassId), va_K D vwCl (lT cI cZ cR cJ) s := by
  obtain ⟨c0, i0, k0⟩ := u_known (C := RX0) (T := TX0) (N := 8) (n := 8) hts inX0 (hts (.instantiable RX0 8) (by decide +kernel))
  obtain ⟨c1, i1, k1⟩ := u_known (C := RX1) (T := TX1) (N := 17) (n := 17) hts inX1 (hts (.instantiable RX1 17) (by decide +kernel))
  obtain ⟨c2, i2, k2⟩ := u_known (C := RX2) (T := TX2) (N := 6) (n := 6) hts inX2 (hts (.instantiable RX2 6) (by decide +kernel))
  obtain ⟨c3, i3, k3⟩ := u_known (C := RX3) (T := TX3) (N := 4) (n := 4) hts inX3 (hts (.instantiable RX3 4) (by decide +kernel))
  obtain ⟨c4, i4, k4⟩ := u_known (C := RX4) (T := TX4) (N := 18) (n := 18) hts inX4 (hts (.instantiable RX4 18) (by decide +kernel))
  obtain ⟨cI, aI, fI⟩ := l_arr (hts (.arrayClass .int) (by decide +kernel))
  obtain ⟨cZ, aZ, fZ⟩ := l_arr (hts (.arrayClass .boolean) (by decide +kernel))
  obtain ⟨cJ, aJ, fJ⟩ := l_arr (hts (.arrayClass .long) (by decide +kernel))
  obtain ⟨cR, aR, fR⟩ := l_arrO (hts (.arrayOver (.object RX1)) (by decide +kernel))
  refine ⟨(fun k => if k = 0 then c0 else if k = 1 then c1 else if k = 2 then c2 else if k = 3 then c3 else c4, fun k => if k = 0 then i0 else if k = 1 then i1 else if k = 2 then i2 else if k = 3 then i3 else i4), cI, cZ, cR, cJ, fun k q hq => ?_, fun k q hq => ?_⟩
  · match k, hq with
    | 0, hq => cases hq; exact k0
    | 1, hq => cases hq; exact k1
    | 2, hq => cases hq; exact k2
    | 3, hq => cases hq; exact k3
    | 4, hq => cases hq; exact k4
    | k + 5, hq => simp [vwCl] at hq
  · match k, hq with
    | 0, hq => cases hq; exact ⟨aI, fI⟩
    | 1, hq => cases hq; exact ⟨aZ, fZ⟩
    | 2, hq => cases hq; exact ⟨aR, fR⟩
    | 3, hq => cases hq; exact ⟨aJ, fJ⟩
    | k + 4, hq => simp [lT] at hq
