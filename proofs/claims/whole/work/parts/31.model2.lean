/-- what about() tells, out of the reference's numbers -/
def abm (o : Nat → Int32) (m : Int32) (a v : Nat) : Int32 := if v = 0 then m else if v = 1 then o a else if v = 2 then o (a + 8) else if v = 3 then o (a + 9) else o (a + 10)

set_option maxHeartbeats 4000000 in
set_option maxRecDepth 100000 in
/-- noReader(x) -/
theorem c_X4_noReader (l : Launch) (D : va_G) (cI cZ : ClassId) (ad : Nat → Nat) (I V : Nat → Nat → Int32) (sz : Nat) (nr : Nat) (hnr : I 0 13 = nI nr) (hnr6 : nr ≤ 6) (x : Int32) (cd : Nat) (hcd : cd = if ¬ (0 ≤ x.toInt ∧ x.toInt ≤ ((nr : Nat) : Int) - 1) then 1 else 0) : Met l yX4_noReader wsX4_noReader ({ frames := 1, cells := 0, slots := 0, locals := 22 } : Room) (va_Pc [.ref (ad 0), .int x] (wPre D vwCl (mT cI cZ) (mW cI cZ ad I V) sz wTrue)) (va_Qi (fun (r : Int32) (u : Unit) => r = nI cd) (wPost D vwCl (mT cI cZ) (fun (u : Unit) => mW cI cZ ad (va_up I 0 (va_up (I 0) 0 (nI cd))) V) (va_A (mW cI cZ ad I V) sz)) (va_A (mW cI cZ ad I V) sz)) 0 0 (va_A (mW cI cZ ad I V) sz) := by
  refine Met.ofW (cc := cX4_noReader) (maxL := 2) (ret := (some .boolean)) (by decide) rfl ?_
  intro p e s m args below meth c s₁ B hml hv
  obtain ⟨rfl, hsz, hP, hK, hD0, hE⟩ := hv
  have hx := B.exec
  have hb := B.bytes
  have hr := B.returns
  have hts := atoms_spec (ws := wsX4_noReader) B.pre
  have hown : s.vm.findClass RX4 = some m.cls := findClass_of_methodNamed B.named
  have hlocks := B.notSynchronized
  subst hsz
  have hD := hD0.self (sz := s.heap.size)
  generalize hAe : va_A (mW cI cZ ad I V) s.heap.size = A at hD ⊢
  have hA : ∀ q : Nat, s.heap.size ≤ q → A q := fun q h => by rw [← hAe]; exact Or.inr h
  have hS : va_S A s.heap s.heap [] := va_S.rf
  have hinX4 : ∀ w ∈ wsX40, w ∈ wsX4_noReader := by decide +kernel
  have hl := lv_entry ([.ref (ad 0), .int x]) (n := 2) (Nat.le_of_ble_eq_true rfl)
  rw [lg_entry_eq]
  generalize (lg_sl ([.ref (ad 0), .int x]) ++ List.replicate (2 - (lg_sl ([.ref (ad 0), .int x])).length) Slot.unset).toArray = ls at hl ⊢
  have hl : lv_has ls 2 [(0, .ref (ad 0)), (1, .int x)] := hl
  refine lv_aload_n hx hb dX4_noReader_0 rfl (lv_at hl 0 rfl) ?_
  refine lv_iload_n hx hb dX4_noReader_1 rfl (lv_at hl 1 rfl) ?_
  refine lv_iconst (v := nI 0) hx hb dX4_noReader_2 (by decide) ?_
  refine lv_aload_n hx hb dX4_noReader_3 rfl (lv_at hl 0 rfl) ?_
  refine wR_get (v := .int (nI nr)) (C := RX4) (T := TX4) (N := 18) (ci := 4) hx hb hts hinX4 hown hK hP 0 (by decide) rfl rfl 13 (by decide) (hts (.fieldLink RX4 74 "ChangeStreamModel" "readers" "I") (by decide +kernel)) rfl (congrArg (fun z => some (Value.int z)) hnr) dX4_noReader_4 ?_
  refine lv_iconst (v := nI 1) hx hb dX4_noReader_7 (by decide) ?_
  refine lv_isub hx hb dX4_noReader_8 ?_
  refine w_calli (w := mW cI cZ ad I V) hS hA hK hD (va_runS (As := [.int x, .int (nI 0), .int ((nI nr) - (nI 1))]) (rest := [.ref (ad 0)]) ⟨hx, hb, hml, hown, hts⟩ (c_X4_within l D (mT cI cZ) (mW cI cZ ad I V) wTrue s.heap.size x (nI 0) ((nI nr) - (nI 1))) (va_cwS 3 hts gX4_noReader_X4_within rfl rfl rfl (by decide +kernel) ⟨Nat.le_of_ble_eq_true rfl, Nat.le_of_ble_eq_true rfl⟩) (w_pre hP hK hD wEnv_true) rfl rfl hl.1 rfl (lv_room (Nat.le_of_ble_eq_true rfl)) dX4_noReader_9 ⟨Nat.le_of_ble_eq_true rfl, Nat.le_of_ble_eq_true rfl⟩) (fun r_2 u H locs hw hP hD hS hz => ?_)
  have hw_1 : r_2 = wI x (0) (((nr : Nat) : Int) - 1) := by rw [hw, nI_toInt (n := 0) (by decide), pk_sub_toInt (a := nr) (b := 1) (by omega) (by decide)]; rfl
  refine lv_if_eq (tgt := 19) hx hb dX4_noReader_12 (by decide) (fun c_3 => ?_) (fun c_3 => ?_)
  · have qhw_1 := wI_out hw_1 c_3
    refine lv_iconst (v := nI 1) hx hb dX4_noReader_19 (by decide) ?_
    refine w_calli (w := mW cI cZ ad I V) hS hA hK hD (va_runV (As := [.int (nI 1)]) (rest := []) ⟨hx, hb, hml, hown, hts⟩ (c_X4_refuses l D cI cZ ad I V H.size 1 (by decide)) (cwV 1 hts gX4_noReader_X4_refuses rfl rfl rfl (by decide +kernel) ⟨Nat.le_of_ble_eq_true rfl, Nat.le_of_ble_eq_true rfl⟩) ⟨(w_pre hP hK hD wEnv_true).1, wR_recv (C := RX4) (T := TX4) (N := 18) hK hP (ci := 4) rfl 0 (by decide) rfl, (w_pre hP hK hD wEnv_true).2⟩ rfl rfl hl.1 rfl (lv_room (Nat.le_of_ble_eq_true rfl)) dX4_noReader_20 ⟨Nat.le_of_ble_eq_true rfl, Nat.le_of_ble_eq_true rfl⟩) (fun r_4 u H locs hw hP hD hS hz => ?_)
    rw [show r_4 = nI 1 from hw]
    have hcdv : cd = 1 := (by rw [hcd, if_pos (by omega)])
    subst hcdv
    exact W.zret (v := nI 1) hx hb hr rfl (fun t ht hW => ⟨⟨nI 1, (), rfl, rfl, by rw [ht]; exact hP, va_K.moved hW.alike hK, hD⟩, hS.F ht⟩) hS.2.2 dX4_noReader_23
  · have qhw_1 := wI_in hw_1 c_3
    refine lv_iconst (v := nI 0) hx hb dX4_noReader_15 (by decide) ?_
    refine lv_goto (tgt := 20) hx hb dX4_noReader_16 (by decide) ?_
    refine w_calli (w := mW cI cZ ad I V) hS hA hK hD (va_runV (As := [.int (nI 0)]) (rest := []) ⟨hx, hb, hml, hown, hts⟩ (c_X4_refuses l D cI cZ ad I V H.size 0 (by decide)) (cwV 1 hts gX4_noReader_X4_refuses rfl rfl rfl (by decide +kernel) ⟨Nat.le_of_ble_eq_true rfl, Nat.le_of_ble_eq_true rfl⟩) ⟨(w_pre hP hK hD wEnv_true).1, wR_recv (C := RX4) (T := TX4) (N := 18) hK hP (ci := 4) rfl 0 (by decide) rfl, (w_pre hP hK hD wEnv_true).2⟩ rfl rfl hl.1 rfl (lv_room (Nat.le_of_ble_eq_true rfl)) dX4_noReader_20 ⟨Nat.le_of_ble_eq_true rfl, Nat.le_of_ble_eq_true rfl⟩) (fun r_5 u H locs hw hP hD hS hz => ?_)
    rw [show r_5 = nI 0 from hw]
    have hcdv : cd = 0 := (by rw [hcd, if_neg (by omega)])
    subst hcdv
    exact W.zret (v := nI 0) hx hb hr rfl (fun t ht hW => ⟨⟨nI 0, (), rfl, rfl, by rw [ht]; exact hP, va_K.moved hW.alike hK, hD⟩, hS.F ht⟩) hS.2.2 dX4_noReader_23

set_option maxHeartbeats 4000000 in
set_option maxRecDepth 100000 in
/-- filter(x, y, z) -/
theorem c_X4_filter (l : Launch) (D : va_G) (cI cZ : ClassId) (ad : Nat → Nat) (I V : Nat → Nat → Int32) (sz : Nat) (nr : Nat) (hnr : I 0 13 = nI nr) (hnr6 : nr ≤ 6) (x : Int32) (j : Nat) (hj : j = x.toNatClampNeg) (y z : Int32) (cd : Nat) (hcd : cd = if ¬ (0 ≤ x.toInt ∧ x.toInt ≤ ((nr : Nat) : Int) - 1) ∨ ¬ (0 ≤ y.toInt ∧ y.toInt ≤ 4) then 1 else 0) : Met l yX4_filter wsX4_filter ({ frames := 2, cells := 0, slots := 0, locals := 43 } : Room) (va_Pc [.ref (ad 0), .int x, .int y, .int z] (wPre D vwCl (mT cI cZ) (mW cI cZ ad I V) sz wTrue)) (va_Qv (fun (u : Unit) => cd = 0 → True) (wPost D vwCl (mT cI cZ) (fun (u : Unit) => mW cI cZ ad (va_up I 0 (va_up (I 0) 0 (nI cd))) (if cd = 0 then va_up V 7 (va_up (va_up (V 7) (12 * j + 4) y) (12 * j + 5) z) else V)) (va_A (mW cI cZ ad I V) sz)) (va_A (mW cI cZ ad I V) sz)) 0 0 (va_A (mW cI cZ ad I V) sz) := by
  refine Met.ofW (cc := cX4_filter) (maxL := 4) (ret := none) (by decide) rfl ?_
  intro p e s m args below meth c s₁ B hml hv
  obtain ⟨rfl, hsz, hP, hK, hD0, hE⟩ := hv
  have hx := B.exec
  have hb := B.bytes
  have hr := B.returns
  have hts := atoms_spec (ws := wsX4_filter) B.pre
  have hown : s.vm.findClass RX4 = some m.cls := findClass_of_methodNamed B.named
  have hlocks := B.notSynchronized
  subst hsz
  have hD := hD0.self (sz := s.heap.size)
  generalize hAe : va_A (mW cI cZ ad I V) s.heap.size = A at hD ⊢
  have hA : ∀ q : Nat, s.heap.size ≤ q → A q := fun q h => by rw [← hAe]; exact Or.inr h
  have hS : va_S A s.heap s.heap [] := va_S.rf
  have hinX4 : ∀ w ∈ wsX40, w ∈ wsX4_filter := by decide +kernel
  have hl := lv_entry ([.ref (ad 0), .int x, .int y, .int z]) (n := 4) (Nat.le_of_ble_eq_true rfl)
  rw [lg_entry_eq]
  generalize (lg_sl ([.ref (ad 0), .int x, .int y, .int z]) ++ List.replicate (4 - (lg_sl ([.ref (ad 0), .int x, .int y, .int z])).length) Slot.unset).toArray = ls at hl ⊢
  have hl : lv_has ls 4 [(0, .ref (ad 0)), (1, .int x), (2, .int y), (3, .int z)] := hl
  refine lv_aload_n hx hb dX4_filter_0 rfl (lv_at hl 0 rfl) ?_
  refine lv_iload_n hx hb dX4_filter_1 rfl (lv_at hl 1 rfl) ?_
  obtain ⟨cdn, hcdn⟩ : ∃ c9 : Nat, c9 = (if ¬ (0 ≤ x.toInt ∧ x.toInt ≤ ((nr : Nat) : Int) - 1) then 1 else 0) := ⟨_, rfl⟩
  have hcdn1 := m_le hcdn
  refine w_calli (w := mW cI cZ ad I V) hS hA hK hD (va_runV (As := [.int x]) (rest := []) ⟨hx, hb, hml, hown, hts⟩ (c_X4_noReader l D cI cZ ad I V s.heap.size nr hnr hnr6 x cdn hcdn) (cwV 1 hts gX4_filter_X4_noReader rfl rfl rfl (by decide +kernel) ⟨Nat.le_of_ble_eq_true rfl, Nat.le_of_ble_eq_true rfl⟩) ⟨(w_pre hP hK hD wEnv_true).1, wR_recv (C := RX4) (T := TX4) (N := 18) hK hP (ci := 4) rfl 0 (by decide) rfl, (w_pre hP hK hD wEnv_true).2⟩ rfl rfl hl.1 rfl (lv_room (Nat.le_of_ble_eq_true rfl)) dX4_filter_2 ⟨Nat.le_of_ble_eq_true rfl, Nat.le_of_ble_eq_true rfl⟩) (fun r_1 u H locs hw hP hD hS hz => ?_)
  rw [show r_1 = nI cdn from hw]
  refine lv_if_ne (tgt := 53) hx hb dX4_filter_5 (by decide) (fun c_2 => ?_) (fun c_2 => ?_)
  · have c_2 : ¬ (cdn = 0) := fun h9 => c_2 ((nI_eq (a := cdn) (b := 0) (by omega) (by omega)).mpr h9)
    have hq9 := m_1 hcdn c_2
    have hc1 : cdn = 1 := by omega
    subst hc1
    have hcdv : cd = 1 := (by rw [hcd, if_pos (by omega)])
    subst hcdv
    have hEV : (V : Nat → Nat → Int32) = if 1 = 0 then va_up V 7 (va_up (va_up (V 7) (12 * j + 4) y) (12 * j + 5) z) else V := by first | rfl | (simp only [bx_uu, wR_same]; done)
    have hP : va_P D vwCl (mW cI cZ ad (va_up I 0 (va_up (I 0) 0 (nI 1))) (if 1 = 0 then va_up V 7 (va_up (va_up (V 7) (12 * j + 4) y) (12 * j + 5) z) else V)) H := by rw [← hEV]; exact hP
    have hD : va_D A (mW cI cZ ad (va_up I 0 (va_up (I 0) 0 (nI 1))) (if 1 = 0 then va_up V 7 (va_up (va_up (V 7) (12 * j + 4) y) (12 * j + 5) z) else V)) := by rw [← hEV]; exact hD
    exact W.vret hx hb hr (fun t ht hW => ⟨⟨(), rfl, (fun h9 => absurd h9 (by decide)), by rw [ht]; exact hP, va_K.moved hW.alike hK, hD⟩, hS.F ht⟩) hS.2.2 dX4_filter_53
  · have c_2 : cdn = 0 := (nI_eq (a := cdn) (b := 0) (by omega) (by omega)).mp c_2
    have hq9 := m_0 hcdn c_2
    subst c_2
    obtain ⟨hxjx, hxix⟩ := nx_nn (x := x) (by omega)
    rw [← hj] at hxjx hxix
    rw [hxjx] at hl
    refine lv_aload_n hx hb dX4_filter_8 rfl (lv_at hl 0 rfl) ?_
    refine lv_iload_n hx hb dX4_filter_9 rfl (lv_at hl 2 rfl) ?_
    refine lv_iconst (v := nI 0) hx hb dX4_filter_10 (by decide) ?_
    refine lv_iconst (v := nI 4) hx hb dX4_filter_11 (by decide) ?_
    refine w_calli (w := mW cI cZ ad (va_up I 0 (va_up (I 0) 0 (nI 0))) V) hS hA hK hD (va_runS (As := [.int y, .int (nI 0), .int (nI 4)]) (rest := [.ref (ad 0)]) ⟨hx, hb, hml, hown, hts⟩ (c_X4_within l D (mT cI cZ) (mW cI cZ ad (va_up I 0 (va_up (I 0) 0 (nI 0))) V) wTrue H.size y (nI 0) (nI 4)) (va_cwS 3 hts gX4_filter_X4_within rfl rfl rfl (by decide +kernel) ⟨Nat.le_of_ble_eq_true rfl, Nat.le_of_ble_eq_true rfl⟩) (w_pre hP hK hD wEnv_true) rfl rfl hl.1 rfl (lv_room (Nat.le_of_ble_eq_true rfl)) dX4_filter_12 ⟨Nat.le_of_ble_eq_true rfl, Nat.le_of_ble_eq_true rfl⟩) (fun r_4 u H locs hw hP hD hS hz => ?_)
    have hw_3 : r_4 = wI y (0) (4) := by rw [hw, nI_toInt (n := 0) (by decide), nI_toInt (n := 4) (by decide)]; rfl
    refine lv_if_eq (tgt := 22) hx hb dX4_filter_15 (by decide) (fun c_5 => ?_) (fun c_5 => ?_)
    · have qhw_3 := wI_out hw_3 c_5
      refine lv_iconst (v := nI 1) hx hb dX4_filter_22 (by decide) ?_
      refine w_calli (w := mW cI cZ ad (va_up I 0 (va_up (I 0) 0 (nI 0))) V) hS hA hK hD (va_runV (As := [.int (nI 1)]) (rest := []) ⟨hx, hb, hml, hown, hts⟩ (c_X4_refuses l D cI cZ ad (va_up I 0 (va_up (I 0) 0 (nI 0))) V H.size 1 (by decide)) (cwV 1 hts gX4_filter_X4_refuses rfl rfl rfl (by decide +kernel) ⟨Nat.le_of_ble_eq_true rfl, Nat.le_of_ble_eq_true rfl⟩) ⟨(w_pre hP hK hD wEnv_true).1, wR_recv (C := RX4) (T := TX4) (N := 18) hK hP (ci := 4) rfl 0 (by decide) rfl, (w_pre hP hK hD wEnv_true).2⟩ rfl rfl hl.1 rfl (lv_room (Nat.le_of_ble_eq_true rfl)) dX4_filter_23 ⟨Nat.le_of_ble_eq_true rfl, Nat.le_of_ble_eq_true rfl⟩) (fun r_6 u H locs hw hP hD hS hz => ?_)
      rw [show r_6 = nI 1 from hw]
      rw [bx_uu] at hP hD
      refine lv_if_ne (tgt := 53) hx hb dX4_filter_26 (by decide) (fun c_7 => ?_) (fun c_7 => ?_)
      · have hcdv : cd = 1 := (by rw [hcd, if_pos (by omega)])
        subst hcdv
        have hEI : (va_up I 0 (va_up (va_up (I 0) 0 (nI 0)) 0 (nI 1)) : Nat → Nat → Int32) = va_up I 0 (va_up (I 0) 0 (nI 1)) := by first | rfl | (simp only [bx_uu, wR_same]; done)
        have hEV : (V : Nat → Nat → Int32) = if 1 = 0 then va_up V 7 (va_up (va_up (V 7) (12 * j + 4) y) (12 * j + 5) z) else V := by first | rfl | (simp only [bx_uu, wR_same]; done)
        have hP : va_P D vwCl (mW cI cZ ad (va_up I 0 (va_up (I 0) 0 (nI 1))) (if 1 = 0 then va_up V 7 (va_up (va_up (V 7) (12 * j + 4) y) (12 * j + 5) z) else V)) H := by rw [← hEI, ← hEV]; exact hP
        have hD : va_D A (mW cI cZ ad (va_up I 0 (va_up (I 0) 0 (nI 1))) (if 1 = 0 then va_up V 7 (va_up (va_up (V 7) (12 * j + 4) y) (12 * j + 5) z) else V)) := by rw [← hEI, ← hEV]; exact hD
        exact W.vret hx hb hr (fun t ht hW => ⟨⟨(), rfl, (fun h9 => absurd h9 (by decide)), by rw [ht]; exact hP, va_K.moved hW.alike hK, hD⟩, hS.F ht⟩) hS.2.2 dX4_filter_53
      · exact absurd c_7 (by decide)
    · have qhw_3 := wI_in hw_3 c_5
      refine lv_iconst (v := nI 0) hx hb dX4_filter_18 (by decide) ?_
      refine lv_goto (tgt := 23) hx hb dX4_filter_19 (by decide) ?_
      refine w_calli (w := mW cI cZ ad (va_up I 0 (va_up (I 0) 0 (nI 0))) V) hS hA hK hD (va_runV (As := [.int (nI 0)]) (rest := []) ⟨hx, hb, hml, hown, hts⟩ (c_X4_refuses l D cI cZ ad (va_up I 0 (va_up (I 0) 0 (nI 0))) V H.size 0 (by decide)) (cwV 1 hts gX4_filter_X4_refuses rfl rfl rfl (by decide +kernel) ⟨Nat.le_of_ble_eq_true rfl, Nat.le_of_ble_eq_true rfl⟩) ⟨(w_pre hP hK hD wEnv_true).1, wR_recv (C := RX4) (T := TX4) (N := 18) hK hP (ci := 4) rfl 0 (by decide) rfl, (w_pre hP hK hD wEnv_true).2⟩ rfl rfl hl.1 rfl (lv_room (Nat.le_of_ble_eq_true rfl)) dX4_filter_23 ⟨Nat.le_of_ble_eq_true rfl, Nat.le_of_ble_eq_true rfl⟩) (fun r_8 u H locs hw hP hD hS hz => ?_)
      rw [show r_8 = nI 0 from hw]
      rw [bx_uu] at hP hD
      refine lv_if_ne (tgt := 53) hx hb dX4_filter_26 (by decide) (fun c_9 => ?_) (fun c_9 => ?_)
      · exact absurd (by decide) c_9
      · refine lv_aload_n hx hb dX4_filter_29 rfl (lv_at hl 0 rfl) ?_
        refine wR_get (v := .ref (ad 7)) (C := RX4) (T := TX4) (N := 18) (ci := 4) hx hb hts hinX4 hown hK hP 0 (by decide) rfl rfl 14 (by decide) (hts (.fieldLink RX4 36 "ChangeStreamModel" "of" "[I") (by decide +kernel)) rfl rfl dX4_filter_30 ?_
        refine lv_bipush (v := nI 12) hx hb dX4_filter_33 (by decide) ?_
        refine lv_iload_n hx hb dX4_filter_35 rfl (lv_at hl 1 rfl) ?_
        refine lv_imul hx hb dX4_filter_36 ?_
        rw [pk_mul]
        refine lv_iconst (v := nI 4) hx hb dX4_filter_37 (by decide) ?_
        refine lv_iadd hx hb dX4_filter_38 ?_
        rw [nI_add]
        refine lv_iload_n hx hb dX4_filter_39 rfl (lv_at hl 2 rfl) ?_
        refine wR_ist (f := V 7) hx hb hK hP hD hS 7 0 (by decide) rfl rfl (nx_in (k := 12 * j + 4) rfl (by omega) (by decide)) (j := 12 * j + 4) (nx_cl rfl (by omega)) rfl dX4_filter_40 (fun H locs hP hD hS => ?_)
        refine lv_aload_n hx hb dX4_filter_41 rfl (lv_at hl 0 rfl) ?_
        refine wR_get (v := .ref (ad 7)) (C := RX4) (T := TX4) (N := 18) (ci := 4) hx hb hts hinX4 hown hK hP 0 (by decide) rfl rfl 14 (by decide) (hts (.fieldLink RX4 36 "ChangeStreamModel" "of" "[I") (by decide +kernel)) rfl rfl dX4_filter_42 ?_
        refine lv_bipush (v := nI 12) hx hb dX4_filter_45 (by decide) ?_
        refine lv_iload_n hx hb dX4_filter_47 rfl (lv_at hl 1 rfl) ?_
        refine lv_imul hx hb dX4_filter_48 ?_
        rw [pk_mul]
        refine lv_iconst (v := nI 5) hx hb dX4_filter_49 (by decide) ?_
        refine lv_iadd hx hb dX4_filter_50 ?_
        rw [nI_add]
        refine lv_iload_n hx hb dX4_filter_51 rfl (lv_at hl 3 rfl) ?_
        refine wR_ist (f := va_up (V 7) (12 * j + 4) y) hx hb hK hP hD hS 7 0 (by decide) rfl rfl (nx_in (k := 12 * j + 5) rfl (by omega) (by decide)) (j := 12 * j + 5) (nx_cl rfl (by omega)) rfl dX4_filter_52 (fun H locs hP hD hS => ?_)
        rw [bx_uu] at hP hD
        have hcdv : cd = 0 := (by rw [hcd, if_neg (by omega)])
        subst hcdv
        have hEI : (va_up I 0 (va_up (va_up (I 0) 0 (nI 0)) 0 (nI 0)) : Nat → Nat → Int32) = va_up I 0 (va_up (I 0) 0 (nI 0)) := by first | rfl | (simp only [bx_uu, wR_same]; done)
        have hEV : (va_up V 7 (va_up (va_up (V 7) (12 * j + 4) y) (12 * j + 5) z) : Nat → Nat → Int32) = if 0 = 0 then va_up V 7 (va_up (va_up (V 7) (12 * j + 4) y) (12 * j + 5) z) else V := by first | rfl | (simp only [bx_uu, wR_same]; done)
        have hP : va_P D vwCl (mW cI cZ ad (va_up I 0 (va_up (I 0) 0 (nI 0))) (if 0 = 0 then va_up V 7 (va_up (va_up (V 7) (12 * j + 4) y) (12 * j + 5) z) else V)) H := by rw [← hEI, ← hEV]; exact hP
        have hD : va_D A (mW cI cZ ad (va_up I 0 (va_up (I 0) 0 (nI 0))) (if 0 = 0 then va_up V 7 (va_up (va_up (V 7) (12 * j + 4) y) (12 * j + 5) z) else V)) := by rw [← hEI, ← hEV]; exact hD
        exact W.vret hx hb hr (fun t ht hW => ⟨⟨(), rfl, (fun _ => trivial), by rw [ht]; exact hP, va_K.moved hW.alike hK, hD⟩, hS.F ht⟩) hS.2.2 dX4_filter_53

set_option maxHeartbeats 4000000 in
set_option maxRecDepth 100000 in
/-- throttle(x, y) -/
theorem c_X4_throttle (l : Launch) (D : va_G) (cI cZ : ClassId) (ad : Nat → Nat) (I V : Nat → Nat → Int32) (sz : Nat) (nr : Nat) (hnr : I 0 13 = nI nr) (hnr6 : nr ≤ 6) (x : Int32) (j : Nat) (hj : j = x.toNatClampNeg) (y : Int32) (cd : Nat) (hcd : cd = if ¬ (0 ≤ x.toInt ∧ x.toInt ≤ ((nr : Nat) : Int) - 1) ∨ ¬ (1 ≤ y.toInt ∧ y.toInt ≤ 20) then 1 else 0) : Met l yX4_throttle wsX4_throttle ({ frames := 2, cells := 0, slots := 0, locals := 43 } : Room) (va_Pc [.ref (ad 0), .int x, .int y] (wPre D vwCl (mT cI cZ) (mW cI cZ ad I V) sz wTrue)) (va_Qi (fun (r : Int32) (u : Unit) => cd = 0 → r = V 7 (12 * j + 6)) (wPost D vwCl (mT cI cZ) (fun (u : Unit) => mW cI cZ ad (va_up I 0 (va_up (I 0) 0 (nI cd))) (if cd = 0 then va_up V 7 (va_up (V 7) (12 * j + 6) y) else V)) (va_A (mW cI cZ ad I V) sz)) (va_A (mW cI cZ ad I V) sz)) 0 0 (va_A (mW cI cZ ad I V) sz) := by
  refine Met.ofW (cc := cX4_throttle) (maxL := 4) (ret := (some .int)) (by decide) rfl ?_
  intro p e s m args below meth c s₁ B hml hv
  obtain ⟨rfl, hsz, hP, hK, hD0, hE⟩ := hv
  have hx := B.exec
  have hb := B.bytes
  have hr := B.returns
  have hts := atoms_spec (ws := wsX4_throttle) B.pre
  have hown : s.vm.findClass RX4 = some m.cls := findClass_of_methodNamed B.named
  have hlocks := B.notSynchronized
  subst hsz
  have hD := hD0.self (sz := s.heap.size)
  generalize hAe : va_A (mW cI cZ ad I V) s.heap.size = A at hD ⊢
  have hA : ∀ q : Nat, s.heap.size ≤ q → A q := fun q h => by rw [← hAe]; exact Or.inr h
  have hS : va_S A s.heap s.heap [] := va_S.rf
  have hinX4 : ∀ w ∈ wsX40, w ∈ wsX4_throttle := by decide +kernel
  have hl := lv_entry ([.ref (ad 0), .int x, .int y]) (n := 4) (Nat.le_of_ble_eq_true rfl)
  rw [lg_entry_eq]
  generalize (lg_sl ([.ref (ad 0), .int x, .int y]) ++ List.replicate (4 - (lg_sl ([.ref (ad 0), .int x, .int y])).length) Slot.unset).toArray = ls at hl ⊢
  have hl : lv_has ls 4 [(0, .ref (ad 0)), (1, .int x), (2, .int y)] := hl
  refine lv_aload_n hx hb dX4_throttle_0 rfl (lv_at hl 0 rfl) ?_
  refine lv_iload_n hx hb dX4_throttle_1 rfl (lv_at hl 1 rfl) ?_
  obtain ⟨cdn, hcdn⟩ : ∃ c9 : Nat, c9 = (if ¬ (0 ≤ x.toInt ∧ x.toInt ≤ ((nr : Nat) : Int) - 1) then 1 else 0) := ⟨_, rfl⟩
  have hcdn1 := m_le hcdn
  refine w_calli (w := mW cI cZ ad I V) hS hA hK hD (va_runV (As := [.int x]) (rest := []) ⟨hx, hb, hml, hown, hts⟩ (c_X4_noReader l D cI cZ ad I V s.heap.size nr hnr hnr6 x cdn hcdn) (cwV 1 hts gX4_throttle_X4_noReader rfl rfl rfl (by decide +kernel) ⟨Nat.le_of_ble_eq_true rfl, Nat.le_of_ble_eq_true rfl⟩) ⟨(w_pre hP hK hD wEnv_true).1, wR_recv (C := RX4) (T := TX4) (N := 18) hK hP (ci := 4) rfl 0 (by decide) rfl, (w_pre hP hK hD wEnv_true).2⟩ rfl rfl hl.1 rfl (lv_room (Nat.le_of_ble_eq_true rfl)) dX4_throttle_2 ⟨Nat.le_of_ble_eq_true rfl, Nat.le_of_ble_eq_true rfl⟩) (fun r_1 u H locs hw hP hD hS hz => ?_)
  rw [show r_1 = nI cdn from hw]
  refine lv_if_ne (tgt := 30) hx hb dX4_throttle_5 (by decide) (fun c_2 => ?_) (fun c_2 => ?_)
  · have c_2 : ¬ (cdn = 0) := fun h9 => c_2 ((nI_eq (a := cdn) (b := 0) (by omega) (by omega)).mpr h9)
    have hq9 := m_1 hcdn c_2
    have hc1 : cdn = 1 := by omega
    subst hc1
    refine lv_iconst (v := nI 0) hx hb dX4_throttle_30 (by decide) ?_
    have hcdv : cd = 1 := (by rw [hcd, if_pos (by omega)])
    subst hcdv
    have hEV : (V : Nat → Nat → Int32) = if 1 = 0 then va_up V 7 (va_up (V 7) (12 * j + 6) y) else V := by first | rfl | (simp only [bx_uu, wR_same]; done)
    have hP : va_P D vwCl (mW cI cZ ad (va_up I 0 (va_up (I 0) 0 (nI 1))) (if 1 = 0 then va_up V 7 (va_up (V 7) (12 * j + 6) y) else V)) H := by rw [← hEV]; exact hP
    have hD : va_D A (mW cI cZ ad (va_up I 0 (va_up (I 0) 0 (nI 1))) (if 1 = 0 then va_up V 7 (va_up (V 7) (12 * j + 6) y) else V)) := by rw [← hEV]; exact hD
    exact W.iret (v := nI 0) hx hb hr (fun t ht hW => ⟨⟨nI 0, (), rfl, (fun h9 => absurd h9 (by decide)), by rw [ht]; exact hP, va_K.moved hW.alike hK, hD⟩, hS.F ht⟩) hS.2.2 dX4_throttle_31
  · have c_2 : cdn = 0 := (nI_eq (a := cdn) (b := 0) (by omega) (by omega)).mp c_2
    have hq9 := m_0 hcdn c_2
    subst c_2
    obtain ⟨hxjx, hxix⟩ := nx_nn (x := x) (by omega)
    rw [← hj] at hxjx hxix
    rw [hxjx] at hl
    refine lv_aload_n hx hb dX4_throttle_8 rfl (lv_at hl 0 rfl) ?_
    refine lv_iload_n hx hb dX4_throttle_9 rfl (lv_at hl 2 rfl) ?_
    refine lv_iconst (v := nI 1) hx hb dX4_throttle_10 (by decide) ?_
    refine lv_bipush (v := nI 20) hx hb dX4_throttle_11 (by decide) ?_
    refine w_calli (w := mW cI cZ ad (va_up I 0 (va_up (I 0) 0 (nI 0))) V) hS hA hK hD (va_runS (As := [.int y, .int (nI 1), .int (nI 20)]) (rest := [.ref (ad 0)]) ⟨hx, hb, hml, hown, hts⟩ (c_X4_within l D (mT cI cZ) (mW cI cZ ad (va_up I 0 (va_up (I 0) 0 (nI 0))) V) wTrue H.size y (nI 1) (nI 20)) (va_cwS 3 hts gX4_throttle_X4_within rfl rfl rfl (by decide +kernel) ⟨Nat.le_of_ble_eq_true rfl, Nat.le_of_ble_eq_true rfl⟩) (w_pre hP hK hD wEnv_true) rfl rfl hl.1 rfl (lv_room (Nat.le_of_ble_eq_true rfl)) dX4_throttle_13 ⟨Nat.le_of_ble_eq_true rfl, Nat.le_of_ble_eq_true rfl⟩) (fun r_4 u H locs hw hP hD hS hz => ?_)
    have hw_3 : r_4 = wI y (1) (20) := by rw [hw, nI_toInt (n := 1) (by decide), nI_toInt (n := 20) (by decide)]; rfl
    refine lv_if_eq (tgt := 23) hx hb dX4_throttle_16 (by decide) (fun c_5 => ?_) (fun c_5 => ?_)
    · have qhw_3 := wI_out hw_3 c_5
      refine lv_iconst (v := nI 1) hx hb dX4_throttle_23 (by decide) ?_
      refine w_calli (w := mW cI cZ ad (va_up I 0 (va_up (I 0) 0 (nI 0))) V) hS hA hK hD (va_runV (As := [.int (nI 1)]) (rest := []) ⟨hx, hb, hml, hown, hts⟩ (c_X4_refuses l D cI cZ ad (va_up I 0 (va_up (I 0) 0 (nI 0))) V H.size 1 (by decide)) (cwV 1 hts gX4_throttle_X4_refuses rfl rfl rfl (by decide +kernel) ⟨Nat.le_of_ble_eq_true rfl, Nat.le_of_ble_eq_true rfl⟩) ⟨(w_pre hP hK hD wEnv_true).1, wR_recv (C := RX4) (T := TX4) (N := 18) hK hP (ci := 4) rfl 0 (by decide) rfl, (w_pre hP hK hD wEnv_true).2⟩ rfl rfl hl.1 rfl (lv_room (Nat.le_of_ble_eq_true rfl)) dX4_throttle_24 ⟨Nat.le_of_ble_eq_true rfl, Nat.le_of_ble_eq_true rfl⟩) (fun r_6 u H locs hw hP hD hS hz => ?_)
      rw [show r_6 = nI 1 from hw]
      rw [bx_uu] at hP hD
      refine lv_if_eq (tgt := 32) hx hb dX4_throttle_27 (by decide) (fun c_7 => ?_) (fun c_7 => ?_)
      · exact absurd c_7 (by decide)
      · refine lv_iconst (v := nI 0) hx hb dX4_throttle_30 (by decide) ?_
        have hcdv : cd = 1 := (by rw [hcd, if_pos (by omega)])
        subst hcdv
        have hEI : (va_up I 0 (va_up (va_up (I 0) 0 (nI 0)) 0 (nI 1)) : Nat → Nat → Int32) = va_up I 0 (va_up (I 0) 0 (nI 1)) := by first | rfl | (simp only [bx_uu, wR_same]; done)
        have hEV : (V : Nat → Nat → Int32) = if 1 = 0 then va_up V 7 (va_up (V 7) (12 * j + 6) y) else V := by first | rfl | (simp only [bx_uu, wR_same]; done)
        have hP : va_P D vwCl (mW cI cZ ad (va_up I 0 (va_up (I 0) 0 (nI 1))) (if 1 = 0 then va_up V 7 (va_up (V 7) (12 * j + 6) y) else V)) H := by rw [← hEI, ← hEV]; exact hP
        have hD : va_D A (mW cI cZ ad (va_up I 0 (va_up (I 0) 0 (nI 1))) (if 1 = 0 then va_up V 7 (va_up (V 7) (12 * j + 6) y) else V)) := by rw [← hEI, ← hEV]; exact hD
        exact W.iret (v := nI 0) hx hb hr (fun t ht hW => ⟨⟨nI 0, (), rfl, (fun h9 => absurd h9 (by decide)), by rw [ht]; exact hP, va_K.moved hW.alike hK, hD⟩, hS.F ht⟩) hS.2.2 dX4_throttle_31
    · have qhw_3 := wI_in hw_3 c_5
      refine lv_iconst (v := nI 0) hx hb dX4_throttle_19 (by decide) ?_
      refine lv_goto (tgt := 24) hx hb dX4_throttle_20 (by decide) ?_
      refine w_calli (w := mW cI cZ ad (va_up I 0 (va_up (I 0) 0 (nI 0))) V) hS hA hK hD (va_runV (As := [.int (nI 0)]) (rest := []) ⟨hx, hb, hml, hown, hts⟩ (c_X4_refuses l D cI cZ ad (va_up I 0 (va_up (I 0) 0 (nI 0))) V H.size 0 (by decide)) (cwV 1 hts gX4_throttle_X4_refuses rfl rfl rfl (by decide +kernel) ⟨Nat.le_of_ble_eq_true rfl, Nat.le_of_ble_eq_true rfl⟩) ⟨(w_pre hP hK hD wEnv_true).1, wR_recv (C := RX4) (T := TX4) (N := 18) hK hP (ci := 4) rfl 0 (by decide) rfl, (w_pre hP hK hD wEnv_true).2⟩ rfl rfl hl.1 rfl (lv_room (Nat.le_of_ble_eq_true rfl)) dX4_throttle_24 ⟨Nat.le_of_ble_eq_true rfl, Nat.le_of_ble_eq_true rfl⟩) (fun r_8 u H locs hw hP hD hS hz => ?_)
      rw [show r_8 = nI 0 from hw]
      rw [bx_uu] at hP hD
      refine lv_if_eq (tgt := 32) hx hb dX4_throttle_27 (by decide) (fun c_9 => ?_) (fun c_9 => ?_)
      · refine lv_aload_n hx hb dX4_throttle_32 rfl (lv_at hl 0 rfl) ?_
        refine wR_get (v := .ref (ad 7)) (C := RX4) (T := TX4) (N := 18) (ci := 4) hx hb hts hinX4 hown hK hP 0 (by decide) rfl rfl 14 (by decide) (hts (.fieldLink RX4 36 "ChangeStreamModel" "of" "[I") (by decide +kernel)) rfl rfl dX4_throttle_33 ?_
        refine lv_bipush (v := nI 12) hx hb dX4_throttle_36 (by decide) ?_
        refine lv_iload_n hx hb dX4_throttle_38 rfl (lv_at hl 1 rfl) ?_
        refine lv_imul hx hb dX4_throttle_39 ?_
        rw [pk_mul]
        refine lv_bipush (v := nI 6) hx hb dX4_throttle_40 (by decide) ?_
        refine lv_iadd hx hb dX4_throttle_42 ?_
        rw [nI_add]
        refine wR_ild (f := V 7) (v := (V 7) (12 * j + 6)) hx hb hK hP 7 0 (by decide) rfl rfl (nx_in (k := 12 * j + 6) rfl (by omega) (by decide)) (j := 12 * j + 6) (nx_cl rfl (by omega)) rfl dX4_throttle_43 ?_
        refine lv_istore_n (lv' := [(3, .int ((V 7) (12 * j + 6))), (0, .ref (ad 0)), (1, .int (nI j)), (2, .int y)]) hx hb dX4_throttle_44 rfl hl (by decide) rfl (fun ls hl => ?_)
        refine lv_aload_n hx hb dX4_throttle_45 rfl (lv_at hl 1 rfl) ?_
        refine wR_get (v := .ref (ad 7)) (C := RX4) (T := TX4) (N := 18) (ci := 4) hx hb hts hinX4 hown hK hP 0 (by decide) rfl rfl 14 (by decide) (hts (.fieldLink RX4 36 "ChangeStreamModel" "of" "[I") (by decide +kernel)) rfl rfl dX4_throttle_46 ?_
        refine lv_bipush (v := nI 12) hx hb dX4_throttle_49 (by decide) ?_
        refine lv_iload_n hx hb dX4_throttle_51 rfl (lv_at hl 2 rfl) ?_
        refine lv_imul hx hb dX4_throttle_52 ?_
        rw [pk_mul]
        refine lv_bipush (v := nI 6) hx hb dX4_throttle_53 (by decide) ?_
        refine lv_iadd hx hb dX4_throttle_55 ?_
        rw [nI_add]
        refine lv_iload_n hx hb dX4_throttle_56 rfl (lv_at hl 3 rfl) ?_
        refine wR_ist (f := V 7) hx hb hK hP hD hS 7 0 (by decide) rfl rfl (nx_in (k := 12 * j + 6) rfl (by omega) (by decide)) (j := 12 * j + 6) (nx_cl rfl (by omega)) rfl dX4_throttle_57 (fun H locs hP hD hS => ?_)
        refine lv_iload_n hx hb dX4_throttle_58 rfl (lv_at hl 0 rfl) ?_
        have hcdv : cd = 0 := (by rw [hcd, if_neg (by omega)])
        subst hcdv
        have hEI : (va_up I 0 (va_up (va_up (I 0) 0 (nI 0)) 0 (nI 0)) : Nat → Nat → Int32) = va_up I 0 (va_up (I 0) 0 (nI 0)) := by first | rfl | (simp only [bx_uu, wR_same]; done)
        have hEV : (va_up V 7 (va_up (V 7) (12 * j + 6) y) : Nat → Nat → Int32) = if 0 = 0 then va_up V 7 (va_up (V 7) (12 * j + 6) y) else V := by first | rfl | (simp only [bx_uu, wR_same]; done)
        have hP : va_P D vwCl (mW cI cZ ad (va_up I 0 (va_up (I 0) 0 (nI 0))) (if 0 = 0 then va_up V 7 (va_up (V 7) (12 * j + 6) y) else V)) H := by rw [← hEI, ← hEV]; exact hP
        have hD : va_D A (mW cI cZ ad (va_up I 0 (va_up (I 0) 0 (nI 0))) (if 0 = 0 then va_up V 7 (va_up (V 7) (12 * j + 6) y) else V)) := by rw [← hEI, ← hEV]; exact hD
        exact W.iret (v := (V 7) (12 * j + 6)) hx hb hr (fun t ht hW => ⟨⟨(V 7) (12 * j + 6), (), rfl, (fun _ => rfl), by rw [ht]; exact hP, va_K.moved hW.alike hK, hD⟩, hS.F ht⟩) hS.2.2 dX4_throttle_59
      · exact absurd (by decide) c_9

set_option maxHeartbeats 4000000 in
set_option maxRecDepth 100000 in
/-- right(x, y, b) -/
theorem c_X4_right (l : Launch) (D : va_G) (cI cZ : ClassId) (ad : Nat → Nat) (I V : Nat → Nat → Int32) (sz : Nat) (k : Nat) (hk : I 0 1 = nI k) (hk1 : k ≤ 100) (TT lst rc kp nr : Nat) (hrc : I 0 7 = nI rc) (hT : I 0 9 = nI TT) (hkp : I 0 11 = nI kp) (hls : I 0 12 = nI lst) (hnr : I 0 13 = nI nr) (hr6 : rc ≤ 512) (hT1 : TT ≤ 512) (hkp1 : kp ≤ 30) (hls0 : 0 < lst) (hls1 : lst ≤ 513) (hnr6 : nr ≤ 6) (x : Int32) (j : Nat) (hj : j = x.toNatClampNeg) (rc9 : Nat) (hrc0 : (0 ≤ x.toInt ∧ x.toInt ≤ ((nr : Nat) : Int) - 1) → V 7 (12 * j + 7) = nI rc9 ∧ rc9 ≤ 40) (y b : Int32) (hb01 : b = 0 ∨ b = 1) (f : Nat) (hf : f = y.toNatClampNeg) (cd : Nat) (hcd : cd = if ¬ (0 ≤ x.toInt ∧ x.toInt ≤ ((nr : Nat) : Int) - 1) ∨ ¬ (0 ≤ y.toInt ∧ y.toInt ≤ ((k : Nat) : Int) - 1) then 1 else if rc9 = 40 then 2 else 0) : Met l yX4_right wsX4_right ({ frames := 2, cells := 0, slots := 0, locals := 43 } : Room) (va_Pc [.ref (ad 0), .int x, .int y, .int b] (wPre D vwCl (mT cI cZ) (mW cI cZ ad I V) sz wTrue)) (va_Qv (fun (u : Unit) => cd = 0 → True) (wPost D vwCl (mT cI cZ) (fun (u : Unit) => mW cI cZ ad (va_up I 0 (va_up (I 0) 0 (nI cd))) (if cd = 0 then va_up (va_up V 8 (va_up (va_up (va_up (V 8) (3 * (40 * j + rc9)) (nI f)) (3 * (40 * j + rc9) + 1) (nI (TT + 1))) (3 * (40 * j + rc9) + 2) b)) 7 (va_up (V 7) (12 * j + 7) (nI (rc9 + 1))) else V)) (va_A (mW cI cZ ad I V) sz)) (va_A (mW cI cZ ad I V) sz)) 0 0 (va_A (mW cI cZ ad I V) sz) := by
  refine Met.ofW (cc := cX4_right) (maxL := 5) (ret := none) (by decide) rfl ?_
  intro p e s m args below meth c s₁ B hml hv
  obtain ⟨rfl, hsz, hP, hK, hD0, hE⟩ := hv
  have hx := B.exec
  have hb := B.bytes
  have hr := B.returns
  have hts := atoms_spec (ws := wsX4_right) B.pre
  have hown : s.vm.findClass RX4 = some m.cls := findClass_of_methodNamed B.named
  have hlocks := B.notSynchronized
  subst hsz
  have hD := hD0.self (sz := s.heap.size)
  generalize hAe : va_A (mW cI cZ ad I V) s.heap.size = A at hD ⊢
  have hA : ∀ q : Nat, s.heap.size ≤ q → A q := fun q h => by rw [← hAe]; exact Or.inr h
  have hS : va_S A s.heap s.heap [] := va_S.rf
  have hinX4 : ∀ w ∈ wsX40, w ∈ wsX4_right := by decide +kernel
  have hl := lv_entry ([.ref (ad 0), .int x, .int y, .int b]) (n := 5) (Nat.le_of_ble_eq_true rfl)
  rw [lg_entry_eq]
  generalize (lg_sl ([.ref (ad 0), .int x, .int y, .int b]) ++ List.replicate (5 - (lg_sl ([.ref (ad 0), .int x, .int y, .int b])).length) Slot.unset).toArray = ls at hl ⊢
  have hl : lv_has ls 5 [(0, .ref (ad 0)), (1, .int x), (2, .int y), (3, .int b)] := hl
  refine lv_aload_n hx hb dX4_right_0 rfl (lv_at hl 0 rfl) ?_
  refine lv_iload_n hx hb dX4_right_1 rfl (lv_at hl 1 rfl) ?_
  obtain ⟨cdn, hcdn⟩ : ∃ c9 : Nat, c9 = (if ¬ (0 ≤ x.toInt ∧ x.toInt ≤ ((nr : Nat) : Int) - 1) then 1 else 0) := ⟨_, rfl⟩
  have hcdn1 := m_le hcdn
  refine w_calli (w := mW cI cZ ad I V) hS hA hK hD (va_runV (As := [.int x]) (rest := []) ⟨hx, hb, hml, hown, hts⟩ (c_X4_noReader l D cI cZ ad I V s.heap.size nr hnr hnr6 x cdn hcdn) (cwV 1 hts gX4_right_X4_noReader rfl rfl rfl (by decide +kernel) ⟨Nat.le_of_ble_eq_true rfl, Nat.le_of_ble_eq_true rfl⟩) ⟨(w_pre hP hK hD wEnv_true).1, wR_recv (C := RX4) (T := TX4) (N := 18) hK hP (ci := 4) rfl 0 (by decide) rfl, (w_pre hP hK hD wEnv_true).2⟩ rfl rfl hl.1 rfl (lv_room (Nat.le_of_ble_eq_true rfl)) dX4_right_2 ⟨Nat.le_of_ble_eq_true rfl, Nat.le_of_ble_eq_true rfl⟩) (fun r_1 u H locs hw hP hD hS hz => ?_)
  rw [show r_1 = nI cdn from hw]
  refine lv_if_ne (tgt := 55) hx hb dX4_right_5 (by decide) (fun c_2 => ?_) (fun c_2 => ?_)
  · have c_2 : ¬ (cdn = 0) := fun h9 => c_2 ((nI_eq (a := cdn) (b := 0) (by omega) (by omega)).mpr h9)
    have hq9 := m_1 hcdn c_2
    have hc1 : cdn = 1 := by omega
    subst hc1
    have hcdv : cd = 1 := (by rw [hcd, if_pos (by omega)])
    subst hcdv
    have hEV : (V : Nat → Nat → Int32) = if 1 = 0 then va_up (va_up V 8 (va_up (va_up (va_up (V 8) (3 * (40 * j + rc9)) (nI f)) (3 * (40 * j + rc9) + 1) (nI (TT + 1))) (3 * (40 * j + rc9) + 2) b)) 7 (va_up (V 7) (12 * j + 7) (nI (rc9 + 1))) else V := by first | rfl | (simp only [bx_uu, wR_same]; done)
    have hP : va_P D vwCl (mW cI cZ ad (va_up I 0 (va_up (I 0) 0 (nI 1))) (if 1 = 0 then va_up (va_up V 8 (va_up (va_up (va_up (V 8) (3 * (40 * j + rc9)) (nI f)) (3 * (40 * j + rc9) + 1) (nI (TT + 1))) (3 * (40 * j + rc9) + 2) b)) 7 (va_up (V 7) (12 * j + 7) (nI (rc9 + 1))) else V)) H := by rw [← hEV]; exact hP
    have hD : va_D A (mW cI cZ ad (va_up I 0 (va_up (I 0) 0 (nI 1))) (if 1 = 0 then va_up (va_up V 8 (va_up (va_up (va_up (V 8) (3 * (40 * j + rc9)) (nI f)) (3 * (40 * j + rc9) + 1) (nI (TT + 1))) (3 * (40 * j + rc9) + 2) b)) 7 (va_up (V 7) (12 * j + 7) (nI (rc9 + 1))) else V)) := by rw [← hEV]; exact hD
    exact W.vret hx hb hr (fun t ht hW => ⟨⟨(), rfl, (fun h9 => absurd h9 (by decide)), by rw [ht]; exact hP, va_K.moved hW.alike hK, hD⟩, hS.F ht⟩) hS.2.2 dX4_right_55
  · have c_2 : cdn = 0 := (nI_eq (a := cdn) (b := 0) (by omega) (by omega)).mp c_2
    have hq9 := m_0 hcdn c_2
    subst c_2
    obtain ⟨hxjx, hxix⟩ := nx_nn (x := x) (by omega)
    rw [← hj] at hxjx hxix
    rw [hxjx] at hl
    obtain ⟨hrc9, hrc94⟩ := hrc0 hq9
    refine lv_aload_n hx hb dX4_right_8 rfl (lv_at hl 0 rfl) ?_
    refine lv_iload_n hx hb dX4_right_9 rfl (lv_at hl 2 rfl) ?_
    refine lv_iconst (v := nI 0) hx hb dX4_right_10 (by decide) ?_
    refine lv_aload_n hx hb dX4_right_11 rfl (lv_at hl 0 rfl) ?_
    refine wR_get (v := .int (nI k)) (C := RX4) (T := TX4) (N := 18) (ci := 4) hx hb hts hinX4 hown hK hP 0 (by decide) rfl rfl 1 (by decide) (hts (.fieldLink RX4 55 "ChangeStreamModel" "facts" "I") (by decide +kernel)) rfl (congrArg (fun z => some (Value.int z)) hk) dX4_right_12 ?_
    refine lv_iconst (v := nI 1) hx hb dX4_right_15 (by decide) ?_
    refine lv_isub hx hb dX4_right_16 ?_
    refine w_calli (w := mW cI cZ ad (va_up I 0 (va_up (I 0) 0 (nI 0))) V) hS hA hK hD (va_runS (As := [.int y, .int (nI 0), .int ((nI k) - (nI 1))]) (rest := [.ref (ad 0)]) ⟨hx, hb, hml, hown, hts⟩ (c_X4_within l D (mT cI cZ) (mW cI cZ ad (va_up I 0 (va_up (I 0) 0 (nI 0))) V) wTrue H.size y (nI 0) ((nI k) - (nI 1))) (va_cwS 3 hts gX4_right_X4_within rfl rfl rfl (by decide +kernel) ⟨Nat.le_of_ble_eq_true rfl, Nat.le_of_ble_eq_true rfl⟩) (w_pre hP hK hD wEnv_true) rfl rfl hl.1 rfl (lv_room (Nat.le_of_ble_eq_true rfl)) dX4_right_17 ⟨Nat.le_of_ble_eq_true rfl, Nat.le_of_ble_eq_true rfl⟩) (fun r_4 u H locs hw hP hD hS hz => ?_)
    have hw_3 : r_4 = wI y (0) (((k : Nat) : Int) - 1) := by rw [hw, nI_toInt (n := 0) (by decide), pk_sub_toInt (a := k) (b := 1) (by omega) (by decide)]; rfl
    refine lv_if_ne (tgt := 27) hx hb dX4_right_20 (by decide) (fun c_5 => ?_) (fun c_5 => ?_)
    · have qhw_3 := wI_in hw_3 c_5
      refine lv_aload_n hx hb dX4_right_27 rfl (lv_at hl 0 rfl) ?_
      refine wR_get (v := .ref (ad 7)) (C := RX4) (T := TX4) (N := 18) (ci := 4) hx hb hts hinX4 hown hK hP 0 (by decide) rfl rfl 14 (by decide) (hts (.fieldLink RX4 36 "ChangeStreamModel" "of" "[I") (by decide +kernel)) rfl rfl dX4_right_28 ?_
      refine lv_bipush (v := nI 12) hx hb dX4_right_31 (by decide) ?_
      refine lv_iload_n hx hb dX4_right_33 rfl (lv_at hl 1 rfl) ?_
      refine lv_imul hx hb dX4_right_34 ?_
      rw [pk_mul]
      refine lv_bipush (v := nI 7) hx hb dX4_right_35 (by decide) ?_
      refine lv_iadd hx hb dX4_right_37 ?_
      rw [nI_add]
      refine wR_ild (f := V 7) (v := nI rc9) hx hb hK hP 7 0 (by decide) rfl rfl (nx_in (k := 12 * j + 7) rfl (by omega) (by decide)) (j := 12 * j + 7) (nx_cl rfl (by omega)) hrc9 dX4_right_38 ?_
      refine lv_bipush (v := nI 40) hx hb dX4_right_39 (by decide) ?_
      refine lv_icmp_ne (tgt := 48) hx hb dX4_right_41 (by decide) (fun c_6 => ?_) (fun c_6 => ?_)
      · have c_6 : ¬ (rc9 = 40) := fun h9 => c_6 ((nI_eq (a := rc9) (b := 40) (by omega) (by omega)).mpr h9)
        refine lv_iconst (v := nI 0) hx hb dX4_right_48 (by decide) ?_
        refine w_calli (w := mW cI cZ ad (va_up I 0 (va_up (I 0) 0 (nI 0))) V) hS hA hK hD (va_runV (As := [.int (nI 0)]) (rest := []) ⟨hx, hb, hml, hown, hts⟩ (c_X4_refuses l D cI cZ ad (va_up I 0 (va_up (I 0) 0 (nI 0))) V H.size 0 (by decide)) (cwV 1 hts gX4_right_X4_refuses rfl rfl rfl (by decide +kernel) ⟨Nat.le_of_ble_eq_true rfl, Nat.le_of_ble_eq_true rfl⟩) ⟨(w_pre hP hK hD wEnv_true).1, wR_recv (C := RX4) (T := TX4) (N := 18) hK hP (ci := 4) rfl 0 (by decide) rfl, (w_pre hP hK hD wEnv_true).2⟩ rfl rfl hl.1 rfl (lv_room (Nat.le_of_ble_eq_true rfl)) dX4_right_49 ⟨Nat.le_of_ble_eq_true rfl, Nat.le_of_ble_eq_true rfl⟩) (fun r_7 u H locs hw hP hD hS hz => ?_)
        rw [show r_7 = nI 0 from hw]
        rw [bx_uu] at hP hD
        refine lv_if_eq (tgt := 56) hx hb dX4_right_52 (by decide) (fun c_8 => ?_) (fun c_8 => ?_)
        · obtain ⟨hxjy, hxiy⟩ := nx_nn (x := y) (by omega)
          rw [← hf] at hxjy hxiy
          rw [hxjy] at hl
          refine lv_iconst (v := nI 3) hx hb dX4_right_56 (by decide) ?_
          refine lv_bipush (v := nI 40) hx hb dX4_right_57 (by decide) ?_
          refine lv_iload_n hx hb dX4_right_59 rfl (lv_at hl 1 rfl) ?_
          refine lv_imul hx hb dX4_right_60 ?_
          rw [pk_mul]
          refine lv_aload_n hx hb dX4_right_61 rfl (lv_at hl 0 rfl) ?_
          refine wR_get (v := .ref (ad 7)) (C := RX4) (T := TX4) (N := 18) (ci := 4) hx hb hts hinX4 hown hK hP 0 (by decide) rfl rfl 14 (by decide) (hts (.fieldLink RX4 36 "ChangeStreamModel" "of" "[I") (by decide +kernel)) rfl rfl dX4_right_62 ?_
          refine lv_bipush (v := nI 12) hx hb dX4_right_65 (by decide) ?_
          refine lv_iload_n hx hb dX4_right_67 rfl (lv_at hl 1 rfl) ?_
          refine lv_imul hx hb dX4_right_68 ?_
          rw [pk_mul]
          refine lv_bipush (v := nI 7) hx hb dX4_right_69 (by decide) ?_
          refine lv_iadd hx hb dX4_right_71 ?_
          rw [nI_add]
          refine wR_ild (f := V 7) (v := nI rc9) hx hb hK hP 7 0 (by decide) rfl rfl (nx_in (k := 12 * j + 7) rfl (by omega) (by decide)) (j := 12 * j + 7) (nx_cl rfl (by omega)) hrc9 dX4_right_72 ?_
          refine lv_iadd hx hb dX4_right_73 ?_
          rw [nI_add]
          refine lv_imul hx hb dX4_right_74 ?_
          rw [pk_mul]
          refine lv_istore (lv' := [(4, .int (nI (3 * (40 * j + rc9)))), (0, .ref (ad 0)), (1, .int (nI j)), (2, .int (nI f)), (3, .int b)]) hx hb dX4_right_75 hl (by decide) rfl (fun ls hl => ?_)
          refine lv_aload_n hx hb dX4_right_77 rfl (lv_at hl 1 rfl) ?_
          refine wR_get (v := .ref (ad 8)) (C := RX4) (T := TX4) (N := 18) (ci := 4) hx hb hts hinX4 hown hK hP 0 (by decide) rfl rfl 15 (by decide) (hts (.fieldLink RX4 39 "ChangeStreamModel" "rights" "[I") (by decide +kernel)) rfl rfl dX4_right_78 ?_
          refine lv_iload hx hb dX4_right_81 (lv_at hl 0 rfl) ?_
          refine lv_iload_n hx hb dX4_right_83 rfl (lv_at hl 3 rfl) ?_
          refine wR_ist (f := V 8) hx hb hK hP hD hS 8 0 (by decide) rfl rfl (nx_in (k := 3 * (40 * j + rc9)) rfl (by omega) (by decide)) (j := 3 * (40 * j + rc9)) (nx_cl rfl (by omega)) rfl dX4_right_84 (fun H locs hP hD hS => ?_)
          refine lv_aload_n hx hb dX4_right_85 rfl (lv_at hl 1 rfl) ?_
          refine wR_get (v := .ref (ad 8)) (C := RX4) (T := TX4) (N := 18) (ci := 4) hx hb hts hinX4 hown hK hP 0 (by decide) rfl rfl 15 (by decide) (hts (.fieldLink RX4 39 "ChangeStreamModel" "rights" "[I") (by decide +kernel)) rfl rfl dX4_right_86 ?_
          refine lv_iload hx hb dX4_right_89 (lv_at hl 0 rfl) ?_
          refine lv_iconst (v := nI 1) hx hb dX4_right_91 (by decide) ?_
          refine lv_iadd hx hb dX4_right_92 ?_
          rw [nI_add]
          refine lv_aload_n hx hb dX4_right_93 rfl (lv_at hl 1 rfl) ?_
          refine wR_get (v := .int (nI TT)) (C := RX4) (T := TX4) (N := 18) (ci := 4) hx hb hts hinX4 hown hK hP 0 (by decide) rfl rfl 9 (by decide) (hts (.fieldLink RX4 65 "ChangeStreamModel" "transactions" "I") (by decide +kernel)) rfl (congrArg (fun z => some (Value.int z)) hT) dX4_right_94 ?_
          refine lv_iconst (v := nI 1) hx hb dX4_right_97 (by decide) ?_
          refine lv_iadd hx hb dX4_right_98 ?_
          rw [nI_add]
          refine wR_ist (f := va_up (V 8) (3 * (40 * j + rc9)) (nI f)) hx hb hK hP hD hS 8 0 (by decide) rfl rfl (nx_in (k := 3 * (40 * j + rc9) + 1) rfl (by omega) (by decide)) (j := 3 * (40 * j + rc9) + 1) (nx_cl rfl (by omega)) rfl dX4_right_99 (fun H locs hP hD hS => ?_)
          rw [bx_uu] at hP hD
          refine lv_aload_n hx hb dX4_right_100 rfl (lv_at hl 1 rfl) ?_
          refine wR_get (v := .ref (ad 8)) (C := RX4) (T := TX4) (N := 18) (ci := 4) hx hb hts hinX4 hown hK hP 0 (by decide) rfl rfl 15 (by decide) (hts (.fieldLink RX4 39 "ChangeStreamModel" "rights" "[I") (by decide +kernel)) rfl rfl dX4_right_101 ?_
          refine lv_iload hx hb dX4_right_104 (lv_at hl 0 rfl) ?_
          refine lv_iconst (v := nI 2) hx hb dX4_right_106 (by decide) ?_
          refine lv_iadd hx hb dX4_right_107 ?_
          rw [nI_add]
          refine lv_iload_n hx hb dX4_right_108 rfl (lv_at hl 4 rfl) ?_
          refine lv_if_eq (tgt := 116) hx hb dX4_right_109 (by decide) (fun c_9 => ?_) (fun c_9 => ?_)
          · refine lv_iconst (v := nI 0) hx hb dX4_right_116 (by decide) ?_
            refine wR_ist (f := va_up (va_up (V 8) (3 * (40 * j + rc9)) (nI f)) (3 * (40 * j + rc9) + 1) (nI (TT + 1))) hx hb hK hP hD hS 8 0 (by decide) rfl rfl (nx_in (k := 3 * (40 * j + rc9) + 2) rfl (by omega) (by decide)) (j := 3 * (40 * j + rc9) + 2) (nx_cl rfl (by omega)) rfl dX4_right_117 (fun H locs hP hD hS => ?_)
            rw [bx_uu] at hP hD
            refine lv_aload_n hx hb dX4_right_118 rfl (lv_at hl 1 rfl) ?_
            refine wR_get (v := .ref (ad 7)) (C := RX4) (T := TX4) (N := 18) (ci := 4) hx hb hts hinX4 hown hK hP 0 (by decide) rfl rfl 14 (by decide) (hts (.fieldLink RX4 36 "ChangeStreamModel" "of" "[I") (by decide +kernel)) rfl rfl dX4_right_119 ?_
            refine lv_bipush (v := nI 12) hx hb dX4_right_122 (by decide) ?_
            refine lv_iload_n hx hb dX4_right_124 rfl (lv_at hl 2 rfl) ?_
            refine lv_imul hx hb dX4_right_125 ?_
            rw [pk_mul]
            refine lv_bipush (v := nI 7) hx hb dX4_right_126 (by decide) ?_
            refine lv_iadd hx hb dX4_right_128 ?_
            rw [nI_add]
            refine lv_dup2_11 hx hb dX4_right_129 rfl rfl ?_
            refine wR_ild (f := V 7) (v := nI rc9) hx hb hK hP 7 0 (by decide) rfl rfl (nx_in (k := 12 * j + 7) rfl (by omega) (by decide)) (j := 12 * j + 7) (nx_cl rfl (by omega)) hrc9 dX4_right_130 ?_
            refine lv_iconst (v := nI 1) hx hb dX4_right_131 (by decide) ?_
            refine lv_iadd hx hb dX4_right_132 ?_
            rw [nI_add]
            refine wR_ist (f := V 7) hx hb hK hP hD hS 7 0 (by decide) rfl rfl (nx_in (k := 12 * j + 7) rfl (by omega) (by decide)) (j := 12 * j + 7) (nx_cl rfl (by omega)) rfl dX4_right_133 (fun H locs hP hD hS => ?_)
            have hcdv : cd = 0 := (by rw [hcd, if_neg (by omega), if_neg (by omega)])
            subst hcdv
            have hEI : (va_up I 0 (va_up (va_up (I 0) 0 (nI 0)) 0 (nI 0)) : Nat → Nat → Int32) = va_up I 0 (va_up (I 0) 0 (nI 0)) := by first | rfl | (simp only [bx_uu, wR_same]; done)
            have hEV : (va_up (va_up V 8 (va_up (va_up (va_up (V 8) (3 * (40 * j + rc9)) (nI f)) (3 * (40 * j + rc9) + 1) (nI (TT + 1))) (3 * (40 * j + rc9) + 2) (nI 0))) 7 (va_up (V 7) (12 * j + 7) (nI (rc9 + 1))) : Nat → Nat → Int32) = if 0 = 0 then va_up (va_up V 8 (va_up (va_up (va_up (V 8) (3 * (40 * j + rc9)) (nI f)) (3 * (40 * j + rc9) + 1) (nI (TT + 1))) (3 * (40 * j + rc9) + 2) b)) 7 (va_up (V 7) (12 * j + 7) (nI (rc9 + 1))) else V := by have hb9 : b = nI 0 := c_9; rw [hb9]; rfl
            have hP : va_P D vwCl (mW cI cZ ad (va_up I 0 (va_up (I 0) 0 (nI 0))) (if 0 = 0 then va_up (va_up V 8 (va_up (va_up (va_up (V 8) (3 * (40 * j + rc9)) (nI f)) (3 * (40 * j + rc9) + 1) (nI (TT + 1))) (3 * (40 * j + rc9) + 2) b)) 7 (va_up (V 7) (12 * j + 7) (nI (rc9 + 1))) else V)) H := by rw [← hEI, ← hEV]; exact hP
            have hD : va_D A (mW cI cZ ad (va_up I 0 (va_up (I 0) 0 (nI 0))) (if 0 = 0 then va_up (va_up V 8 (va_up (va_up (va_up (V 8) (3 * (40 * j + rc9)) (nI f)) (3 * (40 * j + rc9) + 1) (nI (TT + 1))) (3 * (40 * j + rc9) + 2) b)) 7 (va_up (V 7) (12 * j + 7) (nI (rc9 + 1))) else V)) := by rw [← hEI, ← hEV]; exact hD
            exact W.vret hx hb hr (fun t ht hW => ⟨⟨(), rfl, (fun _ => trivial), by rw [ht]; exact hP, va_K.moved hW.alike hK, hD⟩, hS.F ht⟩) hS.2.2 dX4_right_134
          · refine lv_iconst (v := nI 1) hx hb dX4_right_112 (by decide) ?_
            refine lv_goto (tgt := 117) hx hb dX4_right_113 (by decide) ?_
            refine wR_ist (f := va_up (va_up (V 8) (3 * (40 * j + rc9)) (nI f)) (3 * (40 * j + rc9) + 1) (nI (TT + 1))) hx hb hK hP hD hS 8 0 (by decide) rfl rfl (nx_in (k := 3 * (40 * j + rc9) + 2) rfl (by omega) (by decide)) (j := 3 * (40 * j + rc9) + 2) (nx_cl rfl (by omega)) rfl dX4_right_117 (fun H locs hP hD hS => ?_)
            rw [bx_uu] at hP hD
            refine lv_aload_n hx hb dX4_right_118 rfl (lv_at hl 1 rfl) ?_
            refine wR_get (v := .ref (ad 7)) (C := RX4) (T := TX4) (N := 18) (ci := 4) hx hb hts hinX4 hown hK hP 0 (by decide) rfl rfl 14 (by decide) (hts (.fieldLink RX4 36 "ChangeStreamModel" "of" "[I") (by decide +kernel)) rfl rfl dX4_right_119 ?_
            refine lv_bipush (v := nI 12) hx hb dX4_right_122 (by decide) ?_
            refine lv_iload_n hx hb dX4_right_124 rfl (lv_at hl 2 rfl) ?_
            refine lv_imul hx hb dX4_right_125 ?_
            rw [pk_mul]
            refine lv_bipush (v := nI 7) hx hb dX4_right_126 (by decide) ?_
            refine lv_iadd hx hb dX4_right_128 ?_
            rw [nI_add]
            refine lv_dup2_11 hx hb dX4_right_129 rfl rfl ?_
            refine wR_ild (f := V 7) (v := nI rc9) hx hb hK hP 7 0 (by decide) rfl rfl (nx_in (k := 12 * j + 7) rfl (by omega) (by decide)) (j := 12 * j + 7) (nx_cl rfl (by omega)) hrc9 dX4_right_130 ?_
            refine lv_iconst (v := nI 1) hx hb dX4_right_131 (by decide) ?_
            refine lv_iadd hx hb dX4_right_132 ?_
            rw [nI_add]
            refine wR_ist (f := V 7) hx hb hK hP hD hS 7 0 (by decide) rfl rfl (nx_in (k := 12 * j + 7) rfl (by omega) (by decide)) (j := 12 * j + 7) (nx_cl rfl (by omega)) rfl dX4_right_133 (fun H locs hP hD hS => ?_)
            have hcdv : cd = 0 := (by rw [hcd, if_neg (by omega), if_neg (by omega)])
            subst hcdv
            have hEI : (va_up I 0 (va_up (va_up (I 0) 0 (nI 0)) 0 (nI 0)) : Nat → Nat → Int32) = va_up I 0 (va_up (I 0) 0 (nI 0)) := by first | rfl | (simp only [bx_uu, wR_same]; done)
            have hEV : (va_up (va_up V 8 (va_up (va_up (va_up (V 8) (3 * (40 * j + rc9)) (nI f)) (3 * (40 * j + rc9) + 1) (nI (TT + 1))) (3 * (40 * j + rc9) + 2) (nI 1))) 7 (va_up (V 7) (12 * j + 7) (nI (rc9 + 1))) : Nat → Nat → Int32) = if 0 = 0 then va_up (va_up V 8 (va_up (va_up (va_up (V 8) (3 * (40 * j + rc9)) (nI f)) (3 * (40 * j + rc9) + 1) (nI (TT + 1))) (3 * (40 * j + rc9) + 2) b)) 7 (va_up (V 7) (12 * j + 7) (nI (rc9 + 1))) else V := by have hb9 : b = nI 1 := hb01.resolve_left c_9; rw [hb9]; rfl
            have hP : va_P D vwCl (mW cI cZ ad (va_up I 0 (va_up (I 0) 0 (nI 0))) (if 0 = 0 then va_up (va_up V 8 (va_up (va_up (va_up (V 8) (3 * (40 * j + rc9)) (nI f)) (3 * (40 * j + rc9) + 1) (nI (TT + 1))) (3 * (40 * j + rc9) + 2) b)) 7 (va_up (V 7) (12 * j + 7) (nI (rc9 + 1))) else V)) H := by rw [← hEI, ← hEV]; exact hP
            have hD : va_D A (mW cI cZ ad (va_up I 0 (va_up (I 0) 0 (nI 0))) (if 0 = 0 then va_up (va_up V 8 (va_up (va_up (va_up (V 8) (3 * (40 * j + rc9)) (nI f)) (3 * (40 * j + rc9) + 1) (nI (TT + 1))) (3 * (40 * j + rc9) + 2) b)) 7 (va_up (V 7) (12 * j + 7) (nI (rc9 + 1))) else V)) := by rw [← hEI, ← hEV]; exact hD
            exact W.vret hx hb hr (fun t ht hW => ⟨⟨(), rfl, (fun _ => trivial), by rw [ht]; exact hP, va_K.moved hW.alike hK, hD⟩, hS.F ht⟩) hS.2.2 dX4_right_134
        · exact absurd (by decide) c_8
      · have c_6 : rc9 = 40 := (nI_eq (a := rc9) (b := 40) (by omega) (by omega)).mp c_6
        refine lv_iconst (v := nI 2) hx hb dX4_right_44 (by decide) ?_
        refine lv_goto (tgt := 49) hx hb dX4_right_45 (by decide) ?_
        refine w_calli (w := mW cI cZ ad (va_up I 0 (va_up (I 0) 0 (nI 0))) V) hS hA hK hD (va_runV (As := [.int (nI 2)]) (rest := []) ⟨hx, hb, hml, hown, hts⟩ (c_X4_refuses l D cI cZ ad (va_up I 0 (va_up (I 0) 0 (nI 0))) V H.size 2 (by decide)) (cwV 1 hts gX4_right_X4_refuses rfl rfl rfl (by decide +kernel) ⟨Nat.le_of_ble_eq_true rfl, Nat.le_of_ble_eq_true rfl⟩) ⟨(w_pre hP hK hD wEnv_true).1, wR_recv (C := RX4) (T := TX4) (N := 18) hK hP (ci := 4) rfl 0 (by decide) rfl, (w_pre hP hK hD wEnv_true).2⟩ rfl rfl hl.1 rfl (lv_room (Nat.le_of_ble_eq_true rfl)) dX4_right_49 ⟨Nat.le_of_ble_eq_true rfl, Nat.le_of_ble_eq_true rfl⟩) (fun r_10 u H locs hw hP hD hS hz => ?_)
        rw [show r_10 = nI 1 from hw]
        rw [bx_uu] at hP hD
        refine lv_if_eq (tgt := 56) hx hb dX4_right_52 (by decide) (fun c_11 => ?_) (fun c_11 => ?_)
        · exact absurd c_11 (by decide)
        · have hcdv : cd = 2 := (by rw [hcd, if_neg (by omega), if_pos (by omega)])
          subst hcdv
          have hEI : (va_up I 0 (va_up (va_up (I 0) 0 (nI 0)) 0 (nI 2)) : Nat → Nat → Int32) = va_up I 0 (va_up (I 0) 0 (nI 2)) := by first | rfl | (simp only [bx_uu, wR_same]; done)
          have hEV : (V : Nat → Nat → Int32) = if 2 = 0 then va_up (va_up V 8 (va_up (va_up (va_up (V 8) (3 * (40 * j + rc9)) (nI f)) (3 * (40 * j + rc9) + 1) (nI (TT + 1))) (3 * (40 * j + rc9) + 2) b)) 7 (va_up (V 7) (12 * j + 7) (nI (rc9 + 1))) else V := by first | rfl | (simp only [bx_uu, wR_same]; done)
          have hP : va_P D vwCl (mW cI cZ ad (va_up I 0 (va_up (I 0) 0 (nI 2))) (if 2 = 0 then va_up (va_up V 8 (va_up (va_up (va_up (V 8) (3 * (40 * j + rc9)) (nI f)) (3 * (40 * j + rc9) + 1) (nI (TT + 1))) (3 * (40 * j + rc9) + 2) b)) 7 (va_up (V 7) (12 * j + 7) (nI (rc9 + 1))) else V)) H := by rw [← hEI, ← hEV]; exact hP
          have hD : va_D A (mW cI cZ ad (va_up I 0 (va_up (I 0) 0 (nI 2))) (if 2 = 0 then va_up (va_up V 8 (va_up (va_up (va_up (V 8) (3 * (40 * j + rc9)) (nI f)) (3 * (40 * j + rc9) + 1) (nI (TT + 1))) (3 * (40 * j + rc9) + 2) b)) 7 (va_up (V 7) (12 * j + 7) (nI (rc9 + 1))) else V)) := by rw [← hEI, ← hEV]; exact hD
          exact W.vret hx hb hr (fun t ht hW => ⟨⟨(), rfl, (fun h9 => absurd h9 (by decide)), by rw [ht]; exact hP, va_K.moved hW.alike hK, hD⟩, hS.F ht⟩) hS.2.2 dX4_right_55
    · have qhw_3 := wI_out hw_3 c_5
      refine lv_iconst (v := nI 1) hx hb dX4_right_23 (by decide) ?_
      refine lv_goto (tgt := 49) hx hb dX4_right_24 (by decide) ?_
      refine w_calli (w := mW cI cZ ad (va_up I 0 (va_up (I 0) 0 (nI 0))) V) hS hA hK hD (va_runV (As := [.int (nI 1)]) (rest := []) ⟨hx, hb, hml, hown, hts⟩ (c_X4_refuses l D cI cZ ad (va_up I 0 (va_up (I 0) 0 (nI 0))) V H.size 1 (by decide)) (cwV 1 hts gX4_right_X4_refuses rfl rfl rfl (by decide +kernel) ⟨Nat.le_of_ble_eq_true rfl, Nat.le_of_ble_eq_true rfl⟩) ⟨(w_pre hP hK hD wEnv_true).1, wR_recv (C := RX4) (T := TX4) (N := 18) hK hP (ci := 4) rfl 0 (by decide) rfl, (w_pre hP hK hD wEnv_true).2⟩ rfl rfl hl.1 rfl (lv_room (Nat.le_of_ble_eq_true rfl)) dX4_right_49 ⟨Nat.le_of_ble_eq_true rfl, Nat.le_of_ble_eq_true rfl⟩) (fun r_12 u H locs hw hP hD hS hz => ?_)
      rw [show r_12 = nI 1 from hw]
      rw [bx_uu] at hP hD
      refine lv_if_eq (tgt := 56) hx hb dX4_right_52 (by decide) (fun c_13 => ?_) (fun c_13 => ?_)
      · exact absurd c_13 (by decide)
      · have hcdv : cd = 1 := (by rw [hcd, if_pos (by omega)])
        subst hcdv
        have hEI : (va_up I 0 (va_up (va_up (I 0) 0 (nI 0)) 0 (nI 1)) : Nat → Nat → Int32) = va_up I 0 (va_up (I 0) 0 (nI 1)) := by first | rfl | (simp only [bx_uu, wR_same]; done)
        have hEV : (V : Nat → Nat → Int32) = if 1 = 0 then va_up (va_up V 8 (va_up (va_up (va_up (V 8) (3 * (40 * j + rc9)) (nI f)) (3 * (40 * j + rc9) + 1) (nI (TT + 1))) (3 * (40 * j + rc9) + 2) b)) 7 (va_up (V 7) (12 * j + 7) (nI (rc9 + 1))) else V := by first | rfl | (simp only [bx_uu, wR_same]; done)
        have hP : va_P D vwCl (mW cI cZ ad (va_up I 0 (va_up (I 0) 0 (nI 1))) (if 1 = 0 then va_up (va_up V 8 (va_up (va_up (va_up (V 8) (3 * (40 * j + rc9)) (nI f)) (3 * (40 * j + rc9) + 1) (nI (TT + 1))) (3 * (40 * j + rc9) + 2) b)) 7 (va_up (V 7) (12 * j + 7) (nI (rc9 + 1))) else V)) H := by rw [← hEI, ← hEV]; exact hP
        have hD : va_D A (mW cI cZ ad (va_up I 0 (va_up (I 0) 0 (nI 1))) (if 1 = 0 then va_up (va_up V 8 (va_up (va_up (va_up (V 8) (3 * (40 * j + rc9)) (nI f)) (3 * (40 * j + rc9) + 1) (nI (TT + 1))) (3 * (40 * j + rc9) + 2) b)) 7 (va_up (V 7) (12 * j + 7) (nI (rc9 + 1))) else V)) := by rw [← hEI, ← hEV]; exact hD
        exact W.vret hx hb hr (fun t ht hW => ⟨⟨(), rfl, (fun h9 => absurd h9 (by decide)), by rw [ht]; exact hP, va_K.moved hW.alike hK, hD⟩, hS.F ht⟩) hS.2.2 dX4_right_55

set_option maxHeartbeats 4000000 in
set_option maxRecDepth 100000 in
/-- about(x, y) -/
theorem c_X4_about (l : Launch) (D : va_G) (cI cZ : ClassId) (ad : Nat → Nat) (I V : Nat → Nat → Int32) (sz : Nat) (nr : Nat) (hnr : I 0 13 = nI nr) (hnr6 : nr ≤ 6) (x : Int32) (j : Nat) (hj : j = x.toNatClampNeg) (y : Int32) (v : Nat) (hv : v = y.toNatClampNeg) (cd : Nat) (hcd : cd = if ¬ (0 ≤ x.toInt ∧ x.toInt ≤ ((nr : Nat) : Int) - 1) ∨ ¬ (0 ≤ y.toInt ∧ y.toInt ≤ 4) then 1 else 0) : Met l yX4_about wsX4_about ({ frames := 2, cells := 0, slots := 0, locals := 43 } : Room) (va_Pc [.ref (ad 0), .int x, .int y] (wPre D vwCl (mT cI cZ) (mW cI cZ ad I V) sz wTrue)) (va_Qi (fun (r : Int32) (u : Unit) => cd = 0 → r = abm (V 7) (V 10 j) (12 * j) v) (wPost D vwCl (mT cI cZ) (fun (u : Unit) => mW cI cZ ad (va_up I 0 (va_up (I 0) 0 (nI cd))) V) (va_A (mW cI cZ ad I V) sz)) (va_A (mW cI cZ ad I V) sz)) 0 0 (va_A (mW cI cZ ad I V) sz) := by
  refine Met.ofW (cc := cX4_about) (maxL := 4) (ret := (some .int)) (by decide) rfl ?_
  intro p e s m args below meth c s₁ B hml hv
  obtain ⟨rfl, hsz, hP, hK, hD0, hE⟩ := hv
  have hx := B.exec
  have hb := B.bytes
  have hr := B.returns
  have hts := atoms_spec (ws := wsX4_about) B.pre
  have hown : s.vm.findClass RX4 = some m.cls := findClass_of_methodNamed B.named
  have hlocks := B.notSynchronized
  subst hsz
  have hD := hD0.self (sz := s.heap.size)
  generalize hAe : va_A (mW cI cZ ad I V) s.heap.size = A at hD ⊢
  have hA : ∀ q : Nat, s.heap.size ≤ q → A q := fun q h => by rw [← hAe]; exact Or.inr h
  have hS : va_S A s.heap s.heap [] := va_S.rf
  have hinX4 : ∀ w ∈ wsX40, w ∈ wsX4_about := by decide +kernel
  have hl := lv_entry ([.ref (ad 0), .int x, .int y]) (n := 4) (Nat.le_of_ble_eq_true rfl)
  rw [lg_entry_eq]
  generalize (lg_sl ([.ref (ad 0), .int x, .int y]) ++ List.replicate (4 - (lg_sl ([.ref (ad 0), .int x, .int y])).length) Slot.unset).toArray = ls at hl ⊢
  have hl : lv_has ls 4 [(0, .ref (ad 0)), (1, .int x), (2, .int y)] := hl
  refine lv_aload_n hx hb dX4_about_0 rfl (lv_at hl 0 rfl) ?_
  refine lv_iload_n hx hb dX4_about_1 rfl (lv_at hl 1 rfl) ?_
  obtain ⟨cdn, hcdn⟩ : ∃ c9 : Nat, c9 = (if ¬ (0 ≤ x.toInt ∧ x.toInt ≤ ((nr : Nat) : Int) - 1) then 1 else 0) := ⟨_, rfl⟩
  have hcdn1 := m_le hcdn
  refine w_calli (w := mW cI cZ ad I V) hS hA hK hD (va_runV (As := [.int x]) (rest := []) ⟨hx, hb, hml, hown, hts⟩ (c_X4_noReader l D cI cZ ad I V s.heap.size nr hnr hnr6 x cdn hcdn) (cwV 1 hts gX4_about_X4_noReader rfl rfl rfl (by decide +kernel) ⟨Nat.le_of_ble_eq_true rfl, Nat.le_of_ble_eq_true rfl⟩) ⟨(w_pre hP hK hD wEnv_true).1, wR_recv (C := RX4) (T := TX4) (N := 18) hK hP (ci := 4) rfl 0 (by decide) rfl, (w_pre hP hK hD wEnv_true).2⟩ rfl rfl hl.1 rfl (lv_room (Nat.le_of_ble_eq_true rfl)) dX4_about_2 ⟨Nat.le_of_ble_eq_true rfl, Nat.le_of_ble_eq_true rfl⟩) (fun r_1 u H locs hw hP hD hS hz => ?_)
  rw [show r_1 = nI cdn from hw]
  refine lv_if_ne (tgt := 29) hx hb dX4_about_5 (by decide) (fun c_2 => ?_) (fun c_2 => ?_)
  · have c_2 : ¬ (cdn = 0) := fun h9 => c_2 ((nI_eq (a := cdn) (b := 0) (by omega) (by omega)).mpr h9)
    have hq9 := m_1 hcdn c_2
    have hc1 : cdn = 1 := by omega
    subst hc1
    refine lv_iconst (v := nI 0) hx hb dX4_about_29 (by decide) ?_
    have hcdv : cd = 1 := (by rw [hcd, if_pos (by omega)])
    subst hcdv
    exact W.iret (v := nI 0) hx hb hr (fun t ht hW => ⟨⟨nI 0, (), rfl, (fun h9 => absurd h9 (by decide)), by rw [ht]; exact hP, va_K.moved hW.alike hK, hD⟩, hS.F ht⟩) hS.2.2 dX4_about_30
  · have c_2 : cdn = 0 := (nI_eq (a := cdn) (b := 0) (by omega) (by omega)).mp c_2
    have hq9 := m_0 hcdn c_2
    subst c_2
    obtain ⟨hxjx, hxix⟩ := nx_nn (x := x) (by omega)
    rw [← hj] at hxjx hxix
    rw [hxjx] at hl
    refine lv_aload_n hx hb dX4_about_8 rfl (lv_at hl 0 rfl) ?_
    refine lv_iload_n hx hb dX4_about_9 rfl (lv_at hl 2 rfl) ?_
    refine lv_iconst (v := nI 0) hx hb dX4_about_10 (by decide) ?_
    refine lv_iconst (v := nI 4) hx hb dX4_about_11 (by decide) ?_
    refine w_calli (w := mW cI cZ ad (va_up I 0 (va_up (I 0) 0 (nI 0))) V) hS hA hK hD (va_runS (As := [.int y, .int (nI 0), .int (nI 4)]) (rest := [.ref (ad 0)]) ⟨hx, hb, hml, hown, hts⟩ (c_X4_within l D (mT cI cZ) (mW cI cZ ad (va_up I 0 (va_up (I 0) 0 (nI 0))) V) wTrue H.size y (nI 0) (nI 4)) (va_cwS 3 hts gX4_about_X4_within rfl rfl rfl (by decide +kernel) ⟨Nat.le_of_ble_eq_true rfl, Nat.le_of_ble_eq_true rfl⟩) (w_pre hP hK hD wEnv_true) rfl rfl hl.1 rfl (lv_room (Nat.le_of_ble_eq_true rfl)) dX4_about_12 ⟨Nat.le_of_ble_eq_true rfl, Nat.le_of_ble_eq_true rfl⟩) (fun r_4 u H locs hw hP hD hS hz => ?_)
    have hw_3 : r_4 = wI y (0) (4) := by rw [hw, nI_toInt (n := 0) (by decide), nI_toInt (n := 4) (by decide)]; rfl
    refine lv_if_eq (tgt := 22) hx hb dX4_about_15 (by decide) (fun c_5 => ?_) (fun c_5 => ?_)
    · have qhw_3 := wI_out hw_3 c_5
      refine lv_iconst (v := nI 1) hx hb dX4_about_22 (by decide) ?_
      refine w_calli (w := mW cI cZ ad (va_up I 0 (va_up (I 0) 0 (nI 0))) V) hS hA hK hD (va_runV (As := [.int (nI 1)]) (rest := []) ⟨hx, hb, hml, hown, hts⟩ (c_X4_refuses l D cI cZ ad (va_up I 0 (va_up (I 0) 0 (nI 0))) V H.size 1 (by decide)) (cwV 1 hts gX4_about_X4_refuses rfl rfl rfl (by decide +kernel) ⟨Nat.le_of_ble_eq_true rfl, Nat.le_of_ble_eq_true rfl⟩) ⟨(w_pre hP hK hD wEnv_true).1, wR_recv (C := RX4) (T := TX4) (N := 18) hK hP (ci := 4) rfl 0 (by decide) rfl, (w_pre hP hK hD wEnv_true).2⟩ rfl rfl hl.1 rfl (lv_room (Nat.le_of_ble_eq_true rfl)) dX4_about_23 ⟨Nat.le_of_ble_eq_true rfl, Nat.le_of_ble_eq_true rfl⟩) (fun r_6 u H locs hw hP hD hS hz => ?_)
      rw [show r_6 = nI 1 from hw]
      rw [bx_uu] at hP hD
      refine lv_if_eq (tgt := 31) hx hb dX4_about_26 (by decide) (fun c_7 => ?_) (fun c_7 => ?_)
      · exact absurd c_7 (by decide)
      · refine lv_iconst (v := nI 0) hx hb dX4_about_29 (by decide) ?_
        have hcdv : cd = 1 := (by rw [hcd, if_pos (by omega)])
        subst hcdv
        have hEI : (va_up I 0 (va_up (va_up (I 0) 0 (nI 0)) 0 (nI 1)) : Nat → Nat → Int32) = va_up I 0 (va_up (I 0) 0 (nI 1)) := by first | rfl | (simp only [bx_uu, wR_same]; done)
        have hP : va_P D vwCl (mW cI cZ ad (va_up I 0 (va_up (I 0) 0 (nI 1))) V) H := by rw [← hEI]; exact hP
        have hD : va_D A (mW cI cZ ad (va_up I 0 (va_up (I 0) 0 (nI 1))) V) := by rw [← hEI]; exact hD
        exact W.iret (v := nI 0) hx hb hr (fun t ht hW => ⟨⟨nI 0, (), rfl, (fun h9 => absurd h9 (by decide)), by rw [ht]; exact hP, va_K.moved hW.alike hK, hD⟩, hS.F ht⟩) hS.2.2 dX4_about_30
    · have qhw_3 := wI_in hw_3 c_5
      refine lv_iconst (v := nI 0) hx hb dX4_about_18 (by decide) ?_
      refine lv_goto (tgt := 23) hx hb dX4_about_19 (by decide) ?_
      refine w_calli (w := mW cI cZ ad (va_up I 0 (va_up (I 0) 0 (nI 0))) V) hS hA hK hD (va_runV (As := [.int (nI 0)]) (rest := []) ⟨hx, hb, hml, hown, hts⟩ (c_X4_refuses l D cI cZ ad (va_up I 0 (va_up (I 0) 0 (nI 0))) V H.size 0 (by decide)) (cwV 1 hts gX4_about_X4_refuses rfl rfl rfl (by decide +kernel) ⟨Nat.le_of_ble_eq_true rfl, Nat.le_of_ble_eq_true rfl⟩) ⟨(w_pre hP hK hD wEnv_true).1, wR_recv (C := RX4) (T := TX4) (N := 18) hK hP (ci := 4) rfl 0 (by decide) rfl, (w_pre hP hK hD wEnv_true).2⟩ rfl rfl hl.1 rfl (lv_room (Nat.le_of_ble_eq_true rfl)) dX4_about_23 ⟨Nat.le_of_ble_eq_true rfl, Nat.le_of_ble_eq_true rfl⟩) (fun r_8 u H locs hw hP hD hS hz => ?_)
      rw [show r_8 = nI 0 from hw]
      rw [bx_uu] at hP hD
      refine lv_if_eq (tgt := 31) hx hb dX4_about_26 (by decide) (fun c_9 => ?_) (fun c_9 => ?_)
      · obtain ⟨hxjy, hxiy⟩ := nx_nn (x := y) (by omega)
        rw [← hv] at hxjy hxiy
        rw [hxjy] at hl
        refine lv_bipush (v := nI 12) hx hb dX4_about_31 (by decide) ?_
        refine lv_iload_n hx hb dX4_about_33 rfl (lv_at hl 1 rfl) ?_
        refine lv_imul hx hb dX4_about_34 ?_
        rw [pk_mul]
        refine lv_istore_n (lv' := [(3, .int (nI (12 * j))), (0, .ref (ad 0)), (1, .int (nI j)), (2, .int (nI v))]) hx hb dX4_about_35 rfl hl (by decide) rfl (fun ls hl => ?_)
        refine lv_iload_n hx hb dX4_about_36 rfl (lv_at hl 3 rfl) ?_
        refine lv_if_ne (tgt := 49) hx hb dX4_about_37 (by decide) (fun c_10 => ?_) (fun c_10 => ?_)
        · have c_10 : ¬ (v = 0) := fun h9 => c_10 ((nI_eq (a := v) (b := 0) (by omega) (by omega)).mpr h9)
          refine lv_iload_n hx hb dX4_about_49 rfl (lv_at hl 3 rfl) ?_
          refine lv_iconst (v := nI 1) hx hb dX4_about_50 (by decide) ?_
          refine lv_icmp_ne (tgt := 63) hx hb dX4_about_51 (by decide) (fun c_11 => ?_) (fun c_11 => ?_)
          · have c_11 : ¬ (v = 1) := fun h9 => c_11 ((nI_eq (a := v) (b := 1) (by omega) (by omega)).mpr h9)
            refine lv_iload_n hx hb dX4_about_63 rfl (lv_at hl 3 rfl) ?_
            refine lv_iconst (v := nI 2) hx hb dX4_about_64 (by decide) ?_
            refine lv_icmp_ne (tgt := 80) hx hb dX4_about_65 (by decide) (fun c_12 => ?_) (fun c_12 => ?_)
            · have c_12 : ¬ (v = 2) := fun h9 => c_12 ((nI_eq (a := v) (b := 2) (by omega) (by omega)).mpr h9)
              refine lv_iload_n hx hb dX4_about_80 rfl (lv_at hl 3 rfl) ?_
              refine lv_iconst (v := nI 3) hx hb dX4_about_81 (by decide) ?_
              refine lv_icmp_ne (tgt := 97) hx hb dX4_about_82 (by decide) (fun c_13 => ?_) (fun c_13 => ?_)
              · have c_13 : ¬ (v = 3) := fun h9 => c_13 ((nI_eq (a := v) (b := 3) (by omega) (by omega)).mpr h9)
                refine lv_aload_n hx hb dX4_about_97 rfl (lv_at hl 1 rfl) ?_
                refine wR_get (v := .ref (ad 7)) (C := RX4) (T := TX4) (N := 18) (ci := 4) hx hb hts hinX4 hown hK hP 0 (by decide) rfl rfl 14 (by decide) (hts (.fieldLink RX4 36 "ChangeStreamModel" "of" "[I") (by decide +kernel)) rfl rfl dX4_about_98 ?_
                refine lv_iload_n hx hb dX4_about_101 rfl (lv_at hl 0 rfl) ?_
                refine lv_bipush (v := nI 10) hx hb dX4_about_102 (by decide) ?_
                refine lv_iadd hx hb dX4_about_104 ?_
                rw [nI_add]
                refine wR_ild (f := V 7) (v := (V 7) (12 * j + 10)) hx hb hK hP 7 0 (by decide) rfl rfl (nx_in (k := 12 * j + 10) rfl (by omega) (by decide)) (j := 12 * j + 10) (nx_cl rfl (by omega)) rfl dX4_about_105 ?_
                have hcdv : cd = 0 := (by rw [hcd, if_neg (by omega)])
                subst hcdv
                have hEI : (va_up I 0 (va_up (va_up (I 0) 0 (nI 0)) 0 (nI 0)) : Nat → Nat → Int32) = va_up I 0 (va_up (I 0) 0 (nI 0)) := by first | rfl | (simp only [bx_uu, wR_same]; done)
                have hP : va_P D vwCl (mW cI cZ ad (va_up I 0 (va_up (I 0) 0 (nI 0))) V) H := by rw [← hEI]; exact hP
                have hD : va_D A (mW cI cZ ad (va_up I 0 (va_up (I 0) 0 (nI 0))) V) := by rw [← hEI]; exact hD
                exact W.iret (v := (V 7) (12 * j + 10)) hx hb hr (fun t ht hW => ⟨⟨(V 7) (12 * j + 10), (), rfl, (fun _ => (by unfold abm; first | rw [if_pos (by omega)] | rw [if_neg (by omega), if_pos (by omega)] | rw [if_neg (by omega), if_neg (by omega), if_pos (by omega)] | rw [if_neg (by omega), if_neg (by omega), if_neg (by omega), if_pos (by omega)] | rw [if_neg (by omega), if_neg (by omega), if_neg (by omega), if_neg (by omega)])), by rw [ht]; exact hP, va_K.moved hW.alike hK, hD⟩, hS.F ht⟩) hS.2.2 dX4_about_106
              · have c_13 : v = 3 := (nI_eq (a := v) (b := 3) (by omega) (by omega)).mp c_13
                refine lv_aload_n hx hb dX4_about_85 rfl (lv_at hl 1 rfl) ?_
                refine wR_get (v := .ref (ad 7)) (C := RX4) (T := TX4) (N := 18) (ci := 4) hx hb hts hinX4 hown hK hP 0 (by decide) rfl rfl 14 (by decide) (hts (.fieldLink RX4 36 "ChangeStreamModel" "of" "[I") (by decide +kernel)) rfl rfl dX4_about_86 ?_
                refine lv_iload_n hx hb dX4_about_89 rfl (lv_at hl 0 rfl) ?_
                refine lv_bipush (v := nI 9) hx hb dX4_about_90 (by decide) ?_
                refine lv_iadd hx hb dX4_about_92 ?_
                rw [nI_add]
                refine wR_ild (f := V 7) (v := (V 7) (12 * j + 9)) hx hb hK hP 7 0 (by decide) rfl rfl (nx_in (k := 12 * j + 9) rfl (by omega) (by decide)) (j := 12 * j + 9) (nx_cl rfl (by omega)) rfl dX4_about_93 ?_
                refine lv_goto (tgt := 106) hx hb dX4_about_94 (by decide) ?_
                have hcdv : cd = 0 := (by rw [hcd, if_neg (by omega)])
                subst hcdv
                have hEI : (va_up I 0 (va_up (va_up (I 0) 0 (nI 0)) 0 (nI 0)) : Nat → Nat → Int32) = va_up I 0 (va_up (I 0) 0 (nI 0)) := by first | rfl | (simp only [bx_uu, wR_same]; done)
                have hP : va_P D vwCl (mW cI cZ ad (va_up I 0 (va_up (I 0) 0 (nI 0))) V) H := by rw [← hEI]; exact hP
                have hD : va_D A (mW cI cZ ad (va_up I 0 (va_up (I 0) 0 (nI 0))) V) := by rw [← hEI]; exact hD
                exact W.iret (v := (V 7) (12 * j + 9)) hx hb hr (fun t ht hW => ⟨⟨(V 7) (12 * j + 9), (), rfl, (fun _ => (by unfold abm; first | rw [if_pos (by omega)] | rw [if_neg (by omega), if_pos (by omega)] | rw [if_neg (by omega), if_neg (by omega), if_pos (by omega)] | rw [if_neg (by omega), if_neg (by omega), if_neg (by omega), if_pos (by omega)] | rw [if_neg (by omega), if_neg (by omega), if_neg (by omega), if_neg (by omega)])), by rw [ht]; exact hP, va_K.moved hW.alike hK, hD⟩, hS.F ht⟩) hS.2.2 dX4_about_106
            · have c_12 : v = 2 := (nI_eq (a := v) (b := 2) (by omega) (by omega)).mp c_12
              refine lv_aload_n hx hb dX4_about_68 rfl (lv_at hl 1 rfl) ?_
              refine wR_get (v := .ref (ad 7)) (C := RX4) (T := TX4) (N := 18) (ci := 4) hx hb hts hinX4 hown hK hP 0 (by decide) rfl rfl 14 (by decide) (hts (.fieldLink RX4 36 "ChangeStreamModel" "of" "[I") (by decide +kernel)) rfl rfl dX4_about_69 ?_
              refine lv_iload_n hx hb dX4_about_72 rfl (lv_at hl 0 rfl) ?_
              refine lv_bipush (v := nI 8) hx hb dX4_about_73 (by decide) ?_
              refine lv_iadd hx hb dX4_about_75 ?_
              rw [nI_add]
              refine wR_ild (f := V 7) (v := (V 7) (12 * j + 8)) hx hb hK hP 7 0 (by decide) rfl rfl (nx_in (k := 12 * j + 8) rfl (by omega) (by decide)) (j := 12 * j + 8) (nx_cl rfl (by omega)) rfl dX4_about_76 ?_
              refine lv_goto (tgt := 106) hx hb dX4_about_77 (by decide) ?_
              have hcdv : cd = 0 := (by rw [hcd, if_neg (by omega)])
              subst hcdv
              have hEI : (va_up I 0 (va_up (va_up (I 0) 0 (nI 0)) 0 (nI 0)) : Nat → Nat → Int32) = va_up I 0 (va_up (I 0) 0 (nI 0)) := by first | rfl | (simp only [bx_uu, wR_same]; done)
              have hP : va_P D vwCl (mW cI cZ ad (va_up I 0 (va_up (I 0) 0 (nI 0))) V) H := by rw [← hEI]; exact hP
              have hD : va_D A (mW cI cZ ad (va_up I 0 (va_up (I 0) 0 (nI 0))) V) := by rw [← hEI]; exact hD
              exact W.iret (v := (V 7) (12 * j + 8)) hx hb hr (fun t ht hW => ⟨⟨(V 7) (12 * j + 8), (), rfl, (fun _ => (by unfold abm; first | rw [if_pos (by omega)] | rw [if_neg (by omega), if_pos (by omega)] | rw [if_neg (by omega), if_neg (by omega), if_pos (by omega)] | rw [if_neg (by omega), if_neg (by omega), if_neg (by omega), if_pos (by omega)] | rw [if_neg (by omega), if_neg (by omega), if_neg (by omega), if_neg (by omega)])), by rw [ht]; exact hP, va_K.moved hW.alike hK, hD⟩, hS.F ht⟩) hS.2.2 dX4_about_106
          · have c_11 : v = 1 := (nI_eq (a := v) (b := 1) (by omega) (by omega)).mp c_11
            refine lv_aload_n hx hb dX4_about_54 rfl (lv_at hl 1 rfl) ?_
            refine wR_get (v := .ref (ad 7)) (C := RX4) (T := TX4) (N := 18) (ci := 4) hx hb hts hinX4 hown hK hP 0 (by decide) rfl rfl 14 (by decide) (hts (.fieldLink RX4 36 "ChangeStreamModel" "of" "[I") (by decide +kernel)) rfl rfl dX4_about_55 ?_
            refine lv_iload_n hx hb dX4_about_58 rfl (lv_at hl 0 rfl) ?_
            refine wR_ild (f := V 7) (v := (V 7) (12 * j)) hx hb hK hP 7 0 (by decide) rfl rfl (nx_in (k := 12 * j) rfl (by omega) (by decide)) (j := 12 * j) (nx_cl rfl (by omega)) rfl dX4_about_59 ?_
            refine lv_goto (tgt := 106) hx hb dX4_about_60 (by decide) ?_
            have hcdv : cd = 0 := (by rw [hcd, if_neg (by omega)])
            subst hcdv
            have hEI : (va_up I 0 (va_up (va_up (I 0) 0 (nI 0)) 0 (nI 0)) : Nat → Nat → Int32) = va_up I 0 (va_up (I 0) 0 (nI 0)) := by first | rfl | (simp only [bx_uu, wR_same]; done)
            have hP : va_P D vwCl (mW cI cZ ad (va_up I 0 (va_up (I 0) 0 (nI 0))) V) H := by rw [← hEI]; exact hP
            have hD : va_D A (mW cI cZ ad (va_up I 0 (va_up (I 0) 0 (nI 0))) V) := by rw [← hEI]; exact hD
            exact W.iret (v := (V 7) (12 * j)) hx hb hr (fun t ht hW => ⟨⟨(V 7) (12 * j), (), rfl, (fun _ => (by unfold abm; first | rw [if_pos (by omega)] | rw [if_neg (by omega), if_pos (by omega)] | rw [if_neg (by omega), if_neg (by omega), if_pos (by omega)] | rw [if_neg (by omega), if_neg (by omega), if_neg (by omega), if_pos (by omega)] | rw [if_neg (by omega), if_neg (by omega), if_neg (by omega), if_neg (by omega)])), by rw [ht]; exact hP, va_K.moved hW.alike hK, hD⟩, hS.F ht⟩) hS.2.2 dX4_about_106
        · have c_10 : v = 0 := (nI_eq (a := v) (b := 0) (by omega) (by omega)).mp c_10
          refine lv_aload_n hx hb dX4_about_40 rfl (lv_at hl 1 rfl) ?_
          refine wR_get (v := .ref (ad 10)) (C := RX4) (T := TX4) (N := 18) (ci := 4) hx hb hts hinX4 hown hK hP 0 (by decide) rfl rfl 17 (by decide) (hts (.fieldLink RX4 45 "ChangeStreamModel" "many" "[I") (by decide +kernel)) rfl rfl dX4_about_41 ?_
          refine lv_iload_n hx hb dX4_about_44 rfl (lv_at hl 2 rfl) ?_
          refine wR_ild (f := V 10) (v := (V 10) j) hx hb hK hP 10 0 (by decide) rfl rfl (nx_in (k := j) rfl (by omega) (by decide)) (j := j) (nx_cl rfl (by omega)) rfl dX4_about_45 ?_
          refine lv_goto (tgt := 106) hx hb dX4_about_46 (by decide) ?_
          have hcdv : cd = 0 := (by rw [hcd, if_neg (by omega)])
          subst hcdv
          have hEI : (va_up I 0 (va_up (va_up (I 0) 0 (nI 0)) 0 (nI 0)) : Nat → Nat → Int32) = va_up I 0 (va_up (I 0) 0 (nI 0)) := by first | rfl | (simp only [bx_uu, wR_same]; done)
          have hP : va_P D vwCl (mW cI cZ ad (va_up I 0 (va_up (I 0) 0 (nI 0))) V) H := by rw [← hEI]; exact hP
          have hD : va_D A (mW cI cZ ad (va_up I 0 (va_up (I 0) 0 (nI 0))) V) := by rw [← hEI]; exact hD
          exact W.iret (v := (V 10) j) hx hb hr (fun t ht hW => ⟨⟨(V 10) j, (), rfl, (fun _ => (by unfold abm; first | rw [if_pos (by omega)] | rw [if_neg (by omega), if_pos (by omega)] | rw [if_neg (by omega), if_neg (by omega), if_pos (by omega)] | rw [if_neg (by omega), if_neg (by omega), if_neg (by omega), if_pos (by omega)] | rw [if_neg (by omega), if_neg (by omega), if_neg (by omega), if_neg (by omega)])), by rw [ht]; exact hP, va_K.moved hW.alike hK, hD⟩, hS.F ht⟩) hS.2.2 dX4_about_106
      · exact absurd (by decide) c_9

set_option maxHeartbeats 4000000 in
set_option maxRecDepth 100000 in
/-- resume(x) -/
theorem c_X4_resume (l : Launch) (D : va_G) (cI cZ : ClassId) (ad : Nat → Nat) (I V : Nat → Nat → Int32) (sz : Nat) (TT lst rc kp nr : Nat) (hrc : I 0 7 = nI rc) (hT : I 0 9 = nI TT) (hkp : I 0 11 = nI kp) (hls : I 0 12 = nI lst) (hnr : I 0 13 = nI nr) (hr6 : rc ≤ 512) (hT1 : TT ≤ 512) (hkp1 : kp ≤ 30) (hls0 : 0 < lst) (hls1 : lst ≤ 513) (hnr6 : nr ≤ 6) (x : Int32) (j : Nat) (hj : j = x.toNatClampNeg) (tc t0 tr0 : Nat) (htc0 : (0 ≤ x.toInt ∧ x.toInt ≤ ((nr : Nat) : Int) - 1) → (V 10 j = nI tc ∧ tc ≤ 20) ∧ (0 < tc → V 9 (20 * j) = nI t0 ∧ t0 < rc ∧ V 5 (3 * t0) = nI tr0 ∧ tr0 ≤ 512)) (cd : Nat) (hcd : cd = if ¬ (0 ≤ x.toInt ∧ x.toInt ≤ ((nr : Nat) : Int) - 1) then 1 else 0) : Met l yX4_resume wsX4_resume ({ frames := 2, cells := 0, slots := 0, locals := 43 } : Room) (va_Pc [.ref (ad 0), .int x] (wPre D vwCl (mT cI cZ) (mW cI cZ ad I V) sz wTrue)) (va_Qi (fun (r : Int32) (u : Unit) => cd = 0 → r = nI tc) (wPost D vwCl (mT cI cZ) (fun (u : Unit) => mW cI cZ ad (va_up I 0 (va_up (I 0) 0 (nI cd))) (if cd = 0 then va_up (if 0 < tc then va_up V 7 (va_up (va_up (V 7) (12 * j) (nI tr0)) (12 * j + 1) (nI t0 - V 6 tr0)) else V) 10 (va_up (V 10) j (nI 0)) else V)) (va_A (mW cI cZ ad I V) sz)) (va_A (mW cI cZ ad I V) sz)) 0 0 (va_A (mW cI cZ ad I V) sz) := by
  refine Met.ofW (cc := cX4_resume) (maxL := 4) (ret := (some .int)) (by decide) rfl ?_
  intro p e s m args below meth c s₁ B hml hv
  obtain ⟨rfl, hsz, hP, hK, hD0, hE⟩ := hv
  have hx := B.exec
  have hb := B.bytes
  have hr := B.returns
  have hts := atoms_spec (ws := wsX4_resume) B.pre
  have hown : s.vm.findClass RX4 = some m.cls := findClass_of_methodNamed B.named
  have hlocks := B.notSynchronized
  subst hsz
  have hD := hD0.self (sz := s.heap.size)
  generalize hAe : va_A (mW cI cZ ad I V) s.heap.size = A at hD ⊢
  have hA : ∀ q : Nat, s.heap.size ≤ q → A q := fun q h => by rw [← hAe]; exact Or.inr h
  have hS : va_S A s.heap s.heap [] := va_S.rf
  have hinX4 : ∀ w ∈ wsX40, w ∈ wsX4_resume := by decide +kernel
  have hl := lv_entry ([.ref (ad 0), .int x]) (n := 4) (Nat.le_of_ble_eq_true rfl)
  rw [lg_entry_eq]
  generalize (lg_sl ([.ref (ad 0), .int x]) ++ List.replicate (4 - (lg_sl ([.ref (ad 0), .int x])).length) Slot.unset).toArray = ls at hl ⊢
  have hl : lv_has ls 4 [(0, .ref (ad 0)), (1, .int x)] := hl
  refine lv_aload_n hx hb dX4_resume_0 rfl (lv_at hl 0 rfl) ?_
  refine lv_iload_n hx hb dX4_resume_1 rfl (lv_at hl 1 rfl) ?_
  obtain ⟨cdn, hcdn⟩ : ∃ c9 : Nat, c9 = (if ¬ (0 ≤ x.toInt ∧ x.toInt ≤ ((nr : Nat) : Int) - 1) then 1 else 0) := ⟨_, rfl⟩
  have hcdn1 := m_le hcdn
  refine w_calli (w := mW cI cZ ad I V) hS hA hK hD (va_runV (As := [.int x]) (rest := []) ⟨hx, hb, hml, hown, hts⟩ (c_X4_noReader l D cI cZ ad I V s.heap.size nr hnr hnr6 x cdn hcdn) (cwV 1 hts gX4_resume_X4_noReader rfl rfl rfl (by decide +kernel) ⟨Nat.le_of_ble_eq_true rfl, Nat.le_of_ble_eq_true rfl⟩) ⟨(w_pre hP hK hD wEnv_true).1, wR_recv (C := RX4) (T := TX4) (N := 18) hK hP (ci := 4) rfl 0 (by decide) rfl, (w_pre hP hK hD wEnv_true).2⟩ rfl rfl hl.1 rfl (lv_room (Nat.le_of_ble_eq_true rfl)) dX4_resume_2 ⟨Nat.le_of_ble_eq_true rfl, Nat.le_of_ble_eq_true rfl⟩) (fun r_1 u H locs hw hP hD hS hz => ?_)
  rw [show r_1 = nI cdn from hw]
  refine lv_if_eq (tgt := 10) hx hb dX4_resume_5 (by decide) (fun c_2 => ?_) (fun c_2 => ?_)
  · have c_2 : cdn = 0 := (nI_eq (a := cdn) (b := 0) (by omega) (by omega)).mp c_2
    have hq9 := m_0 hcdn c_2
    subst c_2
    obtain ⟨hxjx, hxix⟩ := nx_nn (x := x) (by omega)
    rw [← hj] at hxjx hxix
    rw [hxjx] at hl
    obtain ⟨⟨htc, htc2⟩, ht9⟩ := htc0 hq9
    refine lv_aload_n hx hb dX4_resume_10 rfl (lv_at hl 0 rfl) ?_
    refine wR_get (v := .ref (ad 10)) (C := RX4) (T := TX4) (N := 18) (ci := 4) hx hb hts hinX4 hown hK hP 0 (by decide) rfl rfl 17 (by decide) (hts (.fieldLink RX4 45 "ChangeStreamModel" "many" "[I") (by decide +kernel)) rfl rfl dX4_resume_11 ?_
    refine lv_iload_n hx hb dX4_resume_14 rfl (lv_at hl 1 rfl) ?_
    refine wR_ild (f := V 10) (v := nI tc) hx hb hK hP 10 0 (by decide) rfl rfl (nx_in (k := j) rfl (by omega) (by decide)) (j := j) (nx_cl rfl (by omega)) htc dX4_resume_15 ?_
    refine lv_istore_n (lv' := [(2, .int (nI tc)), (0, .ref (ad 0)), (1, .int (nI j))]) hx hb dX4_resume_16 rfl hl (by decide) rfl (fun ls hl => ?_)
    refine lv_iload_n hx hb dX4_resume_17 rfl (lv_at hl 0 rfl) ?_
    refine lv_if_le (tgt := 74) hx hb dX4_resume_18 (by decide) (fun c_3 => ?_) (fun c_3 => ?_)
    · have c_3 : tc ≤ 0 := (nI_leI (a := tc) (b := 0) (by omega) (by omega)).mp c_3
      refine lv_aload_n hx hb dX4_resume_74 rfl (lv_at hl 1 rfl) ?_
      refine wR_get (v := .ref (ad 10)) (C := RX4) (T := TX4) (N := 18) (ci := 4) hx hb hts hinX4 hown hK hP 0 (by decide) rfl rfl 17 (by decide) (hts (.fieldLink RX4 45 "ChangeStreamModel" "many" "[I") (by decide +kernel)) rfl rfl dX4_resume_75 ?_
      refine lv_iload_n hx hb dX4_resume_78 rfl (lv_at hl 2 rfl) ?_
      refine lv_iconst (v := nI 0) hx hb dX4_resume_79 (by decide) ?_
      refine wR_ist (f := V 10) hx hb hK hP hD hS 10 0 (by decide) rfl rfl (nx_in (k := j) rfl (by omega) (by decide)) (j := j) (nx_cl rfl (by omega)) rfl dX4_resume_80 (fun H locs hP hD hS => ?_)
      refine lv_iload_n hx hb dX4_resume_81 rfl (lv_at hl 0 rfl) ?_
      have hcdv : cd = 0 := (by rw [hcd, if_neg (by omega)])
      subst hcdv
      have hEV : (va_up V 10 (va_up (V 10) j (nI 0)) : Nat → Nat → Int32) = if 0 = 0 then va_up (if 0 < tc then va_up V 7 (va_up (va_up (V 7) (12 * j) (nI tr0)) (12 * j + 1) (nI t0 - V 6 tr0)) else V) 10 (va_up (V 10) j (nI 0)) else V := by rw [if_pos (show 0 = 0 from rfl), if_neg (show ¬ 0 < tc by omega)]
      have hP : va_P D vwCl (mW cI cZ ad (va_up I 0 (va_up (I 0) 0 (nI 0))) (if 0 = 0 then va_up (if 0 < tc then va_up V 7 (va_up (va_up (V 7) (12 * j) (nI tr0)) (12 * j + 1) (nI t0 - V 6 tr0)) else V) 10 (va_up (V 10) j (nI 0)) else V)) H := by rw [← hEV]; exact hP
      have hD : va_D A (mW cI cZ ad (va_up I 0 (va_up (I 0) 0 (nI 0))) (if 0 = 0 then va_up (if 0 < tc then va_up V 7 (va_up (va_up (V 7) (12 * j) (nI tr0)) (12 * j + 1) (nI t0 - V 6 tr0)) else V) 10 (va_up (V 10) j (nI 0)) else V)) := by rw [← hEV]; exact hD
      exact W.iret (v := nI tc) hx hb hr (fun t ht hW => ⟨⟨nI tc, (), rfl, (fun _ => rfl), by rw [ht]; exact hP, va_K.moved hW.alike hK, hD⟩, hS.F ht⟩) hS.2.2 dX4_resume_82
    · have c_3 : ¬ (tc ≤ 0) := fun h9 => c_3 ((nI_leI (a := tc) (b := 0) (by omega) (by omega)).mpr h9)
      obtain ⟨ht0, ht1, ht2, ht3⟩ := ht9 (by omega)
      refine lv_aload_n hx hb dX4_resume_21 rfl (lv_at hl 1 rfl) ?_
      refine wR_get (v := .ref (ad 9)) (C := RX4) (T := TX4) (N := 18) (ci := 4) hx hb hts hinX4 hown hK hP 0 (by decide) rfl rfl 16 (by decide) (hts (.fieldLink RX4 42 "ChangeStreamModel" "taken" "[I") (by decide +kernel)) rfl rfl dX4_resume_22 ?_
      refine lv_bipush (v := nI 20) hx hb dX4_resume_25 (by decide) ?_
      refine lv_iload_n hx hb dX4_resume_27 rfl (lv_at hl 2 rfl) ?_
      refine lv_imul hx hb dX4_resume_28 ?_
      rw [pk_mul]
      refine wR_ild (f := V 9) (v := nI t0) hx hb hK hP 9 0 (by decide) rfl rfl (nx_in (k := 20 * j) rfl (by omega) (by decide)) (j := 20 * j) (nx_cl rfl (by omega)) ht0 dX4_resume_29 ?_
      refine lv_istore_n (lv' := [(3, .int (nI t0)), (2, .int (nI tc)), (0, .ref (ad 0)), (1, .int (nI j))]) hx hb dX4_resume_30 rfl hl (by decide) rfl (fun ls hl => ?_)
      refine lv_aload_n hx hb dX4_resume_31 rfl (lv_at hl 2 rfl) ?_
      refine wR_get (v := .ref (ad 7)) (C := RX4) (T := TX4) (N := 18) (ci := 4) hx hb hts hinX4 hown hK hP 0 (by decide) rfl rfl 14 (by decide) (hts (.fieldLink RX4 36 "ChangeStreamModel" "of" "[I") (by decide +kernel)) rfl rfl dX4_resume_32 ?_
      refine lv_bipush (v := nI 12) hx hb dX4_resume_35 (by decide) ?_
      refine lv_iload_n hx hb dX4_resume_37 rfl (lv_at hl 3 rfl) ?_
      refine lv_imul hx hb dX4_resume_38 ?_
      rw [pk_mul]
      refine lv_aload_n hx hb dX4_resume_39 rfl (lv_at hl 2 rfl) ?_
      refine wR_get (v := .ref (ad 5)) (C := RX4) (T := TX4) (N := 18) (ci := 4) hx hb hts hinX4 hown hK hP 0 (by decide) rfl rfl 8 (by decide) (hts (.fieldLink RX4 23 "ChangeStreamModel" "table" "[I") (by decide +kernel)) rfl rfl dX4_resume_40 ?_
      refine lv_iconst (v := nI 3) hx hb dX4_resume_43 (by decide) ?_
      refine lv_iload_n hx hb dX4_resume_44 rfl (lv_at hl 0 rfl) ?_
      refine lv_imul hx hb dX4_resume_45 ?_
      rw [pk_mul]
      refine wR_ild (f := V 5) (v := nI tr0) hx hb hK hP 5 0 (by decide) rfl rfl (nx_in (k := 3 * t0) rfl (by omega) (by decide)) (j := 3 * t0) (nx_cl rfl (by omega)) ht2 dX4_resume_46 ?_
      refine wR_ist (f := V 7) hx hb hK hP hD hS 7 0 (by decide) rfl rfl (nx_in (k := 12 * j) rfl (by omega) (by decide)) (j := 12 * j) (nx_cl rfl (by omega)) rfl dX4_resume_47 (fun H locs hP hD hS => ?_)
      refine lv_aload_n hx hb dX4_resume_48 rfl (lv_at hl 2 rfl) ?_
      refine wR_get (v := .ref (ad 7)) (C := RX4) (T := TX4) (N := 18) (ci := 4) hx hb hts hinX4 hown hK hP 0 (by decide) rfl rfl 14 (by decide) (hts (.fieldLink RX4 36 "ChangeStreamModel" "of" "[I") (by decide +kernel)) rfl rfl dX4_resume_49 ?_
      refine lv_bipush (v := nI 12) hx hb dX4_resume_52 (by decide) ?_
      refine lv_iload_n hx hb dX4_resume_54 rfl (lv_at hl 3 rfl) ?_
      refine lv_imul hx hb dX4_resume_55 ?_
      rw [pk_mul]
      refine lv_iconst (v := nI 1) hx hb dX4_resume_56 (by decide) ?_
      refine lv_iadd hx hb dX4_resume_57 ?_
      rw [nI_add]
      refine lv_iload_n hx hb dX4_resume_58 rfl (lv_at hl 0 rfl) ?_
      refine lv_aload_n hx hb dX4_resume_59 rfl (lv_at hl 2 rfl) ?_
      refine wR_get (v := .ref (ad 6)) (C := RX4) (T := TX4) (N := 18) (ci := 4) hx hb hts hinX4 hown hK hP 0 (by decide) rfl rfl 10 (by decide) (hts (.fieldLink RX4 26 "ChangeStreamModel" "begins" "[I") (by decide +kernel)) rfl rfl dX4_resume_60 ?_
      refine lv_aload_n hx hb dX4_resume_63 rfl (lv_at hl 2 rfl) ?_
      refine wR_get (v := .ref (ad 5)) (C := RX4) (T := TX4) (N := 18) (ci := 4) hx hb hts hinX4 hown hK hP 0 (by decide) rfl rfl 8 (by decide) (hts (.fieldLink RX4 23 "ChangeStreamModel" "table" "[I") (by decide +kernel)) rfl rfl dX4_resume_64 ?_
      refine lv_iconst (v := nI 3) hx hb dX4_resume_67 (by decide) ?_
      refine lv_iload_n hx hb dX4_resume_68 rfl (lv_at hl 0 rfl) ?_
      refine lv_imul hx hb dX4_resume_69 ?_
      rw [pk_mul]
      refine wR_ild (f := V 5) (v := nI tr0) hx hb hK hP 5 0 (by decide) rfl rfl (nx_in (k := 3 * t0) rfl (by omega) (by decide)) (j := 3 * t0) (nx_cl rfl (by omega)) ht2 dX4_resume_70 ?_
      refine wR_ild (f := V 6) (v := (V 6) tr0) hx hb hK hP 6 0 (by decide) rfl rfl (nx_in (k := tr0) rfl (by omega) (by decide)) (j := tr0) (nx_cl rfl (by omega)) rfl dX4_resume_71 ?_
      refine lv_isub hx hb dX4_resume_72 ?_
      refine wR_ist (f := va_up (V 7) (12 * j) (nI tr0)) hx hb hK hP hD hS 7 0 (by decide) rfl rfl (nx_in (k := 12 * j + 1) rfl (by omega) (by decide)) (j := 12 * j + 1) (nx_cl rfl (by omega)) rfl dX4_resume_73 (fun H locs hP hD hS => ?_)
      rw [bx_uu] at hP hD
      refine lv_aload_n hx hb dX4_resume_74 rfl (lv_at hl 2 rfl) ?_
      refine wR_get (v := .ref (ad 10)) (C := RX4) (T := TX4) (N := 18) (ci := 4) hx hb hts hinX4 hown hK hP 0 (by decide) rfl rfl 17 (by decide) (hts (.fieldLink RX4 45 "ChangeStreamModel" "many" "[I") (by decide +kernel)) rfl rfl dX4_resume_75 ?_
      refine lv_iload_n hx hb dX4_resume_78 rfl (lv_at hl 3 rfl) ?_
      refine lv_iconst (v := nI 0) hx hb dX4_resume_79 (by decide) ?_
      refine wR_ist (f := V 10) hx hb hK hP hD hS 10 0 (by decide) rfl rfl (nx_in (k := j) rfl (by omega) (by decide)) (j := j) (nx_cl rfl (by omega)) rfl dX4_resume_80 (fun H locs hP hD hS => ?_)
      refine lv_iload_n hx hb dX4_resume_81 rfl (lv_at hl 1 rfl) ?_
      have hcdv : cd = 0 := (by rw [hcd, if_neg (by omega)])
      subst hcdv
      have hEV : (va_up (va_up V 7 (va_up (va_up (V 7) (12 * j) (nI tr0)) (12 * j + 1) ((nI t0) - ((V 6) tr0)))) 10 (va_up (V 10) j (nI 0)) : Nat → Nat → Int32) = if 0 = 0 then va_up (if 0 < tc then va_up V 7 (va_up (va_up (V 7) (12 * j) (nI tr0)) (12 * j + 1) (nI t0 - V 6 tr0)) else V) 10 (va_up (V 10) j (nI 0)) else V := by rw [if_pos (show 0 = 0 from rfl), if_pos (show 0 < tc by omega)]
      have hP : va_P D vwCl (mW cI cZ ad (va_up I 0 (va_up (I 0) 0 (nI 0))) (if 0 = 0 then va_up (if 0 < tc then va_up V 7 (va_up (va_up (V 7) (12 * j) (nI tr0)) (12 * j + 1) (nI t0 - V 6 tr0)) else V) 10 (va_up (V 10) j (nI 0)) else V)) H := by rw [← hEV]; exact hP
      have hD : va_D A (mW cI cZ ad (va_up I 0 (va_up (I 0) 0 (nI 0))) (if 0 = 0 then va_up (if 0 < tc then va_up V 7 (va_up (va_up (V 7) (12 * j) (nI tr0)) (12 * j + 1) (nI t0 - V 6 tr0)) else V) 10 (va_up (V 10) j (nI 0)) else V)) := by rw [← hEV]; exact hD
      exact W.iret (v := nI tc) hx hb hr (fun t ht hW => ⟨⟨nI tc, (), rfl, (fun _ => rfl), by rw [ht]; exact hP, va_K.moved hW.alike hK, hD⟩, hS.F ht⟩) hS.2.2 dX4_resume_82
  · have c_2 : ¬ (cdn = 0) := fun h9 => c_2 ((nI_eq (a := cdn) (b := 0) (by omega) (by omega)).mpr h9)
    have hq9 := m_1 hcdn c_2
    have hc1 : cdn = 1 := by omega
    subst hc1
    refine lv_iconst (v := nI 0) hx hb dX4_resume_8 (by decide) ?_
    have hcdv : cd = 1 := (by rw [hcd, if_pos (by omega)])
    subst hcdv
    have hEV : (V : Nat → Nat → Int32) = if 1 = 0 then va_up (if 0 < tc then va_up V 7 (va_up (va_up (V 7) (12 * j) (nI tr0)) (12 * j + 1) (nI t0 - V 6 tr0)) else V) 10 (va_up (V 10) j (nI 0)) else V := by first | rfl | (simp only [bx_uu, wR_same]; done)
    have hP : va_P D vwCl (mW cI cZ ad (va_up I 0 (va_up (I 0) 0 (nI 1))) (if 1 = 0 then va_up (if 0 < tc then va_up V 7 (va_up (va_up (V 7) (12 * j) (nI tr0)) (12 * j + 1) (nI t0 - V 6 tr0)) else V) 10 (va_up (V 10) j (nI 0)) else V)) H := by rw [← hEV]; exact hP
    have hD : va_D A (mW cI cZ ad (va_up I 0 (va_up (I 0) 0 (nI 1))) (if 1 = 0 then va_up (if 0 < tc then va_up V 7 (va_up (va_up (V 7) (12 * j) (nI tr0)) (12 * j + 1) (nI t0 - V 6 tr0)) else V) 10 (va_up (V 10) j (nI 0)) else V)) := by rw [← hEV]; exact hD
    exact W.iret (v := nI 0) hx hb hr (fun t ht hW => ⟨⟨nI 0, (), rfl, (fun h9 => absurd h9 (by decide)), by rw [ht]; exact hP, va_K.moved hW.alike hK, hD⟩, hS.F ht⟩) hS.2.2 dX4_resume_9
