theorem m_0 {c : Nat} {Z : Prop} [Decidable Z] (h : c = if ¬ Z then 1 else 0) (h2 : c = 0) : Z := Decidable.byContradiction (fun hz => by rw [if_pos hz] at h; omega)
theorem m_1 {c : Nat} {Z : Prop} [Decidable Z] (h : c = if ¬ Z then 1 else 0) (h2 : ¬ c = 0) : ¬ Z := fun hz => by rw [if_neg (fun h9 => h9 hz)] at h; exact h2 h
theorem m_le {c : Nat} {Z : Prop} [Decidable Z] (h : c = if ¬ Z then 1 else 0) : c ≤ 1 := by rw [h]; split <;> omega

set_option maxHeartbeats 4000000 in
set_option maxRecDepth 100000 in
/-- within(x, lo, hi) -/
theorem c_X4_within (l : Launch) (D : va_G) (tys : List (ClassId × FieldType)) (w : va_W) (E : State → Prop) (sz : Nat) (x lo hi : Int32) : Met l yX4_within wsX4_within ({ frames := 0, cells := 0, slots := 0, locals := 0 } : Room) (va_Pc [.int x, .int lo, .int hi] (wPre D vwCl tys (w) sz E)) (va_Qi (fun (r : Int32) (u : Unit) => r = wI x lo.toInt hi.toInt) (wPost D vwCl tys (fun (u : Unit) => w) (va_A (w) sz)) (va_A (w) sz)) 0 0 (va_A (w) sz) := by
  refine Met.ofW (cc := cX4_within) (maxL := 3) (ret := (some .boolean)) (by decide) rfl ?_
  intro p e s m args below meth c s₁ B hml hv
  obtain ⟨rfl, hsz, hP, hK, hD0, hE⟩ := hv
  have hx := B.exec
  have hb := B.bytes
  have hr := B.returns
  have hts := atoms_spec (ws := wsX4_within) B.pre
  have hown : s.vm.findClass RX4 = some m.cls := findClass_of_methodNamed B.named
  have hlocks := B.notSynchronized
  subst hsz
  have hD := hD0.self (sz := s.heap.size)
  generalize hAe : va_A (w) s.heap.size = A at hD ⊢
  have hA : ∀ q : Nat, s.heap.size ≤ q → A q := fun q h => by rw [← hAe]; exact Or.inr h
  have hS : va_S A s.heap s.heap [] := va_S.rf
  have hl := lv_entry ([.int x, .int lo, .int hi]) (n := 3) (Nat.le_of_ble_eq_true rfl)
  rw [lg_entry_eq]
  generalize (lg_sl ([.int x, .int lo, .int hi]) ++ List.replicate (3 - (lg_sl ([.int x, .int lo, .int hi])).length) Slot.unset).toArray = ls at hl ⊢
  have hl : lv_has ls 3 [(0, .int x), (1, .int lo), (2, .int hi)] := hl
  refine lv_iload_n hx hb dX4_within_0 rfl (lv_at hl 0 rfl) ?_
  refine lv_iload_n hx hb dX4_within_1 rfl (lv_at hl 1 rfl) ?_
  refine lv_icmp_lt (tgt := 14) hx hb dX4_within_2 (by decide) (fun c_1 => ?_) (fun c_1 => ?_)
  · refine lv_iconst (v := nI 0) hx hb dX4_within_14 (by decide) ?_
    exact W.zret (v := nI 0) hx hb hr rfl (fun t ht hW => ⟨⟨nI 0, (), rfl, (by simp only [Int32.lt_iff_toInt_lt] at *; first | exact wI_1 (by omega) (by omega) | exact wI_0 (by omega)), by rw [ht]; exact hP, va_K.moved hW.alike hK, hD⟩, hS.F ht⟩) hS.2.2 dX4_within_15
  · refine lv_iload_n hx hb dX4_within_5 rfl (lv_at hl 0 rfl) ?_
    refine lv_iload_n hx hb dX4_within_6 rfl (lv_at hl 2 rfl) ?_
    refine lv_icmp_gt (tgt := 14) hx hb dX4_within_7 (by decide) (fun c_2 => ?_) (fun c_2 => ?_)
    · refine lv_iconst (v := nI 0) hx hb dX4_within_14 (by decide) ?_
      exact W.zret (v := nI 0) hx hb hr rfl (fun t ht hW => ⟨⟨nI 0, (), rfl, (by simp only [Int32.lt_iff_toInt_lt] at *; first | exact wI_1 (by omega) (by omega) | exact wI_0 (by omega)), by rw [ht]; exact hP, va_K.moved hW.alike hK, hD⟩, hS.F ht⟩) hS.2.2 dX4_within_15
    · refine lv_iconst (v := nI 1) hx hb dX4_within_10 (by decide) ?_
      refine lv_goto (tgt := 15) hx hb dX4_within_11 (by decide) ?_
      exact W.zret (v := nI 1) hx hb hr rfl (fun t ht hW => ⟨⟨nI 1, (), rfl, (by simp only [Int32.lt_iff_toInt_lt] at *; first | exact wI_1 (by omega) (by omega) | exact wI_0 (by omega)), by rw [ht]; exact hP, va_K.moved hW.alike hK, hD⟩, hS.F ht⟩) hS.2.2 dX4_within_15

set_option maxHeartbeats 4000000 in
set_option maxRecDepth 100000 in
/-- thrown() -/
theorem c_X4_thrown (l : Launch) (D : va_G) (cI cZ : ClassId) (ad : Nat → Nat) (I V : Nat → Nat → Int32) (sz : Nat)  : Met l yX4_thrown wsX4_thrown ({ frames := 0, cells := 0, slots := 0, locals := 0 } : Room) (va_Pc [.ref (ad 0)] (wPre D vwCl (mT cI cZ) (mW cI cZ ad I V) sz wTrue)) (va_Qi (fun (r : Int32) (u : Unit) => r = I 0 0) (wPost D vwCl (mT cI cZ) (fun (u : Unit) => mW cI cZ ad I V) (va_A (mW cI cZ ad I V) sz)) (va_A (mW cI cZ ad I V) sz)) 0 0 (va_A (mW cI cZ ad I V) sz) := by
  refine Met.ofW (cc := cX4_thrown) (maxL := 1) (ret := (some .int)) (by decide) rfl ?_
  intro p e s m args below meth c s₁ B hml hv
  obtain ⟨rfl, hsz, hP, hK, hD0, hE⟩ := hv
  have hx := B.exec
  have hb := B.bytes
  have hr := B.returns
  have hts := atoms_spec (ws := wsX4_thrown) B.pre
  have hown : s.vm.findClass RX4 = some m.cls := findClass_of_methodNamed B.named
  have hlocks := B.notSynchronized
  subst hsz
  have hD := hD0.self (sz := s.heap.size)
  generalize hAe : va_A (mW cI cZ ad I V) s.heap.size = A at hD ⊢
  have hA : ∀ q : Nat, s.heap.size ≤ q → A q := fun q h => by rw [← hAe]; exact Or.inr h
  have hS : va_S A s.heap s.heap [] := va_S.rf
  have hinX4 : ∀ w ∈ wsX40, w ∈ wsX4_thrown := by decide +kernel
  have hl := lv_entry ([.ref (ad 0)]) (n := 1) (Nat.le_of_ble_eq_true rfl)
  rw [lg_entry_eq]
  generalize (lg_sl ([.ref (ad 0)]) ++ List.replicate (1 - (lg_sl ([.ref (ad 0)])).length) Slot.unset).toArray = ls at hl ⊢
  have hl : lv_has ls 1 [(0, .ref (ad 0))] := hl
  refine lv_aload_n hx hb dX4_thrown_0 rfl (lv_at hl 0 rfl) ?_
  refine wR_get (v := .int (I 0 0)) (C := RX4) (T := TX4) (N := 18) (ci := 4) hx hb hts hinX4 hown hK hP 0 (by decide) rfl rfl 0 (by decide) (hts (.fieldLink RX4 48 "ChangeStreamModel" "code" "I") (by decide +kernel)) rfl rfl dX4_thrown_1 ?_
  exact W.iret (v := I 0 0) hx hb hr (fun t ht hW => ⟨⟨I 0 0, (), rfl, rfl, by rw [ht]; exact hP, va_K.moved hW.alike hK, hD⟩, hS.F ht⟩) hS.2.2 dX4_thrown_4

set_option maxHeartbeats 4000000 in
set_option maxRecDepth 100000 in
/-- refuses(c) -/
theorem c_X4_refuses (l : Launch) (D : va_G) (cI cZ : ClassId) (ad : Nat → Nat) (I V : Nat → Nat → Int32) (sz : Nat) (cv : Nat) (hc2 : cv ≤ 2) : Met l yX4_refuses wsX4_refuses ({ frames := 0, cells := 0, slots := 0, locals := 0 } : Room) (va_Pc [.ref (ad 0), .int (nI cv)] (wPre D vwCl (mT cI cZ) (mW cI cZ ad I V) sz wTrue)) (va_Qi (fun (r : Int32) (u : Unit) => r = nI (if 0 < cv then 1 else 0)) (wPost D vwCl (mT cI cZ) (fun (u : Unit) => mW cI cZ ad (va_up I 0 (va_up (I 0) 0 (nI cv))) V) (va_A (mW cI cZ ad I V) sz)) (va_A (mW cI cZ ad I V) sz)) 0 0 (va_A (mW cI cZ ad I V) sz) := by
  refine Met.ofW (cc := cX4_refuses) (maxL := 2) (ret := (some .boolean)) (by decide) rfl ?_
  intro p e s m args below meth c s₁ B hml hv
  obtain ⟨rfl, hsz, hP, hK, hD0, hE⟩ := hv
  have hx := B.exec
  have hb := B.bytes
  have hr := B.returns
  have hts := atoms_spec (ws := wsX4_refuses) B.pre
  have hown : s.vm.findClass RX4 = some m.cls := findClass_of_methodNamed B.named
  have hlocks := B.notSynchronized
  subst hsz
  have hD := hD0.self (sz := s.heap.size)
  generalize hAe : va_A (mW cI cZ ad I V) s.heap.size = A at hD ⊢
  have hA : ∀ q : Nat, s.heap.size ≤ q → A q := fun q h => by rw [← hAe]; exact Or.inr h
  have hS : va_S A s.heap s.heap [] := va_S.rf
  have hinX4 : ∀ w ∈ wsX40, w ∈ wsX4_refuses := by decide +kernel
  have hl := lv_entry ([.ref (ad 0), .int (nI cv)]) (n := 2) (Nat.le_of_ble_eq_true rfl)
  rw [lg_entry_eq]
  generalize (lg_sl ([.ref (ad 0), .int (nI cv)]) ++ List.replicate (2 - (lg_sl ([.ref (ad 0), .int (nI cv)])).length) Slot.unset).toArray = ls at hl ⊢
  have hl : lv_has ls 2 [(0, .ref (ad 0)), (1, .int (nI cv))] := hl
  refine lv_aload_n hx hb dX4_refuses_0 rfl (lv_at hl 0 rfl) ?_
  refine lv_iload_n hx hb dX4_refuses_1 rfl (lv_at hl 1 rfl) ?_
  refine wR_put (C := RX4) (T := TX4) (N := 18) (ci := 4) hx hb hts hinX4 tyX4 tyX4_ok nmX4 hown hK hP hD hS 0 (by decide) rfl rfl 0 (by decide) (hts (.fieldLink RX4 48 "ChangeStreamModel" "code" "I") (by decide +kernel)) rfl rfl (by decide +kernel) (by simp) (va_up (I 0) 0 (nI cv)) rfl dX4_refuses_2 (fun H locs hP hD hS => ?_)
  refine lv_iload_n hx hb dX4_refuses_5 rfl (lv_at hl 1 rfl) ?_
  refine lv_if_le (tgt := 13) hx hb dX4_refuses_6 (by decide) (fun c_1 => ?_) (fun c_1 => ?_)
  · have c_1 : cv ≤ 0 := (nI_leI (a := cv) (b := 0) (by omega) (by omega)).mp c_1
    refine lv_iconst (v := nI 0) hx hb dX4_refuses_13 (by decide) ?_
    exact W.zret (v := nI 0) hx hb hr rfl (fun t ht hW => ⟨⟨nI 0, (), rfl, (by first | rw [if_pos (by omega)] | rw [if_neg (by omega)]), by rw [ht]; exact hP, va_K.moved hW.alike hK, hD⟩, hS.F ht⟩) hS.2.2 dX4_refuses_14
  · have c_1 : ¬ (cv ≤ 0) := fun h9 => c_1 ((nI_leI (a := cv) (b := 0) (by omega) (by omega)).mpr h9)
    refine lv_iconst (v := nI 1) hx hb dX4_refuses_9 (by decide) ?_
    refine lv_goto (tgt := 14) hx hb dX4_refuses_10 (by decide) ?_
    exact W.zret (v := nI 1) hx hb hr rfl (fun t ht hW => ⟨⟨nI 1, (), rfl, (by first | rw [if_pos (by omega)] | rw [if_neg (by omega)]), by rw [ht]; exact hP, va_K.moved hW.alike hK, hD⟩, hS.F ht⟩) hS.2.2 dX4_refuses_14

set_option maxHeartbeats 4000000 in
set_option maxRecDepth 100000 in
/-- fact(g, pr) -/
theorem c_X4_fact (l : Launch) (D : va_G) (cI cZ : ClassId) (ad : Nat → Nat) (I V : Nat → Nat → Int32) (sz : Nat) (k : Nat) (hk : I 0 1 = nI k) (hk1 : k ≤ 100) (g pr : Int32) (cd : Nat) (hcd : cd = if ¬ (0 ≤ g.toInt ∧ g.toInt ≤ 7) ∨ ¬ (0 ≤ pr.toInt ∧ pr.toInt ≤ 15) then 1 else if k = 100 then 2 else 0) : Met l yX4_fact wsX4_fact ({ frames := 1, cells := 0, slots := 0, locals := 22 } : Room) (va_Pc [.ref (ad 0), .int g, .int pr] (wPre D vwCl (mT cI cZ) (mW cI cZ ad I V) sz wTrue)) (va_Qi (fun (r : Int32) (u : Unit) => cd = 0 → r = nI k) (wPost D vwCl (mT cI cZ) (fun (u : Unit) => mW cI cZ ad (if cd = 0 then va_up I 0 (va_up (va_up (I 0) 0 (nI 0)) 1 (nI (k + 1))) else va_up I 0 (va_up (I 0) 0 (nI cd))) (if cd = 0 then va_up (va_up (va_up V 1 (va_up (V 1) k g)) 2 (va_up (V 2) k pr)) 3 (va_up (V 3) k (nI 0)) else V)) (va_A (mW cI cZ ad I V) sz)) (va_A (mW cI cZ ad I V) sz)) 0 0 (va_A (mW cI cZ ad I V) sz) := by
  refine Met.ofW (cc := cX4_fact) (maxL := 3) (ret := (some .int)) (by decide) rfl ?_
  intro p e s m args below meth c s₁ B hml hv
  obtain ⟨rfl, hsz, hP, hK, hD0, hE⟩ := hv
  have hx := B.exec
  have hb := B.bytes
  have hr := B.returns
  have hts := atoms_spec (ws := wsX4_fact) B.pre
  have hown : s.vm.findClass RX4 = some m.cls := findClass_of_methodNamed B.named
  have hlocks := B.notSynchronized
  subst hsz
  have hD := hD0.self (sz := s.heap.size)
  generalize hAe : va_A (mW cI cZ ad I V) s.heap.size = A at hD ⊢
  have hA : ∀ q : Nat, s.heap.size ≤ q → A q := fun q h => by rw [← hAe]; exact Or.inr h
  have hS : va_S A s.heap s.heap [] := va_S.rf
  have hinX4 : ∀ w ∈ wsX40, w ∈ wsX4_fact := by decide +kernel
  have hl := lv_entry ([.ref (ad 0), .int g, .int pr]) (n := 3) (Nat.le_of_ble_eq_true rfl)
  rw [lg_entry_eq]
  generalize (lg_sl ([.ref (ad 0), .int g, .int pr]) ++ List.replicate (3 - (lg_sl ([.ref (ad 0), .int g, .int pr])).length) Slot.unset).toArray = ls at hl ⊢
  have hl : lv_has ls 3 [(0, .ref (ad 0)), (1, .int g), (2, .int pr)] := hl
  refine lv_aload_n hx hb dX4_fact_0 rfl (lv_at hl 0 rfl) ?_
  refine lv_iload_n hx hb dX4_fact_1 rfl (lv_at hl 1 rfl) ?_
  refine lv_iconst (v := nI 0) hx hb dX4_fact_2 (by decide) ?_
  refine lv_bipush (v := nI 7) hx hb dX4_fact_3 (by decide) ?_
  refine w_calli (w := mW cI cZ ad I V) hS hA hK hD (va_runS (As := [.int g, .int (nI 0), .int (nI 7)]) (rest := [.ref (ad 0)]) ⟨hx, hb, hml, hown, hts⟩ (c_X4_within l D (mT cI cZ) (mW cI cZ ad I V) wTrue s.heap.size g (nI 0) (nI 7)) (va_cwS 3 hts gX4_fact_X4_within rfl rfl rfl (by decide +kernel) ⟨Nat.le_of_ble_eq_true rfl, Nat.le_of_ble_eq_true rfl⟩) (w_pre hP hK hD wEnv_true) rfl rfl hl.1 rfl (lv_room (Nat.le_of_ble_eq_true rfl)) dX4_fact_5 ⟨Nat.le_of_ble_eq_true rfl, Nat.le_of_ble_eq_true rfl⟩) (fun r_2 u H locs hw hP hD hS hz => ?_)
  have hw_1 : r_2 = wI g (0) (7) := by rw [hw, nI_toInt (n := 0) (by decide), nI_toInt (n := 7) (by decide)]; rfl
  refine lv_if_eq (tgt := 21) hx hb dX4_fact_8 (by decide) (fun c_3 => ?_) (fun c_3 => ?_)
  · have qhw_1 := wI_out hw_1 c_3
    refine lv_iconst (v := nI 1) hx hb dX4_fact_21 (by decide) ?_
    refine lv_goto (tgt := 39) hx hb dX4_fact_22 (by decide) ?_
    refine w_calli (w := mW cI cZ ad I V) hS hA hK hD (va_runV (As := [.int (nI 1)]) (rest := []) ⟨hx, hb, hml, hown, hts⟩ (c_X4_refuses l D cI cZ ad I V H.size 1 (by decide)) (cwV 1 hts gX4_fact_X4_refuses rfl rfl rfl (by decide +kernel) ⟨Nat.le_of_ble_eq_true rfl, Nat.le_of_ble_eq_true rfl⟩) ⟨(w_pre hP hK hD wEnv_true).1, wR_recv (C := RX4) (T := TX4) (N := 18) hK hP (ci := 4) rfl 0 (by decide) rfl, (w_pre hP hK hD wEnv_true).2⟩ rfl rfl hl.1 rfl (lv_room (Nat.le_of_ble_eq_true rfl)) dX4_fact_39 ⟨Nat.le_of_ble_eq_true rfl, Nat.le_of_ble_eq_true rfl⟩) (fun r_4 u H locs hw hP hD hS hz => ?_)
    rw [show r_4 = nI 1 from hw]
    refine lv_if_eq (tgt := 47) hx hb dX4_fact_42 (by decide) (fun c_5 => ?_) (fun c_5 => ?_)
    · exact absurd c_5 (by decide)
    · refine lv_iconst (v := nI 0) hx hb dX4_fact_45 (by decide) ?_
      have hcdv : cd = 1 := (by rw [hcd, if_pos (by omega)])
      subst hcdv
      have hEI : (va_up I 0 (va_up (I 0) 0 (nI 1)) : Nat → Nat → Int32) = if 1 = 0 then va_up I 0 (va_up (va_up (I 0) 0 (nI 0)) 1 (nI (k + 1))) else va_up I 0 (va_up (I 0) 0 (nI 1)) := by first | rfl | (simp only [bx_uu, wR_same]; done)
      have hEV : (V : Nat → Nat → Int32) = if 1 = 0 then va_up (va_up (va_up V 1 (va_up (V 1) k g)) 2 (va_up (V 2) k pr)) 3 (va_up (V 3) k (nI 0)) else V := by first | rfl | (simp only [bx_uu, wR_same]; done)
      have hP : va_P D vwCl (mW cI cZ ad (if 1 = 0 then va_up I 0 (va_up (va_up (I 0) 0 (nI 0)) 1 (nI (k + 1))) else va_up I 0 (va_up (I 0) 0 (nI 1))) (if 1 = 0 then va_up (va_up (va_up V 1 (va_up (V 1) k g)) 2 (va_up (V 2) k pr)) 3 (va_up (V 3) k (nI 0)) else V)) H := by rw [← hEI, ← hEV]; exact hP
      have hD : va_D A (mW cI cZ ad (if 1 = 0 then va_up I 0 (va_up (va_up (I 0) 0 (nI 0)) 1 (nI (k + 1))) else va_up I 0 (va_up (I 0) 0 (nI 1))) (if 1 = 0 then va_up (va_up (va_up V 1 (va_up (V 1) k g)) 2 (va_up (V 2) k pr)) 3 (va_up (V 3) k (nI 0)) else V)) := by rw [← hEI, ← hEV]; exact hD
      exact W.iret (v := nI 0) hx hb hr (fun t ht hW => ⟨⟨nI 0, (), rfl, (fun h9 => absurd h9 (by decide)), by rw [ht]; exact hP, va_K.moved hW.alike hK, hD⟩, hS.F ht⟩) hS.2.2 dX4_fact_46
  · have qhw_1 := wI_in hw_1 c_3
    refine lv_iload_n hx hb dX4_fact_11 rfl (lv_at hl 2 rfl) ?_
    refine lv_iconst (v := nI 0) hx hb dX4_fact_12 (by decide) ?_
    refine lv_bipush (v := nI 15) hx hb dX4_fact_13 (by decide) ?_
    refine w_calli (w := mW cI cZ ad I V) hS hA hK hD (va_runS (As := [.int pr, .int (nI 0), .int (nI 15)]) (rest := [.ref (ad 0)]) ⟨hx, hb, hml, hown, hts⟩ (c_X4_within l D (mT cI cZ) (mW cI cZ ad I V) wTrue H.size pr (nI 0) (nI 15)) (va_cwS 3 hts gX4_fact_X4_within rfl rfl rfl (by decide +kernel) ⟨Nat.le_of_ble_eq_true rfl, Nat.le_of_ble_eq_true rfl⟩) (w_pre hP hK hD wEnv_true) rfl rfl hl.1 rfl (lv_room (Nat.le_of_ble_eq_true rfl)) dX4_fact_15 ⟨Nat.le_of_ble_eq_true rfl, Nat.le_of_ble_eq_true rfl⟩) (fun r_7 u H locs hw hP hD hS hz => ?_)
    have hw_6 : r_7 = wI pr (0) (15) := by rw [hw, nI_toInt (n := 0) (by decide), nI_toInt (n := 15) (by decide)]; rfl
    refine lv_if_ne (tgt := 25) hx hb dX4_fact_18 (by decide) (fun c_8 => ?_) (fun c_8 => ?_)
    · have qhw_6 := wI_in hw_6 c_8
      refine lv_aload_n hx hb dX4_fact_25 rfl (lv_at hl 0 rfl) ?_
      refine wR_get (v := .int (nI k)) (C := RX4) (T := TX4) (N := 18) (ci := 4) hx hb hts hinX4 hown hK hP 0 (by decide) rfl rfl 1 (by decide) (hts (.fieldLink RX4 55 "ChangeStreamModel" "facts" "I") (by decide +kernel)) rfl (congrArg (fun z => some (Value.int z)) hk) dX4_fact_26 ?_
      refine lv_bipush (v := nI 100) hx hb dX4_fact_29 (by decide) ?_
      refine lv_icmp_ne (tgt := 38) hx hb dX4_fact_31 (by decide) (fun c_9 => ?_) (fun c_9 => ?_)
      · have c_9 : ¬ (k = 100) := fun h9 => c_9 ((nI_eq (a := k) (b := 100) (by omega) (by omega)).mpr h9)
        refine lv_iconst (v := nI 0) hx hb dX4_fact_38 (by decide) ?_
        refine w_calli (w := mW cI cZ ad I V) hS hA hK hD (va_runV (As := [.int (nI 0)]) (rest := []) ⟨hx, hb, hml, hown, hts⟩ (c_X4_refuses l D cI cZ ad I V H.size 0 (by decide)) (cwV 1 hts gX4_fact_X4_refuses rfl rfl rfl (by decide +kernel) ⟨Nat.le_of_ble_eq_true rfl, Nat.le_of_ble_eq_true rfl⟩) ⟨(w_pre hP hK hD wEnv_true).1, wR_recv (C := RX4) (T := TX4) (N := 18) hK hP (ci := 4) rfl 0 (by decide) rfl, (w_pre hP hK hD wEnv_true).2⟩ rfl rfl hl.1 rfl (lv_room (Nat.le_of_ble_eq_true rfl)) dX4_fact_39 ⟨Nat.le_of_ble_eq_true rfl, Nat.le_of_ble_eq_true rfl⟩) (fun r_10 u H locs hw hP hD hS hz => ?_)
        rw [show r_10 = nI 0 from hw]
        refine lv_if_eq (tgt := 47) hx hb dX4_fact_42 (by decide) (fun c_11 => ?_) (fun c_11 => ?_)
        · refine lv_aload_n hx hb dX4_fact_47 rfl (lv_at hl 0 rfl) ?_
          refine wR_get (v := .ref (ad 1)) (C := RX4) (T := TX4) (N := 18) (ci := 4) hx hb hts hinX4 hown hK hP 0 (by decide) rfl rfl 2 (by decide) (hts (.fieldLink RX4 7 "ChangeStreamModel" "graphs" "[I") (by decide +kernel)) rfl rfl dX4_fact_48 ?_
          refine lv_aload_n hx hb dX4_fact_51 rfl (lv_at hl 0 rfl) ?_
          refine wR_get (v := .int (nI k)) (C := RX4) (T := TX4) (N := 18) (ci := 4) hx hb hts hinX4 hown hK hP 0 (by decide) rfl rfl 1 (by decide) (hts (.fieldLink RX4 55 "ChangeStreamModel" "facts" "I") (by decide +kernel)) rfl (congrArg (fun z => some (Value.int z)) hk) dX4_fact_52 ?_
          refine lv_iload_n hx hb dX4_fact_55 rfl (lv_at hl 1 rfl) ?_
          refine wR_ist (f := V 1) hx hb hK hP hD hS 1 0 (by decide) rfl rfl (nx_in (k := k) rfl (by omega) (by decide)) (j := k) (nx_cl rfl (by omega)) rfl dX4_fact_56 (fun H locs hP hD hS => ?_)
          refine lv_aload_n hx hb dX4_fact_57 rfl (lv_at hl 0 rfl) ?_
          refine wR_get (v := .ref (ad 2)) (C := RX4) (T := TX4) (N := 18) (ci := 4) hx hb hts hinX4 hown hK hP 0 (by decide) rfl rfl 3 (by decide) (hts (.fieldLink RX4 13 "ChangeStreamModel" "properties" "[I") (by decide +kernel)) rfl rfl dX4_fact_58 ?_
          refine lv_aload_n hx hb dX4_fact_61 rfl (lv_at hl 0 rfl) ?_
          refine wR_get (v := .int (nI k)) (C := RX4) (T := TX4) (N := 18) (ci := 4) hx hb hts hinX4 hown hK hP 0 (by decide) rfl rfl 1 (by decide) (hts (.fieldLink RX4 55 "ChangeStreamModel" "facts" "I") (by decide +kernel)) rfl (congrArg (fun z => some (Value.int z)) hk) dX4_fact_62 ?_
          refine lv_iload_n hx hb dX4_fact_65 rfl (lv_at hl 2 rfl) ?_
          refine wR_ist (f := V 2) hx hb hK hP hD hS 2 0 (by decide) rfl rfl (nx_in (k := k) rfl (by omega) (by decide)) (j := k) (nx_cl rfl (by omega)) rfl dX4_fact_66 (fun H locs hP hD hS => ?_)
          refine lv_aload_n hx hb dX4_fact_67 rfl (lv_at hl 0 rfl) ?_
          refine wR_get (v := .ref (ad 3)) (C := RX4) (T := TX4) (N := 18) (ci := 4) hx hb hts hinX4 hown hK hP 0 (by decide) rfl rfl 4 (by decide) (hts (.fieldLink RX4 16 "ChangeStreamModel" "in" "[Z") (by decide +kernel)) rfl rfl dX4_fact_68 ?_
          refine lv_aload_n hx hb dX4_fact_71 rfl (lv_at hl 0 rfl) ?_
          refine wR_get (v := .int (nI k)) (C := RX4) (T := TX4) (N := 18) (ci := 4) hx hb hts hinX4 hown hK hP 0 (by decide) rfl rfl 1 (by decide) (hts (.fieldLink RX4 55 "ChangeStreamModel" "facts" "I") (by decide +kernel)) rfl (congrArg (fun z => some (Value.int z)) hk) dX4_fact_72 ?_
          refine lv_iconst (v := nI 0) hx hb dX4_fact_75 (by decide) ?_
          refine wR_zst (f := V 3) hx hb hK hP hD hS 3 1 (by decide) rfl rfl (Or.inl rfl) (nx_in (k := k) rfl (by omega) (by decide)) (j := k) (nx_cl rfl (by omega)) rfl dX4_fact_76 (fun H locs hP hD hS => ?_)
          refine lv_aload_n hx hb dX4_fact_77 rfl (lv_at hl 0 rfl) ?_
          refine lv_dup hx hb dX4_fact_78 rfl ?_
          refine wR_get (v := .int (nI k)) (C := RX4) (T := TX4) (N := 18) (ci := 4) hx hb hts hinX4 hown hK hP 0 (by decide) rfl rfl 1 (by decide) (hts (.fieldLink RX4 55 "ChangeStreamModel" "facts" "I") (by decide +kernel)) rfl (congrArg (fun z => some (Value.int z)) hk) dX4_fact_79 ?_
          refine lv_iconst (v := nI 1) hx hb dX4_fact_82 (by decide) ?_
          refine lv_iadd hx hb dX4_fact_83 ?_
          rw [nI_add]
          refine wR_put (C := RX4) (T := TX4) (N := 18) (ci := 4) hx hb hts hinX4 tyX4 tyX4_ok nmX4 hown hK hP hD hS 0 (by decide) rfl rfl 1 (by decide) (hts (.fieldLink RX4 55 "ChangeStreamModel" "facts" "I") (by decide +kernel)) rfl rfl (by decide +kernel) (by simp) (va_up (va_up (I 0) 0 (nI 0)) 1 (nI (k + 1))) rfl dX4_fact_84 (fun H locs hP hD hS => ?_)
          rw [bx_uu] at hP hD
          refine lv_aload_n hx hb dX4_fact_87 rfl (lv_at hl 0 rfl) ?_
          refine wR_get (v := .int (nI (k + 1))) (C := RX4) (T := TX4) (N := 18) (ci := 4) hx hb hts hinX4 hown hK hP 0 (by decide) rfl rfl 1 (by decide) (hts (.fieldLink RX4 55 "ChangeStreamModel" "facts" "I") (by decide +kernel)) rfl rfl dX4_fact_88 ?_
          refine lv_iconst (v := nI 1) hx hb dX4_fact_91 (by decide) ?_
          refine lv_isub hx hb dX4_fact_92 ?_
          rw [show (nI (k + 1)) - (nI 1) = nI k from nI_pred k]
          have hcdv : cd = 0 := (by rw [hcd, if_neg (by omega), if_neg (by omega)])
          subst hcdv
          have hEI : (va_up I 0 (va_up (va_up (I 0) 0 (nI 0)) 1 (nI (k + 1))) : Nat → Nat → Int32) = if 0 = 0 then va_up I 0 (va_up (va_up (I 0) 0 (nI 0)) 1 (nI (k + 1))) else va_up I 0 (va_up (I 0) 0 (nI 0)) := by first | rfl | (simp only [bx_uu, wR_same]; done)
          have hEV : (va_up (va_up (va_up V 1 (va_up (V 1) k g)) 2 (va_up (V 2) k pr)) 3 (va_up (V 3) k (nI 0)) : Nat → Nat → Int32) = if 0 = 0 then va_up (va_up (va_up V 1 (va_up (V 1) k g)) 2 (va_up (V 2) k pr)) 3 (va_up (V 3) k (nI 0)) else V := by first | rfl | (simp only [bx_uu, wR_same]; done)
          have hP : va_P D vwCl (mW cI cZ ad (if 0 = 0 then va_up I 0 (va_up (va_up (I 0) 0 (nI 0)) 1 (nI (k + 1))) else va_up I 0 (va_up (I 0) 0 (nI 0))) (if 0 = 0 then va_up (va_up (va_up V 1 (va_up (V 1) k g)) 2 (va_up (V 2) k pr)) 3 (va_up (V 3) k (nI 0)) else V)) H := by rw [← hEI, ← hEV]; exact hP
          have hD : va_D A (mW cI cZ ad (if 0 = 0 then va_up I 0 (va_up (va_up (I 0) 0 (nI 0)) 1 (nI (k + 1))) else va_up I 0 (va_up (I 0) 0 (nI 0))) (if 0 = 0 then va_up (va_up (va_up V 1 (va_up (V 1) k g)) 2 (va_up (V 2) k pr)) 3 (va_up (V 3) k (nI 0)) else V)) := by rw [← hEI, ← hEV]; exact hD
          exact W.iret (v := nI k) hx hb hr (fun t ht hW => ⟨⟨nI k, (), rfl, (fun _ => rfl), by rw [ht]; exact hP, va_K.moved hW.alike hK, hD⟩, hS.F ht⟩) hS.2.2 dX4_fact_93
        · exact absurd (by decide) c_11
      · have c_9 : k = 100 := (nI_eq (a := k) (b := 100) (by omega) (by omega)).mp c_9
        refine lv_iconst (v := nI 2) hx hb dX4_fact_34 (by decide) ?_
        refine lv_goto (tgt := 39) hx hb dX4_fact_35 (by decide) ?_
        refine w_calli (w := mW cI cZ ad I V) hS hA hK hD (va_runV (As := [.int (nI 2)]) (rest := []) ⟨hx, hb, hml, hown, hts⟩ (c_X4_refuses l D cI cZ ad I V H.size 2 (by decide)) (cwV 1 hts gX4_fact_X4_refuses rfl rfl rfl (by decide +kernel) ⟨Nat.le_of_ble_eq_true rfl, Nat.le_of_ble_eq_true rfl⟩) ⟨(w_pre hP hK hD wEnv_true).1, wR_recv (C := RX4) (T := TX4) (N := 18) hK hP (ci := 4) rfl 0 (by decide) rfl, (w_pre hP hK hD wEnv_true).2⟩ rfl rfl hl.1 rfl (lv_room (Nat.le_of_ble_eq_true rfl)) dX4_fact_39 ⟨Nat.le_of_ble_eq_true rfl, Nat.le_of_ble_eq_true rfl⟩) (fun r_12 u H locs hw hP hD hS hz => ?_)
        rw [show r_12 = nI 1 from hw]
        refine lv_if_eq (tgt := 47) hx hb dX4_fact_42 (by decide) (fun c_13 => ?_) (fun c_13 => ?_)
        · exact absurd c_13 (by decide)
        · refine lv_iconst (v := nI 0) hx hb dX4_fact_45 (by decide) ?_
          have hcdv : cd = 2 := (by rw [hcd, if_neg (by omega), if_pos (by omega)])
          subst hcdv
          have hEI : (va_up I 0 (va_up (I 0) 0 (nI 2)) : Nat → Nat → Int32) = if 2 = 0 then va_up I 0 (va_up (va_up (I 0) 0 (nI 0)) 1 (nI (k + 1))) else va_up I 0 (va_up (I 0) 0 (nI 2)) := by first | rfl | (simp only [bx_uu, wR_same]; done)
          have hEV : (V : Nat → Nat → Int32) = if 2 = 0 then va_up (va_up (va_up V 1 (va_up (V 1) k g)) 2 (va_up (V 2) k pr)) 3 (va_up (V 3) k (nI 0)) else V := by first | rfl | (simp only [bx_uu, wR_same]; done)
          have hP : va_P D vwCl (mW cI cZ ad (if 2 = 0 then va_up I 0 (va_up (va_up (I 0) 0 (nI 0)) 1 (nI (k + 1))) else va_up I 0 (va_up (I 0) 0 (nI 2))) (if 2 = 0 then va_up (va_up (va_up V 1 (va_up (V 1) k g)) 2 (va_up (V 2) k pr)) 3 (va_up (V 3) k (nI 0)) else V)) H := by rw [← hEI, ← hEV]; exact hP
          have hD : va_D A (mW cI cZ ad (if 2 = 0 then va_up I 0 (va_up (va_up (I 0) 0 (nI 0)) 1 (nI (k + 1))) else va_up I 0 (va_up (I 0) 0 (nI 2))) (if 2 = 0 then va_up (va_up (va_up V 1 (va_up (V 1) k g)) 2 (va_up (V 2) k pr)) 3 (va_up (V 3) k (nI 0)) else V)) := by rw [← hEI, ← hEV]; exact hD
          exact W.iret (v := nI 0) hx hb hr (fun t ht hW => ⟨⟨nI 0, (), rfl, (fun h9 => absurd h9 (by decide)), by rw [ht]; exact hP, va_K.moved hW.alike hK, hD⟩, hS.F ht⟩) hS.2.2 dX4_fact_46
    · have qhw_6 := wI_out hw_6 c_8
      refine lv_iconst (v := nI 1) hx hb dX4_fact_21 (by decide) ?_
      refine lv_goto (tgt := 39) hx hb dX4_fact_22 (by decide) ?_
      refine w_calli (w := mW cI cZ ad I V) hS hA hK hD (va_runV (As := [.int (nI 1)]) (rest := []) ⟨hx, hb, hml, hown, hts⟩ (c_X4_refuses l D cI cZ ad I V H.size 1 (by decide)) (cwV 1 hts gX4_fact_X4_refuses rfl rfl rfl (by decide +kernel) ⟨Nat.le_of_ble_eq_true rfl, Nat.le_of_ble_eq_true rfl⟩) ⟨(w_pre hP hK hD wEnv_true).1, wR_recv (C := RX4) (T := TX4) (N := 18) hK hP (ci := 4) rfl 0 (by decide) rfl, (w_pre hP hK hD wEnv_true).2⟩ rfl rfl hl.1 rfl (lv_room (Nat.le_of_ble_eq_true rfl)) dX4_fact_39 ⟨Nat.le_of_ble_eq_true rfl, Nat.le_of_ble_eq_true rfl⟩) (fun r_14 u H locs hw hP hD hS hz => ?_)
      rw [show r_14 = nI 1 from hw]
      refine lv_if_eq (tgt := 47) hx hb dX4_fact_42 (by decide) (fun c_15 => ?_) (fun c_15 => ?_)
      · exact absurd c_15 (by decide)
      · refine lv_iconst (v := nI 0) hx hb dX4_fact_45 (by decide) ?_
        have hcdv : cd = 1 := (by rw [hcd, if_pos (by omega)])
        subst hcdv
        have hEI : (va_up I 0 (va_up (I 0) 0 (nI 1)) : Nat → Nat → Int32) = if 1 = 0 then va_up I 0 (va_up (va_up (I 0) 0 (nI 0)) 1 (nI (k + 1))) else va_up I 0 (va_up (I 0) 0 (nI 1)) := by first | rfl | (simp only [bx_uu, wR_same]; done)
        have hEV : (V : Nat → Nat → Int32) = if 1 = 0 then va_up (va_up (va_up V 1 (va_up (V 1) k g)) 2 (va_up (V 2) k pr)) 3 (va_up (V 3) k (nI 0)) else V := by first | rfl | (simp only [bx_uu, wR_same]; done)
        have hP : va_P D vwCl (mW cI cZ ad (if 1 = 0 then va_up I 0 (va_up (va_up (I 0) 0 (nI 0)) 1 (nI (k + 1))) else va_up I 0 (va_up (I 0) 0 (nI 1))) (if 1 = 0 then va_up (va_up (va_up V 1 (va_up (V 1) k g)) 2 (va_up (V 2) k pr)) 3 (va_up (V 3) k (nI 0)) else V)) H := by rw [← hEI, ← hEV]; exact hP
        have hD : va_D A (mW cI cZ ad (if 1 = 0 then va_up I 0 (va_up (va_up (I 0) 0 (nI 0)) 1 (nI (k + 1))) else va_up I 0 (va_up (I 0) 0 (nI 1))) (if 1 = 0 then va_up (va_up (va_up V 1 (va_up (V 1) k g)) 2 (va_up (V 2) k pr)) 3 (va_up (V 3) k (nI 0)) else V)) := by rw [← hEI, ← hEV]; exact hD
        exact W.iret (v := nI 0) hx hb hr (fun t ht hW => ⟨⟨nI 0, (), rfl, (fun h9 => absurd h9 (by decide)), by rw [ht]; exact hP, va_K.moved hW.alike hK, hD⟩, hS.F ht⟩) hS.2.2 dX4_fact_46

set_option maxHeartbeats 4000000 in
set_option maxRecDepth 100000 in
/-- change(x, b) -/
theorem c_X4_change (l : Launch) (D : va_G) (cI cZ : ClassId) (ad : Nat → Nat) (I V : Nat → Nat → Int32) (sz : Nat) (k : Nat) (hk : I 0 1 = nI k) (hk1 : k ≤ 100) (q : Nat) (hq : I 0 5 = nI q) (hq2 : q ≤ 20) (x b : Int32) (hb01 : b = 0 ∨ b = 1) (f : Nat) (hf : f = x.toNatClampNeg) (cd : Nat) (hcd : cd = if ¬ (0 ≤ x.toInt ∧ x.toInt ≤ ((k : Nat) : Int) - 1) then 1 else if q = 20 then 2 else 0) : Met l yX4_change wsX4_change ({ frames := 1, cells := 0, slots := 0, locals := 22 } : Room) (va_Pc [.ref (ad 0), .int x, .int b] (wPre D vwCl (mT cI cZ) (mW cI cZ ad I V) sz wTrue)) (va_Qi (fun (r : Int32) (u : Unit) => cd = 0 → r = nI (q + 1)) (wPost D vwCl (mT cI cZ) (fun (u : Unit) => mW cI cZ ad (if cd = 0 then va_up I 0 (va_up (va_up (I 0) 0 (nI 0)) 5 (nI (q + 1))) else va_up I 0 (va_up (I 0) 0 (nI cd))) (if cd = 0 then va_up V 4 (va_up (va_up (V 4) (2 * q) (nI f)) (2 * q + 1) b) else V)) (va_A (mW cI cZ ad I V) sz)) (va_A (mW cI cZ ad I V) sz)) 0 0 (va_A (mW cI cZ ad I V) sz) := by
  refine Met.ofW (cc := cX4_change) (maxL := 3) (ret := (some .int)) (by decide) rfl ?_
  intro p e s m args below meth c s₁ B hml hv
  obtain ⟨rfl, hsz, hP, hK, hD0, hE⟩ := hv
  have hx := B.exec
  have hb := B.bytes
  have hr := B.returns
  have hts := atoms_spec (ws := wsX4_change) B.pre
  have hown : s.vm.findClass RX4 = some m.cls := findClass_of_methodNamed B.named
  have hlocks := B.notSynchronized
  subst hsz
  have hD := hD0.self (sz := s.heap.size)
  generalize hAe : va_A (mW cI cZ ad I V) s.heap.size = A at hD ⊢
  have hA : ∀ q : Nat, s.heap.size ≤ q → A q := fun q h => by rw [← hAe]; exact Or.inr h
  have hS : va_S A s.heap s.heap [] := va_S.rf
  have hinX4 : ∀ w ∈ wsX40, w ∈ wsX4_change := by decide +kernel
  have hl := lv_entry ([.ref (ad 0), .int x, .int b]) (n := 3) (Nat.le_of_ble_eq_true rfl)
  rw [lg_entry_eq]
  generalize (lg_sl ([.ref (ad 0), .int x, .int b]) ++ List.replicate (3 - (lg_sl ([.ref (ad 0), .int x, .int b])).length) Slot.unset).toArray = ls at hl ⊢
  have hl : lv_has ls 3 [(0, .ref (ad 0)), (1, .int x), (2, .int b)] := hl
  refine lv_aload_n hx hb dX4_change_0 rfl (lv_at hl 0 rfl) ?_
  refine lv_iload_n hx hb dX4_change_1 rfl (lv_at hl 1 rfl) ?_
  refine lv_iconst (v := nI 0) hx hb dX4_change_2 (by decide) ?_
  refine lv_aload_n hx hb dX4_change_3 rfl (lv_at hl 0 rfl) ?_
  refine wR_get (v := .int (nI k)) (C := RX4) (T := TX4) (N := 18) (ci := 4) hx hb hts hinX4 hown hK hP 0 (by decide) rfl rfl 1 (by decide) (hts (.fieldLink RX4 55 "ChangeStreamModel" "facts" "I") (by decide +kernel)) rfl (congrArg (fun z => some (Value.int z)) hk) dX4_change_4 ?_
  refine lv_iconst (v := nI 1) hx hb dX4_change_7 (by decide) ?_
  refine lv_isub hx hb dX4_change_8 ?_
  refine w_calli (w := mW cI cZ ad I V) hS hA hK hD (va_runS (As := [.int x, .int (nI 0), .int ((nI k) - (nI 1))]) (rest := [.ref (ad 0)]) ⟨hx, hb, hml, hown, hts⟩ (c_X4_within l D (mT cI cZ) (mW cI cZ ad I V) wTrue s.heap.size x (nI 0) ((nI k) - (nI 1))) (va_cwS 3 hts gX4_change_X4_within rfl rfl rfl (by decide +kernel) ⟨Nat.le_of_ble_eq_true rfl, Nat.le_of_ble_eq_true rfl⟩) (w_pre hP hK hD wEnv_true) rfl rfl hl.1 rfl (lv_room (Nat.le_of_ble_eq_true rfl)) dX4_change_9 ⟨Nat.le_of_ble_eq_true rfl, Nat.le_of_ble_eq_true rfl⟩) (fun r_2 u H locs hw hP hD hS hz => ?_)
  have hw_1 : r_2 = wI x (0) (((k : Nat) : Int) - 1) := by rw [hw, nI_toInt (n := 0) (by decide), pk_sub_toInt (a := k) (b := 1) (by omega) (by decide)]; rfl
  refine lv_if_ne (tgt := 19) hx hb dX4_change_12 (by decide) (fun c_3 => ?_) (fun c_3 => ?_)
  · have qhw_1 := wI_in hw_1 c_3
    refine lv_aload_n hx hb dX4_change_19 rfl (lv_at hl 0 rfl) ?_
    refine wR_get (v := .int (nI q)) (C := RX4) (T := TX4) (N := 18) (ci := 4) hx hb hts hinX4 hown hK hP 0 (by decide) rfl rfl 5 (by decide) (hts (.fieldLink RX4 62 "ChangeStreamModel" "open" "I") (by decide +kernel)) rfl (congrArg (fun z => some (Value.int z)) hq) dX4_change_20 ?_
    refine lv_bipush (v := nI 20) hx hb dX4_change_23 (by decide) ?_
    refine lv_icmp_ne (tgt := 32) hx hb dX4_change_25 (by decide) (fun c_4 => ?_) (fun c_4 => ?_)
    · have c_4 : ¬ (q = 20) := fun h9 => c_4 ((nI_eq (a := q) (b := 20) (by omega) (by omega)).mpr h9)
      refine lv_iconst (v := nI 0) hx hb dX4_change_32 (by decide) ?_
      refine w_calli (w := mW cI cZ ad I V) hS hA hK hD (va_runV (As := [.int (nI 0)]) (rest := []) ⟨hx, hb, hml, hown, hts⟩ (c_X4_refuses l D cI cZ ad I V H.size 0 (by decide)) (cwV 1 hts gX4_change_X4_refuses rfl rfl rfl (by decide +kernel) ⟨Nat.le_of_ble_eq_true rfl, Nat.le_of_ble_eq_true rfl⟩) ⟨(w_pre hP hK hD wEnv_true).1, wR_recv (C := RX4) (T := TX4) (N := 18) hK hP (ci := 4) rfl 0 (by decide) rfl, (w_pre hP hK hD wEnv_true).2⟩ rfl rfl hl.1 rfl (lv_room (Nat.le_of_ble_eq_true rfl)) dX4_change_33 ⟨Nat.le_of_ble_eq_true rfl, Nat.le_of_ble_eq_true rfl⟩) (fun r_5 u H locs hw hP hD hS hz => ?_)
      rw [show r_5 = nI 0 from hw]
      refine lv_if_eq (tgt := 41) hx hb dX4_change_36 (by decide) (fun c_6 => ?_) (fun c_6 => ?_)
      · obtain ⟨hxjx, hxix⟩ := nx_nn (x := x) (by omega)
        rw [← hf] at hxjx hxix
        rw [hxjx] at hl
        refine lv_aload_n hx hb dX4_change_41 rfl (lv_at hl 0 rfl) ?_
        refine wR_get (v := .ref (ad 4)) (C := RX4) (T := TX4) (N := 18) (ci := 4) hx hb hts hinX4 hown hK hP 0 (by decide) rfl rfl 6 (by decide) (hts (.fieldLink RX4 20 "ChangeStreamModel" "changes" "[I") (by decide +kernel)) rfl rfl dX4_change_42 ?_
        refine lv_iconst (v := nI 2) hx hb dX4_change_45 (by decide) ?_
        refine lv_aload_n hx hb dX4_change_46 rfl (lv_at hl 0 rfl) ?_
        refine wR_get (v := .int (nI q)) (C := RX4) (T := TX4) (N := 18) (ci := 4) hx hb hts hinX4 hown hK hP 0 (by decide) rfl rfl 5 (by decide) (hts (.fieldLink RX4 62 "ChangeStreamModel" "open" "I") (by decide +kernel)) rfl (congrArg (fun z => some (Value.int z)) hq) dX4_change_47 ?_
        refine lv_imul hx hb dX4_change_50 ?_
        rw [pk_mul]
        refine lv_iload_n hx hb dX4_change_51 rfl (lv_at hl 1 rfl) ?_
        refine wR_ist (f := V 4) hx hb hK hP hD hS 4 0 (by decide) rfl rfl (nx_in (k := 2 * q) rfl (by omega) (by decide)) (j := 2 * q) (nx_cl rfl (by omega)) rfl dX4_change_52 (fun H locs hP hD hS => ?_)
        refine lv_aload_n hx hb dX4_change_53 rfl (lv_at hl 0 rfl) ?_
        refine wR_get (v := .ref (ad 4)) (C := RX4) (T := TX4) (N := 18) (ci := 4) hx hb hts hinX4 hown hK hP 0 (by decide) rfl rfl 6 (by decide) (hts (.fieldLink RX4 20 "ChangeStreamModel" "changes" "[I") (by decide +kernel)) rfl rfl dX4_change_54 ?_
        refine lv_iconst (v := nI 2) hx hb dX4_change_57 (by decide) ?_
        refine lv_aload_n hx hb dX4_change_58 rfl (lv_at hl 0 rfl) ?_
        refine wR_get (v := .int (nI q)) (C := RX4) (T := TX4) (N := 18) (ci := 4) hx hb hts hinX4 hown hK hP 0 (by decide) rfl rfl 5 (by decide) (hts (.fieldLink RX4 62 "ChangeStreamModel" "open" "I") (by decide +kernel)) rfl (congrArg (fun z => some (Value.int z)) hq) dX4_change_59 ?_
        refine lv_imul hx hb dX4_change_62 ?_
        rw [pk_mul]
        refine lv_iconst (v := nI 1) hx hb dX4_change_63 (by decide) ?_
        refine lv_iadd hx hb dX4_change_64 ?_
        rw [nI_add]
        refine lv_iload_n hx hb dX4_change_65 rfl (lv_at hl 2 rfl) ?_
        refine lv_if_eq (tgt := 73) hx hb dX4_change_66 (by decide) (fun c_7 => ?_) (fun c_7 => ?_)
        · refine lv_iconst (v := nI 0) hx hb dX4_change_73 (by decide) ?_
          refine wR_ist (f := va_up (V 4) (2 * q) (nI f)) hx hb hK hP hD hS 4 0 (by decide) rfl rfl (nx_in (k := 2 * q + 1) rfl (by omega) (by decide)) (j := 2 * q + 1) (nx_cl rfl (by omega)) rfl dX4_change_74 (fun H locs hP hD hS => ?_)
          rw [bx_uu] at hP hD
          refine lv_aload_n hx hb dX4_change_75 rfl (lv_at hl 0 rfl) ?_
          refine lv_dup hx hb dX4_change_76 rfl ?_
          refine wR_get (v := .int (nI q)) (C := RX4) (T := TX4) (N := 18) (ci := 4) hx hb hts hinX4 hown hK hP 0 (by decide) rfl rfl 5 (by decide) (hts (.fieldLink RX4 62 "ChangeStreamModel" "open" "I") (by decide +kernel)) rfl (congrArg (fun z => some (Value.int z)) hq) dX4_change_77 ?_
          refine lv_iconst (v := nI 1) hx hb dX4_change_80 (by decide) ?_
          refine lv_iadd hx hb dX4_change_81 ?_
          rw [nI_add]
          refine wR_put (C := RX4) (T := TX4) (N := 18) (ci := 4) hx hb hts hinX4 tyX4 tyX4_ok nmX4 hown hK hP hD hS 0 (by decide) rfl rfl 5 (by decide) (hts (.fieldLink RX4 62 "ChangeStreamModel" "open" "I") (by decide +kernel)) rfl rfl (by decide +kernel) (by simp) (va_up (va_up (I 0) 0 (nI 0)) 5 (nI (q + 1))) rfl dX4_change_82 (fun H locs hP hD hS => ?_)
          rw [bx_uu] at hP hD
          refine lv_aload_n hx hb dX4_change_85 rfl (lv_at hl 0 rfl) ?_
          refine wR_get (v := .int (nI (q + 1))) (C := RX4) (T := TX4) (N := 18) (ci := 4) hx hb hts hinX4 hown hK hP 0 (by decide) rfl rfl 5 (by decide) (hts (.fieldLink RX4 62 "ChangeStreamModel" "open" "I") (by decide +kernel)) rfl rfl dX4_change_86 ?_
          have hcdv : cd = 0 := (by rw [hcd, if_neg (by omega), if_neg (by omega)])
          subst hcdv
          have hEI : (va_up I 0 (va_up (va_up (I 0) 0 (nI 0)) 5 (nI (q + 1))) : Nat → Nat → Int32) = if 0 = 0 then va_up I 0 (va_up (va_up (I 0) 0 (nI 0)) 5 (nI (q + 1))) else va_up I 0 (va_up (I 0) 0 (nI 0)) := by first | rfl | (simp only [bx_uu, wR_same]; done)
          have hEV : (va_up V 4 (va_up (va_up (V 4) (2 * q) (nI f)) (2 * q + 1) (nI 0)) : Nat → Nat → Int32) = if 0 = 0 then va_up V 4 (va_up (va_up (V 4) (2 * q) (nI f)) (2 * q + 1) b) else V := by have hb9 : b = nI 0 := c_7; rw [hb9]; rfl
          have hP : va_P D vwCl (mW cI cZ ad (if 0 = 0 then va_up I 0 (va_up (va_up (I 0) 0 (nI 0)) 5 (nI (q + 1))) else va_up I 0 (va_up (I 0) 0 (nI 0))) (if 0 = 0 then va_up V 4 (va_up (va_up (V 4) (2 * q) (nI f)) (2 * q + 1) b) else V)) H := by rw [← hEI, ← hEV]; exact hP
          have hD : va_D A (mW cI cZ ad (if 0 = 0 then va_up I 0 (va_up (va_up (I 0) 0 (nI 0)) 5 (nI (q + 1))) else va_up I 0 (va_up (I 0) 0 (nI 0))) (if 0 = 0 then va_up V 4 (va_up (va_up (V 4) (2 * q) (nI f)) (2 * q + 1) b) else V)) := by rw [← hEI, ← hEV]; exact hD
          exact W.iret (v := nI (q + 1)) hx hb hr (fun t ht hW => ⟨⟨nI (q + 1), (), rfl, (fun _ => rfl), by rw [ht]; exact hP, va_K.moved hW.alike hK, hD⟩, hS.F ht⟩) hS.2.2 dX4_change_89
        · refine lv_iconst (v := nI 1) hx hb dX4_change_69 (by decide) ?_
          refine lv_goto (tgt := 74) hx hb dX4_change_70 (by decide) ?_
          refine wR_ist (f := va_up (V 4) (2 * q) (nI f)) hx hb hK hP hD hS 4 0 (by decide) rfl rfl (nx_in (k := 2 * q + 1) rfl (by omega) (by decide)) (j := 2 * q + 1) (nx_cl rfl (by omega)) rfl dX4_change_74 (fun H locs hP hD hS => ?_)
          rw [bx_uu] at hP hD
          refine lv_aload_n hx hb dX4_change_75 rfl (lv_at hl 0 rfl) ?_
          refine lv_dup hx hb dX4_change_76 rfl ?_
          refine wR_get (v := .int (nI q)) (C := RX4) (T := TX4) (N := 18) (ci := 4) hx hb hts hinX4 hown hK hP 0 (by decide) rfl rfl 5 (by decide) (hts (.fieldLink RX4 62 "ChangeStreamModel" "open" "I") (by decide +kernel)) rfl (congrArg (fun z => some (Value.int z)) hq) dX4_change_77 ?_
          refine lv_iconst (v := nI 1) hx hb dX4_change_80 (by decide) ?_
          refine lv_iadd hx hb dX4_change_81 ?_
          rw [nI_add]
          refine wR_put (C := RX4) (T := TX4) (N := 18) (ci := 4) hx hb hts hinX4 tyX4 tyX4_ok nmX4 hown hK hP hD hS 0 (by decide) rfl rfl 5 (by decide) (hts (.fieldLink RX4 62 "ChangeStreamModel" "open" "I") (by decide +kernel)) rfl rfl (by decide +kernel) (by simp) (va_up (va_up (I 0) 0 (nI 0)) 5 (nI (q + 1))) rfl dX4_change_82 (fun H locs hP hD hS => ?_)
          rw [bx_uu] at hP hD
          refine lv_aload_n hx hb dX4_change_85 rfl (lv_at hl 0 rfl) ?_
          refine wR_get (v := .int (nI (q + 1))) (C := RX4) (T := TX4) (N := 18) (ci := 4) hx hb hts hinX4 hown hK hP 0 (by decide) rfl rfl 5 (by decide) (hts (.fieldLink RX4 62 "ChangeStreamModel" "open" "I") (by decide +kernel)) rfl rfl dX4_change_86 ?_
          have hcdv : cd = 0 := (by rw [hcd, if_neg (by omega), if_neg (by omega)])
          subst hcdv
          have hEI : (va_up I 0 (va_up (va_up (I 0) 0 (nI 0)) 5 (nI (q + 1))) : Nat → Nat → Int32) = if 0 = 0 then va_up I 0 (va_up (va_up (I 0) 0 (nI 0)) 5 (nI (q + 1))) else va_up I 0 (va_up (I 0) 0 (nI 0)) := by first | rfl | (simp only [bx_uu, wR_same]; done)
          have hEV : (va_up V 4 (va_up (va_up (V 4) (2 * q) (nI f)) (2 * q + 1) (nI 1)) : Nat → Nat → Int32) = if 0 = 0 then va_up V 4 (va_up (va_up (V 4) (2 * q) (nI f)) (2 * q + 1) b) else V := by have hb9 : b = nI 1 := hb01.resolve_left c_7; rw [hb9]; rfl
          have hP : va_P D vwCl (mW cI cZ ad (if 0 = 0 then va_up I 0 (va_up (va_up (I 0) 0 (nI 0)) 5 (nI (q + 1))) else va_up I 0 (va_up (I 0) 0 (nI 0))) (if 0 = 0 then va_up V 4 (va_up (va_up (V 4) (2 * q) (nI f)) (2 * q + 1) b) else V)) H := by rw [← hEI, ← hEV]; exact hP
          have hD : va_D A (mW cI cZ ad (if 0 = 0 then va_up I 0 (va_up (va_up (I 0) 0 (nI 0)) 5 (nI (q + 1))) else va_up I 0 (va_up (I 0) 0 (nI 0))) (if 0 = 0 then va_up V 4 (va_up (va_up (V 4) (2 * q) (nI f)) (2 * q + 1) b) else V)) := by rw [← hEI, ← hEV]; exact hD
          exact W.iret (v := nI (q + 1)) hx hb hr (fun t ht hW => ⟨⟨nI (q + 1), (), rfl, (fun _ => rfl), by rw [ht]; exact hP, va_K.moved hW.alike hK, hD⟩, hS.F ht⟩) hS.2.2 dX4_change_89
      · exact absurd (by decide) c_6
    · have c_4 : q = 20 := (nI_eq (a := q) (b := 20) (by omega) (by omega)).mp c_4
      refine lv_iconst (v := nI 2) hx hb dX4_change_28 (by decide) ?_
      refine lv_goto (tgt := 33) hx hb dX4_change_29 (by decide) ?_
      refine w_calli (w := mW cI cZ ad I V) hS hA hK hD (va_runV (As := [.int (nI 2)]) (rest := []) ⟨hx, hb, hml, hown, hts⟩ (c_X4_refuses l D cI cZ ad I V H.size 2 (by decide)) (cwV 1 hts gX4_change_X4_refuses rfl rfl rfl (by decide +kernel) ⟨Nat.le_of_ble_eq_true rfl, Nat.le_of_ble_eq_true rfl⟩) ⟨(w_pre hP hK hD wEnv_true).1, wR_recv (C := RX4) (T := TX4) (N := 18) hK hP (ci := 4) rfl 0 (by decide) rfl, (w_pre hP hK hD wEnv_true).2⟩ rfl rfl hl.1 rfl (lv_room (Nat.le_of_ble_eq_true rfl)) dX4_change_33 ⟨Nat.le_of_ble_eq_true rfl, Nat.le_of_ble_eq_true rfl⟩) (fun r_8 u H locs hw hP hD hS hz => ?_)
      rw [show r_8 = nI 1 from hw]
      refine lv_if_eq (tgt := 41) hx hb dX4_change_36 (by decide) (fun c_9 => ?_) (fun c_9 => ?_)
      · exact absurd c_9 (by decide)
      · refine lv_iconst (v := nI 0) hx hb dX4_change_39 (by decide) ?_
        have hcdv : cd = 2 := (by rw [hcd, if_neg (by omega), if_pos (by omega)])
        subst hcdv
        have hEI : (va_up I 0 (va_up (I 0) 0 (nI 2)) : Nat → Nat → Int32) = if 2 = 0 then va_up I 0 (va_up (va_up (I 0) 0 (nI 0)) 5 (nI (q + 1))) else va_up I 0 (va_up (I 0) 0 (nI 2)) := by first | rfl | (simp only [bx_uu, wR_same]; done)
        have hEV : (V : Nat → Nat → Int32) = if 2 = 0 then va_up V 4 (va_up (va_up (V 4) (2 * q) (nI f)) (2 * q + 1) b) else V := by first | rfl | (simp only [bx_uu, wR_same]; done)
        have hP : va_P D vwCl (mW cI cZ ad (if 2 = 0 then va_up I 0 (va_up (va_up (I 0) 0 (nI 0)) 5 (nI (q + 1))) else va_up I 0 (va_up (I 0) 0 (nI 2))) (if 2 = 0 then va_up V 4 (va_up (va_up (V 4) (2 * q) (nI f)) (2 * q + 1) b) else V)) H := by rw [← hEI, ← hEV]; exact hP
        have hD : va_D A (mW cI cZ ad (if 2 = 0 then va_up I 0 (va_up (va_up (I 0) 0 (nI 0)) 5 (nI (q + 1))) else va_up I 0 (va_up (I 0) 0 (nI 2))) (if 2 = 0 then va_up V 4 (va_up (va_up (V 4) (2 * q) (nI f)) (2 * q + 1) b) else V)) := by rw [← hEI, ← hEV]; exact hD
        exact W.iret (v := nI 0) hx hb hr (fun t ht hW => ⟨⟨nI 0, (), rfl, (fun h9 => absurd h9 (by decide)), by rw [ht]; exact hP, va_K.moved hW.alike hK, hD⟩, hS.F ht⟩) hS.2.2 dX4_change_40
  · have qhw_1 := wI_out hw_1 c_3
    refine lv_iconst (v := nI 1) hx hb dX4_change_15 (by decide) ?_
    refine lv_goto (tgt := 33) hx hb dX4_change_16 (by decide) ?_
    refine w_calli (w := mW cI cZ ad I V) hS hA hK hD (va_runV (As := [.int (nI 1)]) (rest := []) ⟨hx, hb, hml, hown, hts⟩ (c_X4_refuses l D cI cZ ad I V H.size 1 (by decide)) (cwV 1 hts gX4_change_X4_refuses rfl rfl rfl (by decide +kernel) ⟨Nat.le_of_ble_eq_true rfl, Nat.le_of_ble_eq_true rfl⟩) ⟨(w_pre hP hK hD wEnv_true).1, wR_recv (C := RX4) (T := TX4) (N := 18) hK hP (ci := 4) rfl 0 (by decide) rfl, (w_pre hP hK hD wEnv_true).2⟩ rfl rfl hl.1 rfl (lv_room (Nat.le_of_ble_eq_true rfl)) dX4_change_33 ⟨Nat.le_of_ble_eq_true rfl, Nat.le_of_ble_eq_true rfl⟩) (fun r_10 u H locs hw hP hD hS hz => ?_)
    rw [show r_10 = nI 1 from hw]
    refine lv_if_eq (tgt := 41) hx hb dX4_change_36 (by decide) (fun c_11 => ?_) (fun c_11 => ?_)
    · exact absurd c_11 (by decide)
    · refine lv_iconst (v := nI 0) hx hb dX4_change_39 (by decide) ?_
      have hcdv : cd = 1 := (by rw [hcd, if_pos (by omega)])
      subst hcdv
      have hEI : (va_up I 0 (va_up (I 0) 0 (nI 1)) : Nat → Nat → Int32) = if 1 = 0 then va_up I 0 (va_up (va_up (I 0) 0 (nI 0)) 5 (nI (q + 1))) else va_up I 0 (va_up (I 0) 0 (nI 1)) := by first | rfl | (simp only [bx_uu, wR_same]; done)
      have hEV : (V : Nat → Nat → Int32) = if 1 = 0 then va_up V 4 (va_up (va_up (V 4) (2 * q) (nI f)) (2 * q + 1) b) else V := by first | rfl | (simp only [bx_uu, wR_same]; done)
      have hP : va_P D vwCl (mW cI cZ ad (if 1 = 0 then va_up I 0 (va_up (va_up (I 0) 0 (nI 0)) 5 (nI (q + 1))) else va_up I 0 (va_up (I 0) 0 (nI 1))) (if 1 = 0 then va_up V 4 (va_up (va_up (V 4) (2 * q) (nI f)) (2 * q + 1) b) else V)) H := by rw [← hEI, ← hEV]; exact hP
      have hD : va_D A (mW cI cZ ad (if 1 = 0 then va_up I 0 (va_up (va_up (I 0) 0 (nI 0)) 5 (nI (q + 1))) else va_up I 0 (va_up (I 0) 0 (nI 1))) (if 1 = 0 then va_up V 4 (va_up (va_up (V 4) (2 * q) (nI f)) (2 * q + 1) b) else V)) := by rw [← hEI, ← hEV]; exact hD
      exact W.iret (v := nI 0) hx hb hr (fun t ht hW => ⟨⟨nI 0, (), rfl, (fun h9 => absurd h9 (by decide)), by rw [ht]; exact hP, va_K.moved hW.alike hK, hD⟩, hS.F ht⟩) hS.2.2 dX4_change_40

set_option maxHeartbeats 4000000 in
set_option maxRecDepth 100000 in
/-- abort() -/
theorem c_X4_abort (l : Launch) (D : va_G) (cI cZ : ClassId) (ad : Nat → Nat) (I V : Nat → Nat → Int32) (sz : Nat) (q : Nat) (hq : I 0 5 = nI q) (hq2 : q ≤ 20)  : Met l yX4_abort wsX4_abort ({ frames := 0, cells := 0, slots := 0, locals := 0 } : Room) (va_Pc [.ref (ad 0)] (wPre D vwCl (mT cI cZ) (mW cI cZ ad I V) sz wTrue)) (va_Qi (fun (r : Int32) (u : Unit) => r = nI q) (wPost D vwCl (mT cI cZ) (fun (u : Unit) => mW cI cZ ad (va_up I 0 (va_up (va_up (I 0) 0 (nI 0)) 5 (nI 0))) V) (va_A (mW cI cZ ad I V) sz)) (va_A (mW cI cZ ad I V) sz)) 0 0 (va_A (mW cI cZ ad I V) sz) := by
  refine Met.ofW (cc := cX4_abort) (maxL := 2) (ret := (some .int)) (by decide) rfl ?_
  intro p e s m args below meth c s₁ B hml hv
  obtain ⟨rfl, hsz, hP, hK, hD0, hE⟩ := hv
  have hx := B.exec
  have hb := B.bytes
  have hr := B.returns
  have hts := atoms_spec (ws := wsX4_abort) B.pre
  have hown : s.vm.findClass RX4 = some m.cls := findClass_of_methodNamed B.named
  have hlocks := B.notSynchronized
  subst hsz
  have hD := hD0.self (sz := s.heap.size)
  generalize hAe : va_A (mW cI cZ ad I V) s.heap.size = A at hD ⊢
  have hA : ∀ q : Nat, s.heap.size ≤ q → A q := fun q h => by rw [← hAe]; exact Or.inr h
  have hS : va_S A s.heap s.heap [] := va_S.rf
  have hinX4 : ∀ w ∈ wsX40, w ∈ wsX4_abort := by decide +kernel
  have hl := lv_entry ([.ref (ad 0)]) (n := 2) (Nat.le_of_ble_eq_true rfl)
  rw [lg_entry_eq]
  generalize (lg_sl ([.ref (ad 0)]) ++ List.replicate (2 - (lg_sl ([.ref (ad 0)])).length) Slot.unset).toArray = ls at hl ⊢
  have hl : lv_has ls 2 [(0, .ref (ad 0))] := hl
  refine lv_aload_n hx hb dX4_abort_0 rfl (lv_at hl 0 rfl) ?_
  refine lv_iconst (v := nI 0) hx hb dX4_abort_1 (by decide) ?_
  refine wR_put (C := RX4) (T := TX4) (N := 18) (ci := 4) hx hb hts hinX4 tyX4 tyX4_ok nmX4 hown hK hP hD hS 0 (by decide) rfl rfl 0 (by decide) (hts (.fieldLink RX4 48 "ChangeStreamModel" "code" "I") (by decide +kernel)) rfl rfl (by decide +kernel) (by simp) (va_up (I 0) 0 (nI 0)) rfl dX4_abort_2 (fun H locs hP hD hS => ?_)
  refine lv_aload_n hx hb dX4_abort_5 rfl (lv_at hl 0 rfl) ?_
  refine wR_get (v := .int (nI q)) (C := RX4) (T := TX4) (N := 18) (ci := 4) hx hb hts hinX4 hown hK hP 0 (by decide) rfl rfl 5 (by decide) (hts (.fieldLink RX4 62 "ChangeStreamModel" "open" "I") (by decide +kernel)) rfl (congrArg (fun z => some (Value.int z)) hq) dX4_abort_6 ?_
  refine lv_istore_n (lv' := [(1, .int (nI q)), (0, .ref (ad 0))]) hx hb dX4_abort_9 rfl hl (by decide) rfl (fun ls hl => ?_)
  refine lv_aload_n hx hb dX4_abort_10 rfl (lv_at hl 1 rfl) ?_
  refine lv_iconst (v := nI 0) hx hb dX4_abort_11 (by decide) ?_
  refine wR_put (C := RX4) (T := TX4) (N := 18) (ci := 4) hx hb hts hinX4 tyX4 tyX4_ok nmX4 hown hK hP hD hS 0 (by decide) rfl rfl 5 (by decide) (hts (.fieldLink RX4 62 "ChangeStreamModel" "open" "I") (by decide +kernel)) rfl rfl (by decide +kernel) (by simp) (va_up (va_up (I 0) 0 (nI 0)) 5 (nI 0)) rfl dX4_abort_12 (fun H locs hP hD hS => ?_)
  rw [bx_uu] at hP hD
  refine lv_iload_n hx hb dX4_abort_15 rfl (lv_at hl 0 rfl) ?_
  exact W.iret (v := nI q) hx hb hr (fun t ht hW => ⟨⟨nI q, (), rfl, rfl, by rw [ht]; exact hP, va_K.moved hW.alike hK, hD⟩, hS.F ht⟩) hS.2.2 dX4_abort_16

set_option maxHeartbeats 4000000 in
set_option maxRecDepth 100000 in
/-- contains(x) -/
theorem c_X4_contains (l : Launch) (D : va_G) (cI cZ : ClassId) (ad : Nat → Nat) (I V : Nat → Nat → Int32) (sz : Nat) (k : Nat) (hk : I 0 1 = nI k) (hk1 : k ≤ 100) (x : Int32) (h01 : ∀ j, V 3 j = 0 ∨ V 3 j = 1) (f : Nat) (hf : f = x.toNatClampNeg) (cd : Nat) (hcd : cd = if ¬ (0 ≤ x.toInt ∧ x.toInt ≤ ((k : Nat) : Int) - 1) then 1 else 0) : Met l yX4_contains wsX4_contains ({ frames := 1, cells := 0, slots := 0, locals := 22 } : Room) (va_Pc [.ref (ad 0), .int x] (wPre D vwCl (mT cI cZ) (mW cI cZ ad I V) sz wTrue)) (va_Qi (fun (r : Int32) (u : Unit) => cd = 0 → r = V 3 f) (wPost D vwCl (mT cI cZ) (fun (u : Unit) => mW cI cZ ad (if cd = 0 then va_up I 0 (va_up (I 0) 0 (nI 0)) else va_up I 0 (va_up (I 0) 0 (nI cd))) V) (va_A (mW cI cZ ad I V) sz)) (va_A (mW cI cZ ad I V) sz)) 0 0 (va_A (mW cI cZ ad I V) sz) := by
  refine Met.ofW (cc := cX4_contains) (maxL := 2) (ret := (some .boolean)) (by decide) rfl ?_
  intro p e s m args below meth c s₁ B hml hv
  obtain ⟨rfl, hsz, hP, hK, hD0, hE⟩ := hv
  have hx := B.exec
  have hb := B.bytes
  have hr := B.returns
  have hts := atoms_spec (ws := wsX4_contains) B.pre
  have hown : s.vm.findClass RX4 = some m.cls := findClass_of_methodNamed B.named
  have hlocks := B.notSynchronized
  subst hsz
  have hD := hD0.self (sz := s.heap.size)
  generalize hAe : va_A (mW cI cZ ad I V) s.heap.size = A at hD ⊢
  have hA : ∀ q : Nat, s.heap.size ≤ q → A q := fun q h => by rw [← hAe]; exact Or.inr h
  have hS : va_S A s.heap s.heap [] := va_S.rf
  have hinX4 : ∀ w ∈ wsX40, w ∈ wsX4_contains := by decide +kernel
  have hl := lv_entry ([.ref (ad 0), .int x]) (n := 2) (Nat.le_of_ble_eq_true rfl)
  rw [lg_entry_eq]
  generalize (lg_sl ([.ref (ad 0), .int x]) ++ List.replicate (2 - (lg_sl ([.ref (ad 0), .int x])).length) Slot.unset).toArray = ls at hl ⊢
  have hl : lv_has ls 2 [(0, .ref (ad 0)), (1, .int x)] := hl
  refine lv_aload_n hx hb dX4_contains_0 rfl (lv_at hl 0 rfl) ?_
  refine lv_iload_n hx hb dX4_contains_1 rfl (lv_at hl 1 rfl) ?_
  refine lv_iconst (v := nI 0) hx hb dX4_contains_2 (by decide) ?_
  refine lv_aload_n hx hb dX4_contains_3 rfl (lv_at hl 0 rfl) ?_
  refine wR_get (v := .int (nI k)) (C := RX4) (T := TX4) (N := 18) (ci := 4) hx hb hts hinX4 hown hK hP 0 (by decide) rfl rfl 1 (by decide) (hts (.fieldLink RX4 55 "ChangeStreamModel" "facts" "I") (by decide +kernel)) rfl (congrArg (fun z => some (Value.int z)) hk) dX4_contains_4 ?_
  refine lv_iconst (v := nI 1) hx hb dX4_contains_7 (by decide) ?_
  refine lv_isub hx hb dX4_contains_8 ?_
  refine w_calli (w := mW cI cZ ad I V) hS hA hK hD (va_runS (As := [.int x, .int (nI 0), .int ((nI k) - (nI 1))]) (rest := [.ref (ad 0)]) ⟨hx, hb, hml, hown, hts⟩ (c_X4_within l D (mT cI cZ) (mW cI cZ ad I V) wTrue s.heap.size x (nI 0) ((nI k) - (nI 1))) (va_cwS 3 hts gX4_contains_X4_within rfl rfl rfl (by decide +kernel) ⟨Nat.le_of_ble_eq_true rfl, Nat.le_of_ble_eq_true rfl⟩) (w_pre hP hK hD wEnv_true) rfl rfl hl.1 rfl (lv_room (Nat.le_of_ble_eq_true rfl)) dX4_contains_9 ⟨Nat.le_of_ble_eq_true rfl, Nat.le_of_ble_eq_true rfl⟩) (fun r_2 u H locs hw hP hD hS hz => ?_)
  have hw_1 : r_2 = wI x (0) (((k : Nat) : Int) - 1) := by rw [hw, nI_toInt (n := 0) (by decide), pk_sub_toInt (a := k) (b := 1) (by omega) (by decide)]; rfl
  refine lv_if_eq (tgt := 19) hx hb dX4_contains_12 (by decide) (fun c_3 => ?_) (fun c_3 => ?_)
  · have qhw_1 := wI_out hw_1 c_3
    refine lv_iconst (v := nI 1) hx hb dX4_contains_19 (by decide) ?_
    refine w_calli (w := mW cI cZ ad I V) hS hA hK hD (va_runV (As := [.int (nI 1)]) (rest := []) ⟨hx, hb, hml, hown, hts⟩ (c_X4_refuses l D cI cZ ad I V H.size 1 (by decide)) (cwV 1 hts gX4_contains_X4_refuses rfl rfl rfl (by decide +kernel) ⟨Nat.le_of_ble_eq_true rfl, Nat.le_of_ble_eq_true rfl⟩) ⟨(w_pre hP hK hD wEnv_true).1, wR_recv (C := RX4) (T := TX4) (N := 18) hK hP (ci := 4) rfl 0 (by decide) rfl, (w_pre hP hK hD wEnv_true).2⟩ rfl rfl hl.1 rfl (lv_room (Nat.le_of_ble_eq_true rfl)) dX4_contains_20 ⟨Nat.le_of_ble_eq_true rfl, Nat.le_of_ble_eq_true rfl⟩) (fun r_4 u H locs hw hP hD hS hz => ?_)
    rw [show r_4 = nI 1 from hw]
    refine lv_if_ne (tgt := 39) hx hb dX4_contains_23 (by decide) (fun c_5 => ?_) (fun c_5 => ?_)
    · refine lv_iconst (v := nI 0) hx hb dX4_contains_39 (by decide) ?_
      have hcdv : cd = 1 := (by rw [hcd, if_pos (by omega)])
      subst hcdv
      have hEI : (va_up I 0 (va_up (I 0) 0 (nI 1)) : Nat → Nat → Int32) = if 1 = 0 then va_up I 0 (va_up (I 0) 0 (nI 0)) else va_up I 0 (va_up (I 0) 0 (nI 1)) := by first | rfl | (simp only [bx_uu, wR_same]; done)
      have hP : va_P D vwCl (mW cI cZ ad (if 1 = 0 then va_up I 0 (va_up (I 0) 0 (nI 0)) else va_up I 0 (va_up (I 0) 0 (nI 1))) V) H := by rw [← hEI]; exact hP
      have hD : va_D A (mW cI cZ ad (if 1 = 0 then va_up I 0 (va_up (I 0) 0 (nI 0)) else va_up I 0 (va_up (I 0) 0 (nI 1))) V) := by rw [← hEI]; exact hD
      exact W.zret (v := nI 0) hx hb hr rfl (fun t ht hW => ⟨⟨nI 0, (), rfl, (fun h9 => absurd h9 (by decide)), by rw [ht]; exact hP, va_K.moved hW.alike hK, hD⟩, hS.F ht⟩) hS.2.2 dX4_contains_40
    · exact absurd c_5 (by decide)
  · have qhw_1 := wI_in hw_1 c_3
    refine lv_iconst (v := nI 0) hx hb dX4_contains_15 (by decide) ?_
    refine lv_goto (tgt := 20) hx hb dX4_contains_16 (by decide) ?_
    refine w_calli (w := mW cI cZ ad I V) hS hA hK hD (va_runV (As := [.int (nI 0)]) (rest := []) ⟨hx, hb, hml, hown, hts⟩ (c_X4_refuses l D cI cZ ad I V H.size 0 (by decide)) (cwV 1 hts gX4_contains_X4_refuses rfl rfl rfl (by decide +kernel) ⟨Nat.le_of_ble_eq_true rfl, Nat.le_of_ble_eq_true rfl⟩) ⟨(w_pre hP hK hD wEnv_true).1, wR_recv (C := RX4) (T := TX4) (N := 18) hK hP (ci := 4) rfl 0 (by decide) rfl, (w_pre hP hK hD wEnv_true).2⟩ rfl rfl hl.1 rfl (lv_room (Nat.le_of_ble_eq_true rfl)) dX4_contains_20 ⟨Nat.le_of_ble_eq_true rfl, Nat.le_of_ble_eq_true rfl⟩) (fun r_6 u H locs hw hP hD hS hz => ?_)
    rw [show r_6 = nI 0 from hw]
    refine lv_if_ne (tgt := 39) hx hb dX4_contains_23 (by decide) (fun c_7 => ?_) (fun c_7 => ?_)
    · exact absurd (by decide) c_7
    · obtain ⟨hxjx, hxix⟩ := nx_nn (x := x) (by omega)
      rw [← hf] at hxjx hxix
      rw [hxjx] at hl
      refine lv_aload_n hx hb dX4_contains_26 rfl (lv_at hl 0 rfl) ?_
      refine wR_get (v := .ref (ad 3)) (C := RX4) (T := TX4) (N := 18) (ci := 4) hx hb hts hinX4 hown hK hP 0 (by decide) rfl rfl 4 (by decide) (hts (.fieldLink RX4 16 "ChangeStreamModel" "in" "[Z") (by decide +kernel)) rfl rfl dX4_contains_27 ?_
      refine lv_iload_n hx hb dX4_contains_30 rfl (lv_at hl 1 rfl) ?_
      refine wR_zld (f := V 3) (v := (V 3) f) hx hb hK hP 3 1 (by decide) rfl rfl (nx_in (k := f) rfl (by omega) (by decide)) (j := f) (nx_cl rfl (by omega)) rfl dX4_contains_31 ?_
      refine lv_if_eq (tgt := 39) hx hb dX4_contains_32 (by decide) (fun c_8 => ?_) (fun c_8 => ?_)
      · refine lv_iconst (v := nI 0) hx hb dX4_contains_39 (by decide) ?_
        have hcdv : cd = 0 := (by rw [hcd, if_neg (by omega)])
        subst hcdv
        have hEI : (va_up I 0 (va_up (I 0) 0 (nI 0)) : Nat → Nat → Int32) = if 0 = 0 then va_up I 0 (va_up (I 0) 0 (nI 0)) else va_up I 0 (va_up (I 0) 0 (nI 0)) := by first | rfl | (simp only [bx_uu, wR_same]; done)
        have hP : va_P D vwCl (mW cI cZ ad (if 0 = 0 then va_up I 0 (va_up (I 0) 0 (nI 0)) else va_up I 0 (va_up (I 0) 0 (nI 0))) V) H := by rw [← hEI]; exact hP
        have hD : va_D A (mW cI cZ ad (if 0 = 0 then va_up I 0 (va_up (I 0) 0 (nI 0)) else va_up I 0 (va_up (I 0) 0 (nI 0))) V) := by rw [← hEI]; exact hD
        exact W.zret (v := nI 0) hx hb hr rfl (fun t ht hW => ⟨⟨nI 0, (), rfl, (fun _ => (by have h9 : V 3 f = 0 := c_8; rw [h9]; rfl)), by rw [ht]; exact hP, va_K.moved hW.alike hK, hD⟩, hS.F ht⟩) hS.2.2 dX4_contains_40
      · refine lv_iconst (v := nI 1) hx hb dX4_contains_35 (by decide) ?_
        refine lv_goto (tgt := 40) hx hb dX4_contains_36 (by decide) ?_
        have hcdv : cd = 0 := (by rw [hcd, if_neg (by omega)])
        subst hcdv
        have hEI : (va_up I 0 (va_up (I 0) 0 (nI 0)) : Nat → Nat → Int32) = if 0 = 0 then va_up I 0 (va_up (I 0) 0 (nI 0)) else va_up I 0 (va_up (I 0) 0 (nI 0)) := by first | rfl | (simp only [bx_uu, wR_same]; done)
        have hP : va_P D vwCl (mW cI cZ ad (if 0 = 0 then va_up I 0 (va_up (I 0) 0 (nI 0)) else va_up I 0 (va_up (I 0) 0 (nI 0))) V) H := by rw [← hEI]; exact hP
        have hD : va_D A (mW cI cZ ad (if 0 = 0 then va_up I 0 (va_up (I 0) 0 (nI 0)) else va_up I 0 (va_up (I 0) 0 (nI 0))) V) := by rw [← hEI]; exact hD
        exact W.zret (v := nI 1) hx hb hr rfl (fun t ht hW => ⟨⟨nI 1, (), rfl, (fun _ => (by have h9 : V 3 f = 1 := (h01 f).resolve_left c_8; rw [h9]; rfl)), by rw [ht]; exact hP, va_K.moved hW.alike hK, hD⟩, hS.F ht⟩) hS.2.2 dX4_contains_40

set_option maxHeartbeats 4000000 in
set_option maxRecDepth 100000 in
/-- forgets() -/
theorem c_X4_forgets (l : Launch) (D : va_G) (cI cZ : ClassId) (ad : Nat → Nat) (I V : Nat → Nat → Int32) (sz : Nat) (TT lst kp : Nat) (hT : I 0 9 = nI TT) (hkp : I 0 11 = nI kp) (hls : I 0 12 = nI lst) (hT1 : TT ≤ 600) (hkp1 : kp ≤ 30) (hls0 : 0 < lst) (hls1 : lst ≤ 600) : Met l yX4_forgets wsX4_forgets ({ frames := 0, cells := 0, slots := 0, locals := 0 } : Room) (va_Pc [.ref (ad 0)] (wPre D vwCl (mT cI cZ) (mW cI cZ ad I V) sz wTrue)) (va_Qv (fun (u : Unit) => True) (wPost D vwCl (mT cI cZ) (fun (u : Unit) => mW cI cZ ad (va_up I 0 (va_up (I 0) 12 (nI (max lst (TT + 1 - kp))))) V) (va_A (mW cI cZ ad I V) sz)) (va_A (mW cI cZ ad I V) sz)) 0 0 (va_A (mW cI cZ ad I V) sz) := by
  refine Met.ofW (cc := cX4_forgets) (maxL := 2) (ret := none) (by decide) rfl ?_
  intro p e s m args below meth c s₁ B hml hv
  obtain ⟨rfl, hsz, hP, hK, hD0, hE⟩ := hv
  have hx := B.exec
  have hb := B.bytes
  have hr := B.returns
  have hts := atoms_spec (ws := wsX4_forgets) B.pre
  have hown : s.vm.findClass RX4 = some m.cls := findClass_of_methodNamed B.named
  have hlocks := B.notSynchronized
  subst hsz
  have hD := hD0.self (sz := s.heap.size)
  generalize hAe : va_A (mW cI cZ ad I V) s.heap.size = A at hD ⊢
  have hA : ∀ q : Nat, s.heap.size ≤ q → A q := fun q h => by rw [← hAe]; exact Or.inr h
  have hS : va_S A s.heap s.heap [] := va_S.rf
  have hinX4 : ∀ w ∈ wsX40, w ∈ wsX4_forgets := by decide +kernel
  have hl := lv_entry ([.ref (ad 0)]) (n := 2) (Nat.le_of_ble_eq_true rfl)
  rw [lg_entry_eq]
  generalize (lg_sl ([.ref (ad 0)]) ++ List.replicate (2 - (lg_sl ([.ref (ad 0)])).length) Slot.unset).toArray = ls at hl ⊢
  have hl : lv_has ls 2 [(0, .ref (ad 0))] := hl
  refine lv_aload_n hx hb dX4_forgets_0 rfl (lv_at hl 0 rfl) ?_
  refine wR_get (v := .int (nI TT)) (C := RX4) (T := TX4) (N := 18) (ci := 4) hx hb hts hinX4 hown hK hP 0 (by decide) rfl rfl 9 (by decide) (hts (.fieldLink RX4 65 "ChangeStreamModel" "transactions" "I") (by decide +kernel)) rfl (congrArg (fun z => some (Value.int z)) hT) dX4_forgets_1 ?_
  refine lv_aload_n hx hb dX4_forgets_4 rfl (lv_at hl 0 rfl) ?_
  refine wR_get (v := .int (nI kp)) (C := RX4) (T := TX4) (N := 18) (ci := 4) hx hb hts hinX4 hown hK hP 0 (by decide) rfl rfl 11 (by decide) (hts (.fieldLink RX4 29 "ChangeStreamModel" "kept" "I") (by decide +kernel)) rfl (congrArg (fun z => some (Value.int z)) hkp) dX4_forgets_5 ?_
  refine lv_isub hx hb dX4_forgets_8 ?_
  refine lv_iconst (v := nI 1) hx hb dX4_forgets_9 (by decide) ?_
  refine lv_iadd hx hb dX4_forgets_10 ?_
  refine lv_istore_n (lv' := [(1, .int (((nI TT) - (nI kp)) + (nI 1))), (0, .ref (ad 0))]) hx hb dX4_forgets_11 rfl hl (by decide) rfl (fun ls hl => ?_)
  refine lv_aload_n hx hb dX4_forgets_12 rfl (lv_at hl 1 rfl) ?_
  refine lv_iload_n hx hb dX4_forgets_13 rfl (lv_at hl 0 rfl) ?_
  refine lv_aload_n hx hb dX4_forgets_14 rfl (lv_at hl 1 rfl) ?_
  refine wR_get (v := .int (nI lst)) (C := RX4) (T := TX4) (N := 18) (ci := 4) hx hb hts hinX4 hown hK hP 0 (by decide) rfl rfl 12 (by decide) (hts (.fieldLink RX4 33 "ChangeStreamModel" "least" "I") (by decide +kernel)) rfl (congrArg (fun z => some (Value.int z)) hls) dX4_forgets_15 ?_
  refine lv_icmp_le (tgt := 25) hx hb dX4_forgets_18 (by decide) (fun c_1 => ?_) (fun c_1 => ?_)
  · refine lv_aload_n hx hb dX4_forgets_25 rfl (lv_at hl 1 rfl) ?_
    refine wR_get (v := .int (nI lst)) (C := RX4) (T := TX4) (N := 18) (ci := 4) hx hb hts hinX4 hown hK hP 0 (by decide) rfl rfl 12 (by decide) (hts (.fieldLink RX4 33 "ChangeStreamModel" "least" "I") (by decide +kernel)) rfl (congrArg (fun z => some (Value.int z)) hls) dX4_forgets_26 ?_
    refine wR_put (C := RX4) (T := TX4) (N := 18) (ci := 4) hx hb hts hinX4 tyX4 tyX4_ok nmX4 hown hK hP hD hS 0 (by decide) rfl rfl 12 (by decide) (hts (.fieldLink RX4 33 "ChangeStreamModel" "least" "I") (by decide +kernel)) rfl rfl (by decide +kernel) (by simp) (va_up (I 0) 12 (nI lst)) rfl dX4_forgets_29 (fun H locs hP hD hS => ?_)
    have hEI : (va_up I 0 (va_up (I 0) 12 (nI lst)) : Nat → Nat → Int32) = va_up I 0 (va_up (I 0) 12 (nI (max lst (TT + 1 - kp)))) := by rw [← n_max (by omega) (by omega) (by omega) hls0]; rw [if_neg (Int32.not_lt.mpr c_1)]
    have hP : va_P D vwCl (mW cI cZ ad (va_up I 0 (va_up (I 0) 12 (nI (max lst (TT + 1 - kp))))) V) H := by rw [← hEI]; exact hP
    have hD : va_D A (mW cI cZ ad (va_up I 0 (va_up (I 0) 12 (nI (max lst (TT + 1 - kp))))) V) := by rw [← hEI]; exact hD
    exact W.vret hx hb hr (fun t ht hW => ⟨⟨(), rfl, trivial, by rw [ht]; exact hP, va_K.moved hW.alike hK, hD⟩, hS.F ht⟩) hS.2.2 dX4_forgets_32
  · refine lv_iload_n hx hb dX4_forgets_21 rfl (lv_at hl 0 rfl) ?_
    refine lv_goto (tgt := 29) hx hb dX4_forgets_22 (by decide) ?_
    refine wR_put (C := RX4) (T := TX4) (N := 18) (ci := 4) hx hb hts hinX4 tyX4 tyX4_ok nmX4 hown hK hP hD hS 0 (by decide) rfl rfl 12 (by decide) (hts (.fieldLink RX4 33 "ChangeStreamModel" "least" "I") (by decide +kernel)) rfl rfl (by decide +kernel) (by simp) (va_up (I 0) 12 (((nI TT) - (nI kp)) + (nI 1))) rfl dX4_forgets_29 (fun H locs hP hD hS => ?_)
    have hEI : (va_up I 0 (va_up (I 0) 12 (((nI TT) - (nI kp)) + (nI 1))) : Nat → Nat → Int32) = va_up I 0 (va_up (I 0) 12 (nI (max lst (TT + 1 - kp)))) := by rw [← n_max (by omega) (by omega) (by omega) hls0]; rw [if_pos (Int32.not_le.mp c_1)]
    have hP : va_P D vwCl (mW cI cZ ad (va_up I 0 (va_up (I 0) 12 (nI (max lst (TT + 1 - kp))))) V) H := by rw [← hEI]; exact hP
    have hD : va_D A (mW cI cZ ad (va_up I 0 (va_up (I 0) 12 (nI (max lst (TT + 1 - kp))))) V) := by rw [← hEI]; exact hD
    exact W.vret hx hb hr (fun t ht hW => ⟨⟨(), rfl, trivial, by rw [ht]; exact hP, va_K.moved hW.alike hK, hD⟩, hS.F ht⟩) hS.2.2 dX4_forgets_32

set_option maxHeartbeats 4000000 in
set_option maxRecDepth 100000 in
/-- keep(x) -/
theorem c_X4_keep (l : Launch) (D : va_G) (cI cZ : ClassId) (ad : Nat → Nat) (I V : Nat → Nat → Int32) (sz : Nat) (TT lst rc kp nr : Nat) (hrc : I 0 7 = nI rc) (hT : I 0 9 = nI TT) (hkp : I 0 11 = nI kp) (hls : I 0 12 = nI lst) (hnr : I 0 13 = nI nr) (hr6 : rc ≤ 512) (hT1 : TT ≤ 512) (hkp1 : kp ≤ 30) (hls0 : 0 < lst) (hls1 : lst ≤ 513) (hnr6 : nr ≤ 6) (x : Int32) (f : Nat) (hf : f = x.toNatClampNeg) (cd : Nat) (hcd : cd = if ¬ (1 ≤ x.toInt ∧ x.toInt ≤ 30) then 1 else 0) : Met l yX4_keep wsX4_keep ({ frames := 1, cells := 0, slots := 0, locals := 22 } : Room) (va_Pc [.ref (ad 0), .int x] (wPre D vwCl (mT cI cZ) (mW cI cZ ad I V) sz wTrue)) (va_Qi (fun (r : Int32) (u : Unit) => cd = 0 → r = nI kp) (wPost D vwCl (mT cI cZ) (fun (u : Unit) => mW cI cZ ad (if cd = 0 then va_up I 0 (va_up (va_up (va_up (I 0) 0 (nI 0)) 11 (nI f)) 12 (nI (max lst (TT + 1 - f)))) else va_up I 0 (va_up (I 0) 0 (nI cd))) V) (va_A (mW cI cZ ad I V) sz)) (va_A (mW cI cZ ad I V) sz)) 0 0 (va_A (mW cI cZ ad I V) sz) := by
  refine Met.ofW (cc := cX4_keep) (maxL := 3) (ret := (some .int)) (by decide) rfl ?_
  intro p e s m args below meth c s₁ B hml hv
  obtain ⟨rfl, hsz, hP, hK, hD0, hE⟩ := hv
  have hx := B.exec
  have hb := B.bytes
  have hr := B.returns
  have hts := atoms_spec (ws := wsX4_keep) B.pre
  have hown : s.vm.findClass RX4 = some m.cls := findClass_of_methodNamed B.named
  have hlocks := B.notSynchronized
  subst hsz
  have hD := hD0.self (sz := s.heap.size)
  generalize hAe : va_A (mW cI cZ ad I V) s.heap.size = A at hD ⊢
  have hA : ∀ q : Nat, s.heap.size ≤ q → A q := fun q h => by rw [← hAe]; exact Or.inr h
  have hS : va_S A s.heap s.heap [] := va_S.rf
  have hinX4 : ∀ w ∈ wsX40, w ∈ wsX4_keep := by decide +kernel
  have hl := lv_entry ([.ref (ad 0), .int x]) (n := 3) (Nat.le_of_ble_eq_true rfl)
  rw [lg_entry_eq]
  generalize (lg_sl ([.ref (ad 0), .int x]) ++ List.replicate (3 - (lg_sl ([.ref (ad 0), .int x])).length) Slot.unset).toArray = ls at hl ⊢
  have hl : lv_has ls 3 [(0, .ref (ad 0)), (1, .int x)] := hl
  refine lv_aload_n hx hb dX4_keep_0 rfl (lv_at hl 0 rfl) ?_
  refine lv_iload_n hx hb dX4_keep_1 rfl (lv_at hl 1 rfl) ?_
  refine lv_iconst (v := nI 1) hx hb dX4_keep_2 (by decide) ?_
  refine lv_bipush (v := nI 30) hx hb dX4_keep_3 (by decide) ?_
  refine w_calli (w := mW cI cZ ad I V) hS hA hK hD (va_runS (As := [.int x, .int (nI 1), .int (nI 30)]) (rest := [.ref (ad 0)]) ⟨hx, hb, hml, hown, hts⟩ (c_X4_within l D (mT cI cZ) (mW cI cZ ad I V) wTrue s.heap.size x (nI 1) (nI 30)) (va_cwS 3 hts gX4_keep_X4_within rfl rfl rfl (by decide +kernel) ⟨Nat.le_of_ble_eq_true rfl, Nat.le_of_ble_eq_true rfl⟩) (w_pre hP hK hD wEnv_true) rfl rfl hl.1 rfl (lv_room (Nat.le_of_ble_eq_true rfl)) dX4_keep_5 ⟨Nat.le_of_ble_eq_true rfl, Nat.le_of_ble_eq_true rfl⟩) (fun r_2 u H locs hw hP hD hS hz => ?_)
  have hw_1 : r_2 = wI x (1) (30) := by rw [hw, nI_toInt (n := 1) (by decide), nI_toInt (n := 30) (by decide)]; rfl
  refine lv_if_eq (tgt := 15) hx hb dX4_keep_8 (by decide) (fun c_3 => ?_) (fun c_3 => ?_)
  · have qhw_1 := wI_out hw_1 c_3
    refine lv_iconst (v := nI 1) hx hb dX4_keep_15 (by decide) ?_
    refine w_calli (w := mW cI cZ ad I V) hS hA hK hD (va_runV (As := [.int (nI 1)]) (rest := []) ⟨hx, hb, hml, hown, hts⟩ (c_X4_refuses l D cI cZ ad I V H.size 1 (by decide)) (cwV 1 hts gX4_keep_X4_refuses rfl rfl rfl (by decide +kernel) ⟨Nat.le_of_ble_eq_true rfl, Nat.le_of_ble_eq_true rfl⟩) ⟨(w_pre hP hK hD wEnv_true).1, wR_recv (C := RX4) (T := TX4) (N := 18) hK hP (ci := 4) rfl 0 (by decide) rfl, (w_pre hP hK hD wEnv_true).2⟩ rfl rfl hl.1 rfl (lv_room (Nat.le_of_ble_eq_true rfl)) dX4_keep_16 ⟨Nat.le_of_ble_eq_true rfl, Nat.le_of_ble_eq_true rfl⟩) (fun r_4 u H locs hw hP hD hS hz => ?_)
    rw [show r_4 = nI 1 from hw]
    refine lv_if_eq (tgt := 24) hx hb dX4_keep_19 (by decide) (fun c_5 => ?_) (fun c_5 => ?_)
    · exact absurd c_5 (by decide)
    · refine lv_iconst (v := nI 0) hx hb dX4_keep_22 (by decide) ?_
      have hcdv : cd = 1 := (by rw [hcd, if_pos (by omega)])
      subst hcdv
      have hEI : (va_up I 0 (va_up (I 0) 0 (nI 1)) : Nat → Nat → Int32) = if 1 = 0 then va_up I 0 (va_up (va_up (va_up (I 0) 0 (nI 0)) 11 (nI f)) 12 (nI (max lst (TT + 1 - f)))) else va_up I 0 (va_up (I 0) 0 (nI 1)) := by first | rfl | (simp only [bx_uu, wR_same]; done)
      have hP : va_P D vwCl (mW cI cZ ad (if 1 = 0 then va_up I 0 (va_up (va_up (va_up (I 0) 0 (nI 0)) 11 (nI f)) 12 (nI (max lst (TT + 1 - f)))) else va_up I 0 (va_up (I 0) 0 (nI 1))) V) H := by rw [← hEI]; exact hP
      have hD : va_D A (mW cI cZ ad (if 1 = 0 then va_up I 0 (va_up (va_up (va_up (I 0) 0 (nI 0)) 11 (nI f)) 12 (nI (max lst (TT + 1 - f)))) else va_up I 0 (va_up (I 0) 0 (nI 1))) V) := by rw [← hEI]; exact hD
      exact W.iret (v := nI 0) hx hb hr (fun t ht hW => ⟨⟨nI 0, (), rfl, (fun h9 => absurd h9 (by decide)), by rw [ht]; exact hP, va_K.moved hW.alike hK, hD⟩, hS.F ht⟩) hS.2.2 dX4_keep_23
  · have qhw_1 := wI_in hw_1 c_3
    refine lv_iconst (v := nI 0) hx hb dX4_keep_11 (by decide) ?_
    refine lv_goto (tgt := 16) hx hb dX4_keep_12 (by decide) ?_
    refine w_calli (w := mW cI cZ ad I V) hS hA hK hD (va_runV (As := [.int (nI 0)]) (rest := []) ⟨hx, hb, hml, hown, hts⟩ (c_X4_refuses l D cI cZ ad I V H.size 0 (by decide)) (cwV 1 hts gX4_keep_X4_refuses rfl rfl rfl (by decide +kernel) ⟨Nat.le_of_ble_eq_true rfl, Nat.le_of_ble_eq_true rfl⟩) ⟨(w_pre hP hK hD wEnv_true).1, wR_recv (C := RX4) (T := TX4) (N := 18) hK hP (ci := 4) rfl 0 (by decide) rfl, (w_pre hP hK hD wEnv_true).2⟩ rfl rfl hl.1 rfl (lv_room (Nat.le_of_ble_eq_true rfl)) dX4_keep_16 ⟨Nat.le_of_ble_eq_true rfl, Nat.le_of_ble_eq_true rfl⟩) (fun r_6 u H locs hw hP hD hS hz => ?_)
    rw [show r_6 = nI 0 from hw]
    refine lv_if_eq (tgt := 24) hx hb dX4_keep_19 (by decide) (fun c_7 => ?_) (fun c_7 => ?_)
    · obtain ⟨hxjx, hxix⟩ := nx_nn (x := x) (by omega)
      rw [← hf] at hxjx hxix
      rw [hxjx] at hl
      refine lv_aload_n hx hb dX4_keep_24 rfl (lv_at hl 0 rfl) ?_
      refine wR_get (v := .int (nI kp)) (C := RX4) (T := TX4) (N := 18) (ci := 4) hx hb hts hinX4 hown hK hP 0 (by decide) rfl rfl 11 (by decide) (hts (.fieldLink RX4 29 "ChangeStreamModel" "kept" "I") (by decide +kernel)) rfl (congrArg (fun z => some (Value.int z)) hkp) dX4_keep_25 ?_
      refine lv_istore_n (lv' := [(2, .int (nI kp)), (0, .ref (ad 0)), (1, .int (nI f))]) hx hb dX4_keep_28 rfl hl (by decide) rfl (fun ls hl => ?_)
      refine lv_aload_n hx hb dX4_keep_29 rfl (lv_at hl 1 rfl) ?_
      refine lv_iload_n hx hb dX4_keep_30 rfl (lv_at hl 2 rfl) ?_
      refine wR_put (C := RX4) (T := TX4) (N := 18) (ci := 4) hx hb hts hinX4 tyX4 tyX4_ok nmX4 hown hK hP hD hS 0 (by decide) rfl rfl 11 (by decide) (hts (.fieldLink RX4 29 "ChangeStreamModel" "kept" "I") (by decide +kernel)) rfl rfl (by decide +kernel) (by simp) (va_up (va_up (I 0) 0 (nI 0)) 11 (nI f)) rfl dX4_keep_31 (fun H locs hP hD hS => ?_)
      rw [bx_uu] at hP hD
      refine lv_aload_n hx hb dX4_keep_34 rfl (lv_at hl 1 rfl) ?_
      refine w_callv (w := mW cI cZ ad (va_up I 0 (va_up (va_up (I 0) 0 (nI 0)) 11 (nI f))) V) hS hA hK hD (va_runV (As := []) (rest := []) ⟨hx, hb, hml, hown, hts⟩ (c_X4_forgets l D cI cZ ad (va_up I 0 (va_up (va_up (I 0) 0 (nI 0)) 11 (nI f))) V H.size TT lst f hT rfl hls (by omega) (by omega) hls0 (by omega)) (cwV 0 hts gX4_keep_X4_forgets rfl rfl rfl (by decide +kernel) ⟨Nat.le_of_ble_eq_true rfl, Nat.le_of_ble_eq_true rfl⟩) ⟨(w_pre hP hK hD wEnv_true).1, wR_recv (C := RX4) (T := TX4) (N := 18) hK hP (ci := 4) rfl 0 (by decide) rfl, (w_pre hP hK hD wEnv_true).2⟩ rfl rfl hl.1 rfl (lv_room (Nat.le_of_ble_eq_true rfl)) dX4_keep_35 ⟨Nat.le_of_ble_eq_true rfl, Nat.le_of_ble_eq_true rfl⟩) (fun  u H locs hw hP hD hS hz => ?_)
      rw [bx_uu] at hP hD
      refine lv_iload_n hx hb dX4_keep_38 rfl (lv_at hl 0 rfl) ?_
      have hcdv : cd = 0 := (by rw [hcd, if_neg (by omega)])
      subst hcdv
      have hEI : (va_up I 0 (va_up (va_up (va_up (I 0) 0 (nI 0)) 11 (nI f)) 12 (nI (max lst (TT + 1 - f)))) : Nat → Nat → Int32) = if 0 = 0 then va_up I 0 (va_up (va_up (va_up (I 0) 0 (nI 0)) 11 (nI f)) 12 (nI (max lst (TT + 1 - f)))) else va_up I 0 (va_up (I 0) 0 (nI 0)) := by first | rfl | (simp only [bx_uu, wR_same]; done)
      have hP : va_P D vwCl (mW cI cZ ad (if 0 = 0 then va_up I 0 (va_up (va_up (va_up (I 0) 0 (nI 0)) 11 (nI f)) 12 (nI (max lst (TT + 1 - f)))) else va_up I 0 (va_up (I 0) 0 (nI 0))) V) H := by rw [← hEI]; exact hP
      have hD : va_D A (mW cI cZ ad (if 0 = 0 then va_up I 0 (va_up (va_up (va_up (I 0) 0 (nI 0)) 11 (nI f)) 12 (nI (max lst (TT + 1 - f)))) else va_up I 0 (va_up (I 0) 0 (nI 0))) V) := by rw [← hEI]; exact hD
      exact W.iret (v := nI kp) hx hb hr (fun t ht hW => ⟨⟨nI kp, (), rfl, (fun _ => rfl), by rw [ht]; exact hP, va_K.moved hW.alike hK, hD⟩, hS.F ht⟩) hS.2.2 dX4_keep_39
    · exact absurd (by decide) c_7

set_option maxHeartbeats 4000000 in
set_option maxRecDepth 100000 in
/-- told(y) -/
theorem c_X4_told (l : Launch) (D : va_G) (cI cZ : ClassId) (ad : Nat → Nat) (I V : Nat → Nat → Int32) (sz : Nat) (k : Nat) (hk : I 0 1 = nI k) (hk1 : k ≤ 100) (q : Nat) (hq : I 0 5 = nI q) (hq2 : q ≤ 20) (TT lst rc kp nr : Nat) (hrc : I 0 7 = nI rc) (hT : I 0 9 = nI TT) (hkp : I 0 11 = nI kp) (hls : I 0 12 = nI lst) (hnr : I 0 13 = nI nr) (hr6 : rc ≤ 512) (hT1 : TT ≤ 512) (hkp1 : kp ≤ 30) (hls0 : 0 < lst) (hls1 : lst ≤ 513) (hnr6 : nr ≤ 6) (y : Int32) (v : Nat) (hv : v = y.toNatClampNeg) (cd : Nat) (hcd : cd = if ¬ (0 ≤ y.toInt ∧ y.toInt ≤ 5) then 1 else 0) : Met l yX4_told wsX4_told ({ frames := 1, cells := 0, slots := 0, locals := 22 } : Room) (va_Pc [.ref (ad 0), .int y] (wPre D vwCl (mT cI cZ) (mW cI cZ ad I V) sz wTrue)) (va_Qi (fun (r : Int32) (u : Unit) => cd = 0 → r = tld k TT lst rc nr q v) (wPost D vwCl (mT cI cZ) (fun (u : Unit) => mW cI cZ ad (if cd = 0 then va_up I 0 (va_up (I 0) 0 (nI 0)) else va_up I 0 (va_up (I 0) 0 (nI cd))) V) (va_A (mW cI cZ ad I V) sz)) (va_A (mW cI cZ ad I V) sz)) 0 0 (va_A (mW cI cZ ad I V) sz) := by
  refine Met.ofW (cc := cX4_told) (maxL := 2) (ret := (some .int)) (by decide) rfl ?_
  intro p e s m args below meth c s₁ B hml hv
  obtain ⟨rfl, hsz, hP, hK, hD0, hE⟩ := hv
  have hx := B.exec
  have hb := B.bytes
  have hr := B.returns
  have hts := atoms_spec (ws := wsX4_told) B.pre
  have hown : s.vm.findClass RX4 = some m.cls := findClass_of_methodNamed B.named
  have hlocks := B.notSynchronized
  subst hsz
  have hD := hD0.self (sz := s.heap.size)
  generalize hAe : va_A (mW cI cZ ad I V) s.heap.size = A at hD ⊢
  have hA : ∀ q : Nat, s.heap.size ≤ q → A q := fun q h => by rw [← hAe]; exact Or.inr h
  have hS : va_S A s.heap s.heap [] := va_S.rf
  have hinX4 : ∀ w ∈ wsX40, w ∈ wsX4_told := by decide +kernel
  have hl := lv_entry ([.ref (ad 0), .int y]) (n := 2) (Nat.le_of_ble_eq_true rfl)
  rw [lg_entry_eq]
  generalize (lg_sl ([.ref (ad 0), .int y]) ++ List.replicate (2 - (lg_sl ([.ref (ad 0), .int y])).length) Slot.unset).toArray = ls at hl ⊢
  have hl : lv_has ls 2 [(0, .ref (ad 0)), (1, .int y)] := hl
  refine lv_aload_n hx hb dX4_told_0 rfl (lv_at hl 0 rfl) ?_
  refine lv_iload_n hx hb dX4_told_1 rfl (lv_at hl 1 rfl) ?_
  refine lv_iconst (v := nI 0) hx hb dX4_told_2 (by decide) ?_
  refine lv_iconst (v := nI 5) hx hb dX4_told_3 (by decide) ?_
  refine w_calli (w := mW cI cZ ad I V) hS hA hK hD (va_runS (As := [.int y, .int (nI 0), .int (nI 5)]) (rest := [.ref (ad 0)]) ⟨hx, hb, hml, hown, hts⟩ (c_X4_within l D (mT cI cZ) (mW cI cZ ad I V) wTrue s.heap.size y (nI 0) (nI 5)) (va_cwS 3 hts gX4_told_X4_within rfl rfl rfl (by decide +kernel) ⟨Nat.le_of_ble_eq_true rfl, Nat.le_of_ble_eq_true rfl⟩) (w_pre hP hK hD wEnv_true) rfl rfl hl.1 rfl (lv_room (Nat.le_of_ble_eq_true rfl)) dX4_told_4 ⟨Nat.le_of_ble_eq_true rfl, Nat.le_of_ble_eq_true rfl⟩) (fun r_2 u H locs hw hP hD hS hz => ?_)
  have hw_1 : r_2 = wI y (0) (5) := by rw [hw, nI_toInt (n := 0) (by decide), nI_toInt (n := 5) (by decide)]; rfl
  refine lv_if_eq (tgt := 14) hx hb dX4_told_7 (by decide) (fun c_3 => ?_) (fun c_3 => ?_)
  · have qhw_1 := wI_out hw_1 c_3
    refine lv_iconst (v := nI 1) hx hb dX4_told_14 (by decide) ?_
    refine w_calli (w := mW cI cZ ad I V) hS hA hK hD (va_runV (As := [.int (nI 1)]) (rest := []) ⟨hx, hb, hml, hown, hts⟩ (c_X4_refuses l D cI cZ ad I V H.size 1 (by decide)) (cwV 1 hts gX4_told_X4_refuses rfl rfl rfl (by decide +kernel) ⟨Nat.le_of_ble_eq_true rfl, Nat.le_of_ble_eq_true rfl⟩) ⟨(w_pre hP hK hD wEnv_true).1, wR_recv (C := RX4) (T := TX4) (N := 18) hK hP (ci := 4) rfl 0 (by decide) rfl, (w_pre hP hK hD wEnv_true).2⟩ rfl rfl hl.1 rfl (lv_room (Nat.le_of_ble_eq_true rfl)) dX4_told_15 ⟨Nat.le_of_ble_eq_true rfl, Nat.le_of_ble_eq_true rfl⟩) (fun r_4 u H locs hw hP hD hS hz => ?_)
    rw [show r_4 = nI 1 from hw]
    refine lv_if_eq (tgt := 23) hx hb dX4_told_18 (by decide) (fun c_5 => ?_) (fun c_5 => ?_)
    · exact absurd c_5 (by decide)
    · refine lv_iconst (v := nI 0) hx hb dX4_told_21 (by decide) ?_
      have hcdv : cd = 1 := (by rw [hcd, if_pos (by omega)])
      subst hcdv
      have hEI : (va_up I 0 (va_up (I 0) 0 (nI 1)) : Nat → Nat → Int32) = if 1 = 0 then va_up I 0 (va_up (I 0) 0 (nI 0)) else va_up I 0 (va_up (I 0) 0 (nI 1)) := by first | rfl | (simp only [bx_uu, wR_same]; done)
      have hP : va_P D vwCl (mW cI cZ ad (if 1 = 0 then va_up I 0 (va_up (I 0) 0 (nI 0)) else va_up I 0 (va_up (I 0) 0 (nI 1))) V) H := by rw [← hEI]; exact hP
      have hD : va_D A (mW cI cZ ad (if 1 = 0 then va_up I 0 (va_up (I 0) 0 (nI 0)) else va_up I 0 (va_up (I 0) 0 (nI 1))) V) := by rw [← hEI]; exact hD
      exact W.iret (v := nI 0) hx hb hr (fun t ht hW => ⟨⟨nI 0, (), rfl, (fun h9 => absurd h9 (by decide)), by rw [ht]; exact hP, va_K.moved hW.alike hK, hD⟩, hS.F ht⟩) hS.2.2 dX4_told_22
  · have qhw_1 := wI_in hw_1 c_3
    refine lv_iconst (v := nI 0) hx hb dX4_told_10 (by decide) ?_
    refine lv_goto (tgt := 15) hx hb dX4_told_11 (by decide) ?_
    refine w_calli (w := mW cI cZ ad I V) hS hA hK hD (va_runV (As := [.int (nI 0)]) (rest := []) ⟨hx, hb, hml, hown, hts⟩ (c_X4_refuses l D cI cZ ad I V H.size 0 (by decide)) (cwV 1 hts gX4_told_X4_refuses rfl rfl rfl (by decide +kernel) ⟨Nat.le_of_ble_eq_true rfl, Nat.le_of_ble_eq_true rfl⟩) ⟨(w_pre hP hK hD wEnv_true).1, wR_recv (C := RX4) (T := TX4) (N := 18) hK hP (ci := 4) rfl 0 (by decide) rfl, (w_pre hP hK hD wEnv_true).2⟩ rfl rfl hl.1 rfl (lv_room (Nat.le_of_ble_eq_true rfl)) dX4_told_15 ⟨Nat.le_of_ble_eq_true rfl, Nat.le_of_ble_eq_true rfl⟩) (fun r_6 u H locs hw hP hD hS hz => ?_)
    rw [show r_6 = nI 0 from hw]
    refine lv_if_eq (tgt := 23) hx hb dX4_told_18 (by decide) (fun c_7 => ?_) (fun c_7 => ?_)
    · obtain ⟨hxjy, hxiy⟩ := nx_nn (x := y) (by omega)
      rw [← hv] at hxjy hxiy
      rw [hxjy] at hl
      refine lv_iload_n hx hb dX4_told_23 rfl (lv_at hl 1 rfl) ?_
      rcases (show v = 0 ∨ v = 1 ∨ v = 2 ∨ v = 3 ∨ v = 4 ∨ v = 5 by omega) with rfl | rfl | rfl | rfl | rfl | rfl
      · refine lv_tableIn (tgt := 60) hx hb dX4_told_24 (by decide) (by decide) (off := 36) (by decide) (by decide) ?_
        refine lv_aload_n hx hb dX4_told_60 rfl (lv_at hl 0 rfl) ?_
        refine wR_get (v := .int (nI k)) (C := RX4) (T := TX4) (N := 18) (ci := 4) hx hb hts hinX4 hown hK hP 0 (by decide) rfl rfl 1 (by decide) (hts (.fieldLink RX4 55 "ChangeStreamModel" "facts" "I") (by decide +kernel)) rfl (congrArg (fun z => some (Value.int z)) hk) dX4_told_61 ?_
        have hcdv : cd = 0 := (by rw [hcd, if_neg (by omega)])
        subst hcdv
        have hEI : (va_up I 0 (va_up (I 0) 0 (nI 0)) : Nat → Nat → Int32) = if 0 = 0 then va_up I 0 (va_up (I 0) 0 (nI 0)) else va_up I 0 (va_up (I 0) 0 (nI 0)) := by first | rfl | (simp only [bx_uu, wR_same]; done)
        have hP : va_P D vwCl (mW cI cZ ad (if 0 = 0 then va_up I 0 (va_up (I 0) 0 (nI 0)) else va_up I 0 (va_up (I 0) 0 (nI 0))) V) H := by rw [← hEI]; exact hP
        have hD : va_D A (mW cI cZ ad (if 0 = 0 then va_up I 0 (va_up (I 0) 0 (nI 0)) else va_up I 0 (va_up (I 0) 0 (nI 0))) V) := by rw [← hEI]; exact hD
        exact W.iret (v := nI k) hx hb hr (fun t ht hW => ⟨⟨nI k, (), rfl, (fun _ => rfl), by rw [ht]; exact hP, va_K.moved hW.alike hK, hD⟩, hS.F ht⟩) hS.2.2 dX4_told_64
      · refine lv_tableIn (tgt := 65) hx hb dX4_told_24 (by decide) (by decide) (off := 41) (by decide) (by decide) ?_
        refine lv_aload_n hx hb dX4_told_65 rfl (lv_at hl 0 rfl) ?_
        refine wR_get (v := .int (nI TT)) (C := RX4) (T := TX4) (N := 18) (ci := 4) hx hb hts hinX4 hown hK hP 0 (by decide) rfl rfl 9 (by decide) (hts (.fieldLink RX4 65 "ChangeStreamModel" "transactions" "I") (by decide +kernel)) rfl (congrArg (fun z => some (Value.int z)) hT) dX4_told_66 ?_
        have hcdv : cd = 0 := (by rw [hcd, if_neg (by omega)])
        subst hcdv
        have hEI : (va_up I 0 (va_up (I 0) 0 (nI 0)) : Nat → Nat → Int32) = if 0 = 0 then va_up I 0 (va_up (I 0) 0 (nI 0)) else va_up I 0 (va_up (I 0) 0 (nI 0)) := by first | rfl | (simp only [bx_uu, wR_same]; done)
        have hP : va_P D vwCl (mW cI cZ ad (if 0 = 0 then va_up I 0 (va_up (I 0) 0 (nI 0)) else va_up I 0 (va_up (I 0) 0 (nI 0))) V) H := by rw [← hEI]; exact hP
        have hD : va_D A (mW cI cZ ad (if 0 = 0 then va_up I 0 (va_up (I 0) 0 (nI 0)) else va_up I 0 (va_up (I 0) 0 (nI 0))) V) := by rw [← hEI]; exact hD
        exact W.iret (v := nI TT) hx hb hr (fun t ht hW => ⟨⟨nI TT, (), rfl, (fun _ => rfl), by rw [ht]; exact hP, va_K.moved hW.alike hK, hD⟩, hS.F ht⟩) hS.2.2 dX4_told_69
      · refine lv_tableIn (tgt := 70) hx hb dX4_told_24 (by decide) (by decide) (off := 46) (by decide) (by decide) ?_
        refine lv_aload_n hx hb dX4_told_70 rfl (lv_at hl 0 rfl) ?_
        refine wR_get (v := .int (nI lst)) (C := RX4) (T := TX4) (N := 18) (ci := 4) hx hb hts hinX4 hown hK hP 0 (by decide) rfl rfl 12 (by decide) (hts (.fieldLink RX4 33 "ChangeStreamModel" "least" "I") (by decide +kernel)) rfl (congrArg (fun z => some (Value.int z)) hls) dX4_told_71 ?_
        have hcdv : cd = 0 := (by rw [hcd, if_neg (by omega)])
        subst hcdv
        have hEI : (va_up I 0 (va_up (I 0) 0 (nI 0)) : Nat → Nat → Int32) = if 0 = 0 then va_up I 0 (va_up (I 0) 0 (nI 0)) else va_up I 0 (va_up (I 0) 0 (nI 0)) := by first | rfl | (simp only [bx_uu, wR_same]; done)
        have hP : va_P D vwCl (mW cI cZ ad (if 0 = 0 then va_up I 0 (va_up (I 0) 0 (nI 0)) else va_up I 0 (va_up (I 0) 0 (nI 0))) V) H := by rw [← hEI]; exact hP
        have hD : va_D A (mW cI cZ ad (if 0 = 0 then va_up I 0 (va_up (I 0) 0 (nI 0)) else va_up I 0 (va_up (I 0) 0 (nI 0))) V) := by rw [← hEI]; exact hD
        exact W.iret (v := nI lst) hx hb hr (fun t ht hW => ⟨⟨nI lst, (), rfl, (fun _ => rfl), by rw [ht]; exact hP, va_K.moved hW.alike hK, hD⟩, hS.F ht⟩) hS.2.2 dX4_told_74
      · refine lv_tableIn (tgt := 75) hx hb dX4_told_24 (by decide) (by decide) (off := 51) (by decide) (by decide) ?_
        refine lv_aload_n hx hb dX4_told_75 rfl (lv_at hl 0 rfl) ?_
        refine wR_get (v := .int (nI rc)) (C := RX4) (T := TX4) (N := 18) (ci := 4) hx hb hts hinX4 hown hK hP 0 (by decide) rfl rfl 7 (by decide) (hts (.fieldLink RX4 68 "ChangeStreamModel" "rows" "I") (by decide +kernel)) rfl (congrArg (fun z => some (Value.int z)) hrc) dX4_told_76 ?_
        have hcdv : cd = 0 := (by rw [hcd, if_neg (by omega)])
        subst hcdv
        have hEI : (va_up I 0 (va_up (I 0) 0 (nI 0)) : Nat → Nat → Int32) = if 0 = 0 then va_up I 0 (va_up (I 0) 0 (nI 0)) else va_up I 0 (va_up (I 0) 0 (nI 0)) := by first | rfl | (simp only [bx_uu, wR_same]; done)
        have hP : va_P D vwCl (mW cI cZ ad (if 0 = 0 then va_up I 0 (va_up (I 0) 0 (nI 0)) else va_up I 0 (va_up (I 0) 0 (nI 0))) V) H := by rw [← hEI]; exact hP
        have hD : va_D A (mW cI cZ ad (if 0 = 0 then va_up I 0 (va_up (I 0) 0 (nI 0)) else va_up I 0 (va_up (I 0) 0 (nI 0))) V) := by rw [← hEI]; exact hD
        exact W.iret (v := nI rc) hx hb hr (fun t ht hW => ⟨⟨nI rc, (), rfl, (fun _ => rfl), by rw [ht]; exact hP, va_K.moved hW.alike hK, hD⟩, hS.F ht⟩) hS.2.2 dX4_told_79
      · refine lv_tableIn (tgt := 80) hx hb dX4_told_24 (by decide) (by decide) (off := 56) (by decide) (by decide) ?_
        refine lv_aload_n hx hb dX4_told_80 rfl (lv_at hl 0 rfl) ?_
        refine wR_get (v := .int (nI nr)) (C := RX4) (T := TX4) (N := 18) (ci := 4) hx hb hts hinX4 hown hK hP 0 (by decide) rfl rfl 13 (by decide) (hts (.fieldLink RX4 74 "ChangeStreamModel" "readers" "I") (by decide +kernel)) rfl (congrArg (fun z => some (Value.int z)) hnr) dX4_told_81 ?_
        have hcdv : cd = 0 := (by rw [hcd, if_neg (by omega)])
        subst hcdv
        have hEI : (va_up I 0 (va_up (I 0) 0 (nI 0)) : Nat → Nat → Int32) = if 0 = 0 then va_up I 0 (va_up (I 0) 0 (nI 0)) else va_up I 0 (va_up (I 0) 0 (nI 0)) := by first | rfl | (simp only [bx_uu, wR_same]; done)
        have hP : va_P D vwCl (mW cI cZ ad (if 0 = 0 then va_up I 0 (va_up (I 0) 0 (nI 0)) else va_up I 0 (va_up (I 0) 0 (nI 0))) V) H := by rw [← hEI]; exact hP
        have hD : va_D A (mW cI cZ ad (if 0 = 0 then va_up I 0 (va_up (I 0) 0 (nI 0)) else va_up I 0 (va_up (I 0) 0 (nI 0))) V) := by rw [← hEI]; exact hD
        exact W.iret (v := nI nr) hx hb hr (fun t ht hW => ⟨⟨nI nr, (), rfl, (fun _ => rfl), by rw [ht]; exact hP, va_K.moved hW.alike hK, hD⟩, hS.F ht⟩) hS.2.2 dX4_told_84
      · refine lv_tableOut (tgt := 85) hx hb dX4_told_24 (by decide) (by decide) ?_
        refine lv_aload_n hx hb dX4_told_85 rfl (lv_at hl 0 rfl) ?_
        refine wR_get (v := .int (nI q)) (C := RX4) (T := TX4) (N := 18) (ci := 4) hx hb hts hinX4 hown hK hP 0 (by decide) rfl rfl 5 (by decide) (hts (.fieldLink RX4 62 "ChangeStreamModel" "open" "I") (by decide +kernel)) rfl (congrArg (fun z => some (Value.int z)) hq) dX4_told_86 ?_
        have hcdv : cd = 0 := (by rw [hcd, if_neg (by omega)])
        subst hcdv
        have hEI : (va_up I 0 (va_up (I 0) 0 (nI 0)) : Nat → Nat → Int32) = if 0 = 0 then va_up I 0 (va_up (I 0) 0 (nI 0)) else va_up I 0 (va_up (I 0) 0 (nI 0)) := by first | rfl | (simp only [bx_uu, wR_same]; done)
        have hP : va_P D vwCl (mW cI cZ ad (if 0 = 0 then va_up I 0 (va_up (I 0) 0 (nI 0)) else va_up I 0 (va_up (I 0) 0 (nI 0))) V) H := by rw [← hEI]; exact hP
        have hD : va_D A (mW cI cZ ad (if 0 = 0 then va_up I 0 (va_up (I 0) 0 (nI 0)) else va_up I 0 (va_up (I 0) 0 (nI 0))) V) := by rw [← hEI]; exact hD
        exact W.iret (v := nI q) hx hb hr (fun t ht hW => ⟨⟨nI q, (), rfl, (fun _ => rfl), by rw [ht]; exact hP, va_K.moved hW.alike hK, hD⟩, hS.F ht⟩) hS.2.2 dX4_told_89
    · exact absurd (by decide) c_7

set_option maxHeartbeats 4000000 in
set_option maxRecDepth 100000 in
/-- row(x, y) -/
theorem c_X4_row (l : Launch) (D : va_G) (cI cZ : ClassId) (ad : Nat → Nat) (I V : Nat → Nat → Int32) (sz : Nat) (TT lst rc kp nr : Nat) (hrc : I 0 7 = nI rc) (hT : I 0 9 = nI TT) (hkp : I 0 11 = nI kp) (hls : I 0 12 = nI lst) (hnr : I 0 13 = nI nr) (hr6 : rc ≤ 512) (hT1 : TT ≤ 512) (hkp1 : kp ≤ 30) (hls0 : 0 < lst) (hls1 : lst ≤ 513) (hnr6 : nr ≤ 6) (fa : Nat → Nat) (hfa : ∀ j, j < rc → V 5 (3 * j + 1) = nI (fa j) ∧ fa j < 100) (x y : Int32) (i v : Nat) (hi : i = x.toNatClampNeg) (hv : v = y.toNatClampNeg) (cd : Nat) (hcd : cd = if ¬ (0 ≤ x.toInt ∧ x.toInt ≤ ((rc : Nat) : Int) - 1) ∨ ¬ (0 ≤ y.toInt ∧ y.toInt ≤ 4) then 1 else 0) : Met l yX4_row wsX4_row ({ frames := 1, cells := 0, slots := 0, locals := 22 } : Room) (va_Pc [.ref (ad 0), .int x, .int y] (wPre D vwCl (mT cI cZ) (mW cI cZ ad I V) sz wTrue)) (va_Qi (fun (r : Int32) (u : Unit) => cd = 0 → r = if V 5 (3 * i) < nI lst then -1 else if v < 3 then V 5 (3 * i + v) else if v = 3 then V 1 (fa i) else V 2 (fa i)) (wPost D vwCl (mT cI cZ) (fun (u : Unit) => mW cI cZ ad (if cd = 0 then va_up I 0 (va_up (I 0) 0 (nI 0)) else va_up I 0 (va_up (I 0) 0 (nI cd))) V) (va_A (mW cI cZ ad I V) sz)) (va_A (mW cI cZ ad I V) sz)) 0 0 (va_A (mW cI cZ ad I V) sz) := by
  refine Met.ofW (cc := cX4_row) (maxL := 4) (ret := (some .int)) (by decide) rfl ?_
  intro p e s m args below meth c s₁ B hml hv
  obtain ⟨rfl, hsz, hP, hK, hD0, hE⟩ := hv
  have hx := B.exec
  have hb := B.bytes
  have hr := B.returns
  have hts := atoms_spec (ws := wsX4_row) B.pre
  have hown : s.vm.findClass RX4 = some m.cls := findClass_of_methodNamed B.named
  have hlocks := B.notSynchronized
  subst hsz
  have hD := hD0.self (sz := s.heap.size)
  generalize hAe : va_A (mW cI cZ ad I V) s.heap.size = A at hD ⊢
  have hA : ∀ q : Nat, s.heap.size ≤ q → A q := fun q h => by rw [← hAe]; exact Or.inr h
  have hS : va_S A s.heap s.heap [] := va_S.rf
  have hinX4 : ∀ w ∈ wsX40, w ∈ wsX4_row := by decide +kernel
  have hl := lv_entry ([.ref (ad 0), .int x, .int y]) (n := 4) (Nat.le_of_ble_eq_true rfl)
  rw [lg_entry_eq]
  generalize (lg_sl ([.ref (ad 0), .int x, .int y]) ++ List.replicate (4 - (lg_sl ([.ref (ad 0), .int x, .int y])).length) Slot.unset).toArray = ls at hl ⊢
  have hl : lv_has ls 4 [(0, .ref (ad 0)), (1, .int x), (2, .int y)] := hl
  refine lv_aload_n hx hb dX4_row_0 rfl (lv_at hl 0 rfl) ?_
  refine lv_iload_n hx hb dX4_row_1 rfl (lv_at hl 1 rfl) ?_
  refine lv_iconst (v := nI 0) hx hb dX4_row_2 (by decide) ?_
  refine lv_aload_n hx hb dX4_row_3 rfl (lv_at hl 0 rfl) ?_
  refine wR_get (v := .int (nI rc)) (C := RX4) (T := TX4) (N := 18) (ci := 4) hx hb hts hinX4 hown hK hP 0 (by decide) rfl rfl 7 (by decide) (hts (.fieldLink RX4 68 "ChangeStreamModel" "rows" "I") (by decide +kernel)) rfl (congrArg (fun z => some (Value.int z)) hrc) dX4_row_4 ?_
  refine lv_iconst (v := nI 1) hx hb dX4_row_7 (by decide) ?_
  refine lv_isub hx hb dX4_row_8 ?_
  refine w_calli (w := mW cI cZ ad I V) hS hA hK hD (va_runS (As := [.int x, .int (nI 0), .int ((nI rc) - (nI 1))]) (rest := [.ref (ad 0)]) ⟨hx, hb, hml, hown, hts⟩ (c_X4_within l D (mT cI cZ) (mW cI cZ ad I V) wTrue s.heap.size x (nI 0) ((nI rc) - (nI 1))) (va_cwS 3 hts gX4_row_X4_within rfl rfl rfl (by decide +kernel) ⟨Nat.le_of_ble_eq_true rfl, Nat.le_of_ble_eq_true rfl⟩) (w_pre hP hK hD wEnv_true) rfl rfl hl.1 rfl (lv_room (Nat.le_of_ble_eq_true rfl)) dX4_row_9 ⟨Nat.le_of_ble_eq_true rfl, Nat.le_of_ble_eq_true rfl⟩) (fun r_2 u H locs hw hP hD hS hz => ?_)
  have hw_1 : r_2 = wI x (0) (((rc : Nat) : Int) - 1) := by rw [hw, nI_toInt (n := 0) (by decide), pk_sub_toInt (a := rc) (b := 1) (by omega) (by decide)]; rfl
  refine lv_if_eq (tgt := 24) hx hb dX4_row_12 (by decide) (fun c_3 => ?_) (fun c_3 => ?_)
  · have qhw_1 := wI_out hw_1 c_3
    refine lv_iconst (v := nI 1) hx hb dX4_row_24 (by decide) ?_
    refine lv_goto (tgt := 29) hx hb dX4_row_25 (by decide) ?_
    refine w_calli (w := mW cI cZ ad I V) hS hA hK hD (va_runV (As := [.int (nI 1)]) (rest := []) ⟨hx, hb, hml, hown, hts⟩ (c_X4_refuses l D cI cZ ad I V H.size 1 (by decide)) (cwV 1 hts gX4_row_X4_refuses rfl rfl rfl (by decide +kernel) ⟨Nat.le_of_ble_eq_true rfl, Nat.le_of_ble_eq_true rfl⟩) ⟨(w_pre hP hK hD wEnv_true).1, wR_recv (C := RX4) (T := TX4) (N := 18) hK hP (ci := 4) rfl 0 (by decide) rfl, (w_pre hP hK hD wEnv_true).2⟩ rfl rfl hl.1 rfl (lv_room (Nat.le_of_ble_eq_true rfl)) dX4_row_29 ⟨Nat.le_of_ble_eq_true rfl, Nat.le_of_ble_eq_true rfl⟩) (fun r_4 u H locs hw hP hD hS hz => ?_)
    rw [show r_4 = nI 1 from hw]
    refine lv_if_eq (tgt := 37) hx hb dX4_row_32 (by decide) (fun c_5 => ?_) (fun c_5 => ?_)
    · exact absurd c_5 (by decide)
    · refine lv_iconst (v := nI 0) hx hb dX4_row_35 (by decide) ?_
      have hcdv : cd = 1 := (by rw [hcd, if_pos (by omega)])
      subst hcdv
      have hEI : (va_up I 0 (va_up (I 0) 0 (nI 1)) : Nat → Nat → Int32) = if 1 = 0 then va_up I 0 (va_up (I 0) 0 (nI 0)) else va_up I 0 (va_up (I 0) 0 (nI 1)) := by first | rfl | (simp only [bx_uu, wR_same]; done)
      have hP : va_P D vwCl (mW cI cZ ad (if 1 = 0 then va_up I 0 (va_up (I 0) 0 (nI 0)) else va_up I 0 (va_up (I 0) 0 (nI 1))) V) H := by rw [← hEI]; exact hP
      have hD : va_D A (mW cI cZ ad (if 1 = 0 then va_up I 0 (va_up (I 0) 0 (nI 0)) else va_up I 0 (va_up (I 0) 0 (nI 1))) V) := by rw [← hEI]; exact hD
      exact W.iret (v := nI 0) hx hb hr (fun t ht hW => ⟨⟨nI 0, (), rfl, (fun h9 => absurd h9 (by decide)), by rw [ht]; exact hP, va_K.moved hW.alike hK, hD⟩, hS.F ht⟩) hS.2.2 dX4_row_36
  · have qhw_1 := wI_in hw_1 c_3
    refine lv_iload_n hx hb dX4_row_15 rfl (lv_at hl 2 rfl) ?_
    refine lv_iconst (v := nI 0) hx hb dX4_row_16 (by decide) ?_
    refine lv_iconst (v := nI 4) hx hb dX4_row_17 (by decide) ?_
    refine w_calli (w := mW cI cZ ad I V) hS hA hK hD (va_runS (As := [.int y, .int (nI 0), .int (nI 4)]) (rest := [.ref (ad 0)]) ⟨hx, hb, hml, hown, hts⟩ (c_X4_within l D (mT cI cZ) (mW cI cZ ad I V) wTrue H.size y (nI 0) (nI 4)) (va_cwS 3 hts gX4_row_X4_within rfl rfl rfl (by decide +kernel) ⟨Nat.le_of_ble_eq_true rfl, Nat.le_of_ble_eq_true rfl⟩) (w_pre hP hK hD wEnv_true) rfl rfl hl.1 rfl (lv_room (Nat.le_of_ble_eq_true rfl)) dX4_row_18 ⟨Nat.le_of_ble_eq_true rfl, Nat.le_of_ble_eq_true rfl⟩) (fun r_7 u H locs hw hP hD hS hz => ?_)
    have hw_6 : r_7 = wI y (0) (4) := by rw [hw, nI_toInt (n := 0) (by decide), nI_toInt (n := 4) (by decide)]; rfl
    refine lv_if_ne (tgt := 28) hx hb dX4_row_21 (by decide) (fun c_8 => ?_) (fun c_8 => ?_)
    · have qhw_6 := wI_in hw_6 c_8
      refine lv_iconst (v := nI 0) hx hb dX4_row_28 (by decide) ?_
      refine w_calli (w := mW cI cZ ad I V) hS hA hK hD (va_runV (As := [.int (nI 0)]) (rest := []) ⟨hx, hb, hml, hown, hts⟩ (c_X4_refuses l D cI cZ ad I V H.size 0 (by decide)) (cwV 1 hts gX4_row_X4_refuses rfl rfl rfl (by decide +kernel) ⟨Nat.le_of_ble_eq_true rfl, Nat.le_of_ble_eq_true rfl⟩) ⟨(w_pre hP hK hD wEnv_true).1, wR_recv (C := RX4) (T := TX4) (N := 18) hK hP (ci := 4) rfl 0 (by decide) rfl, (w_pre hP hK hD wEnv_true).2⟩ rfl rfl hl.1 rfl (lv_room (Nat.le_of_ble_eq_true rfl)) dX4_row_29 ⟨Nat.le_of_ble_eq_true rfl, Nat.le_of_ble_eq_true rfl⟩) (fun r_9 u H locs hw hP hD hS hz => ?_)
      rw [show r_9 = nI 0 from hw]
      refine lv_if_eq (tgt := 37) hx hb dX4_row_32 (by decide) (fun c_10 => ?_) (fun c_10 => ?_)
      · obtain ⟨hxjx, hxix⟩ := nx_nn (x := x) (by omega)
        rw [← hi] at hxjx hxix
        rw [hxjx] at hl
        obtain ⟨hxjy, hxiy⟩ := nx_nn (x := y) (by omega)
        rw [← hv] at hxjy hxiy
        rw [hxjy] at hl
        refine lv_aload_n hx hb dX4_row_37 rfl (lv_at hl 0 rfl) ?_
        refine wR_get (v := .ref (ad 5)) (C := RX4) (T := TX4) (N := 18) (ci := 4) hx hb hts hinX4 hown hK hP 0 (by decide) rfl rfl 8 (by decide) (hts (.fieldLink RX4 23 "ChangeStreamModel" "table" "[I") (by decide +kernel)) rfl rfl dX4_row_38 ?_
        refine lv_iconst (v := nI 3) hx hb dX4_row_41 (by decide) ?_
        refine lv_iload_n hx hb dX4_row_42 rfl (lv_at hl 1 rfl) ?_
        refine lv_imul hx hb dX4_row_43 ?_
        rw [pk_mul]
        refine wR_ild (f := V 5) (v := (V 5) (3 * i)) hx hb hK hP 5 0 (by decide) rfl rfl (nx_in (k := 3 * i) rfl (by omega) (by decide)) (j := 3 * i) (nx_cl rfl (by omega)) rfl dX4_row_44 ?_
        refine lv_aload_n hx hb dX4_row_45 rfl (lv_at hl 0 rfl) ?_
        refine wR_get (v := .int (nI lst)) (C := RX4) (T := TX4) (N := 18) (ci := 4) hx hb hts hinX4 hown hK hP 0 (by decide) rfl rfl 12 (by decide) (hts (.fieldLink RX4 33 "ChangeStreamModel" "least" "I") (by decide +kernel)) rfl (congrArg (fun z => some (Value.int z)) hls) dX4_row_46 ?_
        refine lv_icmp_ge (tgt := 54) hx hb dX4_row_49 (by decide) (fun c_11 => ?_) (fun c_11 => ?_)
        · obtain ⟨hf1, hf2⟩ := hfa i (by omega)
          refine lv_aload_n hx hb dX4_row_54 rfl (lv_at hl 0 rfl) ?_
          refine wR_get (v := .ref (ad 5)) (C := RX4) (T := TX4) (N := 18) (ci := 4) hx hb hts hinX4 hown hK hP 0 (by decide) rfl rfl 8 (by decide) (hts (.fieldLink RX4 23 "ChangeStreamModel" "table" "[I") (by decide +kernel)) rfl rfl dX4_row_55 ?_
          refine lv_iconst (v := nI 3) hx hb dX4_row_58 (by decide) ?_
          refine lv_iload_n hx hb dX4_row_59 rfl (lv_at hl 1 rfl) ?_
          refine lv_imul hx hb dX4_row_60 ?_
          rw [pk_mul]
          refine lv_iconst (v := nI 1) hx hb dX4_row_61 (by decide) ?_
          refine lv_iadd hx hb dX4_row_62 ?_
          rw [nI_add]
          refine wR_ild (f := V 5) (v := nI (fa i)) hx hb hK hP 5 0 (by decide) rfl rfl (nx_in (k := 3 * i + 1) rfl (by omega) (by decide)) (j := 3 * i + 1) (nx_cl rfl (by omega)) hf1 dX4_row_63 ?_
          refine lv_istore_n (lv' := [(3, .int (nI (fa i))), (0, .ref (ad 0)), (1, .int (nI i)), (2, .int (nI v))]) hx hb dX4_row_64 rfl hl (by decide) rfl (fun ls hl => ?_)
          refine lv_iload_n hx hb dX4_row_65 rfl (lv_at hl 3 rfl) ?_
          refine lv_iconst (v := nI 3) hx hb dX4_row_66 (by decide) ?_
          refine lv_icmp_ge (tgt := 83) hx hb dX4_row_67 (by decide) (fun c_12 => ?_) (fun c_12 => ?_)
          · have c_12 : 3 ≤ v := (nI_leI (a := 3) (b := v) (by omega) (by omega)).mp c_12
            refine lv_iload_n hx hb dX4_row_83 rfl (lv_at hl 3 rfl) ?_
            refine lv_iconst (v := nI 3) hx hb dX4_row_84 (by decide) ?_
            refine lv_icmp_ne (tgt := 97) hx hb dX4_row_85 (by decide) (fun c_13 => ?_) (fun c_13 => ?_)
            · have c_13 : ¬ (v = 3) := fun h9 => c_13 ((nI_eq (a := v) (b := 3) (by omega) (by omega)).mpr h9)
              refine lv_aload_n hx hb dX4_row_97 rfl (lv_at hl 1 rfl) ?_
              refine wR_get (v := .ref (ad 2)) (C := RX4) (T := TX4) (N := 18) (ci := 4) hx hb hts hinX4 hown hK hP 0 (by decide) rfl rfl 3 (by decide) (hts (.fieldLink RX4 13 "ChangeStreamModel" "properties" "[I") (by decide +kernel)) rfl rfl dX4_row_98 ?_
              refine lv_iload_n hx hb dX4_row_101 rfl (lv_at hl 0 rfl) ?_
              refine wR_ild (f := V 2) (v := (V 2) (fa i)) hx hb hK hP 2 0 (by decide) rfl rfl (nx_in (k := fa i) rfl (by omega) (by decide)) (j := fa i) (nx_cl rfl (by omega)) rfl dX4_row_102 ?_
              have hcdv : cd = 0 := (by rw [hcd, if_neg (by omega)])
              subst hcdv
              have hEI : (va_up I 0 (va_up (I 0) 0 (nI 0)) : Nat → Nat → Int32) = if 0 = 0 then va_up I 0 (va_up (I 0) 0 (nI 0)) else va_up I 0 (va_up (I 0) 0 (nI 0)) := by first | rfl | (simp only [bx_uu, wR_same]; done)
              have hP : va_P D vwCl (mW cI cZ ad (if 0 = 0 then va_up I 0 (va_up (I 0) 0 (nI 0)) else va_up I 0 (va_up (I 0) 0 (nI 0))) V) H := by rw [← hEI]; exact hP
              have hD : va_D A (mW cI cZ ad (if 0 = 0 then va_up I 0 (va_up (I 0) 0 (nI 0)) else va_up I 0 (va_up (I 0) 0 (nI 0))) V) := by rw [← hEI]; exact hD
              exact W.iret (v := (V 2) (fa i)) hx hb hr (fun t ht hW => ⟨⟨(V 2) (fa i), (), rfl, (fun _ => (by rw [if_neg (Int32.not_lt.mpr c_11)]; first | rw [if_pos (by omega)] | rw [if_neg (by omega), if_pos (by omega)] | rw [if_neg (by omega), if_neg (by omega)])), by rw [ht]; exact hP, va_K.moved hW.alike hK, hD⟩, hS.F ht⟩) hS.2.2 dX4_row_103
            · have c_13 : v = 3 := (nI_eq (a := v) (b := 3) (by omega) (by omega)).mp c_13
              refine lv_aload_n hx hb dX4_row_88 rfl (lv_at hl 1 rfl) ?_
              refine wR_get (v := .ref (ad 1)) (C := RX4) (T := TX4) (N := 18) (ci := 4) hx hb hts hinX4 hown hK hP 0 (by decide) rfl rfl 2 (by decide) (hts (.fieldLink RX4 7 "ChangeStreamModel" "graphs" "[I") (by decide +kernel)) rfl rfl dX4_row_89 ?_
              refine lv_iload_n hx hb dX4_row_92 rfl (lv_at hl 0 rfl) ?_
              refine wR_ild (f := V 1) (v := (V 1) (fa i)) hx hb hK hP 1 0 (by decide) rfl rfl (nx_in (k := fa i) rfl (by omega) (by decide)) (j := fa i) (nx_cl rfl (by omega)) rfl dX4_row_93 ?_
              refine lv_goto (tgt := 103) hx hb dX4_row_94 (by decide) ?_
              have hcdv : cd = 0 := (by rw [hcd, if_neg (by omega)])
              subst hcdv
              have hEI : (va_up I 0 (va_up (I 0) 0 (nI 0)) : Nat → Nat → Int32) = if 0 = 0 then va_up I 0 (va_up (I 0) 0 (nI 0)) else va_up I 0 (va_up (I 0) 0 (nI 0)) := by first | rfl | (simp only [bx_uu, wR_same]; done)
              have hP : va_P D vwCl (mW cI cZ ad (if 0 = 0 then va_up I 0 (va_up (I 0) 0 (nI 0)) else va_up I 0 (va_up (I 0) 0 (nI 0))) V) H := by rw [← hEI]; exact hP
              have hD : va_D A (mW cI cZ ad (if 0 = 0 then va_up I 0 (va_up (I 0) 0 (nI 0)) else va_up I 0 (va_up (I 0) 0 (nI 0))) V) := by rw [← hEI]; exact hD
              exact W.iret (v := (V 1) (fa i)) hx hb hr (fun t ht hW => ⟨⟨(V 1) (fa i), (), rfl, (fun _ => (by rw [if_neg (Int32.not_lt.mpr c_11)]; first | rw [if_pos (by omega)] | rw [if_neg (by omega), if_pos (by omega)] | rw [if_neg (by omega), if_neg (by omega)])), by rw [ht]; exact hP, va_K.moved hW.alike hK, hD⟩, hS.F ht⟩) hS.2.2 dX4_row_103
          · have c_12 : ¬ (3 ≤ v) := fun h9 => c_12 ((nI_leI (a := 3) (b := v) (by omega) (by omega)).mpr h9)
            refine lv_aload_n hx hb dX4_row_70 rfl (lv_at hl 1 rfl) ?_
            refine wR_get (v := .ref (ad 5)) (C := RX4) (T := TX4) (N := 18) (ci := 4) hx hb hts hinX4 hown hK hP 0 (by decide) rfl rfl 8 (by decide) (hts (.fieldLink RX4 23 "ChangeStreamModel" "table" "[I") (by decide +kernel)) rfl rfl dX4_row_71 ?_
            refine lv_iconst (v := nI 3) hx hb dX4_row_74 (by decide) ?_
            refine lv_iload_n hx hb dX4_row_75 rfl (lv_at hl 2 rfl) ?_
            refine lv_imul hx hb dX4_row_76 ?_
            rw [pk_mul]
            refine lv_iload_n hx hb dX4_row_77 rfl (lv_at hl 3 rfl) ?_
            refine lv_iadd hx hb dX4_row_78 ?_
            rw [nI_add]
            refine wR_ild (f := V 5) (v := (V 5) (3 * i + v)) hx hb hK hP 5 0 (by decide) rfl rfl (nx_in (k := 3 * i + v) rfl (by omega) (by decide)) (j := 3 * i + v) (nx_cl rfl (by omega)) rfl dX4_row_79 ?_
            refine lv_goto (tgt := 103) hx hb dX4_row_80 (by decide) ?_
            have hcdv : cd = 0 := (by rw [hcd, if_neg (by omega)])
            subst hcdv
            have hEI : (va_up I 0 (va_up (I 0) 0 (nI 0)) : Nat → Nat → Int32) = if 0 = 0 then va_up I 0 (va_up (I 0) 0 (nI 0)) else va_up I 0 (va_up (I 0) 0 (nI 0)) := by first | rfl | (simp only [bx_uu, wR_same]; done)
            have hP : va_P D vwCl (mW cI cZ ad (if 0 = 0 then va_up I 0 (va_up (I 0) 0 (nI 0)) else va_up I 0 (va_up (I 0) 0 (nI 0))) V) H := by rw [← hEI]; exact hP
            have hD : va_D A (mW cI cZ ad (if 0 = 0 then va_up I 0 (va_up (I 0) 0 (nI 0)) else va_up I 0 (va_up (I 0) 0 (nI 0))) V) := by rw [← hEI]; exact hD
            exact W.iret (v := (V 5) (3 * i + v)) hx hb hr (fun t ht hW => ⟨⟨(V 5) (3 * i + v), (), rfl, (fun _ => (by rw [if_neg (Int32.not_lt.mpr c_11)]; first | rw [if_pos (by omega)] | rw [if_neg (by omega), if_pos (by omega)] | rw [if_neg (by omega), if_neg (by omega)])), by rw [ht]; exact hP, va_K.moved hW.alike hK, hD⟩, hS.F ht⟩) hS.2.2 dX4_row_103
        · refine lv_iconst (v := (-1)) hx hb dX4_row_52 (by decide) ?_
          have hcdv : cd = 0 := (by rw [hcd, if_neg (by omega)])
          subst hcdv
          have hEI : (va_up I 0 (va_up (I 0) 0 (nI 0)) : Nat → Nat → Int32) = if 0 = 0 then va_up I 0 (va_up (I 0) 0 (nI 0)) else va_up I 0 (va_up (I 0) 0 (nI 0)) := by first | rfl | (simp only [bx_uu, wR_same]; done)
          have hP : va_P D vwCl (mW cI cZ ad (if 0 = 0 then va_up I 0 (va_up (I 0) 0 (nI 0)) else va_up I 0 (va_up (I 0) 0 (nI 0))) V) H := by rw [← hEI]; exact hP
          have hD : va_D A (mW cI cZ ad (if 0 = 0 then va_up I 0 (va_up (I 0) 0 (nI 0)) else va_up I 0 (va_up (I 0) 0 (nI 0))) V) := by rw [← hEI]; exact hD
          exact W.iret (v := (-1)) hx hb hr (fun t ht hW => ⟨⟨(-1), (), rfl, (fun _ => (by rw [if_pos (Int32.not_le.mp c_11)])), by rw [ht]; exact hP, va_K.moved hW.alike hK, hD⟩, hS.F ht⟩) hS.2.2 dX4_row_53
      · exact absurd (by decide) c_10
    · have qhw_6 := wI_out hw_6 c_8
      refine lv_iconst (v := nI 1) hx hb dX4_row_24 (by decide) ?_
      refine lv_goto (tgt := 29) hx hb dX4_row_25 (by decide) ?_
      refine w_calli (w := mW cI cZ ad I V) hS hA hK hD (va_runV (As := [.int (nI 1)]) (rest := []) ⟨hx, hb, hml, hown, hts⟩ (c_X4_refuses l D cI cZ ad I V H.size 1 (by decide)) (cwV 1 hts gX4_row_X4_refuses rfl rfl rfl (by decide +kernel) ⟨Nat.le_of_ble_eq_true rfl, Nat.le_of_ble_eq_true rfl⟩) ⟨(w_pre hP hK hD wEnv_true).1, wR_recv (C := RX4) (T := TX4) (N := 18) hK hP (ci := 4) rfl 0 (by decide) rfl, (w_pre hP hK hD wEnv_true).2⟩ rfl rfl hl.1 rfl (lv_room (Nat.le_of_ble_eq_true rfl)) dX4_row_29 ⟨Nat.le_of_ble_eq_true rfl, Nat.le_of_ble_eq_true rfl⟩) (fun r_14 u H locs hw hP hD hS hz => ?_)
      rw [show r_14 = nI 1 from hw]
      refine lv_if_eq (tgt := 37) hx hb dX4_row_32 (by decide) (fun c_15 => ?_) (fun c_15 => ?_)
      · exact absurd c_15 (by decide)
      · refine lv_iconst (v := nI 0) hx hb dX4_row_35 (by decide) ?_
        have hcdv : cd = 1 := (by rw [hcd, if_pos (by omega)])
        subst hcdv
        have hEI : (va_up I 0 (va_up (I 0) 0 (nI 1)) : Nat → Nat → Int32) = if 1 = 0 then va_up I 0 (va_up (I 0) 0 (nI 0)) else va_up I 0 (va_up (I 0) 0 (nI 1)) := by first | rfl | (simp only [bx_uu, wR_same]; done)
        have hP : va_P D vwCl (mW cI cZ ad (if 1 = 0 then va_up I 0 (va_up (I 0) 0 (nI 0)) else va_up I 0 (va_up (I 0) 0 (nI 1))) V) H := by rw [← hEI]; exact hP
        have hD : va_D A (mW cI cZ ad (if 1 = 0 then va_up I 0 (va_up (I 0) 0 (nI 0)) else va_up I 0 (va_up (I 0) 0 (nI 1))) V) := by rw [← hEI]; exact hD
        exact W.iret (v := nI 0) hx hb hr (fun t ht hW => ⟨⟨nI 0, (), rfl, (fun h9 => absurd h9 (by decide)), by rw [ht]; exact hP, va_K.moved hW.alike hK, hD⟩, hS.F ht⟩) hS.2.2 dX4_row_36
