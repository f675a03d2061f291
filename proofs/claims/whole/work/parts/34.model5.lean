theorem smV_n {V : Nat → Nat → Int32} {j rc kd fi i : Nat} (h : ¬ (kd = 4 ∧ V 7 (12 * j + 5) = 0)) : smV V j rc kd fi i = V := by
  unfold smV
  split
  · next h1 =>
    rw [if_neg (fun h2 => h ⟨h1.2.2, h2⟩), show V 7 (12 * j + 9) + 0 = V 7 (12 * j + 9) from Int32.add_zero _, wR_same, wR_same]
  · rfl
theorem sm_f {V : Nat → Nat → Int32} {j rc kd fi i : Nat} (h : sm V j rc kd fi i = 0) : smV V j rc kd fi i = V := by
  by_cases hk : kd = 4 ∧ V 7 (12 * j + 5) = 0
  · unfold smV
    rw [if_neg]
    rintro ⟨h1, h2, h3⟩
    have h5 : fLet 4 0 fi (smC V i) = 1 := by simp [fLet]
    rw [sm, if_pos h1, if_neg h2, hk.1, hk.2, h5] at h
    exact absurd h (by decide)
  · exact smV_n hk
theorem sm_t {V : Nat → Nat → Int32} {j rc kd fi i : Nat} (h : ¬ sm V j rc kd fi i = 0) : smV V j rc kd fi i = va_up V 7 (if kd = 4 ∧ V 7 (12 * j + 5) = 0 then va_up (V 7) (12 * j + 9) (V 7 (12 * j + 9) + 1) else V 7) := by
  by_cases hk : kd = 4 ∧ V 7 (12 * j + 5) = 0
  · rw [if_pos hk]
    unfold smV
    rw [if_pos, if_pos hk.2]
    refine Decidable.byContradiction (fun h2 => h ?_)
    unfold sm
    by_cases h3 : smA V j fi
    · by_cases h4 : smR V j fi i rc = 0
      · rw [if_pos h3, if_pos h4]
      · exact absurd ⟨h3, h4, hk.1⟩ h2
    · rw [if_neg h3]
  · rw [if_neg hk, smV_n hk, wR_same]

set_option maxHeartbeats 4000000 in
set_option maxRecDepth 100000 in
theorem lp_X4_next {p : Program} (l : Launch) {e : Env} {s : State} {m : MethodId} {args : Array Value} {below : List Frame} {meth : Method} {c : Code} {Q : State → Prop} {A : Nat → Prop} (D : va_G) (cI cZ : ClassId) (ad : Nat → Nat) (I V : Nat → Nat → Int32) (j rc rc9 kd ix : Nat) (fa : Nat → Nat) (hx : p.tables.exec = Jvm.exec) (hb : c.code = cX4_next) (hml : c.maxLocals = 4) (hts : ∀ w ∈ wsX4_next, w.before args s = true) (hown : s.vm.findClass RX4 = some m.cls) (hK : va_K D vwCl (mT cI cZ) s) (hA : ∀ q : Nat, s.heap.size ≤ q → A q) (hrc : I 0 7 = nI rc) (hj : j < 6) (hr6 : rc ≤ 512) (hrc9 : V 7 (12 * j + 7) = nI rc9) (hrc94 : rc9 ≤ 40) (hkd : V 7 (12 * j + 4) = nI kd) (hkd4 : kd ≤ 4) (hfa : ∀ i, i < rc → V 5 (3 * i + 1) = nI (fa i) ∧ fa i < 100)  (k1 : ∀ (H : Heap) (locs : List Loc) (ls : Array Slot), rc = ix → va_P D vwCl (mW cI cZ ad I V) H → va_D A (mW cI cZ ad I V) → va_S A s.heap H locs → lv_has ls 4 [(0, .ref (ad 0)), (1, .int (nI j)), (2, .int (nI (12 * j))), (3, .int (nI rc))] → W p l e ({ frames := 2, cells := 0, slots := 0, locals := 43 } : Room) s m args below meth c H locs 0 0 Q (F0 m 132 ls [])) (k2 : ∀ (H : Heap) (locs : List Loc) (ls : Array Slot), ix < rc → ¬ sm V j rc9 kd (fa ix) ix = 0 → va_P D vwCl (mW cI cZ ad I (smV V j rc9 kd (fa ix) ix)) H → va_D A (mW cI cZ ad I (smV V j rc9 kd (fa ix) ix)) → va_S A s.heap H locs → lv_has ls 4 [(0, .ref (ad 0)), (1, .int (nI j)), (2, .int (nI (12 * j))), (3, .int (nI ix))] → W p l e ({ frames := 2, cells := 0, slots := 0, locals := 43 } : Room) s m args below meth c H locs 0 0 Q (F0 m 132 ls [])) : ∀ (fuel : Nat) (i : Nat) (H : Heap) (locs : List Loc) (ls : Array Slot), i ≤ rc → nxt (fun i => decide (¬ sm V j rc9 kd (fa i) i = 0)) (rc - i) i = ix → rc - i < fuel → va_P D vwCl (mW cI cZ ad I V) H → va_D A (mW cI cZ ad I V) → va_S A s.heap H locs → lv_has ls 4 [(0, .ref (ad 0)), (1, .int (nI j)), (2, .int (nI (12 * j))), (3, .int (nI i))] → W p l e ({ frames := 2, cells := 0, slots := 0, locals := 43 } : Room) s m args below meth c H locs 0 0 Q (F0 m 109 ls []) := by
  intro fuel
  induction fuel with
  | zero =>
    intro i H locs ls hi hR hfu
    exact absurd hfu (Nat.not_lt_zero _)
  | succ fuel ih =>
    intro i H locs ls hi hR hfu hP hD hS hl
    have hinX4 : ∀ w ∈ wsX40, w ∈ wsX4_next := by decide +kernel
    refine lv_iload_n hx hb dX4_next_109 rfl (lv_at hl 3 rfl) ?_
    refine lv_aload_n hx hb dX4_next_110 rfl (lv_at hl 0 rfl) ?_
    refine wR_get (v := .int (nI rc)) (C := RX4) (T := TX4) (N := 18) (ci := 4) hx hb hts hinX4 hown hK hP 0 (by decide) rfl rfl 7 (by decide) (hts (.fieldLink RX4 68 "ChangeStreamModel" "rows" "I") (by decide +kernel)) rfl (congrArg (fun z => some (Value.int z)) hrc) dX4_next_111 ?_
    refine lv_icmp_ge (tgt := 132) hx hb dX4_next_114 (by decide) (fun c_1 => ?_) (fun c_1 => ?_)
    · have c_1 : rc ≤ i := (nI_leI (a := rc) (b := i) (by omega) (by omega)).mp c_1
      have hz9 : rc = ix := by rw [← hR, show rc - i = 0 by omega]; show rc = i; omega
      have hir : i = rc := by omega
      rw [hir] at hl
      exact k1  H locs ls hz9 hP hD hS (lv_sub hl [0, 1, 2, 3] rfl)
    · have c_1 : ¬ (rc ≤ i) := fun h9 => c_1 ((nI_leI (a := rc) (b := i) (by omega) (by omega)).mpr h9)
      have hR0 : (if decide (¬ sm V j rc9 kd (fa i) i = 0) = true then i else nxt (fun i => decide (¬ sm V j rc9 kd (fa i) i = 0)) (rc - (i + 1)) (i + 1)) = ix := by rw [← hR, show rc - i = (rc - (i + 1)) + 1 by omega]; rfl
      refine lv_aload_n hx hb dX4_next_117 rfl (lv_at hl 0 rfl) ?_
      refine lv_iload_n hx hb dX4_next_118 rfl (lv_at hl 1 rfl) ?_
      refine lv_iload_n hx hb dX4_next_119 rfl (lv_at hl 3 rfl) ?_
      refine w_calli (w := mW cI cZ ad I V) hS hA hK hD (va_runV (As := [.int (nI j), .int (nI i)]) (rest := []) ⟨hx, hb, hml, hown, hts⟩ (c_X4_sees l D cI cZ ad I V H.size j i (fa i) rc9 kd hj (by omega) (hfa i (by omega)).2 (hfa i (by omega)).1 hrc9 hrc94 hkd hkd4) (cwV 2 hts gX4_next_X4_sees rfl rfl rfl (by decide +kernel) ⟨Nat.le_of_ble_eq_true rfl, Nat.le_of_ble_eq_true rfl⟩) ⟨(w_pre hP hK hD wEnv_true).1, wR_recv (C := RX4) (T := TX4) (N := 18) hK hP (ci := 4) rfl 0 (by decide) rfl, (w_pre hP hK hD wEnv_true).2⟩ rfl rfl hl.1 rfl (lv_room (Nat.le_of_ble_eq_true rfl)) dX4_next_120 ⟨Nat.le_of_ble_eq_true rfl, Nat.le_of_ble_eq_true rfl⟩) (fun r_2 u H locs hw hP hD hS hz => ?_)
      rw [show r_2 = sm V j rc9 kd (fa i) i from hw]
      refine lv_if_ne (tgt := 132) hx hb dX4_next_123 (by decide) (fun c_3 => ?_) (fun c_3 => ?_)
      · rw [if_pos (by simp [c_3])] at hR0
        subst hR0
        exact k2  H locs ls (by omega) c_3 hP hD hS (lv_sub hl [0, 1, 2, 3] rfl)
      · rw [if_neg (by simp [c_3])] at hR0
        rw [sm_f c_3] at hP hD
        refine lv_iinc (v := nI (i + 1)) (lv' := [(3, .int (nI (i + 1))), (0, .ref (ad 0)), (1, .int (nI j)), (2, .int (nI (12 * j)))]) hx hb dX4_next_126 hl (k := 3) rfl (nI_add _ 1) (by decide) rfl (fun ls hl => ?_)
        refine lv_goto (tgt := 109) hx hb dX4_next_129 (by decide) ?_
        exact ih (i + 1) H locs ls (by omega) hR0 (by omega) hP hD hS (lv_sub hl [1, 2, 3, 0] rfl)

set_option maxHeartbeats 4000000 in
set_option maxRecDepth 100000 in
/-- next(x) -/
theorem c_X4_next (l : Launch) (D : va_G) (cI cZ : ClassId) (ad : Nat → Nat) (I V : Nat → Nat → Int32) (sz : Nat) (TT lst rc kp nr : Nat) (hrc : I 0 7 = nI rc) (hT : I 0 9 = nI TT) (hkp : I 0 11 = nI kp) (hls : I 0 12 = nI lst) (hnr : I 0 13 = nI nr) (hr6 : rc ≤ 512) (hT1 : TT ≤ 512) (hkp1 : kp ≤ 30) (hls0 : 0 < lst) (hls1 : lst ≤ 513) (hnr6 : nr ≤ 6) (x : Int32) (j : Nat) (hj : j = x.toNatClampNeg) (fa tr : Nat → Nat) (hfa : ∀ i, i < rc → V 5 (3 * i + 1) = nI (fa i) ∧ fa i < 100) (htr : ∀ i, i < rc → V 5 (3 * i) = nI (tr i) ∧ tr i ≤ 512) (rc9 kd tc mt at9 of9 i0 ix : Nat) (hrd0 : (0 ≤ x.toInt ∧ x.toInt ≤ ((nr : Nat) : Int) - 1) → (V 7 (12 * j + 7) = nI rc9 ∧ rc9 ≤ 40) ∧ (V 7 (12 * j + 4) = nI kd ∧ kd ≤ 4) ∧ (V 10 j = nI tc ∧ tc ≤ 20) ∧ (V 7 (12 * j + 6) = nI mt ∧ mt ≤ 20) ∧ (V 7 (12 * j) = nI at9 ∧ at9 ≤ 513) ∧ (lst ≤ at9 → at9 ≤ TT → V 6 at9 + V 7 (12 * j + 1) = nI i0 ∧ i0 ≤ rc)) (hix : ix = nxt (fun i => decide (¬ sm V j rc9 kd (fa i) i = 0)) (rc - i0) i0) (cd : Nat) (hcd : cd = if ¬ (0 ≤ x.toInt ∧ x.toInt ≤ ((nr : Nat) : Int) - 1) then 1 else 0) : Met l yX4_next wsX4_next ({ frames := 2, cells := 0, slots := 0, locals := 43 } : Room) (va_Pc [.ref (ad 0), .int x] (wPre D vwCl (mT cI cZ) (mW cI cZ ad I V) sz wTrue)) (va_Qi (fun (r : Int32) (u : Unit) => cd = 0 → r = if at9 < lst then -3 else if TT < at9 then -1 else if ix = rc then -1 else if tc < mt then nI ix else -2) (wPost D vwCl (mT cI cZ) (fun (u : Unit) => mW cI cZ ad (va_up I 0 (va_up (I 0) 0 (nI cd))) (if cd = 0 then if at9 < lst then va_up V 7 (va_up (va_up (va_up (V 7) (12 * j + 8) (V 7 (12 * j + 8) + (nI lst - nI at9))) (12 * j) (nI lst)) (12 * j + 1) (nI 0)) else if TT < at9 then V else if ix = rc then va_up V 7 (va_up (va_up (V 7) (12 * j) (nI (TT + 1))) (12 * j + 1) (nI 0)) else if tc < mt then va_up (va_up (va_up V 7 (va_up (va_up (va_up (va_up (if kd = 4 ∧ V 7 (12 * j + 5) = 0 then va_up (V 7) (12 * j + 9) (V 7 (12 * j + 9) + 1) else V 7) (12 * j) (nI (tr ix))) (12 * j + 1) (nI ix - V 6 (tr ix))) (12 * j + 1) ((nI ix - V 6 (tr ix)) + nI 1)) (12 * j + 10) (V 7 (12 * j + 10) + nI 1))) 9 (va_up (V 9) (20 * j + tc) (nI ix))) 10 (va_up (V 10) j (nI (tc + 1))) else va_up V 7 (va_up (va_up (if kd = 4 ∧ V 7 (12 * j + 5) = 0 then va_up (V 7) (12 * j + 9) (V 7 (12 * j + 9) + 1) else V 7) (12 * j) (nI (tr ix))) (12 * j + 1) (nI ix - V 6 (tr ix))) else V)) (va_A (mW cI cZ ad I V) sz)) (va_A (mW cI cZ ad I V) sz)) 0 0 (va_A (mW cI cZ ad I V) sz) := by
  refine Met.ofW (cc := cX4_next) (maxL := 4) (ret := (some .int)) (by decide) rfl ?_
  intro p e s m args below meth c s₁ B hml hv
  obtain ⟨rfl, hsz, hP, hK, hD0, hE⟩ := hv
  have hx := B.exec
  have hb := B.bytes
  have hr := B.returns
  have hts := atoms_spec (ws := wsX4_next) B.pre
  have hown : s.vm.findClass RX4 = some m.cls := findClass_of_methodNamed B.named
  have hlocks := B.notSynchronized
  subst hsz
  have hD := hD0.self (sz := s.heap.size)
  generalize hAe : va_A (mW cI cZ ad I V) s.heap.size = A at hD ⊢
  have hA : ∀ q : Nat, s.heap.size ≤ q → A q := fun q h => by rw [← hAe]; exact Or.inr h
  have hS : va_S A s.heap s.heap [] := va_S.rf
  have hinX4 : ∀ w ∈ wsX40, w ∈ wsX4_next := by decide +kernel
  have hl := lv_entry ([.ref (ad 0), .int x]) (n := 4) (Nat.le_of_ble_eq_true rfl)
  rw [lg_entry_eq]
  generalize (lg_sl ([.ref (ad 0), .int x]) ++ List.replicate (4 - (lg_sl ([.ref (ad 0), .int x])).length) Slot.unset).toArray = ls at hl ⊢
  have hl : lv_has ls 4 [(0, .ref (ad 0)), (1, .int x)] := hl
  refine lv_aload_n hx hb dX4_next_0 rfl (lv_at hl 0 rfl) ?_
  refine lv_iload_n hx hb dX4_next_1 rfl (lv_at hl 1 rfl) ?_
  obtain ⟨cdn, hcdn⟩ : ∃ c9 : Nat, c9 = (if ¬ (0 ≤ x.toInt ∧ x.toInt ≤ ((nr : Nat) : Int) - 1) then 1 else 0) := ⟨_, rfl⟩
  have hcdn1 := m_le hcdn
  refine w_calli (w := mW cI cZ ad I V) hS hA hK hD (va_runV (As := [.int x]) (rest := []) ⟨hx, hb, hml, hown, hts⟩ (c_X4_noReader l D cI cZ ad I V s.heap.size nr hnr hnr6 x cdn hcdn) (cwV 1 hts gX4_next_X4_noReader rfl rfl rfl (by decide +kernel) ⟨Nat.le_of_ble_eq_true rfl, Nat.le_of_ble_eq_true rfl⟩) ⟨(w_pre hP hK hD wEnv_true).1, wR_recv (C := RX4) (T := TX4) (N := 18) hK hP (ci := 4) rfl 0 (by decide) rfl, (w_pre hP hK hD wEnv_true).2⟩ rfl rfl hl.1 rfl (lv_room (Nat.le_of_ble_eq_true rfl)) dX4_next_2 ⟨Nat.le_of_ble_eq_true rfl, Nat.le_of_ble_eq_true rfl⟩) (fun r_1 u H locs hw hP hD hS hz => ?_)
  rw [show r_1 = nI cdn from hw]
  refine lv_if_eq (tgt := 10) hx hb dX4_next_5 (by decide) (fun c_2 => ?_) (fun c_2 => ?_)
  · have c_2 : cdn = 0 := (nI_eq (a := cdn) (b := 0) (by omega) (by omega)).mp c_2
    have hq9 := m_0 hcdn c_2
    subst c_2
    obtain ⟨hxjx, hxix⟩ := nx_nn (x := x) (by omega)
    rw [← hj] at hxjx hxix
    rw [hxjx] at hl
    obtain ⟨⟨hrc9, hrc94⟩, ⟨hkd, hkd4⟩, ⟨htc, htc2⟩, ⟨hmt, hmt2⟩, ⟨hat, hat1⟩, hi9⟩ := hrd0 hq9
    refine lv_bipush (v := nI 12) hx hb dX4_next_10 (by decide) ?_
    refine lv_iload_n hx hb dX4_next_12 rfl (lv_at hl 1 rfl) ?_
    refine lv_imul hx hb dX4_next_13 ?_
    rw [pk_mul]
    refine lv_istore_n (lv' := [(2, .int (nI (12 * j))), (0, .ref (ad 0)), (1, .int (nI j))]) hx hb dX4_next_14 rfl hl (by decide) rfl (fun ls hl => ?_)
    refine lv_aload_n hx hb dX4_next_15 rfl (lv_at hl 1 rfl) ?_
    refine wR_get (v := .ref (ad 7)) (C := RX4) (T := TX4) (N := 18) (ci := 4) hx hb hts hinX4 hown hK hP 0 (by decide) rfl rfl 14 (by decide) (hts (.fieldLink RX4 36 "ChangeStreamModel" "of" "[I") (by decide +kernel)) rfl rfl dX4_next_16 ?_
    refine lv_iload_n hx hb dX4_next_19 rfl (lv_at hl 0 rfl) ?_
    refine wR_ild (f := V 7) (v := nI at9) hx hb hK hP 7 0 (by decide) rfl rfl (nx_in (k := 12 * j) rfl (by omega) (by decide)) (j := 12 * j) (nx_cl rfl (by omega)) hat dX4_next_20 ?_
    refine lv_aload_n hx hb dX4_next_21 rfl (lv_at hl 1 rfl) ?_
    refine wR_get (v := .int (nI lst)) (C := RX4) (T := TX4) (N := 18) (ci := 4) hx hb hts hinX4 hown hK hP 0 (by decide) rfl rfl 12 (by decide) (hts (.fieldLink RX4 33 "ChangeStreamModel" "least" "I") (by decide +kernel)) rfl (congrArg (fun z => some (Value.int z)) hls) dX4_next_22 ?_
    refine lv_icmp_ge (tgt := 73) hx hb dX4_next_25 (by decide) (fun c_3 => ?_) (fun c_3 => ?_)
    · have c_3 : lst ≤ at9 := (nI_leI (a := lst) (b := at9) (by omega) (by omega)).mp c_3
      refine lv_aload_n hx hb dX4_next_73 rfl (lv_at hl 1 rfl) ?_
      refine wR_get (v := .ref (ad 7)) (C := RX4) (T := TX4) (N := 18) (ci := 4) hx hb hts hinX4 hown hK hP 0 (by decide) rfl rfl 14 (by decide) (hts (.fieldLink RX4 36 "ChangeStreamModel" "of" "[I") (by decide +kernel)) rfl rfl dX4_next_74 ?_
      refine lv_iload_n hx hb dX4_next_77 rfl (lv_at hl 0 rfl) ?_
      refine wR_ild (f := V 7) (v := nI at9) hx hb hK hP 7 0 (by decide) rfl rfl (nx_in (k := 12 * j) rfl (by omega) (by decide)) (j := 12 * j) (nx_cl rfl (by omega)) hat dX4_next_78 ?_
      refine lv_aload_n hx hb dX4_next_79 rfl (lv_at hl 1 rfl) ?_
      refine wR_get (v := .int (nI TT)) (C := RX4) (T := TX4) (N := 18) (ci := 4) hx hb hts hinX4 hown hK hP 0 (by decide) rfl rfl 9 (by decide) (hts (.fieldLink RX4 65 "ChangeStreamModel" "transactions" "I") (by decide +kernel)) rfl (congrArg (fun z => some (Value.int z)) hT) dX4_next_80 ?_
      refine lv_icmp_le (tgt := 88) hx hb dX4_next_83 (by decide) (fun c_4 => ?_) (fun c_4 => ?_)
      · have c_4 : at9 ≤ TT := (nI_leI (a := at9) (b := TT) (by omega) (by omega)).mp c_4
        obtain ⟨hi0, hi1⟩ := hi9 (by omega) (by omega)
        refine lv_aload_n hx hb dX4_next_88 rfl (lv_at hl 1 rfl) ?_
        refine wR_get (v := .ref (ad 6)) (C := RX4) (T := TX4) (N := 18) (ci := 4) hx hb hts hinX4 hown hK hP 0 (by decide) rfl rfl 10 (by decide) (hts (.fieldLink RX4 26 "ChangeStreamModel" "begins" "[I") (by decide +kernel)) rfl rfl dX4_next_89 ?_
        refine lv_aload_n hx hb dX4_next_92 rfl (lv_at hl 1 rfl) ?_
        refine wR_get (v := .ref (ad 7)) (C := RX4) (T := TX4) (N := 18) (ci := 4) hx hb hts hinX4 hown hK hP 0 (by decide) rfl rfl 14 (by decide) (hts (.fieldLink RX4 36 "ChangeStreamModel" "of" "[I") (by decide +kernel)) rfl rfl dX4_next_93 ?_
        refine lv_iload_n hx hb dX4_next_96 rfl (lv_at hl 0 rfl) ?_
        refine wR_ild (f := V 7) (v := nI at9) hx hb hK hP 7 0 (by decide) rfl rfl (nx_in (k := 12 * j) rfl (by omega) (by decide)) (j := 12 * j) (nx_cl rfl (by omega)) hat dX4_next_97 ?_
        refine wR_ild (f := V 6) (v := (V 6) at9) hx hb hK hP 6 0 (by decide) rfl rfl (nx_in (k := at9) rfl (by omega) (by decide)) (j := at9) (nx_cl rfl (by omega)) rfl dX4_next_98 ?_
        refine lv_aload_n hx hb dX4_next_99 rfl (lv_at hl 1 rfl) ?_
        refine wR_get (v := .ref (ad 7)) (C := RX4) (T := TX4) (N := 18) (ci := 4) hx hb hts hinX4 hown hK hP 0 (by decide) rfl rfl 14 (by decide) (hts (.fieldLink RX4 36 "ChangeStreamModel" "of" "[I") (by decide +kernel)) rfl rfl dX4_next_100 ?_
        refine lv_iload_n hx hb dX4_next_103 rfl (lv_at hl 0 rfl) ?_
        refine lv_iconst (v := nI 1) hx hb dX4_next_104 (by decide) ?_
        refine lv_iadd hx hb dX4_next_105 ?_
        rw [nI_add]
        refine wR_ild (f := V 7) (v := (V 7) (12 * j + 1)) hx hb hK hP 7 0 (by decide) rfl rfl (nx_in (k := 12 * j + 1) rfl (by omega) (by decide)) (j := 12 * j + 1) (nx_cl rfl (by omega)) rfl dX4_next_106 ?_
        refine lv_iadd hx hb dX4_next_107 ?_
        rw [show ((V 6) at9) + ((V 7) (12 * j + 1)) = nI i0 from hi0]
        refine lv_istore_n (lv' := [(3, .int (nI i0)), (2, .int (nI (12 * j))), (0, .ref (ad 0)), (1, .int (nI j))]) hx hb dX4_next_108 rfl hl (by decide) rfl (fun ls hl => ?_)
        refine lp_X4_next l D cI cZ ad (va_up I 0 (va_up (I 0) 0 (nI 0))) V j rc rc9 kd ix fa hx hb hml hts hown hK hA hrc (by omega) hr6 hrc9 hrc94 hkd hkd4 hfa (fun  H locs ls hz9 hP hD hS hl => ?_) (fun  H locs ls hlt9 hs9 hP hD hS hl => ?_) (rc - i0 + 1) i0 H locs ls hi1 hix.symm (by omega) hP hD hS (lv_sub hl [2, 3, 1, 0] rfl)
        · refine lv_iload_n hx hb dX4_next_132 rfl (lv_at hl 3 rfl) ?_
          refine lv_aload_n hx hb dX4_next_133 rfl (lv_at hl 0 rfl) ?_
          refine wR_get (v := .int (nI rc)) (C := RX4) (T := TX4) (N := 18) (ci := 4) hx hb hts hinX4 hown hK hP 0 (by decide) rfl rfl 7 (by decide) (hts (.fieldLink RX4 68 "ChangeStreamModel" "rows" "I") (by decide +kernel)) rfl (congrArg (fun z => some (Value.int z)) hrc) dX4_next_134 ?_
          refine lv_icmp_ne (tgt := 163) hx hb dX4_next_137 (by decide) (fun c_5 => ?_) (fun c_5 => ?_)
          · have c_5 : ¬ (rc = rc) := fun h9 => c_5 ((nI_eq (a := rc) (b := rc) (by omega) (by omega)).mpr h9)
            exact absurd rfl c_5
          · have c_5 : rc = rc := (nI_eq (a := rc) (b := rc) (by omega) (by omega)).mp c_5
            refine lv_aload_n hx hb dX4_next_140 rfl (lv_at hl 0 rfl) ?_
            refine wR_get (v := .ref (ad 7)) (C := RX4) (T := TX4) (N := 18) (ci := 4) hx hb hts hinX4 hown hK hP 0 (by decide) rfl rfl 14 (by decide) (hts (.fieldLink RX4 36 "ChangeStreamModel" "of" "[I") (by decide +kernel)) rfl rfl dX4_next_141 ?_
            refine lv_iload_n hx hb dX4_next_144 rfl (lv_at hl 2 rfl) ?_
            refine lv_aload_n hx hb dX4_next_145 rfl (lv_at hl 0 rfl) ?_
            refine wR_get (v := .int (nI TT)) (C := RX4) (T := TX4) (N := 18) (ci := 4) hx hb hts hinX4 hown hK hP 0 (by decide) rfl rfl 9 (by decide) (hts (.fieldLink RX4 65 "ChangeStreamModel" "transactions" "I") (by decide +kernel)) rfl (congrArg (fun z => some (Value.int z)) hT) dX4_next_146 ?_
            refine lv_iconst (v := nI 1) hx hb dX4_next_149 (by decide) ?_
            refine lv_iadd hx hb dX4_next_150 ?_
            rw [nI_add]
            refine wR_ist (f := V 7) hx hb hK hP hD hS 7 0 (by decide) rfl rfl (nx_in (k := 12 * j) rfl (by omega) (by decide)) (j := 12 * j) (nx_cl rfl (by omega)) rfl dX4_next_151 (fun H locs hP hD hS => ?_)
            refine lv_aload_n hx hb dX4_next_152 rfl (lv_at hl 0 rfl) ?_
            refine wR_get (v := .ref (ad 7)) (C := RX4) (T := TX4) (N := 18) (ci := 4) hx hb hts hinX4 hown hK hP 0 (by decide) rfl rfl 14 (by decide) (hts (.fieldLink RX4 36 "ChangeStreamModel" "of" "[I") (by decide +kernel)) rfl rfl dX4_next_153 ?_
            refine lv_iload_n hx hb dX4_next_156 rfl (lv_at hl 2 rfl) ?_
            refine lv_iconst (v := nI 1) hx hb dX4_next_157 (by decide) ?_
            refine lv_iadd hx hb dX4_next_158 ?_
            rw [nI_add]
            refine lv_iconst (v := nI 0) hx hb dX4_next_159 (by decide) ?_
            refine wR_ist (f := va_up (V 7) (12 * j) (nI (TT + 1))) hx hb hK hP hD hS 7 0 (by decide) rfl rfl (nx_in (k := 12 * j + 1) rfl (by omega) (by decide)) (j := 12 * j + 1) (nx_cl rfl (by omega)) rfl dX4_next_160 (fun H locs hP hD hS => ?_)
            rw [bx_uu] at hP hD
            refine lv_iconst (v := (-1)) hx hb dX4_next_161 (by decide) ?_
            have hcdv : cd = 0 := (by rw [hcd, if_neg (by omega)])
            subst hcdv
            have hEV : (va_up V 7 (va_up (va_up (V 7) (12 * j) (nI (TT + 1))) (12 * j + 1) (nI 0)) : Nat → Nat → Int32) = if 0 = 0 then if at9 < lst then va_up V 7 (va_up (va_up (va_up (V 7) (12 * j + 8) (V 7 (12 * j + 8) + (nI lst - nI at9))) (12 * j) (nI lst)) (12 * j + 1) (nI 0)) else if TT < at9 then V else if ix = rc then va_up V 7 (va_up (va_up (V 7) (12 * j) (nI (TT + 1))) (12 * j + 1) (nI 0)) else if tc < mt then va_up (va_up (va_up V 7 (va_up (va_up (va_up (va_up (if kd = 4 ∧ V 7 (12 * j + 5) = 0 then va_up (V 7) (12 * j + 9) (V 7 (12 * j + 9) + 1) else V 7) (12 * j) (nI (tr ix))) (12 * j + 1) (nI ix - V 6 (tr ix))) (12 * j + 1) ((nI ix - V 6 (tr ix)) + nI 1)) (12 * j + 10) (V 7 (12 * j + 10) + nI 1))) 9 (va_up (V 9) (20 * j + tc) (nI ix))) 10 (va_up (V 10) j (nI (tc + 1))) else va_up V 7 (va_up (va_up (if kd = 4 ∧ V 7 (12 * j + 5) = 0 then va_up (V 7) (12 * j + 9) (V 7 (12 * j + 9) + 1) else V 7) (12 * j) (nI (tr ix))) (12 * j + 1) (nI ix - V 6 (tr ix))) else V := by rw [if_pos (show 0 = 0 from rfl), if_neg (show ¬ at9 < lst by omega), if_neg (show ¬ TT < at9 by omega), if_pos (show ix = rc by omega)]
            have hP : va_P D vwCl (mW cI cZ ad (va_up I 0 (va_up (I 0) 0 (nI 0))) (if 0 = 0 then if at9 < lst then va_up V 7 (va_up (va_up (va_up (V 7) (12 * j + 8) (V 7 (12 * j + 8) + (nI lst - nI at9))) (12 * j) (nI lst)) (12 * j + 1) (nI 0)) else if TT < at9 then V else if ix = rc then va_up V 7 (va_up (va_up (V 7) (12 * j) (nI (TT + 1))) (12 * j + 1) (nI 0)) else if tc < mt then va_up (va_up (va_up V 7 (va_up (va_up (va_up (va_up (if kd = 4 ∧ V 7 (12 * j + 5) = 0 then va_up (V 7) (12 * j + 9) (V 7 (12 * j + 9) + 1) else V 7) (12 * j) (nI (tr ix))) (12 * j + 1) (nI ix - V 6 (tr ix))) (12 * j + 1) ((nI ix - V 6 (tr ix)) + nI 1)) (12 * j + 10) (V 7 (12 * j + 10) + nI 1))) 9 (va_up (V 9) (20 * j + tc) (nI ix))) 10 (va_up (V 10) j (nI (tc + 1))) else va_up V 7 (va_up (va_up (if kd = 4 ∧ V 7 (12 * j + 5) = 0 then va_up (V 7) (12 * j + 9) (V 7 (12 * j + 9) + 1) else V 7) (12 * j) (nI (tr ix))) (12 * j + 1) (nI ix - V 6 (tr ix))) else V)) H := by rw [← hEV]; exact hP
            have hD : va_D A (mW cI cZ ad (va_up I 0 (va_up (I 0) 0 (nI 0))) (if 0 = 0 then if at9 < lst then va_up V 7 (va_up (va_up (va_up (V 7) (12 * j + 8) (V 7 (12 * j + 8) + (nI lst - nI at9))) (12 * j) (nI lst)) (12 * j + 1) (nI 0)) else if TT < at9 then V else if ix = rc then va_up V 7 (va_up (va_up (V 7) (12 * j) (nI (TT + 1))) (12 * j + 1) (nI 0)) else if tc < mt then va_up (va_up (va_up V 7 (va_up (va_up (va_up (va_up (if kd = 4 ∧ V 7 (12 * j + 5) = 0 then va_up (V 7) (12 * j + 9) (V 7 (12 * j + 9) + 1) else V 7) (12 * j) (nI (tr ix))) (12 * j + 1) (nI ix - V 6 (tr ix))) (12 * j + 1) ((nI ix - V 6 (tr ix)) + nI 1)) (12 * j + 10) (V 7 (12 * j + 10) + nI 1))) 9 (va_up (V 9) (20 * j + tc) (nI ix))) 10 (va_up (V 10) j (nI (tc + 1))) else va_up V 7 (va_up (va_up (if kd = 4 ∧ V 7 (12 * j + 5) = 0 then va_up (V 7) (12 * j + 9) (V 7 (12 * j + 9) + 1) else V 7) (12 * j) (nI (tr ix))) (12 * j + 1) (nI ix - V 6 (tr ix))) else V)) := by rw [← hEV]; exact hD
            exact W.iret (v := (-1)) hx hb hr (fun t ht hW => ⟨⟨(-1), (), rfl, (fun _ => (by rw [if_neg (show ¬ at9 < lst by omega), if_neg (show ¬ TT < at9 by omega), if_pos (show ix = rc by omega)])), by rw [ht]; exact hP, va_K.moved hW.alike hK, hD⟩, hS.F ht⟩) hS.2.2 dX4_next_162
        · rw [sm_t hs9] at hP hD
          have hG6 : (if kd = 4 ∧ V 7 (12 * j + 5) = 0 then va_up (V 7) (12 * j + 9) (V 7 (12 * j + 9) + 1) else V 7) (12 * j + 6) = nI mt := by rw [← hmt]; split <;> simp [va_up]
          have hG10 : (if kd = 4 ∧ V 7 (12 * j + 5) = 0 then va_up (V 7) (12 * j + 9) (V 7 (12 * j + 9) + 1) else V 7) (12 * j + 10) = V 7 (12 * j + 10) := by split <;> simp [va_up]
          obtain ⟨htr1, htr2⟩ := htr ix hlt9
          refine lv_iload_n hx hb dX4_next_132 rfl (lv_at hl 3 rfl) ?_
          refine lv_aload_n hx hb dX4_next_133 rfl (lv_at hl 0 rfl) ?_
          refine wR_get (v := .int (nI rc)) (C := RX4) (T := TX4) (N := 18) (ci := 4) hx hb hts hinX4 hown hK hP 0 (by decide) rfl rfl 7 (by decide) (hts (.fieldLink RX4 68 "ChangeStreamModel" "rows" "I") (by decide +kernel)) rfl (congrArg (fun z => some (Value.int z)) hrc) dX4_next_134 ?_
          refine lv_icmp_ne (tgt := 163) hx hb dX4_next_137 (by decide) (fun c_6 => ?_) (fun c_6 => ?_)
          · have c_6 : ¬ (ix = rc) := fun h9 => c_6 ((nI_eq (a := ix) (b := rc) (by omega) (by omega)).mpr h9)
            refine lv_aload_n hx hb dX4_next_163 rfl (lv_at hl 0 rfl) ?_
            refine wR_get (v := .ref (ad 7)) (C := RX4) (T := TX4) (N := 18) (ci := 4) hx hb hts hinX4 hown hK hP 0 (by decide) rfl rfl 14 (by decide) (hts (.fieldLink RX4 36 "ChangeStreamModel" "of" "[I") (by decide +kernel)) rfl rfl dX4_next_164 ?_
            refine lv_iload_n hx hb dX4_next_167 rfl (lv_at hl 2 rfl) ?_
            refine lv_aload_n hx hb dX4_next_168 rfl (lv_at hl 0 rfl) ?_
            refine wR_get (v := .ref (ad 5)) (C := RX4) (T := TX4) (N := 18) (ci := 4) hx hb hts hinX4 hown hK hP 0 (by decide) rfl rfl 8 (by decide) (hts (.fieldLink RX4 23 "ChangeStreamModel" "table" "[I") (by decide +kernel)) rfl rfl dX4_next_169 ?_
            refine lv_iconst (v := nI 3) hx hb dX4_next_172 (by decide) ?_
            refine lv_iload_n hx hb dX4_next_173 rfl (lv_at hl 3 rfl) ?_
            refine lv_imul hx hb dX4_next_174 ?_
            rw [pk_mul]
            refine wR_ild (f := V 5) (v := nI (tr ix)) hx hb hK hP 5 0 (by decide) rfl rfl (nx_in (k := 3 * ix) rfl (by omega) (by decide)) (j := 3 * ix) (nx_cl rfl (by omega)) htr1 dX4_next_175 ?_
            refine wR_ist (f := (if kd = 4 ∧ V 7 (12 * j + 5) = 0 then va_up (V 7) (12 * j + 9) (V 7 (12 * j + 9) + 1) else V 7)) hx hb hK hP hD hS 7 0 (by decide) rfl rfl (nx_in (k := 12 * j) rfl (by omega) (by decide)) (j := 12 * j) (nx_cl rfl (by omega)) rfl dX4_next_176 (fun H locs hP hD hS => ?_)
            rw [bx_uu] at hP hD
            refine lv_aload_n hx hb dX4_next_177 rfl (lv_at hl 0 rfl) ?_
            refine wR_get (v := .ref (ad 7)) (C := RX4) (T := TX4) (N := 18) (ci := 4) hx hb hts hinX4 hown hK hP 0 (by decide) rfl rfl 14 (by decide) (hts (.fieldLink RX4 36 "ChangeStreamModel" "of" "[I") (by decide +kernel)) rfl rfl dX4_next_178 ?_
            refine lv_iload_n hx hb dX4_next_181 rfl (lv_at hl 2 rfl) ?_
            refine lv_iconst (v := nI 1) hx hb dX4_next_182 (by decide) ?_
            refine lv_iadd hx hb dX4_next_183 ?_
            rw [nI_add]
            refine lv_iload_n hx hb dX4_next_184 rfl (lv_at hl 3 rfl) ?_
            refine lv_aload_n hx hb dX4_next_185 rfl (lv_at hl 0 rfl) ?_
            refine wR_get (v := .ref (ad 6)) (C := RX4) (T := TX4) (N := 18) (ci := 4) hx hb hts hinX4 hown hK hP 0 (by decide) rfl rfl 10 (by decide) (hts (.fieldLink RX4 26 "ChangeStreamModel" "begins" "[I") (by decide +kernel)) rfl rfl dX4_next_186 ?_
            refine lv_aload_n hx hb dX4_next_189 rfl (lv_at hl 0 rfl) ?_
            refine wR_get (v := .ref (ad 7)) (C := RX4) (T := TX4) (N := 18) (ci := 4) hx hb hts hinX4 hown hK hP 0 (by decide) rfl rfl 14 (by decide) (hts (.fieldLink RX4 36 "ChangeStreamModel" "of" "[I") (by decide +kernel)) rfl rfl dX4_next_190 ?_
            refine lv_iload_n hx hb dX4_next_193 rfl (lv_at hl 2 rfl) ?_
            refine wR_ild (f := va_up (if kd = 4 ∧ V 7 (12 * j + 5) = 0 then va_up (V 7) (12 * j + 9) (V 7 (12 * j + 9) + 1) else V 7) (12 * j) (nI (tr ix))) (v := nI (tr ix)) hx hb hK hP 7 0 (by decide) rfl rfl (nx_in (k := 12 * j) rfl (by omega) (by decide)) (j := 12 * j) (nx_cl rfl (by omega)) (va_up_self _ _ _) dX4_next_194 ?_
            refine wR_ild (f := V 6) (v := (V 6) (tr ix)) hx hb hK hP 6 0 (by decide) rfl rfl (nx_in (k := tr ix) rfl (by omega) (by decide)) (j := tr ix) (nx_cl rfl (by omega)) rfl dX4_next_195 ?_
            refine lv_isub hx hb dX4_next_196 ?_
            refine wR_ist (f := va_up (if kd = 4 ∧ V 7 (12 * j + 5) = 0 then va_up (V 7) (12 * j + 9) (V 7 (12 * j + 9) + 1) else V 7) (12 * j) (nI (tr ix))) hx hb hK hP hD hS 7 0 (by decide) rfl rfl (nx_in (k := 12 * j + 1) rfl (by omega) (by decide)) (j := 12 * j + 1) (nx_cl rfl (by omega)) rfl dX4_next_197 (fun H locs hP hD hS => ?_)
            rw [bx_uu] at hP hD
            refine lv_aload_n hx hb dX4_next_198 rfl (lv_at hl 0 rfl) ?_
            refine wR_get (v := .ref (ad 10)) (C := RX4) (T := TX4) (N := 18) (ci := 4) hx hb hts hinX4 hown hK hP 0 (by decide) rfl rfl 17 (by decide) (hts (.fieldLink RX4 45 "ChangeStreamModel" "many" "[I") (by decide +kernel)) rfl rfl dX4_next_199 ?_
            refine lv_iload_n hx hb dX4_next_202 rfl (lv_at hl 1 rfl) ?_
            refine wR_ild (f := V 10) (v := nI tc) hx hb hK hP 10 0 (by decide) rfl rfl (nx_in (k := j) rfl (by omega) (by decide)) (j := j) (nx_cl rfl (by omega)) htc dX4_next_203 ?_
            refine lv_aload_n hx hb dX4_next_204 rfl (lv_at hl 0 rfl) ?_
            refine wR_get (v := .ref (ad 7)) (C := RX4) (T := TX4) (N := 18) (ci := 4) hx hb hts hinX4 hown hK hP 0 (by decide) rfl rfl 14 (by decide) (hts (.fieldLink RX4 36 "ChangeStreamModel" "of" "[I") (by decide +kernel)) rfl rfl dX4_next_205 ?_
            refine lv_iload_n hx hb dX4_next_208 rfl (lv_at hl 2 rfl) ?_
            refine lv_bipush (v := nI 6) hx hb dX4_next_209 (by decide) ?_
            refine lv_iadd hx hb dX4_next_211 ?_
            rw [nI_add]
            refine wR_ild (f := va_up (va_up (if kd = 4 ∧ V 7 (12 * j + 5) = 0 then va_up (V 7) (12 * j + 9) (V 7 (12 * j + 9) + 1) else V 7) (12 * j) (nI (tr ix))) (12 * j + 1) ((nI ix) - ((V 6) (tr ix)))) (v := nI mt) hx hb hK hP 7 0 (by decide) rfl rfl (nx_in (k := 12 * j + 6) rfl (by omega) (by decide)) (j := 12 * j + 6) (nx_cl rfl (by omega)) (by rw [va_up_ne _ _ (by omega), va_up_ne _ _ (by omega)]; exact hG6) dX4_next_212 ?_
            refine lv_icmp_lt (tgt := 219) hx hb dX4_next_213 (by decide) (fun c_7 => ?_) (fun c_7 => ?_)
            · have c_7 : tc < mt := (nI_ltI (a := tc) (b := mt) (by omega) (by omega)).mp c_7
              refine lv_aload_n hx hb dX4_next_219 rfl (lv_at hl 0 rfl) ?_
              refine wR_get (v := .ref (ad 7)) (C := RX4) (T := TX4) (N := 18) (ci := 4) hx hb hts hinX4 hown hK hP 0 (by decide) rfl rfl 14 (by decide) (hts (.fieldLink RX4 36 "ChangeStreamModel" "of" "[I") (by decide +kernel)) rfl rfl dX4_next_220 ?_
              refine lv_iload_n hx hb dX4_next_223 rfl (lv_at hl 2 rfl) ?_
              refine lv_iconst (v := nI 1) hx hb dX4_next_224 (by decide) ?_
              refine lv_iadd hx hb dX4_next_225 ?_
              rw [nI_add]
              refine lv_dup2_11 hx hb dX4_next_226 rfl rfl ?_
              refine wR_ild (f := va_up (va_up (if kd = 4 ∧ V 7 (12 * j + 5) = 0 then va_up (V 7) (12 * j + 9) (V 7 (12 * j + 9) + 1) else V 7) (12 * j) (nI (tr ix))) (12 * j + 1) ((nI ix) - ((V 6) (tr ix)))) (v := (nI ix - V 6 (tr ix))) hx hb hK hP 7 0 (by decide) rfl rfl (nx_in (k := 12 * j + 1) rfl (by omega) (by decide)) (j := 12 * j + 1) (nx_cl rfl (by omega)) (va_up_self _ _ _) dX4_next_227 ?_
              refine lv_iconst (v := nI 1) hx hb dX4_next_228 (by decide) ?_
              refine lv_iadd hx hb dX4_next_229 ?_
              refine wR_ist (f := va_up (va_up (if kd = 4 ∧ V 7 (12 * j + 5) = 0 then va_up (V 7) (12 * j + 9) (V 7 (12 * j + 9) + 1) else V 7) (12 * j) (nI (tr ix))) (12 * j + 1) ((nI ix) - ((V 6) (tr ix)))) hx hb hK hP hD hS 7 0 (by decide) rfl rfl (nx_in (k := 12 * j + 1) rfl (by omega) (by decide)) (j := 12 * j + 1) (nx_cl rfl (by omega)) rfl dX4_next_230 (fun H locs hP hD hS => ?_)
              rw [bx_uu] at hP hD
              refine lv_aload_n hx hb dX4_next_231 rfl (lv_at hl 0 rfl) ?_
              refine wR_get (v := .ref (ad 7)) (C := RX4) (T := TX4) (N := 18) (ci := 4) hx hb hts hinX4 hown hK hP 0 (by decide) rfl rfl 14 (by decide) (hts (.fieldLink RX4 36 "ChangeStreamModel" "of" "[I") (by decide +kernel)) rfl rfl dX4_next_232 ?_
              refine lv_iload_n hx hb dX4_next_235 rfl (lv_at hl 2 rfl) ?_
              refine lv_bipush (v := nI 10) hx hb dX4_next_236 (by decide) ?_
              refine lv_iadd hx hb dX4_next_238 ?_
              rw [nI_add]
              refine lv_dup2_11 hx hb dX4_next_239 rfl rfl ?_
              refine wR_ild (f := va_up (va_up (va_up (if kd = 4 ∧ V 7 (12 * j + 5) = 0 then va_up (V 7) (12 * j + 9) (V 7 (12 * j + 9) + 1) else V 7) (12 * j) (nI (tr ix))) (12 * j + 1) ((nI ix) - ((V 6) (tr ix)))) (12 * j + 1) ((nI ix - V 6 (tr ix)) + (nI 1))) (v := V 7 (12 * j + 10)) hx hb hK hP 7 0 (by decide) rfl rfl (nx_in (k := 12 * j + 10) rfl (by omega) (by decide)) (j := 12 * j + 10) (nx_cl rfl (by omega)) (by rw [va_up_ne _ _ (by omega), va_up_ne _ _ (by omega), va_up_ne _ _ (by omega)]; exact hG10) dX4_next_240 ?_
              refine lv_iconst (v := nI 1) hx hb dX4_next_241 (by decide) ?_
              refine lv_iadd hx hb dX4_next_242 ?_
              refine wR_ist (f := va_up (va_up (va_up (if kd = 4 ∧ V 7 (12 * j + 5) = 0 then va_up (V 7) (12 * j + 9) (V 7 (12 * j + 9) + 1) else V 7) (12 * j) (nI (tr ix))) (12 * j + 1) ((nI ix) - ((V 6) (tr ix)))) (12 * j + 1) ((nI ix - V 6 (tr ix)) + (nI 1))) hx hb hK hP hD hS 7 0 (by decide) rfl rfl (nx_in (k := 12 * j + 10) rfl (by omega) (by decide)) (j := 12 * j + 10) (nx_cl rfl (by omega)) rfl dX4_next_243 (fun H locs hP hD hS => ?_)
              rw [bx_uu] at hP hD
              refine lv_aload_n hx hb dX4_next_244 rfl (lv_at hl 0 rfl) ?_
              refine wR_get (v := .ref (ad 9)) (C := RX4) (T := TX4) (N := 18) (ci := 4) hx hb hts hinX4 hown hK hP 0 (by decide) rfl rfl 16 (by decide) (hts (.fieldLink RX4 42 "ChangeStreamModel" "taken" "[I") (by decide +kernel)) rfl rfl dX4_next_245 ?_
              refine lv_bipush (v := nI 20) hx hb dX4_next_248 (by decide) ?_
              refine lv_iload_n hx hb dX4_next_250 rfl (lv_at hl 1 rfl) ?_
              refine lv_imul hx hb dX4_next_251 ?_
              rw [pk_mul]
              refine lv_aload_n hx hb dX4_next_252 rfl (lv_at hl 0 rfl) ?_
              refine wR_get (v := .ref (ad 10)) (C := RX4) (T := TX4) (N := 18) (ci := 4) hx hb hts hinX4 hown hK hP 0 (by decide) rfl rfl 17 (by decide) (hts (.fieldLink RX4 45 "ChangeStreamModel" "many" "[I") (by decide +kernel)) rfl rfl dX4_next_253 ?_
              refine lv_iload_n hx hb dX4_next_256 rfl (lv_at hl 1 rfl) ?_
              refine wR_ild (f := V 10) (v := nI tc) hx hb hK hP 10 0 (by decide) rfl rfl (nx_in (k := j) rfl (by omega) (by decide)) (j := j) (nx_cl rfl (by omega)) htc dX4_next_257 ?_
              refine lv_iadd hx hb dX4_next_258 ?_
              rw [nI_add]
              refine lv_iload_n hx hb dX4_next_259 rfl (lv_at hl 3 rfl) ?_
              refine wR_ist (f := V 9) hx hb hK hP hD hS 9 0 (by decide) rfl rfl (nx_in (k := 20 * j + tc) rfl (by omega) (by decide)) (j := 20 * j + tc) (nx_cl rfl (by omega)) rfl dX4_next_260 (fun H locs hP hD hS => ?_)
              refine lv_aload_n hx hb dX4_next_261 rfl (lv_at hl 0 rfl) ?_
              refine wR_get (v := .ref (ad 10)) (C := RX4) (T := TX4) (N := 18) (ci := 4) hx hb hts hinX4 hown hK hP 0 (by decide) rfl rfl 17 (by decide) (hts (.fieldLink RX4 45 "ChangeStreamModel" "many" "[I") (by decide +kernel)) rfl rfl dX4_next_262 ?_
              refine lv_iload_n hx hb dX4_next_265 rfl (lv_at hl 1 rfl) ?_
              refine lv_dup2_11 hx hb dX4_next_266 rfl rfl ?_
              refine wR_ild (f := V 10) (v := nI tc) hx hb hK hP 10 0 (by decide) rfl rfl (nx_in (k := j) rfl (by omega) (by decide)) (j := j) (nx_cl rfl (by omega)) htc dX4_next_267 ?_
              refine lv_iconst (v := nI 1) hx hb dX4_next_268 (by decide) ?_
              refine lv_iadd hx hb dX4_next_269 ?_
              rw [nI_add]
              refine wR_ist (f := V 10) hx hb hK hP hD hS 10 0 (by decide) rfl rfl (nx_in (k := j) rfl (by omega) (by decide)) (j := j) (nx_cl rfl (by omega)) rfl dX4_next_270 (fun H locs hP hD hS => ?_)
              refine lv_iload_n hx hb dX4_next_271 rfl (lv_at hl 3 rfl) ?_
              have hcdv : cd = 0 := (by rw [hcd, if_neg (by omega)])
              subst hcdv
              have hEV : (va_up (va_up (va_up V 7 (va_up (va_up (va_up (va_up (if kd = 4 ∧ V 7 (12 * j + 5) = 0 then va_up (V 7) (12 * j + 9) (V 7 (12 * j + 9) + 1) else V 7) (12 * j) (nI (tr ix))) (12 * j + 1) ((nI ix) - ((V 6) (tr ix)))) (12 * j + 1) ((nI ix - V 6 (tr ix)) + (nI 1))) (12 * j + 10) ((V 7 (12 * j + 10)) + (nI 1)))) 9 (va_up (V 9) (20 * j + tc) (nI ix))) 10 (va_up (V 10) j (nI (tc + 1))) : Nat → Nat → Int32) = if 0 = 0 then if at9 < lst then va_up V 7 (va_up (va_up (va_up (V 7) (12 * j + 8) (V 7 (12 * j + 8) + (nI lst - nI at9))) (12 * j) (nI lst)) (12 * j + 1) (nI 0)) else if TT < at9 then V else if ix = rc then va_up V 7 (va_up (va_up (V 7) (12 * j) (nI (TT + 1))) (12 * j + 1) (nI 0)) else if tc < mt then va_up (va_up (va_up V 7 (va_up (va_up (va_up (va_up (if kd = 4 ∧ V 7 (12 * j + 5) = 0 then va_up (V 7) (12 * j + 9) (V 7 (12 * j + 9) + 1) else V 7) (12 * j) (nI (tr ix))) (12 * j + 1) (nI ix - V 6 (tr ix))) (12 * j + 1) ((nI ix - V 6 (tr ix)) + nI 1)) (12 * j + 10) (V 7 (12 * j + 10) + nI 1))) 9 (va_up (V 9) (20 * j + tc) (nI ix))) 10 (va_up (V 10) j (nI (tc + 1))) else va_up V 7 (va_up (va_up (if kd = 4 ∧ V 7 (12 * j + 5) = 0 then va_up (V 7) (12 * j + 9) (V 7 (12 * j + 9) + 1) else V 7) (12 * j) (nI (tr ix))) (12 * j + 1) (nI ix - V 6 (tr ix))) else V := by rw [if_pos (show 0 = 0 from rfl), if_neg (show ¬ at9 < lst by omega), if_neg (show ¬ TT < at9 by omega), if_neg (show ¬ ix = rc by omega), if_pos (show tc < mt by omega)]
              have hP : va_P D vwCl (mW cI cZ ad (va_up I 0 (va_up (I 0) 0 (nI 0))) (if 0 = 0 then if at9 < lst then va_up V 7 (va_up (va_up (va_up (V 7) (12 * j + 8) (V 7 (12 * j + 8) + (nI lst - nI at9))) (12 * j) (nI lst)) (12 * j + 1) (nI 0)) else if TT < at9 then V else if ix = rc then va_up V 7 (va_up (va_up (V 7) (12 * j) (nI (TT + 1))) (12 * j + 1) (nI 0)) else if tc < mt then va_up (va_up (va_up V 7 (va_up (va_up (va_up (va_up (if kd = 4 ∧ V 7 (12 * j + 5) = 0 then va_up (V 7) (12 * j + 9) (V 7 (12 * j + 9) + 1) else V 7) (12 * j) (nI (tr ix))) (12 * j + 1) (nI ix - V 6 (tr ix))) (12 * j + 1) ((nI ix - V 6 (tr ix)) + nI 1)) (12 * j + 10) (V 7 (12 * j + 10) + nI 1))) 9 (va_up (V 9) (20 * j + tc) (nI ix))) 10 (va_up (V 10) j (nI (tc + 1))) else va_up V 7 (va_up (va_up (if kd = 4 ∧ V 7 (12 * j + 5) = 0 then va_up (V 7) (12 * j + 9) (V 7 (12 * j + 9) + 1) else V 7) (12 * j) (nI (tr ix))) (12 * j + 1) (nI ix - V 6 (tr ix))) else V)) H := by rw [← hEV]; exact hP
              have hD : va_D A (mW cI cZ ad (va_up I 0 (va_up (I 0) 0 (nI 0))) (if 0 = 0 then if at9 < lst then va_up V 7 (va_up (va_up (va_up (V 7) (12 * j + 8) (V 7 (12 * j + 8) + (nI lst - nI at9))) (12 * j) (nI lst)) (12 * j + 1) (nI 0)) else if TT < at9 then V else if ix = rc then va_up V 7 (va_up (va_up (V 7) (12 * j) (nI (TT + 1))) (12 * j + 1) (nI 0)) else if tc < mt then va_up (va_up (va_up V 7 (va_up (va_up (va_up (va_up (if kd = 4 ∧ V 7 (12 * j + 5) = 0 then va_up (V 7) (12 * j + 9) (V 7 (12 * j + 9) + 1) else V 7) (12 * j) (nI (tr ix))) (12 * j + 1) (nI ix - V 6 (tr ix))) (12 * j + 1) ((nI ix - V 6 (tr ix)) + nI 1)) (12 * j + 10) (V 7 (12 * j + 10) + nI 1))) 9 (va_up (V 9) (20 * j + tc) (nI ix))) 10 (va_up (V 10) j (nI (tc + 1))) else va_up V 7 (va_up (va_up (if kd = 4 ∧ V 7 (12 * j + 5) = 0 then va_up (V 7) (12 * j + 9) (V 7 (12 * j + 9) + 1) else V 7) (12 * j) (nI (tr ix))) (12 * j + 1) (nI ix - V 6 (tr ix))) else V)) := by rw [← hEV]; exact hD
              exact W.iret (v := nI ix) hx hb hr (fun t ht hW => ⟨⟨nI ix, (), rfl, (fun _ => (by rw [if_neg (show ¬ at9 < lst by omega), if_neg (show ¬ TT < at9 by omega), if_neg (show ¬ ix = rc by omega), if_pos (show tc < mt by omega)])), by rw [ht]; exact hP, va_K.moved hW.alike hK, hD⟩, hS.F ht⟩) hS.2.2 dX4_next_272
            · have c_7 : ¬ (tc < mt) := fun h9 => c_7 ((nI_ltI (a := tc) (b := mt) (by omega) (by omega)).mpr h9)
              refine lv_bipush (v := (-2)) hx hb dX4_next_216 (by decide) ?_
              have hcdv : cd = 0 := (by rw [hcd, if_neg (by omega)])
              subst hcdv
              have hEV : (va_up V 7 (va_up (va_up (if kd = 4 ∧ V 7 (12 * j + 5) = 0 then va_up (V 7) (12 * j + 9) (V 7 (12 * j + 9) + 1) else V 7) (12 * j) (nI (tr ix))) (12 * j + 1) ((nI ix) - ((V 6) (tr ix)))) : Nat → Nat → Int32) = if 0 = 0 then if at9 < lst then va_up V 7 (va_up (va_up (va_up (V 7) (12 * j + 8) (V 7 (12 * j + 8) + (nI lst - nI at9))) (12 * j) (nI lst)) (12 * j + 1) (nI 0)) else if TT < at9 then V else if ix = rc then va_up V 7 (va_up (va_up (V 7) (12 * j) (nI (TT + 1))) (12 * j + 1) (nI 0)) else if tc < mt then va_up (va_up (va_up V 7 (va_up (va_up (va_up (va_up (if kd = 4 ∧ V 7 (12 * j + 5) = 0 then va_up (V 7) (12 * j + 9) (V 7 (12 * j + 9) + 1) else V 7) (12 * j) (nI (tr ix))) (12 * j + 1) (nI ix - V 6 (tr ix))) (12 * j + 1) ((nI ix - V 6 (tr ix)) + nI 1)) (12 * j + 10) (V 7 (12 * j + 10) + nI 1))) 9 (va_up (V 9) (20 * j + tc) (nI ix))) 10 (va_up (V 10) j (nI (tc + 1))) else va_up V 7 (va_up (va_up (if kd = 4 ∧ V 7 (12 * j + 5) = 0 then va_up (V 7) (12 * j + 9) (V 7 (12 * j + 9) + 1) else V 7) (12 * j) (nI (tr ix))) (12 * j + 1) (nI ix - V 6 (tr ix))) else V := by rw [if_pos (show 0 = 0 from rfl), if_neg (show ¬ at9 < lst by omega), if_neg (show ¬ TT < at9 by omega), if_neg (show ¬ ix = rc by omega), if_neg (show ¬ tc < mt by omega)]
              have hP : va_P D vwCl (mW cI cZ ad (va_up I 0 (va_up (I 0) 0 (nI 0))) (if 0 = 0 then if at9 < lst then va_up V 7 (va_up (va_up (va_up (V 7) (12 * j + 8) (V 7 (12 * j + 8) + (nI lst - nI at9))) (12 * j) (nI lst)) (12 * j + 1) (nI 0)) else if TT < at9 then V else if ix = rc then va_up V 7 (va_up (va_up (V 7) (12 * j) (nI (TT + 1))) (12 * j + 1) (nI 0)) else if tc < mt then va_up (va_up (va_up V 7 (va_up (va_up (va_up (va_up (if kd = 4 ∧ V 7 (12 * j + 5) = 0 then va_up (V 7) (12 * j + 9) (V 7 (12 * j + 9) + 1) else V 7) (12 * j) (nI (tr ix))) (12 * j + 1) (nI ix - V 6 (tr ix))) (12 * j + 1) ((nI ix - V 6 (tr ix)) + nI 1)) (12 * j + 10) (V 7 (12 * j + 10) + nI 1))) 9 (va_up (V 9) (20 * j + tc) (nI ix))) 10 (va_up (V 10) j (nI (tc + 1))) else va_up V 7 (va_up (va_up (if kd = 4 ∧ V 7 (12 * j + 5) = 0 then va_up (V 7) (12 * j + 9) (V 7 (12 * j + 9) + 1) else V 7) (12 * j) (nI (tr ix))) (12 * j + 1) (nI ix - V 6 (tr ix))) else V)) H := by rw [← hEV]; exact hP
              have hD : va_D A (mW cI cZ ad (va_up I 0 (va_up (I 0) 0 (nI 0))) (if 0 = 0 then if at9 < lst then va_up V 7 (va_up (va_up (va_up (V 7) (12 * j + 8) (V 7 (12 * j + 8) + (nI lst - nI at9))) (12 * j) (nI lst)) (12 * j + 1) (nI 0)) else if TT < at9 then V else if ix = rc then va_up V 7 (va_up (va_up (V 7) (12 * j) (nI (TT + 1))) (12 * j + 1) (nI 0)) else if tc < mt then va_up (va_up (va_up V 7 (va_up (va_up (va_up (va_up (if kd = 4 ∧ V 7 (12 * j + 5) = 0 then va_up (V 7) (12 * j + 9) (V 7 (12 * j + 9) + 1) else V 7) (12 * j) (nI (tr ix))) (12 * j + 1) (nI ix - V 6 (tr ix))) (12 * j + 1) ((nI ix - V 6 (tr ix)) + nI 1)) (12 * j + 10) (V 7 (12 * j + 10) + nI 1))) 9 (va_up (V 9) (20 * j + tc) (nI ix))) 10 (va_up (V 10) j (nI (tc + 1))) else va_up V 7 (va_up (va_up (if kd = 4 ∧ V 7 (12 * j + 5) = 0 then va_up (V 7) (12 * j + 9) (V 7 (12 * j + 9) + 1) else V 7) (12 * j) (nI (tr ix))) (12 * j + 1) (nI ix - V 6 (tr ix))) else V)) := by rw [← hEV]; exact hD
              exact W.iret (v := (-2)) hx hb hr (fun t ht hW => ⟨⟨(-2), (), rfl, (fun _ => (by rw [if_neg (show ¬ at9 < lst by omega), if_neg (show ¬ TT < at9 by omega), if_neg (show ¬ ix = rc by omega), if_neg (show ¬ tc < mt by omega)])), by rw [ht]; exact hP, va_K.moved hW.alike hK, hD⟩, hS.F ht⟩) hS.2.2 dX4_next_218
          · have c_6 : ix = rc := (nI_eq (a := ix) (b := rc) (by omega) (by omega)).mp c_6
            exact absurd c_6 (by omega)
      · have c_4 : ¬ (at9 ≤ TT) := fun h9 => c_4 ((nI_leI (a := at9) (b := TT) (by omega) (by omega)).mpr h9)
        refine lv_iconst (v := (-1)) hx hb dX4_next_86 (by decide) ?_
        have hcdv : cd = 0 := (by rw [hcd, if_neg (by omega)])
        subst hcdv
        have hEV : (V : Nat → Nat → Int32) = if 0 = 0 then if at9 < lst then va_up V 7 (va_up (va_up (va_up (V 7) (12 * j + 8) (V 7 (12 * j + 8) + (nI lst - nI at9))) (12 * j) (nI lst)) (12 * j + 1) (nI 0)) else if TT < at9 then V else if ix = rc then va_up V 7 (va_up (va_up (V 7) (12 * j) (nI (TT + 1))) (12 * j + 1) (nI 0)) else if tc < mt then va_up (va_up (va_up V 7 (va_up (va_up (va_up (va_up (if kd = 4 ∧ V 7 (12 * j + 5) = 0 then va_up (V 7) (12 * j + 9) (V 7 (12 * j + 9) + 1) else V 7) (12 * j) (nI (tr ix))) (12 * j + 1) (nI ix - V 6 (tr ix))) (12 * j + 1) ((nI ix - V 6 (tr ix)) + nI 1)) (12 * j + 10) (V 7 (12 * j + 10) + nI 1))) 9 (va_up (V 9) (20 * j + tc) (nI ix))) 10 (va_up (V 10) j (nI (tc + 1))) else va_up V 7 (va_up (va_up (if kd = 4 ∧ V 7 (12 * j + 5) = 0 then va_up (V 7) (12 * j + 9) (V 7 (12 * j + 9) + 1) else V 7) (12 * j) (nI (tr ix))) (12 * j + 1) (nI ix - V 6 (tr ix))) else V := by rw [if_pos (show 0 = 0 from rfl), if_neg (show ¬ at9 < lst by omega), if_pos (show TT < at9 by omega)]
        have hP : va_P D vwCl (mW cI cZ ad (va_up I 0 (va_up (I 0) 0 (nI 0))) (if 0 = 0 then if at9 < lst then va_up V 7 (va_up (va_up (va_up (V 7) (12 * j + 8) (V 7 (12 * j + 8) + (nI lst - nI at9))) (12 * j) (nI lst)) (12 * j + 1) (nI 0)) else if TT < at9 then V else if ix = rc then va_up V 7 (va_up (va_up (V 7) (12 * j) (nI (TT + 1))) (12 * j + 1) (nI 0)) else if tc < mt then va_up (va_up (va_up V 7 (va_up (va_up (va_up (va_up (if kd = 4 ∧ V 7 (12 * j + 5) = 0 then va_up (V 7) (12 * j + 9) (V 7 (12 * j + 9) + 1) else V 7) (12 * j) (nI (tr ix))) (12 * j + 1) (nI ix - V 6 (tr ix))) (12 * j + 1) ((nI ix - V 6 (tr ix)) + nI 1)) (12 * j + 10) (V 7 (12 * j + 10) + nI 1))) 9 (va_up (V 9) (20 * j + tc) (nI ix))) 10 (va_up (V 10) j (nI (tc + 1))) else va_up V 7 (va_up (va_up (if kd = 4 ∧ V 7 (12 * j + 5) = 0 then va_up (V 7) (12 * j + 9) (V 7 (12 * j + 9) + 1) else V 7) (12 * j) (nI (tr ix))) (12 * j + 1) (nI ix - V 6 (tr ix))) else V)) H := by rw [← hEV]; exact hP
        have hD : va_D A (mW cI cZ ad (va_up I 0 (va_up (I 0) 0 (nI 0))) (if 0 = 0 then if at9 < lst then va_up V 7 (va_up (va_up (va_up (V 7) (12 * j + 8) (V 7 (12 * j + 8) + (nI lst - nI at9))) (12 * j) (nI lst)) (12 * j + 1) (nI 0)) else if TT < at9 then V else if ix = rc then va_up V 7 (va_up (va_up (V 7) (12 * j) (nI (TT + 1))) (12 * j + 1) (nI 0)) else if tc < mt then va_up (va_up (va_up V 7 (va_up (va_up (va_up (va_up (if kd = 4 ∧ V 7 (12 * j + 5) = 0 then va_up (V 7) (12 * j + 9) (V 7 (12 * j + 9) + 1) else V 7) (12 * j) (nI (tr ix))) (12 * j + 1) (nI ix - V 6 (tr ix))) (12 * j + 1) ((nI ix - V 6 (tr ix)) + nI 1)) (12 * j + 10) (V 7 (12 * j + 10) + nI 1))) 9 (va_up (V 9) (20 * j + tc) (nI ix))) 10 (va_up (V 10) j (nI (tc + 1))) else va_up V 7 (va_up (va_up (if kd = 4 ∧ V 7 (12 * j + 5) = 0 then va_up (V 7) (12 * j + 9) (V 7 (12 * j + 9) + 1) else V 7) (12 * j) (nI (tr ix))) (12 * j + 1) (nI ix - V 6 (tr ix))) else V)) := by rw [← hEV]; exact hD
        exact W.iret (v := (-1)) hx hb hr (fun t ht hW => ⟨⟨(-1), (), rfl, (fun _ => (by rw [if_neg (show ¬ at9 < lst by omega), if_pos (show TT < at9 by omega)])), by rw [ht]; exact hP, va_K.moved hW.alike hK, hD⟩, hS.F ht⟩) hS.2.2 dX4_next_87
    · have c_3 : ¬ (lst ≤ at9) := fun h9 => c_3 ((nI_leI (a := lst) (b := at9) (by omega) (by omega)).mpr h9)
      refine lv_aload_n hx hb dX4_next_28 rfl (lv_at hl 1 rfl) ?_
      refine wR_get (v := .ref (ad 7)) (C := RX4) (T := TX4) (N := 18) (ci := 4) hx hb hts hinX4 hown hK hP 0 (by decide) rfl rfl 14 (by decide) (hts (.fieldLink RX4 36 "ChangeStreamModel" "of" "[I") (by decide +kernel)) rfl rfl dX4_next_29 ?_
      refine lv_iload_n hx hb dX4_next_32 rfl (lv_at hl 0 rfl) ?_
      refine lv_bipush (v := nI 8) hx hb dX4_next_33 (by decide) ?_
      refine lv_iadd hx hb dX4_next_35 ?_
      rw [nI_add]
      refine lv_dup2_11 hx hb dX4_next_36 rfl rfl ?_
      refine wR_ild (f := V 7) (v := (V 7) (12 * j + 8)) hx hb hK hP 7 0 (by decide) rfl rfl (nx_in (k := 12 * j + 8) rfl (by omega) (by decide)) (j := 12 * j + 8) (nx_cl rfl (by omega)) rfl dX4_next_37 ?_
      refine lv_aload_n hx hb dX4_next_38 rfl (lv_at hl 1 rfl) ?_
      refine wR_get (v := .int (nI lst)) (C := RX4) (T := TX4) (N := 18) (ci := 4) hx hb hts hinX4 hown hK hP 0 (by decide) rfl rfl 12 (by decide) (hts (.fieldLink RX4 33 "ChangeStreamModel" "least" "I") (by decide +kernel)) rfl (congrArg (fun z => some (Value.int z)) hls) dX4_next_39 ?_
      refine lv_aload_n hx hb dX4_next_42 rfl (lv_at hl 1 rfl) ?_
      refine wR_get (v := .ref (ad 7)) (C := RX4) (T := TX4) (N := 18) (ci := 4) hx hb hts hinX4 hown hK hP 0 (by decide) rfl rfl 14 (by decide) (hts (.fieldLink RX4 36 "ChangeStreamModel" "of" "[I") (by decide +kernel)) rfl rfl dX4_next_43 ?_
      refine lv_iload_n hx hb dX4_next_46 rfl (lv_at hl 0 rfl) ?_
      refine wR_ild (f := V 7) (v := nI at9) hx hb hK hP 7 0 (by decide) rfl rfl (nx_in (k := 12 * j) rfl (by omega) (by decide)) (j := 12 * j) (nx_cl rfl (by omega)) hat dX4_next_47 ?_
      refine lv_isub hx hb dX4_next_48 ?_
      refine lv_iadd hx hb dX4_next_49 ?_
      refine wR_ist (f := V 7) hx hb hK hP hD hS 7 0 (by decide) rfl rfl (nx_in (k := 12 * j + 8) rfl (by omega) (by decide)) (j := 12 * j + 8) (nx_cl rfl (by omega)) rfl dX4_next_50 (fun H locs hP hD hS => ?_)
      refine lv_aload_n hx hb dX4_next_51 rfl (lv_at hl 1 rfl) ?_
      refine wR_get (v := .ref (ad 7)) (C := RX4) (T := TX4) (N := 18) (ci := 4) hx hb hts hinX4 hown hK hP 0 (by decide) rfl rfl 14 (by decide) (hts (.fieldLink RX4 36 "ChangeStreamModel" "of" "[I") (by decide +kernel)) rfl rfl dX4_next_52 ?_
      refine lv_iload_n hx hb dX4_next_55 rfl (lv_at hl 0 rfl) ?_
      refine lv_aload_n hx hb dX4_next_56 rfl (lv_at hl 1 rfl) ?_
      refine wR_get (v := .int (nI lst)) (C := RX4) (T := TX4) (N := 18) (ci := 4) hx hb hts hinX4 hown hK hP 0 (by decide) rfl rfl 12 (by decide) (hts (.fieldLink RX4 33 "ChangeStreamModel" "least" "I") (by decide +kernel)) rfl (congrArg (fun z => some (Value.int z)) hls) dX4_next_57 ?_
      refine wR_ist (f := va_up (V 7) (12 * j + 8) (((V 7) (12 * j + 8)) + ((nI lst) - (nI at9)))) hx hb hK hP hD hS 7 0 (by decide) rfl rfl (nx_in (k := 12 * j) rfl (by omega) (by decide)) (j := 12 * j) (nx_cl rfl (by omega)) rfl dX4_next_60 (fun H locs hP hD hS => ?_)
      rw [bx_uu] at hP hD
      refine lv_aload_n hx hb dX4_next_61 rfl (lv_at hl 1 rfl) ?_
      refine wR_get (v := .ref (ad 7)) (C := RX4) (T := TX4) (N := 18) (ci := 4) hx hb hts hinX4 hown hK hP 0 (by decide) rfl rfl 14 (by decide) (hts (.fieldLink RX4 36 "ChangeStreamModel" "of" "[I") (by decide +kernel)) rfl rfl dX4_next_62 ?_
      refine lv_iload_n hx hb dX4_next_65 rfl (lv_at hl 0 rfl) ?_
      refine lv_iconst (v := nI 1) hx hb dX4_next_66 (by decide) ?_
      refine lv_iadd hx hb dX4_next_67 ?_
      rw [nI_add]
      refine lv_iconst (v := nI 0) hx hb dX4_next_68 (by decide) ?_
      refine wR_ist (f := va_up (va_up (V 7) (12 * j + 8) (((V 7) (12 * j + 8)) + ((nI lst) - (nI at9)))) (12 * j) (nI lst)) hx hb hK hP hD hS 7 0 (by decide) rfl rfl (nx_in (k := 12 * j + 1) rfl (by omega) (by decide)) (j := 12 * j + 1) (nx_cl rfl (by omega)) rfl dX4_next_69 (fun H locs hP hD hS => ?_)
      rw [bx_uu] at hP hD
      refine lv_bipush (v := (-3)) hx hb dX4_next_70 (by decide) ?_
      have hcdv : cd = 0 := (by rw [hcd, if_neg (by omega)])
      subst hcdv
      have hEV : (va_up V 7 (va_up (va_up (va_up (V 7) (12 * j + 8) (((V 7) (12 * j + 8)) + ((nI lst) - (nI at9)))) (12 * j) (nI lst)) (12 * j + 1) (nI 0)) : Nat → Nat → Int32) = if 0 = 0 then if at9 < lst then va_up V 7 (va_up (va_up (va_up (V 7) (12 * j + 8) (V 7 (12 * j + 8) + (nI lst - nI at9))) (12 * j) (nI lst)) (12 * j + 1) (nI 0)) else if TT < at9 then V else if ix = rc then va_up V 7 (va_up (va_up (V 7) (12 * j) (nI (TT + 1))) (12 * j + 1) (nI 0)) else if tc < mt then va_up (va_up (va_up V 7 (va_up (va_up (va_up (va_up (if kd = 4 ∧ V 7 (12 * j + 5) = 0 then va_up (V 7) (12 * j + 9) (V 7 (12 * j + 9) + 1) else V 7) (12 * j) (nI (tr ix))) (12 * j + 1) (nI ix - V 6 (tr ix))) (12 * j + 1) ((nI ix - V 6 (tr ix)) + nI 1)) (12 * j + 10) (V 7 (12 * j + 10) + nI 1))) 9 (va_up (V 9) (20 * j + tc) (nI ix))) 10 (va_up (V 10) j (nI (tc + 1))) else va_up V 7 (va_up (va_up (if kd = 4 ∧ V 7 (12 * j + 5) = 0 then va_up (V 7) (12 * j + 9) (V 7 (12 * j + 9) + 1) else V 7) (12 * j) (nI (tr ix))) (12 * j + 1) (nI ix - V 6 (tr ix))) else V := by rw [if_pos (show 0 = 0 from rfl), if_pos (show at9 < lst by omega)]
      have hP : va_P D vwCl (mW cI cZ ad (va_up I 0 (va_up (I 0) 0 (nI 0))) (if 0 = 0 then if at9 < lst then va_up V 7 (va_up (va_up (va_up (V 7) (12 * j + 8) (V 7 (12 * j + 8) + (nI lst - nI at9))) (12 * j) (nI lst)) (12 * j + 1) (nI 0)) else if TT < at9 then V else if ix = rc then va_up V 7 (va_up (va_up (V 7) (12 * j) (nI (TT + 1))) (12 * j + 1) (nI 0)) else if tc < mt then va_up (va_up (va_up V 7 (va_up (va_up (va_up (va_up (if kd = 4 ∧ V 7 (12 * j + 5) = 0 then va_up (V 7) (12 * j + 9) (V 7 (12 * j + 9) + 1) else V 7) (12 * j) (nI (tr ix))) (12 * j + 1) (nI ix - V 6 (tr ix))) (12 * j + 1) ((nI ix - V 6 (tr ix)) + nI 1)) (12 * j + 10) (V 7 (12 * j + 10) + nI 1))) 9 (va_up (V 9) (20 * j + tc) (nI ix))) 10 (va_up (V 10) j (nI (tc + 1))) else va_up V 7 (va_up (va_up (if kd = 4 ∧ V 7 (12 * j + 5) = 0 then va_up (V 7) (12 * j + 9) (V 7 (12 * j + 9) + 1) else V 7) (12 * j) (nI (tr ix))) (12 * j + 1) (nI ix - V 6 (tr ix))) else V)) H := by rw [← hEV]; exact hP
      have hD : va_D A (mW cI cZ ad (va_up I 0 (va_up (I 0) 0 (nI 0))) (if 0 = 0 then if at9 < lst then va_up V 7 (va_up (va_up (va_up (V 7) (12 * j + 8) (V 7 (12 * j + 8) + (nI lst - nI at9))) (12 * j) (nI lst)) (12 * j + 1) (nI 0)) else if TT < at9 then V else if ix = rc then va_up V 7 (va_up (va_up (V 7) (12 * j) (nI (TT + 1))) (12 * j + 1) (nI 0)) else if tc < mt then va_up (va_up (va_up V 7 (va_up (va_up (va_up (va_up (if kd = 4 ∧ V 7 (12 * j + 5) = 0 then va_up (V 7) (12 * j + 9) (V 7 (12 * j + 9) + 1) else V 7) (12 * j) (nI (tr ix))) (12 * j + 1) (nI ix - V 6 (tr ix))) (12 * j + 1) ((nI ix - V 6 (tr ix)) + nI 1)) (12 * j + 10) (V 7 (12 * j + 10) + nI 1))) 9 (va_up (V 9) (20 * j + tc) (nI ix))) 10 (va_up (V 10) j (nI (tc + 1))) else va_up V 7 (va_up (va_up (if kd = 4 ∧ V 7 (12 * j + 5) = 0 then va_up (V 7) (12 * j + 9) (V 7 (12 * j + 9) + 1) else V 7) (12 * j) (nI (tr ix))) (12 * j + 1) (nI ix - V 6 (tr ix))) else V)) := by rw [← hEV]; exact hD
      exact W.iret (v := (-3)) hx hb hr (fun t ht hW => ⟨⟨(-3), (), rfl, (fun _ => (by rw [if_pos (show at9 < lst by omega)])), by rw [ht]; exact hP, va_K.moved hW.alike hK, hD⟩, hS.F ht⟩) hS.2.2 dX4_next_72
  · have c_2 : ¬ (cdn = 0) := fun h9 => c_2 ((nI_eq (a := cdn) (b := 0) (by omega) (by omega)).mpr h9)
    have hq9 := m_1 hcdn c_2
    have hc1 : cdn = 1 := by omega
    subst hc1
    refine lv_iconst (v := nI 0) hx hb dX4_next_8 (by decide) ?_
    have hcdv : cd = 1 := (by rw [hcd, if_pos (by omega)])
    subst hcdv
    have hEV : (V : Nat → Nat → Int32) = if 1 = 0 then if at9 < lst then va_up V 7 (va_up (va_up (va_up (V 7) (12 * j + 8) (V 7 (12 * j + 8) + (nI lst - nI at9))) (12 * j) (nI lst)) (12 * j + 1) (nI 0)) else if TT < at9 then V else if ix = rc then va_up V 7 (va_up (va_up (V 7) (12 * j) (nI (TT + 1))) (12 * j + 1) (nI 0)) else if tc < mt then va_up (va_up (va_up V 7 (va_up (va_up (va_up (va_up (if kd = 4 ∧ V 7 (12 * j + 5) = 0 then va_up (V 7) (12 * j + 9) (V 7 (12 * j + 9) + 1) else V 7) (12 * j) (nI (tr ix))) (12 * j + 1) (nI ix - V 6 (tr ix))) (12 * j + 1) ((nI ix - V 6 (tr ix)) + nI 1)) (12 * j + 10) (V 7 (12 * j + 10) + nI 1))) 9 (va_up (V 9) (20 * j + tc) (nI ix))) 10 (va_up (V 10) j (nI (tc + 1))) else va_up V 7 (va_up (va_up (if kd = 4 ∧ V 7 (12 * j + 5) = 0 then va_up (V 7) (12 * j + 9) (V 7 (12 * j + 9) + 1) else V 7) (12 * j) (nI (tr ix))) (12 * j + 1) (nI ix - V 6 (tr ix))) else V := by first | rfl | (simp only [bx_uu, wR_same]; done)
    have hP : va_P D vwCl (mW cI cZ ad (va_up I 0 (va_up (I 0) 0 (nI 1))) (if 1 = 0 then if at9 < lst then va_up V 7 (va_up (va_up (va_up (V 7) (12 * j + 8) (V 7 (12 * j + 8) + (nI lst - nI at9))) (12 * j) (nI lst)) (12 * j + 1) (nI 0)) else if TT < at9 then V else if ix = rc then va_up V 7 (va_up (va_up (V 7) (12 * j) (nI (TT + 1))) (12 * j + 1) (nI 0)) else if tc < mt then va_up (va_up (va_up V 7 (va_up (va_up (va_up (va_up (if kd = 4 ∧ V 7 (12 * j + 5) = 0 then va_up (V 7) (12 * j + 9) (V 7 (12 * j + 9) + 1) else V 7) (12 * j) (nI (tr ix))) (12 * j + 1) (nI ix - V 6 (tr ix))) (12 * j + 1) ((nI ix - V 6 (tr ix)) + nI 1)) (12 * j + 10) (V 7 (12 * j + 10) + nI 1))) 9 (va_up (V 9) (20 * j + tc) (nI ix))) 10 (va_up (V 10) j (nI (tc + 1))) else va_up V 7 (va_up (va_up (if kd = 4 ∧ V 7 (12 * j + 5) = 0 then va_up (V 7) (12 * j + 9) (V 7 (12 * j + 9) + 1) else V 7) (12 * j) (nI (tr ix))) (12 * j + 1) (nI ix - V 6 (tr ix))) else V)) H := by rw [← hEV]; exact hP
    have hD : va_D A (mW cI cZ ad (va_up I 0 (va_up (I 0) 0 (nI 1))) (if 1 = 0 then if at9 < lst then va_up V 7 (va_up (va_up (va_up (V 7) (12 * j + 8) (V 7 (12 * j + 8) + (nI lst - nI at9))) (12 * j) (nI lst)) (12 * j + 1) (nI 0)) else if TT < at9 then V else if ix = rc then va_up V 7 (va_up (va_up (V 7) (12 * j) (nI (TT + 1))) (12 * j + 1) (nI 0)) else if tc < mt then va_up (va_up (va_up V 7 (va_up (va_up (va_up (va_up (if kd = 4 ∧ V 7 (12 * j + 5) = 0 then va_up (V 7) (12 * j + 9) (V 7 (12 * j + 9) + 1) else V 7) (12 * j) (nI (tr ix))) (12 * j + 1) (nI ix - V 6 (tr ix))) (12 * j + 1) ((nI ix - V 6 (tr ix)) + nI 1)) (12 * j + 10) (V 7 (12 * j + 10) + nI 1))) 9 (va_up (V 9) (20 * j + tc) (nI ix))) 10 (va_up (V 10) j (nI (tc + 1))) else va_up V 7 (va_up (va_up (if kd = 4 ∧ V 7 (12 * j + 5) = 0 then va_up (V 7) (12 * j + 9) (V 7 (12 * j + 9) + 1) else V 7) (12 * j) (nI (tr ix))) (12 * j + 1) (nI ix - V 6 (tr ix))) else V)) := by rw [← hEV]; exact hD
    exact W.iret (v := nI 0) hx hb hr (fun t ht hW => ⟨⟨nI 0, (), rfl, (fun h9 => absurd h9 (by decide)), by rw [ht]; exact hP, va_K.moved hW.alike hK, hD⟩, hS.F ht⟩) hS.2.2 dX4_next_9
