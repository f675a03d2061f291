/-- what row() tells -/
def rw5 (a b c d e : Int32) (v : Nat) : Int32 := if v = 0 then a else if v = 1 then b else if v = 2 then (if c = 0 then 0 else 1) else if v = 3 then d else e
/-- how many of the first facts a test holds of -/
def lgN (Z : Nat → Bool) : Nat → Nat
  | 0 => 0
  | f + 1 => lgN Z f + (if Z f = true then 1 else 0)
/-- the array with a number for each of these facts, from rc on -/
def lgA (Z : Nat → Bool) (g : Nat → Int32) (rc : Nat) (a : Nat → Int32) : Nat → Nat → Int32
  | 0 => a
  | f + 1 => if Z f = true then va_up (lgA Z g rc a f) (rc + lgN Z f) (g f) else lgA Z g rc a f
/-- the fact is changed, and comes (b = 1) or goes (b = 0) -/
def lgZ (V : Nat → Nat → Int32) (b : Int32) (f : Nat) : Bool := decide (V 4 f ≠ V 5 f) && decide (V 5 f = b)
theorem lgZ_t {V : Nat → Nat → Int32} {b : Int32} {f : Nat} (h1 : ¬ V 4 f = V 5 f) (h2 : V 5 f = b) : lgZ V b f = true := by simp only [lgZ, Bool.and_eq_true, decide_eq_true_eq]; exact ⟨h1, h2⟩
theorem lgZ_f {V : Nat → Nat → Int32} {b : Int32} {f : Nat} (h : V 4 f = V 5 f ∨ ¬ V 5 f = b) : lgZ V b f = false := by
  simp only [lgZ, Bool.and_eq_false_iff, decide_eq_false_iff_not]
  rcases h with h | h
  · exact Or.inl (fun h9 => h9 h)
  · exact Or.inr h
theorem lgN_f {Z : Nat → Bool} {f : Nat} (h : Z f = false) : lgN Z (f + 1) = lgN Z f := by simp [lgN, h]
theorem lgN_t {Z : Nat → Bool} {f : Nat} (h : Z f = true) : lgN Z (f + 1) = lgN Z f + 1 := by simp [lgN, h]
theorem lgA_f {Z : Nat → Bool} {f : Nat} (h : Z f = false) (g : Nat → Int32) (rc : Nat) (a : Nat → Int32) : lgA Z g rc a (f + 1) = lgA Z g rc a f := by simp [lgA, h]
theorem lgA_t {Z : Nat → Bool} {f : Nat} (h : Z f = true) (g : Nat → Int32) (rc : Nat) (a : Nat → Int32) : lgA Z g rc a (f + 1) = va_up (lgA Z g rc a f) (rc + lgN Z f) (g f) := by simp [lgA, h]
theorem lgN_le (Z : Nat → Bool) (f : Nat) : ∀ d, lgN Z f ≤ lgN Z (f + d)
  | 0 => Nat.le_refl _
  | d + 1 => Nat.le_trans (lgN_le Z f d) (by show _ ≤ lgN Z (f + d) + _; omega)
theorem lgN_lt {Z : Nat → Bool} {f k : Nat} (h : Z f = true) (hk : f < k) : lgN Z f + 1 ≤ lgN Z k := by
  have h1 := lgN_le Z (f + 1) (k - (f + 1))
  rw [lgN_t h, show f + 1 + (k - (f + 1)) = k by omega] at h1
  exact h1
theorem up3 (V : Nat → Nat → Int32) (a b c a2 b2 c2 : Nat → Int32) : va_up (va_up (va_up (va_up (va_up (va_up V 7 a) 8 b) 9 c) 7 a2) 8 b2) 9 c2 = va_up (va_up (va_up V 7 a2) 8 b2) 9 c2 := by
  funext j
  by_cases h9 : j = 9
  · subst h9; rfl
  · by_cases h8 : j = 8
    · subst h8; rfl
    · by_cases h7 : j = 7
      · subst h7; rfl
      · simp [va_up, h9, h8, h7]

set_option maxHeartbeats 4000000 in
set_option maxRecDepth 100000 in
/-- row(x, y) -/
theorem c_X3_row (l : Launch) (D : va_G) (cI cZ cR : ClassId) (ad : Nat → Nat) (na n : Nat) (I V : Nat → Nat → Int32) (sz : Nat) (hlt : l.stackTraces = false) (hn : n = 11 + 6 * na) (hna : I 0 3 = nI na) (hna6 : na ≤ 6) (kp TT lst rc fk : Nat) (hkp : I 6 3 = nI kp) (hT : I 6 4 = nI TT) (hls : I 6 5 = nI lst) (hrc : I 6 6 = nI rc) (hfk : I 6 7 = nI fk) (hle : fk ≤ rc) (hr6 : rc ≤ 600) (hkp1 : kp ≤ 30) (hT1 : TT < 100000) (hls0 : 0 < lst) (hls1 : lst ≤ 100000) (fa : Nat → Nat) (hfa : ∀ j, j < rc → V 8 j = nI (fa j) ∧ fa j < 100) (h019 : ∀ j, V 9 j = 0 ∨ V 9 j = 1) (x y : Int32) (i v : Nat) (hi : i = x.toNatClampNeg) (hv : v = y.toNatClampNeg) (cd : Nat) (hcd : cd = if ¬ (0 ≤ x.toInt ∧ x.toInt ≤ ((rc : Nat) : Int) - 1) ∨ ¬ (0 ≤ y.toInt ∧ y.toInt ≤ 4) then 1 else 0) : vx_Met l yX3_row wsX3_row ({ frames := 7, cells := 2, slots := 12, locals := 102 } : Room) (va_Pc [.ref (ad 0), .int x, .int y] (wPre D vwCl (sT cI cZ cR) (sW cI cZ cR ad na n I V) sz (eX (va_A (sW cI cZ cR ad na n I V) sz)))) (va_Qi (fun (r : Int32) (u : Unit) => cd = 0 ∧ r = if i < fk then -1 else rw5 (V 7 i) (V 8 i) (V 9 i) (V 2 (fa i)) (V 3 (fa i)) v) (wPost D vwCl (sT cI cZ cR) (fun (u : Unit) => sW cI cZ cR ad na n I V) (va_A (sW cI cZ cR ad na n I V) sz)) (va_A (sW cI cZ cR ad na n I V) sz)) (wXc D vwCl (sT cI cZ cR) (sW cI cZ cR ad na n I V) (va_A (sW cI cZ cR ad na n I V) sz) cd) 2 12 (va_A (sW cI cZ cR ad na n I V) sz) := by
  refine vx_ofW (cc := cX3_row) (maxL := 4) (ret := (some .int)) (by decide) rfl ?_
  intro p e s m args below meth c s₁ B hml htab hv
  obtain ⟨rfl, hsz, hP, hK, hD0, hE⟩ := hv
  have hx := B.exec
  have hb := B.bytes
  have hr := B.returns
  have hts := atoms_spec (ws := wsX3_row) B.pre
  have hown : s.vm.findClass RX3 = some m.cls := findClass_of_methodNamed B.named
  have hlocks := B.notSynchronized
  subst hsz
  have hD := hD0.self (sz := s.heap.size)
  generalize hAe : va_A (sW cI cZ cR ad na n I V) s.heap.size = A at hD hE ⊢
  have hA : ∀ q : Nat, s.heap.size ≤ q → A q := fun q h => by rw [← hAe]; exact Or.inr h
  have hS : va_S A s.heap s.heap [] := va_S.rf
  have hinX0 : ∀ w ∈ wsX00, w ∈ wsX3_row := by decide +kernel
  have hinX2 : ∀ w ∈ wsX20, w ∈ wsX3_row := by decide +kernel
  have hinX3 : ∀ w ∈ wsX30, w ∈ wsX3_row := by decide +kernel
  have hl := lv_entry ([.ref (ad 0), .int x, .int y]) (n := 4) (Nat.le_of_ble_eq_true rfl)
  rw [lg_entry_eq]
  generalize (lg_sl ([.ref (ad 0), .int x, .int y]) ++ List.replicate (4 - (lg_sl ([.ref (ad 0), .int x, .int y])).length) Slot.unset).toArray = ls at hl ⊢
  have hl : lv_has ls 4 [(0, .ref (ad 0)), (1, .int x), (2, .int y)] := hl
  obtain ⟨eN1, eA, eS, ej1, ej2, ej3, ⟨s46, e46⟩, ⟨s62, e62⟩, ⟨s94, e94⟩, ⟨s122, e122⟩, ⟨s187, e187⟩, ⟨s190, e190⟩, eU, eV⟩ := id hE
  refine lv_iload_n hx hb dX3_row_0 rfl (lv_at hl 1 rfl) ?_
  refine lv_iconst (v := nI 0) hx hb dX3_row_1 (by decide) ?_
  refine lv_aload_n hx hb dX3_row_2 rfl (lv_at hl 0 rfl) ?_
  refine wR_get (v := .ref (ad 6)) (C := RX3) (T := TX3) (N := 4) (ci := 3) hx hb hts hinX3 hown hK hP 0 (by omega) rfl rfl 1 (by decide) (hts (.fieldLink RX3 19 "ChangeStream" "log" "LChangeStream$Log;") (by decide +kernel)) rfl rfl dX3_row_3 ?_
  refine wR_get (v := .int (nI rc)) (C := RX0) (T := TX0) (N := 8) (ci := 0) hx hb hts hinX0 hown hK hP 6 (by omega) rfl rfl 6 (by decide) (hts (.fieldLink RX3 143 "ChangeStream$Log" "rowCount" "I") (by decide +kernel)) rfl (congrArg (fun z => some (Value.int z)) hrc) dX3_row_6 ?_
  refine lv_iconst (v := nI 1) hx hb dX3_row_9 (by decide) ?_
  refine lv_isub hx hb dX3_row_10 ?_
  refine w_calli (w := sW cI cZ cR ad na n I V) hS hA hK hD (va_runS (As := [.int x, .int (nI 0), .int ((nI rc) - (nI 1))]) (rest := []) ⟨hx, hb, hml, hown, hts⟩ (c_X3_isWithin l D (sT cI cZ cR) (sW cI cZ cR ad na n I V) wTrue s.heap.size x (nI 0) ((nI rc) - (nI 1))) (va_cwS 3 hts gX3_row_X3_isWithin rfl rfl rfl (by decide +kernel) ⟨Nat.le_of_ble_eq_true rfl, Nat.le_of_ble_eq_true rfl⟩) (w_pre hP hK hD wEnv_true) rfl rfl hl.1 rfl (lv_room (Nat.le_of_ble_eq_true rfl)) dX3_row_11 ⟨Nat.le_of_ble_eq_true rfl, Nat.le_of_ble_eq_true rfl⟩) (fun r_2 u H locs hw hP hD hS hz => ?_)
  have hw_1 : r_2 = wI x (0) (((rc : Nat) : Int) - 1) := by rw [hw, nI_toInt (n := 0) (by decide), pk_sub_toInt (a := rc) (b := 1) (by omega) (by decide)]; rfl
  refine w_callxv (w := sW cI cZ cR ad na n I V) hS hA hK hD (vx_runS (As := [.int r_2]) (rest := []) ⟨hx, hb, hml, hown, hts⟩ (c_X3_demand l D (sT cI cZ cR) (sW cI cZ cR ad na n I V) H.size hlt r_2 (if r_2 = 0 then 1 else 0) rfl) (va_cwS 1 hts gX3_row_X3_demand rfl rfl rfl (by decide +kernel) ⟨Nat.le_of_ble_eq_true rfl, Nat.le_of_ble_eq_true rfl⟩) (w_pre hP hK hD (eX_env hE hS (w_free hD hS hA))) rfl rfl hl.1 rfl (lv_room (Nat.le_of_ble_eq_true rfl)) dX3_row_14 ⟨Nat.le_of_ble_eq_true rfl, Nat.le_of_ble_eq_true rfl⟩) (fun E9 ce q9 H locs hxc hP hS hce hcv hcl => ?_) (fun u H locs hw hP hD hS hz => ?_)
  · obtain ⟨hE1, hb0⟩ := xC_1 hxc
    have hq_3 := wI_out hw_1 hb0
    exact w_out htab hlocks hce hcv hcl hP hK hD hS (Or.inl ⟨hE1, (by rw [hcd, if_pos (by omega)])⟩) (by decide) (by decide)
  · have hq_3 := wI_in hw_1 hw.2
    obtain ⟨hxj, hxi⟩ := nx_nn (x := x) (by omega)
    rw [← hi] at hxj hxi
    rw [hxj] at hl
    refine lv_iload_n hx hb dX3_row_17 rfl (lv_at hl 2 rfl) ?_
    refine lv_iconst (v := nI 0) hx hb dX3_row_18 (by decide) ?_
    refine lv_iconst (v := nI 4) hx hb dX3_row_19 (by decide) ?_
    refine w_calli (w := sW cI cZ cR ad na n I V) hS hA hK hD (va_runS (As := [.int y, .int (nI 0), .int (nI 4)]) (rest := []) ⟨hx, hb, hml, hown, hts⟩ (c_X3_isWithin l D (sT cI cZ cR) (sW cI cZ cR ad na n I V) wTrue H.size y (nI 0) (nI 4)) (va_cwS 3 hts gX3_row_X3_isWithin rfl rfl rfl (by decide +kernel) ⟨Nat.le_of_ble_eq_true rfl, Nat.le_of_ble_eq_true rfl⟩) (w_pre hP hK hD wEnv_true) rfl rfl hl.1 rfl (lv_room (Nat.le_of_ble_eq_true rfl)) dX3_row_20 ⟨Nat.le_of_ble_eq_true rfl, Nat.le_of_ble_eq_true rfl⟩) (fun r_6 u H locs hw hP hD hS hz => ?_)
    have hw_5 : r_6 = wI y (0) (4) := by rw [hw, nI_toInt (n := 0) (by decide), nI_toInt (n := 4) (by decide)]; rfl
    refine w_callxv (w := sW cI cZ cR ad na n I V) hS hA hK hD (vx_runS (As := [.int r_6]) (rest := []) ⟨hx, hb, hml, hown, hts⟩ (c_X3_demand l D (sT cI cZ cR) (sW cI cZ cR ad na n I V) H.size hlt r_6 (if r_6 = 0 then 1 else 0) rfl) (va_cwS 1 hts gX3_row_X3_demand rfl rfl rfl (by decide +kernel) ⟨Nat.le_of_ble_eq_true rfl, Nat.le_of_ble_eq_true rfl⟩) (w_pre hP hK hD (eX_env hE hS (w_free hD hS hA))) rfl rfl hl.1 rfl (lv_room (Nat.le_of_ble_eq_true rfl)) dX3_row_23 ⟨Nat.le_of_ble_eq_true rfl, Nat.le_of_ble_eq_true rfl⟩) (fun E9 ce q9 H locs hxc hP hS hce hcv hcl => ?_) (fun u H locs hw hP hD hS hz => ?_)
    · obtain ⟨hE1, hb0⟩ := xC_1 hxc
      have hq_7 := wI_out hw_5 hb0
      exact w_out htab hlocks hce hcv hcl hP hK hD hS (Or.inl ⟨hE1, (by rw [hcd, if_pos (by omega)])⟩) (by decide) (by decide)
    · have hq_7 := wI_in hw_5 hw.2
      obtain ⟨hyj, hyi⟩ := nx_nn (x := y) (by omega)
      rw [← hv] at hyj hyi
      rw [hyj] at hl
      refine lv_iload_n hx hb dX3_row_26 rfl (lv_at hl 1 rfl) ?_
      refine lv_aload_n hx hb dX3_row_27 rfl (lv_at hl 0 rfl) ?_
      refine wR_get (v := .ref (ad 6)) (C := RX3) (T := TX3) (N := 4) (ci := 3) hx hb hts hinX3 hown hK hP 0 (by omega) rfl rfl 1 (by decide) (hts (.fieldLink RX3 19 "ChangeStream" "log" "LChangeStream$Log;") (by decide +kernel)) rfl rfl dX3_row_28 ?_
      refine wR_get (v := .int (nI fk)) (C := RX0) (T := TX0) (N := 8) (ci := 0) hx hb hts hinX0 hown hK hP 6 (by omega) rfl rfl 7 (by decide) (hts (.fieldLink RX3 137 "ChangeStream$Log" "firstKept" "I") (by decide +kernel)) rfl (congrArg (fun z => some (Value.int z)) hfk) dX3_row_31 ?_
      refine lv_icmp_ge (tgt := 39) hx hb dX3_row_34 (by decide) (fun c_9 => ?_) (fun c_9 => ?_)
      · have c_9 : fk ≤ i := (nI_leI (a := fk) (b := i) (by omega) (by omega)).mp c_9
        have hif : ¬ i < fk := by omega
        obtain ⟨hf1, hf2⟩ := hfa i (by omega)
        refine lv_aload_n hx hb dX3_row_39 rfl (lv_at hl 0 rfl) ?_
        refine wR_get (v := .ref (ad 6)) (C := RX3) (T := TX3) (N := 4) (ci := 3) hx hb hts hinX3 hown hK hP 0 (by omega) rfl rfl 1 (by decide) (hts (.fieldLink RX3 19 "ChangeStream" "log" "LChangeStream$Log;") (by decide +kernel)) rfl rfl dX3_row_40 ?_
        refine lv_iload_n hx hb dX3_row_43 rfl (lv_at hl 1 rfl) ?_
        refine w_calli (w := sW cI cZ cR ad na n I V) hS hA hK hD (va_runV (As := [.int (nI i)]) (rest := []) ⟨hx, hb, hml, hown, hts⟩ (c_X0_factOf l D cI cZ cR ad na n I V H.size (by omega) (i) (by omega)) (cwV 1 hts gX3_row_X0_factOf rfl rfl rfl (by decide +kernel) ⟨Nat.le_of_ble_eq_true rfl, Nat.le_of_ble_eq_true rfl⟩) ⟨(w_pre hP hK hD wEnv_true).1, wR_recv (C := RX0) (T := TX0) (N := 8) hK hP (ci := 0) rfl 6 (by omega) rfl, (w_pre hP hK hD wEnv_true).2⟩ rfl rfl hl.1 rfl (lv_room (Nat.le_of_ble_eq_true rfl)) dX3_row_44 ⟨Nat.le_of_ble_eq_true rfl, Nat.le_of_ble_eq_true rfl⟩) (fun r_10 u H locs hw hP hD hS hz => ?_)
        rw [show r_10 = nI (fa i) from hw.trans hf1]
        refine lv_istore_n (lv' := [(3, .int (nI (fa i))), (0, .ref (ad 0)), (1, .int (nI i)), (2, .int (nI v))]) hx hb dX3_row_47 rfl hl (by decide) rfl (fun ls hl => ?_)
        refine lv_iload_n hx hb dX3_row_48 rfl (lv_at hl 3 rfl) ?_
        rcases (show v = 0 ∨ v = 1 ∨ v = 2 ∨ v = 3 ∨ v = 4 by omega) with rfl | rfl | rfl | rfl | rfl
        · refine lv_tableIn (tgt := 80) hx hb dX3_row_49 (by decide) (by decide) (off := 31) (by decide) (by decide) ?_
          refine lv_aload_n hx hb dX3_row_80 rfl (lv_at hl 1 rfl) ?_
          refine wR_get (v := .ref (ad 6)) (C := RX3) (T := TX3) (N := 4) (ci := 3) hx hb hts hinX3 hown hK hP 0 (by omega) rfl rfl 1 (by decide) (hts (.fieldLink RX3 19 "ChangeStream" "log" "LChangeStream$Log;") (by decide +kernel)) rfl rfl dX3_row_81 ?_
          refine lv_iload_n hx hb dX3_row_84 rfl (lv_at hl 2 rfl) ?_
          refine w_calli (w := sW cI cZ cR ad na n I V) hS hA hK hD (va_runV (As := [.int (nI i)]) (rest := []) ⟨hx, hb, hml, hown, hts⟩ (c_X0_transactionOf l D cI cZ cR ad na n I V H.size (by omega) (i) (by omega)) (cwV 1 hts gX3_row_X0_transactionOf rfl rfl rfl (by decide +kernel) ⟨Nat.le_of_ble_eq_true rfl, Nat.le_of_ble_eq_true rfl⟩) ⟨(w_pre hP hK hD wEnv_true).1, wR_recv (C := RX0) (T := TX0) (N := 8) hK hP (ci := 0) rfl 6 (by omega) rfl, (w_pre hP hK hD wEnv_true).2⟩ rfl rfl hl.1 rfl (lv_room (Nat.le_of_ble_eq_true rfl)) dX3_row_85 ⟨Nat.le_of_ble_eq_true rfl, Nat.le_of_ble_eq_true rfl⟩) (fun r_11 u H locs hw hP hD hS hz => ?_)
          rw [show r_11 = (V 7) i from hw]
          refine vx_ret ?_
          refine W.widen (k := 2) (n := 12) (by decide) (by decide) ?_
          exact W.iret (v := (V 7) i) hx hb hr (fun t ht hW => ⟨⟨(V 7) i, (), rfl, ⟨(by rw [hcd, if_neg (by omega)]), (by rw [if_neg hif]; rfl)⟩, by rw [ht]; exact hP, va_K.moved hW.alike hK, hD⟩, hS.F ht⟩) hS.2.2 dX3_row_88
        · refine lv_tableIn (tgt := 89) hx hb dX3_row_49 (by decide) (by decide) (off := 40) (by decide) (by decide) ?_
          refine lv_iload_n hx hb dX3_row_89 rfl (lv_at hl 0 rfl) ?_
          refine vx_ret ?_
          refine W.widen (k := 2) (n := 12) (by decide) (by decide) ?_
          exact W.iret (v := nI (fa i)) hx hb hr (fun t ht hW => ⟨⟨nI (fa i), (), rfl, ⟨(by rw [hcd, if_neg (by omega)]), (by rw [if_neg hif]; exact hf1.symm)⟩, by rw [ht]; exact hP, va_K.moved hW.alike hK, hD⟩, hS.F ht⟩) hS.2.2 dX3_row_90
        · refine lv_tableIn (tgt := 91) hx hb dX3_row_49 (by decide) (by decide) (off := 42) (by decide) (by decide) ?_
          refine lv_aload_n hx hb dX3_row_91 rfl (lv_at hl 1 rfl) ?_
          refine wR_get (v := .ref (ad 6)) (C := RX3) (T := TX3) (N := 4) (ci := 3) hx hb hts hinX3 hown hK hP 0 (by omega) rfl rfl 1 (by decide) (hts (.fieldLink RX3 19 "ChangeStream" "log" "LChangeStream$Log;") (by decide +kernel)) rfl rfl dX3_row_92 ?_
          refine lv_iload_n hx hb dX3_row_95 rfl (lv_at hl 2 rfl) ?_
          refine w_calli (w := sW cI cZ cR ad na n I V) hS hA hK hD (va_runV (As := [.int (nI i)]) (rest := []) ⟨hx, hb, hml, hown, hts⟩ (c_X0_comesIn l D cI cZ cR ad na n I V H.size (by omega) (i) (by omega) h019) (cwV 1 hts gX3_row_X0_comesIn rfl rfl rfl (by decide +kernel) ⟨Nat.le_of_ble_eq_true rfl, Nat.le_of_ble_eq_true rfl⟩) ⟨(w_pre hP hK hD wEnv_true).1, wR_recv (C := RX0) (T := TX0) (N := 8) hK hP (ci := 0) rfl 6 (by omega) rfl, (w_pre hP hK hD wEnv_true).2⟩ rfl rfl hl.1 rfl (lv_room (Nat.le_of_ble_eq_true rfl)) dX3_row_96 ⟨Nat.le_of_ble_eq_true rfl, Nat.le_of_ble_eq_true rfl⟩) (fun r_12 u H locs hw hP hD hS hz => ?_)
          rw [show r_12 = (V 9) i from hw]
          refine lv_if_eq (tgt := 106) hx hb dX3_row_99 (by decide) (fun c_13 => ?_) (fun c_13 => ?_)
          · refine lv_iconst (v := nI 0) hx hb dX3_row_106 (by decide) ?_
            refine vx_ret ?_
            refine W.widen (k := 2) (n := 12) (by decide) (by decide) ?_
            exact W.iret (v := nI 0) hx hb hr (fun t ht hW => ⟨⟨nI 0, (), rfl, ⟨(by rw [hcd, if_neg (by omega)]), (by rw [if_neg hif]; show _ = if V 9 i = 0 then (0 : Int32) else 1; first | (rw [if_pos (by assumption)]; rfl) | (rw [if_neg (by assumption)]; rfl))⟩, by rw [ht]; exact hP, va_K.moved hW.alike hK, hD⟩, hS.F ht⟩) hS.2.2 dX3_row_107
          · refine lv_iconst (v := nI 1) hx hb dX3_row_102 (by decide) ?_
            refine lv_goto (tgt := 107) hx hb dX3_row_103 (by decide) ?_
            refine vx_ret ?_
            refine W.widen (k := 2) (n := 12) (by decide) (by decide) ?_
            exact W.iret (v := nI 1) hx hb hr (fun t ht hW => ⟨⟨nI 1, (), rfl, ⟨(by rw [hcd, if_neg (by omega)]), (by rw [if_neg hif]; show _ = if V 9 i = 0 then (0 : Int32) else 1; first | (rw [if_pos (by assumption)]; rfl) | (rw [if_neg (by assumption)]; rfl))⟩, by rw [ht]; exact hP, va_K.moved hW.alike hK, hD⟩, hS.F ht⟩) hS.2.2 dX3_row_107
        · refine lv_tableIn (tgt := 108) hx hb dX3_row_49 (by decide) (by decide) (off := 59) (by decide) (by decide) ?_
          refine lv_aload_n hx hb dX3_row_108 rfl (lv_at hl 1 rfl) ?_
          refine wR_get (v := .ref (ad 1)) (C := RX3) (T := TX3) (N := 4) (ci := 3) hx hb hts hinX3 hown hK hP 0 (by omega) rfl rfl 0 (by decide) (hts (.fieldLink RX3 10 "ChangeStream" "store" "LChangeStream$Store;") (by decide +kernel)) rfl rfl dX3_row_109 ?_
          refine wR_get (v := .ref (ad 2)) (C := RX2) (T := TX2) (N := 6) (ci := 2) hx hb hts hinX2 hown hK hP 1 (by omega) rfl rfl 0 (by decide) (hts (.fieldLink RX3 169 "ChangeStream$Store" "graphs" "[I") (by decide +kernel)) rfl rfl dX3_row_112 ?_
          refine lv_iload_n hx hb dX3_row_115 rfl (lv_at hl 0 rfl) ?_
          refine wR_ild (f := V 2) (v := (V 2) (fa i)) hx hb hK hP 2 0 (by omega) rfl rfl (nx_in (k := fa i) rfl (by omega) (by decide)) (j := fa i) (nx_cl rfl (by omega)) rfl dX3_row_116 ?_
          refine vx_ret ?_
          refine W.widen (k := 2) (n := 12) (by decide) (by decide) ?_
          exact W.iret (v := (V 2) (fa i)) hx hb hr (fun t ht hW => ⟨⟨(V 2) (fa i), (), rfl, ⟨(by rw [hcd, if_neg (by omega)]), (by rw [if_neg hif]; rfl)⟩, by rw [ht]; exact hP, va_K.moved hW.alike hK, hD⟩, hS.F ht⟩) hS.2.2 dX3_row_117
        · refine lv_tableOut (tgt := 118) hx hb dX3_row_49 (by decide) (by decide) ?_
          refine lv_aload_n hx hb dX3_row_118 rfl (lv_at hl 1 rfl) ?_
          refine wR_get (v := .ref (ad 1)) (C := RX3) (T := TX3) (N := 4) (ci := 3) hx hb hts hinX3 hown hK hP 0 (by omega) rfl rfl 0 (by decide) (hts (.fieldLink RX3 10 "ChangeStream" "store" "LChangeStream$Store;") (by decide +kernel)) rfl rfl dX3_row_119 ?_
          refine wR_get (v := .ref (ad 3)) (C := RX2) (T := TX2) (N := 6) (ci := 2) hx hb hts hinX2 hown hK hP 1 (by omega) rfl rfl 1 (by decide) (hts (.fieldLink RX3 173 "ChangeStream$Store" "properties" "[I") (by decide +kernel)) rfl rfl dX3_row_122 ?_
          refine lv_iload_n hx hb dX3_row_125 rfl (lv_at hl 0 rfl) ?_
          refine wR_ild (f := V 3) (v := (V 3) (fa i)) hx hb hK hP 3 0 (by omega) rfl rfl (nx_in (k := fa i) rfl (by omega) (by decide)) (j := fa i) (nx_cl rfl (by omega)) rfl dX3_row_126 ?_
          refine vx_ret ?_
          refine W.widen (k := 2) (n := 12) (by decide) (by decide) ?_
          exact W.iret (v := (V 3) (fa i)) hx hb hr (fun t ht hW => ⟨⟨(V 3) (fa i), (), rfl, ⟨(by rw [hcd, if_neg (by omega)]), (by rw [if_neg hif]; rfl)⟩, by rw [ht]; exact hP, va_K.moved hW.alike hK, hD⟩, hS.F ht⟩) hS.2.2 dX3_row_127
      · have c_9 : ¬ (fk ≤ i) := fun h9 => c_9 ((nI_leI (a := fk) (b := i) (by omega) (by omega)).mpr h9)
        refine lv_iconst (v := (-1)) hx hb dX3_row_37 (by decide) ?_
        refine vx_ret ?_
        refine W.widen (k := 2) (n := 12) (by decide) (by decide) ?_
        exact W.iret (v := (-1)) hx hb hr (fun t ht hW => ⟨⟨(-1), (), rfl, ⟨(by rw [hcd, if_neg (by omega)]), (by rw [if_pos (by omega)])⟩, by rw [ht]; exact hP, va_K.moved hW.alike hK, hD⟩, hS.F ht⟩) hS.2.2 dX3_row_38

set_option maxHeartbeats 4000000 in
set_option maxRecDepth 100000 in
theorem lp_X3_logChanged {p : Program} (l : Launch) {e : Env} {s : State} {m : MethodId} {args : Array Value} {below : List Frame} {meth : Method} {c : Code} {Q : State → Prop} {A : Nat → Prop} (D : va_G) (cI cZ cR : ClassId) (ad : Nat → Nat) (na n : Nat) (I V : Nat → Nat → Int32) (b : Int32) (k TT rc : Nat) (hx : p.tables.exec = Jvm.exec) (hb : c.code = cX3_logChanged) (hml : c.maxLocals = 3) (hts : ∀ w ∈ wsX3_logChanged, w.before args s = true) (hown : s.vm.findClass RX3 = some m.cls) (hK : va_K D vwCl (sT cI cZ cR) s) (hA : ∀ q : Nat, s.heap.size ≤ q → A q) (hn : 11 ≤ n) (hk : I 1 4 = nI k) (hk1 : k ≤ 100) (hT : I 6 4 = nI TT) (hrc6 : rc + lgN (lgZ V b) k ≤ 600) (hb01 : b = 0 ∨ b = 1)  (kk : ∀ (H : Heap) (locs : List Loc) (ls : Array Slot), va_P D vwCl (sW cI cZ cR ad na n (va_up I 6 (va_up (I 6) 6 (nI (rc + lgN (lgZ V b) k)))) (va_up (va_up (va_up V 7 (lgA (lgZ V b) (fun _ => nI TT) rc (V 7) k)) 8 (lgA (lgZ V b) (fun j => nI j) rc (V 8) k)) 9 (lgA (lgZ V b) (fun _ => b) rc (V 9) k))) H → va_D A (sW cI cZ cR ad na n (va_up I 6 (va_up (I 6) 6 (nI (rc + lgN (lgZ V b) k)))) (va_up (va_up (va_up V 7 (lgA (lgZ V b) (fun _ => nI TT) rc (V 7) k)) 8 (lgA (lgZ V b) (fun j => nI j) rc (V 8) k)) 9 (lgA (lgZ V b) (fun _ => b) rc (V 9) k))) → va_S A s.heap H locs → lv_has ls 3 [(0, .ref (ad 0))] → W p l e ({ frames := 3, cells := 0, slots := 0, locals := 65 } : Room) s m args below meth c H locs 0 0 Q (F0 m 52 ls [])) : ∀ (fuel : Nat) (f : Nat) (H : Heap) (locs : List Loc) (ls : Array Slot), f ≤ k → k - f < fuel → va_P D vwCl (sW cI cZ cR ad na n (va_up I 6 (va_up (I 6) 6 (nI (rc + lgN (lgZ V b) f)))) (va_up (va_up (va_up V 7 (lgA (lgZ V b) (fun _ => nI TT) rc (V 7) f)) 8 (lgA (lgZ V b) (fun j => nI j) rc (V 8) f)) 9 (lgA (lgZ V b) (fun _ => b) rc (V 9) f))) H → va_D A (sW cI cZ cR ad na n (va_up I 6 (va_up (I 6) 6 (nI (rc + lgN (lgZ V b) f)))) (va_up (va_up (va_up V 7 (lgA (lgZ V b) (fun _ => nI TT) rc (V 7) f)) 8 (lgA (lgZ V b) (fun j => nI j) rc (V 8) f)) 9 (lgA (lgZ V b) (fun _ => b) rc (V 9) f))) → va_S A s.heap H locs → lv_has ls 3 [(0, .ref (ad 0)), (1, .int b), (2, .int (nI f))] → W p l e ({ frames := 3, cells := 0, slots := 0, locals := 65 } : Room) s m args below meth c H locs 0 0 Q (F0 m 2 ls []) := by
  intro fuel
  induction fuel with
  | zero =>
    intro f H locs ls hf hfu
    exact absurd hfu (Nat.not_lt_zero _)
  | succ fuel ih =>
    intro f H locs ls hf hfu hP hD hS hl
    have hinX2 : ∀ w ∈ wsX20, w ∈ wsX3_logChanged := by decide +kernel
    have hinX3 : ∀ w ∈ wsX30, w ∈ wsX3_logChanged := by decide +kernel
    refine lv_iload_n hx hb dX3_logChanged_2 rfl (lv_at hl 2 rfl) ?_
    refine lv_aload_n hx hb dX3_logChanged_3 rfl (lv_at hl 0 rfl) ?_
    refine wR_get (v := .ref (ad 1)) (C := RX3) (T := TX3) (N := 4) (ci := 3) hx hb hts hinX3 hown hK hP 0 (by omega) rfl rfl 0 (by decide) (hts (.fieldLink RX3 10 "ChangeStream" "store" "LChangeStream$Store;") (by decide +kernel)) rfl rfl dX3_logChanged_4 ?_
    refine wR_get (v := .int (nI k)) (C := RX2) (T := TX2) (N := 6) (ci := 2) hx hb hts hinX2 hown hK hP 1 (by omega) rfl rfl 4 (by decide) (hts (.fieldLink RX3 41 "ChangeStream$Store" "factCount" "I") (by decide +kernel)) rfl (congrArg (fun z => some (Value.int z)) hk) dX3_logChanged_7 ?_
    refine lv_icmp_ge (tgt := 52) hx hb dX3_logChanged_10 (by decide) (fun c_1 => ?_) (fun c_1 => ?_)
    · have c_1 : k ≤ f := (nI_leI (a := k) (b := f) (by omega) (by omega)).mp c_1
      have hfk : f = k := by omega
      subst hfk
      exact kk  H locs ls  hP hD hS (lv_sub hl [0] rfl)
    · have c_1 : ¬ (k ≤ f) := fun h9 => c_1 ((nI_leI (a := k) (b := f) (by omega) (by omega)).mpr h9)
      refine lv_aload_n hx hb dX3_logChanged_13 rfl (lv_at hl 0 rfl) ?_
      refine wR_get (v := .ref (ad 1)) (C := RX3) (T := TX3) (N := 4) (ci := 3) hx hb hts hinX3 hown hK hP 0 (by omega) rfl rfl 0 (by decide) (hts (.fieldLink RX3 10 "ChangeStream" "store" "LChangeStream$Store;") (by decide +kernel)) rfl rfl dX3_logChanged_14 ?_
      refine lv_iload_n hx hb dX3_logChanged_17 rfl (lv_at hl 2 rfl) ?_
      refine w_calli (w := sW cI cZ cR ad na n (va_up I 6 (va_up (I 6) 6 (nI (rc + lgN (lgZ V b) f)))) (va_up (va_up (va_up V 7 (lgA (lgZ V b) (fun _ => nI TT) rc (V 7) f)) 8 (lgA (lgZ V b) (fun j => nI j) rc (V 8) f)) 9 (lgA (lgZ V b) (fun _ => b) rc (V 9) f))) hS hA hK hD (va_runV (As := [.int (nI f)]) (rest := []) ⟨hx, hb, hml, hown, hts⟩ (c_X2_isChanged l D cI cZ cR ad na n (va_up I 6 (va_up (I 6) 6 (nI (rc + lgN (lgZ V b) f)))) (va_up (va_up (va_up V 7 (lgA (lgZ V b) (fun _ => nI TT) rc (V 7) f)) 8 (lgA (lgZ V b) (fun j => nI j) rc (V 8) f)) 9 (lgA (lgZ V b) (fun _ => b) rc (V 9) f)) H.size (by omega) f (by omega)) (cwV 1 hts gX3_logChanged_X2_isChanged rfl rfl rfl (by decide +kernel) ⟨Nat.le_of_ble_eq_true rfl, Nat.le_of_ble_eq_true rfl⟩) ⟨(w_pre hP hK hD wEnv_true).1, wR_recv (C := RX2) (T := TX2) (N := 6) hK hP (ci := 2) rfl 1 (by omega) rfl, (w_pre hP hK hD wEnv_true).2⟩ rfl rfl hl.1 rfl (lv_room (Nat.le_of_ble_eq_true rfl)) dX3_logChanged_18 ⟨Nat.le_of_ble_eq_true rfl, Nat.le_of_ble_eq_true rfl⟩) (fun r_2 u H locs hw hP hD hS hz => ?_)
      refine lv_if_eq (tgt := 46) hx hb dX3_logChanged_21 (by decide) (fun c_3 => ?_) (fun c_3 => ?_)
      · have hz1 : V 4 f = V 5 f := Decidable.byContradiction (fun h9 => absurd (c_3.symm.trans (hw.trans (if_neg h9))) (by decide))
        refine lv_iinc (v := nI (f + 1)) (lv' := [(2, .int (nI (f + 1))), (0, .ref (ad 0)), (1, .int b)]) hx hb dX3_logChanged_46 hl (k := 2) rfl (nI_add _ 1) (by decide) rfl (fun ls hl => ?_)
        refine lv_goto (tgt := 2) hx hb dX3_logChanged_49 (by decide) ?_
        have hz9 : lgZ V b f = false := lgZ_f (Or.inl hz1)
        have hP : va_P D vwCl (sW cI cZ cR ad na n (va_up I 6 (va_up (I 6) 6 (nI (rc + lgN (lgZ V b) (f + 1))))) (va_up (va_up (va_up V 7 (lgA (lgZ V b) (fun _ => nI TT) rc (V 7) (f + 1))) 8 (lgA (lgZ V b) (fun j => nI j) rc (V 8) (f + 1))) 9 (lgA (lgZ V b) (fun _ => b) rc (V 9) (f + 1)))) H := by rw [lgN_f hz9, lgA_f hz9, lgA_f hz9, lgA_f hz9]; exact hP
        have hD : va_D A (sW cI cZ cR ad na n (va_up I 6 (va_up (I 6) 6 (nI (rc + lgN (lgZ V b) (f + 1))))) (va_up (va_up (va_up V 7 (lgA (lgZ V b) (fun _ => nI TT) rc (V 7) (f + 1))) 8 (lgA (lgZ V b) (fun j => nI j) rc (V 8) (f + 1))) 9 (lgA (lgZ V b) (fun _ => b) rc (V 9) (f + 1)))) := by rw [lgN_f hz9, lgA_f hz9, lgA_f hz9, lgA_f hz9]; exact hD
        exact ih (f + 1) H locs ls (by omega) (by omega) hP hD hS (lv_sub hl [1, 2, 0] rfl)
      · have hz1 : ¬ V 4 f = V 5 f := fun h9 => c_3 (hw.trans (if_pos h9))
        refine lv_aload_n hx hb dX3_logChanged_24 rfl (lv_at hl 0 rfl) ?_
        refine wR_get (v := .ref (ad 1)) (C := RX3) (T := TX3) (N := 4) (ci := 3) hx hb hts hinX3 hown hK hP 0 (by omega) rfl rfl 0 (by decide) (hts (.fieldLink RX3 10 "ChangeStream" "store" "LChangeStream$Store;") (by decide +kernel)) rfl rfl dX3_logChanged_25 ?_
        refine wR_get (v := .ref (ad 5)) (C := RX2) (T := TX2) (N := 6) (ci := 2) hx hb hts hinX2 hown hK hP 1 (by omega) rfl rfl 3 (by decide) (hts (.fieldLink RX3 195 "ChangeStream$Store" "behind" "[Z") (by decide +kernel)) rfl rfl dX3_logChanged_28 ?_
        refine lv_iload_n hx hb dX3_logChanged_31 rfl (lv_at hl 2 rfl) ?_
        refine wR_zld (f := V 5) (v := (V 5) f) hx hb hK hP 5 1 (by omega) rfl rfl (nx_in (k := f) rfl (by omega) (by decide)) (j := f) (nx_cl rfl (by omega)) rfl dX3_logChanged_32 ?_
        refine lv_iload_n hx hb dX3_logChanged_33 rfl (lv_at hl 1 rfl) ?_
        refine lv_icmp_ne (tgt := 46) hx hb dX3_logChanged_34 (by decide) (fun c_4 => ?_) (fun c_4 => ?_)
        · have hzb : ¬ V 5 f = b := c_4
          refine lv_iinc (v := nI (f + 1)) (lv' := [(2, .int (nI (f + 1))), (0, .ref (ad 0)), (1, .int b)]) hx hb dX3_logChanged_46 hl (k := 2) rfl (nI_add _ 1) (by decide) rfl (fun ls hl => ?_)
          refine lv_goto (tgt := 2) hx hb dX3_logChanged_49 (by decide) ?_
          have hz9 : lgZ V b f = false := lgZ_f (Or.inr hzb)
          have hP : va_P D vwCl (sW cI cZ cR ad na n (va_up I 6 (va_up (I 6) 6 (nI (rc + lgN (lgZ V b) (f + 1))))) (va_up (va_up (va_up V 7 (lgA (lgZ V b) (fun _ => nI TT) rc (V 7) (f + 1))) 8 (lgA (lgZ V b) (fun j => nI j) rc (V 8) (f + 1))) 9 (lgA (lgZ V b) (fun _ => b) rc (V 9) (f + 1)))) H := by rw [lgN_f hz9, lgA_f hz9, lgA_f hz9, lgA_f hz9]; exact hP
          have hD : va_D A (sW cI cZ cR ad na n (va_up I 6 (va_up (I 6) 6 (nI (rc + lgN (lgZ V b) (f + 1))))) (va_up (va_up (va_up V 7 (lgA (lgZ V b) (fun _ => nI TT) rc (V 7) (f + 1))) 8 (lgA (lgZ V b) (fun j => nI j) rc (V 8) (f + 1))) 9 (lgA (lgZ V b) (fun _ => b) rc (V 9) (f + 1)))) := by rw [lgN_f hz9, lgA_f hz9, lgA_f hz9, lgA_f hz9]; exact hD
          exact ih (f + 1) H locs ls (by omega) (by omega) hP hD hS (lv_sub hl [1, 2, 0] rfl)
        · have hzb : V 5 f = b := c_4
          refine lv_aload_n hx hb dX3_logChanged_37 rfl (lv_at hl 0 rfl) ?_
          refine wR_get (v := .ref (ad 6)) (C := RX3) (T := TX3) (N := 4) (ci := 3) hx hb hts hinX3 hown hK hP 0 (by omega) rfl rfl 1 (by decide) (hts (.fieldLink RX3 19 "ChangeStream" "log" "LChangeStream$Log;") (by decide +kernel)) rfl rfl dX3_logChanged_38 ?_
          refine lv_iload_n hx hb dX3_logChanged_41 rfl (lv_at hl 2 rfl) ?_
          refine lv_iload_n hx hb dX3_logChanged_42 rfl (lv_at hl 1 rfl) ?_
          refine w_callv (w := sW cI cZ cR ad na n (va_up I 6 (va_up (I 6) 6 (nI (rc + lgN (lgZ V b) f)))) (va_up (va_up (va_up V 7 (lgA (lgZ V b) (fun _ => nI TT) rc (V 7) f)) 8 (lgA (lgZ V b) (fun j => nI j) rc (V 8) f)) 9 (lgA (lgZ V b) (fun _ => b) rc (V 9) f))) hS hA hK hD (va_runV (As := [.int (nI f), .int b]) (rest := []) ⟨hx, hb, hml, hown, hts⟩ (c_X0_addRow l D cI cZ cR ad na n (va_up I 6 (va_up (I 6) 6 (nI (rc + lgN (lgZ V b) f)))) (va_up (va_up (va_up V 7 (lgA (lgZ V b) (fun _ => nI TT) rc (V 7) f)) 8 (lgA (lgZ V b) (fun j => nI j) rc (V 8) f)) 9 (lgA (lgZ V b) (fun _ => b) rc (V 9) f)) H.size (by omega) TT (rc + lgN (lgZ V b) f) hT rfl (by have := lgN_lt (Z := (lgZ V b)) (f := f) (k := k) (lgZ_t hz1 hzb) (by omega); omega) f b hb01) (cwV 2 hts gX3_logChanged_X0_addRow rfl rfl rfl (by decide +kernel) ⟨Nat.le_of_ble_eq_true rfl, Nat.le_of_ble_eq_true rfl⟩) ⟨(w_pre hP hK hD wEnv_true).1, wR_recv (C := RX0) (T := TX0) (N := 8) hK hP (ci := 0) rfl 6 (by omega) rfl, (w_pre hP hK hD wEnv_true).2⟩ rfl rfl hl.1 rfl (lv_room (Nat.le_of_ble_eq_true rfl)) dX3_logChanged_43 ⟨Nat.le_of_ble_eq_true rfl, Nat.le_of_ble_eq_true rfl⟩) (fun  u H locs hw hP hD hS hz => ?_)
          refine lv_iinc (v := nI (f + 1)) (lv' := [(2, .int (nI (f + 1))), (0, .ref (ad 0)), (1, .int b)]) hx hb dX3_logChanged_46 hl (k := 2) rfl (nI_add _ 1) (by decide) rfl (fun ls hl => ?_)
          refine lv_goto (tgt := 2) hx hb dX3_logChanged_49 (by decide) ?_
          have hz9 : lgZ V b f = true := lgZ_t hz1 hzb
          rw [bx_uu, up3, va_up_self, bx_uu] at hP hD
          have hP : va_P D vwCl (sW cI cZ cR ad na n (va_up I 6 (va_up (I 6) 6 (nI (rc + lgN (lgZ V b) (f + 1))))) (va_up (va_up (va_up V 7 (lgA (lgZ V b) (fun _ => nI TT) rc (V 7) (f + 1))) 8 (lgA (lgZ V b) (fun j => nI j) rc (V 8) (f + 1))) 9 (lgA (lgZ V b) (fun _ => b) rc (V 9) (f + 1)))) H := by rw [lgN_t hz9, lgA_t hz9, lgA_t hz9, lgA_t hz9]; rw [← Nat.add_assoc]; exact hP
          have hD : va_D A (sW cI cZ cR ad na n (va_up I 6 (va_up (I 6) 6 (nI (rc + lgN (lgZ V b) (f + 1))))) (va_up (va_up (va_up V 7 (lgA (lgZ V b) (fun _ => nI TT) rc (V 7) (f + 1))) 8 (lgA (lgZ V b) (fun j => nI j) rc (V 8) (f + 1))) 9 (lgA (lgZ V b) (fun _ => b) rc (V 9) (f + 1)))) := by rw [lgN_t hz9, lgA_t hz9, lgA_t hz9, lgA_t hz9]; rw [← Nat.add_assoc]; exact hD
          exact ih (f + 1) H locs ls (by omega) (by omega) hP hD hS (lv_sub hl [1, 2, 0] rfl)

set_option maxHeartbeats 4000000 in
set_option maxRecDepth 100000 in
/-- logChanged(b) -/
theorem c_X3_logChanged (l : Launch) (D : va_G) (cI cZ cR : ClassId) (ad : Nat → Nat) (na n : Nat) (I V : Nat → Nat → Int32) (sz : Nat) (hn : 11 ≤ n) (k TT rc : Nat) (hk : I 1 4 = nI k) (hk1 : k ≤ 100) (hT : I 6 4 = nI TT) (hrc : I 6 6 = nI rc) (b : Int32) (hrc6 : rc + lgN (lgZ V b) k ≤ 600) (hb01 : b = 0 ∨ b = 1) : Met l yX3_logChanged wsX3_logChanged ({ frames := 3, cells := 0, slots := 0, locals := 65 } : Room) (va_Pc [.ref (ad 0), .int b] (wPre D vwCl (sT cI cZ cR) (sW cI cZ cR ad na n I V) sz wTrue)) (va_Qv (fun (u : Unit) => True) (wPost D vwCl (sT cI cZ cR) (fun (u : Unit) => sW cI cZ cR ad na n (va_up I 6 (va_up (I 6) 6 (nI (rc + lgN (lgZ V b) k)))) (va_up (va_up (va_up V 7 (lgA (lgZ V b) (fun _ => nI TT) rc (V 7) k)) 8 (lgA (lgZ V b) (fun j => nI j) rc (V 8) k)) 9 (lgA (lgZ V b) (fun _ => b) rc (V 9) k))) (va_A (sW cI cZ cR ad na n I V) sz)) (va_A (sW cI cZ cR ad na n I V) sz)) 0 0 (va_A (sW cI cZ cR ad na n I V) sz) := by
  refine Met.ofW (cc := cX3_logChanged) (maxL := 3) (ret := none) (by decide) rfl ?_
  intro p e s m args below meth c s₁ B hml hv
  obtain ⟨rfl, hsz, hP, hK, hD0, hE⟩ := hv
  have hx := B.exec
  have hb := B.bytes
  have hr := B.returns
  have hts := atoms_spec (ws := wsX3_logChanged) B.pre
  have hown : s.vm.findClass RX3 = some m.cls := findClass_of_methodNamed B.named
  have hlocks := B.notSynchronized
  subst hsz
  have hD := hD0.self (sz := s.heap.size)
  generalize hAe : va_A (sW cI cZ cR ad na n I V) s.heap.size = A at hD ⊢
  have hA : ∀ q : Nat, s.heap.size ≤ q → A q := fun q h => by rw [← hAe]; exact Or.inr h
  have hS : va_S A s.heap s.heap [] := va_S.rf
  have hl := lv_entry ([.ref (ad 0), .int b]) (n := 3) (Nat.le_of_ble_eq_true rfl)
  rw [lg_entry_eq]
  generalize (lg_sl ([.ref (ad 0), .int b]) ++ List.replicate (3 - (lg_sl ([.ref (ad 0), .int b])).length) Slot.unset).toArray = ls at hl ⊢
  have hl : lv_has ls 3 [(0, .ref (ad 0)), (1, .int b)] := hl
  refine lv_iconst (v := nI 0) hx hb dX3_logChanged_0 (by decide) ?_
  refine lv_istore_n (lv' := [(2, .int (nI 0)), (0, .ref (ad 0)), (1, .int b)]) hx hb dX3_logChanged_1 rfl hl (by decide) rfl (fun ls hl => ?_)
  have hZ1 : I = va_up I 6 (va_up (I 6) 6 (nI (rc + 0))) := by rw [Nat.add_zero, ← hrc, wR_same, wR_same]
  have hZ2 : V = va_up (va_up (va_up V 7 (V 7)) 8 (V 8)) 9 (V 9) := by rw [wR_same, wR_same, wR_same]
  have hP : va_P D vwCl (sW cI cZ cR ad na n (va_up I 6 (va_up (I 6) 6 (nI (rc + 0)))) (va_up (va_up (va_up V 7 (V 7)) 8 (V 8)) 9 (V 9))) s.heap := by rw [← hZ1, ← hZ2]; exact hP
  have hD : va_D A (sW cI cZ cR ad na n (va_up I 6 (va_up (I 6) 6 (nI (rc + 0)))) (va_up (va_up (va_up V 7 (V 7)) 8 (V 8)) 9 (V 9))) := by rw [← hZ1, ← hZ2]; exact hD
  refine lp_X3_logChanged l D cI cZ cR ad na n I V b k TT rc hx hb hml hts hown hK hA hn hk hk1 hT hrc6 hb01 (fun  H locs ls  hP hD hS hl => ?_) (k + 1) 0 s.heap [] ls (by omega) (by omega) hP hD hS (lv_sub hl [1, 2, 0] rfl)
  exact W.vret hx hb hr (fun t ht hW => ⟨⟨(), rfl, trivial, by rw [ht]; exact hP, va_K.moved hW.alike hK, hD⟩, hS.F ht⟩) hS.2.2 dX3_logChanged_52

set_option maxHeartbeats 4000000 in
set_option maxRecDepth 100000 in
/-- commit() -/
theorem c_X3_commit (l : Launch) (D : va_G) (cI cZ cR : ClassId) (ad : Nat → Nat) (na n : Nat) (I V : Nat → Nat → Int32) (sz : Nat) (hn : n = 11 + 6 * na) (hna : I 0 3 = nI na) (hna6 : na ≤ 6) (k : Nat) (hk : I 1 4 = nI k) (hk1 : k ≤ 100) (kp TT lst rc fk : Nat) (hkp : I 6 3 = nI kp) (hT : I 6 4 = nI TT) (hls : I 6 5 = nI lst) (hrc : I 6 6 = nI rc) (hfk : I 6 7 = nI fk) (hle : fk ≤ rc) (hr6 : rc ≤ 600) (hkp1 : kp ≤ 30) (hT1 : TT < 100000) (hls0 : 0 < lst) (hls1 : lst ≤ 100000) (hrc6 : rc + lgN (lgZ V (nI 0)) k + lgN (lgZ V (nI 1)) k ≤ 600) (h015 : ∀ j, V 5 j = 0 ∨ V 5 j = 1) : Met l yX3_commit wsX3_commit ({ frames := 6, cells := 0, slots := 0, locals := 125 } : Room) (va_Pc [.ref (ad 0)] (wPre D vwCl (sT cI cZ cR) (sW cI cZ cR ad na n I V) sz wTrue)) (va_Qi (fun (r : Int32) (u : Unit) => r = nI (TT + 1)) (wPost D vwCl (sT cI cZ cR) (fun (u : Unit) => sW cI cZ cR ad na n (va_up (va_up I 6 (va_up (va_up (va_up (va_up (I 6) 4 (nI (TT + 1))) 5 (nI (max lst (TT + 1 + 1 - kp)))) 7 (nI (fRow (V 7) (nI (max lst (TT + 1 + 1 - kp))) (rc - fk) fk))) 6 (nI (rc + lgN (lgZ V (nI 0)) k + lgN (lgZ V (nI 1)) k)))) 1 (va_up (I 1) 5 (nI 0))) (va_up (va_up (va_up (va_up V 7 (lgA (lgZ V (nI 1)) (fun _ => nI (TT + 1)) (rc + lgN (lgZ V (nI 0)) k) (lgA (lgZ V (nI 0)) (fun _ => nI (TT + 1)) rc (V 7) k) k)) 8 (lgA (lgZ V (nI 1)) (fun j => nI j) (rc + lgN (lgZ V (nI 0)) k) (lgA (lgZ V (nI 0)) (fun j => nI j) rc (V 8) k) k)) 9 (lgA (lgZ V (nI 1)) (fun _ => nI 1) (rc + lgN (lgZ V (nI 0)) k) (lgA (lgZ V (nI 0)) (fun _ => nI 0) rc (V 9) k) k)) 4 (cpTo (V 4) (V 5) k))) (va_A (sW cI cZ cR ad na n I V) sz)) (va_A (sW cI cZ cR ad na n I V) sz)) 0 0 (va_A (sW cI cZ cR ad na n I V) sz) := by
  refine Met.ofW (cc := cX3_commit) (maxL := 1) (ret := (some .int)) (by decide) rfl ?_
  intro p e s m args below meth c s₁ B hml hv
  obtain ⟨rfl, hsz, hP, hK, hD0, hE⟩ := hv
  have hx := B.exec
  have hb := B.bytes
  have hr := B.returns
  have hts := atoms_spec (ws := wsX3_commit) B.pre
  have hown : s.vm.findClass RX3 = some m.cls := findClass_of_methodNamed B.named
  have hlocks := B.notSynchronized
  subst hsz
  have hD := hD0.self (sz := s.heap.size)
  generalize hAe : va_A (sW cI cZ cR ad na n I V) s.heap.size = A at hD ⊢
  have hA : ∀ q : Nat, s.heap.size ≤ q → A q := fun q h => by rw [← hAe]; exact Or.inr h
  have hS : va_S A s.heap s.heap [] := va_S.rf
  have hinX0 : ∀ w ∈ wsX00, w ∈ wsX3_commit := by decide +kernel
  have hinX3 : ∀ w ∈ wsX30, w ∈ wsX3_commit := by decide +kernel
  have hl := lv_entry ([.ref (ad 0)]) (n := 1) (Nat.le_of_ble_eq_true rfl)
  rw [lg_entry_eq]
  generalize (lg_sl ([.ref (ad 0)]) ++ List.replicate (1 - (lg_sl ([.ref (ad 0)])).length) Slot.unset).toArray = ls at hl ⊢
  have hl : lv_has ls 1 [(0, .ref (ad 0))] := hl
  refine lv_aload_n hx hb dX3_commit_0 rfl (lv_at hl 0 rfl) ?_
  refine wR_get (v := .ref (ad 6)) (C := RX3) (T := TX3) (N := 4) (ci := 3) hx hb hts hinX3 hown hK hP 0 (by omega) rfl rfl 1 (by decide) (hts (.fieldLink RX3 19 "ChangeStream" "log" "LChangeStream$Log;") (by decide +kernel)) rfl rfl dX3_commit_1 ?_
  refine w_callv (w := sW cI cZ cR ad na n I V) hS hA hK hD (va_runV (As := []) (rest := []) ⟨hx, hb, hml, hown, hts⟩ (c_X0_beginTransaction l D cI cZ cR ad na n I V s.heap.size (by omega) kp TT lst rc fk hkp hT hls hrc hfk hle hr6 hkp1 hT1 hls0 hls1) (cwV 0 hts gX3_commit_X0_beginTransaction rfl rfl rfl (by decide +kernel) ⟨Nat.le_of_ble_eq_true rfl, Nat.le_of_ble_eq_true rfl⟩) ⟨(w_pre hP hK hD wEnv_true).1, wR_recv (C := RX0) (T := TX0) (N := 8) hK hP (ci := 0) rfl 6 (by omega) rfl, (w_pre hP hK hD wEnv_true).2⟩ rfl rfl hl.1 rfl (lv_room (Nat.le_of_ble_eq_true rfl)) dX3_commit_4 ⟨Nat.le_of_ble_eq_true rfl, Nat.le_of_ble_eq_true rfl⟩) (fun  u H locs hw hP hD hS hz => ?_)
  refine lv_aload_n hx hb dX3_commit_7 rfl (lv_at hl 0 rfl) ?_
  refine lv_iconst (v := nI 0) hx hb dX3_commit_8 (by decide) ?_
  refine w_callv (w := sW cI cZ cR ad na n (va_up I 6 (va_up (va_up (va_up (I 6) 4 (nI (TT + 1))) 5 (nI (max lst (TT + 1 + 1 - kp)))) 7 (nI (fRow (V 7) (nI (max lst (TT + 1 + 1 - kp))) (rc - fk) fk)))) V) hS hA hK hD (va_runV (As := [.int (nI 0)]) (rest := []) ⟨hx, hb, hml, hown, hts⟩ (c_X3_logChanged l D cI cZ cR ad na n (va_up I 6 (va_up (va_up (va_up (I 6) 4 (nI (TT + 1))) 5 (nI (max lst (TT + 1 + 1 - kp)))) 7 (nI (fRow (V 7) (nI (max lst (TT + 1 + 1 - kp))) (rc - fk) fk)))) V H.size (by omega) k (TT + 1) rc hk hk1 rfl hrc (nI 0) (by omega) (Or.inl rfl)) (cwV 1 hts gX3_commit_X3_logChanged rfl rfl rfl (by decide +kernel) ⟨Nat.le_of_ble_eq_true rfl, Nat.le_of_ble_eq_true rfl⟩) ⟨(w_pre hP hK hD wEnv_true).1, wR_recv (C := RX3) (T := TX3) (N := 4) hK hP (ci := 3) rfl 0 (by omega) rfl, (w_pre hP hK hD wEnv_true).2⟩ rfl rfl hl.1 rfl (lv_room (Nat.le_of_ble_eq_true rfl)) dX3_commit_9 ⟨Nat.le_of_ble_eq_true rfl, Nat.le_of_ble_eq_true rfl⟩) (fun  u H locs hw hP hD hS hz => ?_)
  rw [bx_uu] at hP hD
  refine lv_aload_n hx hb dX3_commit_12 rfl (lv_at hl 0 rfl) ?_
  refine lv_iconst (v := nI 1) hx hb dX3_commit_13 (by decide) ?_
  refine w_callv (w := sW cI cZ cR ad na n (va_up I 6 (va_up (va_up (va_up (va_up (I 6) 4 (nI (TT + 1))) 5 (nI (max lst (TT + 1 + 1 - kp)))) 7 (nI (fRow (V 7) (nI (max lst (TT + 1 + 1 - kp))) (rc - fk) fk))) 6 (nI (rc + lgN (lgZ V (nI 0)) k)))) (va_up (va_up (va_up V 7 (lgA (lgZ V (nI 0)) (fun _ => nI (TT + 1)) rc (V 7) k)) 8 (lgA (lgZ V (nI 0)) (fun j => nI j) rc (V 8) k)) 9 (lgA (lgZ V (nI 0)) (fun _ => nI 0) rc (V 9) k))) hS hA hK hD (va_runV (As := [.int (nI 1)]) (rest := []) ⟨hx, hb, hml, hown, hts⟩ (c_X3_logChanged l D cI cZ cR ad na n (va_up I 6 (va_up (va_up (va_up (va_up (I 6) 4 (nI (TT + 1))) 5 (nI (max lst (TT + 1 + 1 - kp)))) 7 (nI (fRow (V 7) (nI (max lst (TT + 1 + 1 - kp))) (rc - fk) fk))) 6 (nI (rc + lgN (lgZ V (nI 0)) k)))) (va_up (va_up (va_up V 7 (lgA (lgZ V (nI 0)) (fun _ => nI (TT + 1)) rc (V 7) k)) 8 (lgA (lgZ V (nI 0)) (fun j => nI j) rc (V 8) k)) 9 (lgA (lgZ V (nI 0)) (fun _ => nI 0) rc (V 9) k)) H.size (by omega) k (TT + 1) (rc + lgN (lgZ V (nI 0)) k) hk hk1 rfl rfl (nI 1) (show rc + lgN (lgZ V (nI 0)) k + lgN (lgZ V (nI 1)) k ≤ 600 by omega) (Or.inr rfl)) (cwV 1 hts gX3_commit_X3_logChanged rfl rfl rfl (by decide +kernel) ⟨Nat.le_of_ble_eq_true rfl, Nat.le_of_ble_eq_true rfl⟩) ⟨(w_pre hP hK hD wEnv_true).1, wR_recv (C := RX3) (T := TX3) (N := 4) hK hP (ci := 3) rfl 0 (by omega) rfl, (w_pre hP hK hD wEnv_true).2⟩ rfl rfl hl.1 rfl (lv_room (Nat.le_of_ble_eq_true rfl)) dX3_commit_14 ⟨Nat.le_of_ble_eq_true rfl, Nat.le_of_ble_eq_true rfl⟩) (fun  u H locs hw hP hD hS hz => ?_)
  have hI9 : va_up ((va_up I 6 (va_up (va_up (va_up (va_up (I 6) 4 (nI (TT + 1))) 5 (nI (max lst (TT + 1 + 1 - kp)))) 7 (nI (fRow (V 7) (nI (max lst (TT + 1 + 1 - kp))) (rc - fk) fk))) 6 (nI (rc + lgN (lgZ V (nI 0)) k)))) 6) 6 (nI (rc + lgN (lgZ V (nI 0)) k + lgN (lgZ V (nI 1)) k)) = va_up (va_up (va_up (va_up (I 6) 4 (nI (TT + 1))) 5 (nI (max lst (TT + 1 + 1 - kp)))) 7 (nI (fRow (V 7) (nI (max lst (TT + 1 + 1 - kp))) (rc - fk) fk))) 6 (nI (rc + lgN (lgZ V (nI 0)) k + lgN (lgZ V (nI 1)) k)) := by rw [va_up_self, bx_uu]
  rw [bx_uu, up3] at hP hD
  have hP9 := hP
  have hD9 := hD
  have hP : va_P D vwCl (sW cI cZ cR ad na n (va_up I 6 (va_up ((va_up I 6 (va_up (va_up (va_up (va_up (I 6) 4 (nI (TT + 1))) 5 (nI (max lst (TT + 1 + 1 - kp)))) 7 (nI (fRow (V 7) (nI (max lst (TT + 1 + 1 - kp))) (rc - fk) fk))) 6 (nI (rc + lgN (lgZ V (nI 0)) k)))) 6) 6 (nI (rc + lgN (lgZ V (nI 0)) k + lgN (lgZ V (nI 1)) k)))) (va_up (va_up (va_up V 7 (lgA (lgZ V (nI 1)) (fun _ => nI (TT + 1)) (rc + lgN (lgZ V (nI 0)) k) (lgA (lgZ V (nI 0)) (fun _ => nI (TT + 1)) rc (V 7) k) k)) 8 (lgA (lgZ V (nI 1)) (fun j => nI j) (rc + lgN (lgZ V (nI 0)) k) (lgA (lgZ V (nI 0)) (fun j => nI j) rc (V 8) k) k)) 9 (lgA (lgZ V (nI 1)) (fun _ => nI 1) (rc + lgN (lgZ V (nI 0)) k) (lgA (lgZ V (nI 0)) (fun _ => nI 0) rc (V 9) k) k))) H := hP9
  have hD : va_D A (sW cI cZ cR ad na n (va_up I 6 (va_up ((va_up I 6 (va_up (va_up (va_up (va_up (I 6) 4 (nI (TT + 1))) 5 (nI (max lst (TT + 1 + 1 - kp)))) 7 (nI (fRow (V 7) (nI (max lst (TT + 1 + 1 - kp))) (rc - fk) fk))) 6 (nI (rc + lgN (lgZ V (nI 0)) k)))) 6) 6 (nI (rc + lgN (lgZ V (nI 0)) k + lgN (lgZ V (nI 1)) k)))) (va_up (va_up (va_up V 7 (lgA (lgZ V (nI 1)) (fun _ => nI (TT + 1)) (rc + lgN (lgZ V (nI 0)) k) (lgA (lgZ V (nI 0)) (fun _ => nI (TT + 1)) rc (V 7) k) k)) 8 (lgA (lgZ V (nI 1)) (fun j => nI j) (rc + lgN (lgZ V (nI 0)) k) (lgA (lgZ V (nI 0)) (fun j => nI j) rc (V 8) k) k)) 9 (lgA (lgZ V (nI 1)) (fun _ => nI 1) (rc + lgN (lgZ V (nI 0)) k) (lgA (lgZ V (nI 0)) (fun _ => nI 0) rc (V 9) k) k))) := hD9
  rw [hI9] at hP hD
  have hP : va_P D vwCl (sW cI cZ cR ad na n (va_up I 6 (va_up (va_up (va_up (va_up (I 6) 4 (nI (TT + 1))) 5 (nI (max lst (TT + 1 + 1 - kp)))) 7 (nI (fRow (V 7) (nI (max lst (TT + 1 + 1 - kp))) (rc - fk) fk))) 6 (nI (rc + lgN (lgZ V (nI 0)) k + lgN (lgZ V (nI 1)) k)))) (va_up (va_up (va_up V 7 (lgA (lgZ V (nI 1)) (fun _ => nI (TT + 1)) (rc + lgN (lgZ V (nI 0)) k) (lgA (lgZ V (nI 0)) (fun _ => nI (TT + 1)) rc (V 7) k) k)) 8 (lgA (lgZ V (nI 1)) (fun j => nI j) (rc + lgN (lgZ V (nI 0)) k) (lgA (lgZ V (nI 0)) (fun j => nI j) rc (V 8) k) k)) 9 (lgA (lgZ V (nI 1)) (fun _ => nI 1) (rc + lgN (lgZ V (nI 0)) k) (lgA (lgZ V (nI 0)) (fun _ => nI 0) rc (V 9) k) k))) H := hP
  have hD : va_D A (sW cI cZ cR ad na n (va_up I 6 (va_up (va_up (va_up (va_up (I 6) 4 (nI (TT + 1))) 5 (nI (max lst (TT + 1 + 1 - kp)))) 7 (nI (fRow (V 7) (nI (max lst (TT + 1 + 1 - kp))) (rc - fk) fk))) 6 (nI (rc + lgN (lgZ V (nI 0)) k + lgN (lgZ V (nI 1)) k)))) (va_up (va_up (va_up V 7 (lgA (lgZ V (nI 1)) (fun _ => nI (TT + 1)) (rc + lgN (lgZ V (nI 0)) k) (lgA (lgZ V (nI 0)) (fun _ => nI (TT + 1)) rc (V 7) k) k)) 8 (lgA (lgZ V (nI 1)) (fun j => nI j) (rc + lgN (lgZ V (nI 0)) k) (lgA (lgZ V (nI 0)) (fun j => nI j) rc (V 8) k) k)) 9 (lgA (lgZ V (nI 1)) (fun _ => nI 1) (rc + lgN (lgZ V (nI 0)) k) (lgA (lgZ V (nI 0)) (fun _ => nI 0) rc (V 9) k) k))) := hD
  refine lv_aload_n hx hb dX3_commit_17 rfl (lv_at hl 0 rfl) ?_
  refine wR_get (v := .ref (ad 1)) (C := RX3) (T := TX3) (N := 4) (ci := 3) hx hb hts hinX3 hown hK hP 0 (by omega) rfl rfl 0 (by decide) (hts (.fieldLink RX3 10 "ChangeStream" "store" "LChangeStream$Store;") (by decide +kernel)) rfl rfl dX3_commit_18 ?_
  refine w_callv (w := sW cI cZ cR ad na n (va_up I 6 (va_up (va_up (va_up (va_up (I 6) 4 (nI (TT + 1))) 5 (nI (max lst (TT + 1 + 1 - kp)))) 7 (nI (fRow (V 7) (nI (max lst (TT + 1 + 1 - kp))) (rc - fk) fk))) 6 (nI (rc + lgN (lgZ V (nI 0)) k + lgN (lgZ V (nI 1)) k)))) (va_up (va_up (va_up V 7 (lgA (lgZ V (nI 1)) (fun _ => nI (TT + 1)) (rc + lgN (lgZ V (nI 0)) k) (lgA (lgZ V (nI 0)) (fun _ => nI (TT + 1)) rc (V 7) k) k)) 8 (lgA (lgZ V (nI 1)) (fun j => nI j) (rc + lgN (lgZ V (nI 0)) k) (lgA (lgZ V (nI 0)) (fun j => nI j) rc (V 8) k) k)) 9 (lgA (lgZ V (nI 1)) (fun _ => nI 1) (rc + lgN (lgZ V (nI 0)) k) (lgA (lgZ V (nI 0)) (fun _ => nI 0) rc (V 9) k) k))) hS hA hK hD (va_runV (As := []) (rest := []) ⟨hx, hb, hml, hown, hts⟩ (c_X2_acceptChanges l D cI cZ cR ad na n (va_up I 6 (va_up (va_up (va_up (va_up (I 6) 4 (nI (TT + 1))) 5 (nI (max lst (TT + 1 + 1 - kp)))) 7 (nI (fRow (V 7) (nI (max lst (TT + 1 + 1 - kp))) (rc - fk) fk))) 6 (nI (rc + lgN (lgZ V (nI 0)) k + lgN (lgZ V (nI 1)) k)))) (va_up (va_up (va_up V 7 (lgA (lgZ V (nI 1)) (fun _ => nI (TT + 1)) (rc + lgN (lgZ V (nI 0)) k) (lgA (lgZ V (nI 0)) (fun _ => nI (TT + 1)) rc (V 7) k) k)) 8 (lgA (lgZ V (nI 1)) (fun j => nI j) (rc + lgN (lgZ V (nI 0)) k) (lgA (lgZ V (nI 0)) (fun j => nI j) rc (V 8) k) k)) 9 (lgA (lgZ V (nI 1)) (fun _ => nI 1) (rc + lgN (lgZ V (nI 0)) k) (lgA (lgZ V (nI 0)) (fun _ => nI 0) rc (V 9) k) k)) H.size (by omega) k hk hk1 h015) (cwV 0 hts gX3_commit_X2_acceptChanges rfl rfl rfl (by decide +kernel) ⟨Nat.le_of_ble_eq_true rfl, Nat.le_of_ble_eq_true rfl⟩) ⟨(w_pre hP hK hD wEnv_true).1, wR_recv (C := RX2) (T := TX2) (N := 6) hK hP (ci := 2) rfl 1 (by omega) rfl, (w_pre hP hK hD wEnv_true).2⟩ rfl rfl hl.1 rfl (lv_room (Nat.le_of_ble_eq_true rfl)) dX3_commit_21 ⟨Nat.le_of_ble_eq_true rfl, Nat.le_of_ble_eq_true rfl⟩) (fun  u H locs hw hP hD hS hz => ?_)
  refine lv_aload_n hx hb dX3_commit_24 rfl (lv_at hl 0 rfl) ?_
  refine wR_get (v := .ref (ad 6)) (C := RX3) (T := TX3) (N := 4) (ci := 3) hx hb hts hinX3 hown hK hP 0 (by omega) rfl rfl 1 (by decide) (hts (.fieldLink RX3 19 "ChangeStream" "log" "LChangeStream$Log;") (by decide +kernel)) rfl rfl dX3_commit_25 ?_
  refine wR_get (v := .int (nI (TT + 1))) (C := RX0) (T := TX0) (N := 8) (ci := 0) hx hb hts hinX0 hown hK hP 6 (by omega) rfl rfl 4 (by decide) (hts (.fieldLink RX3 77 "ChangeStream$Log" "transactions" "I") (by decide +kernel)) rfl rfl dX3_commit_28 ?_
  exact W.iret (v := nI (TT + 1)) hx hb hr (fun t ht hW => ⟨⟨nI (TT + 1), (), rfl, rfl, by rw [ht]; exact hP, va_K.moved hW.alike hK, hD⟩, hS.F ht⟩) hS.2.2 dX3_commit_31
