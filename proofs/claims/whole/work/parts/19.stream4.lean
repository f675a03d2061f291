/-- a reader (its numbers F) asks for a graph and a property -/
abbrev snA (F : Nat → Int32) (g q : Int32) : Prop := (F 0 = -1 ∨ F 0 = g) ∧ (F 1 = -1 ∨ F 1 = q)
/-- whether the reader at the role r sees row i, whose fact is fi -/
def sn (I V : Nat → Nat → Int32) (r rc kd fi i : Nat) : Int32 := if snA (I r) (V 2 fi) (V 3 fi) then (if hRt (V (r + 3)) (V (r + 4)) (V (r + 5)) (nI fi) (V 7 i) rc = 0 then 0 else (if fLet kd (I r 10) fi (V 9 i) = 0 then 0 else 1)) else 0
theorem sn_f {I V : Nat → Nat → Int32} {r rc kd fi i : Nat} (h : sn I V r rc kd fi i = 0) : ¬ (snA (I r) (V 2 fi) (V 3 fi) ∧ ¬ hRt (V (r + 3)) (V (r + 4)) (V (r + 5)) (nI fi) (V 7 i) rc = 0 ∧ kd = 4 ∧ I r 10 = 0) := by
  rintro ⟨h1, h2, h3, h4⟩
  have h5 : fLet 4 0 fi (V 9 i) = 1 := by simp [fLet]
  rw [sn, if_pos h1, if_neg h2, h3, h4, h5] at h
  exact absurd h (by decide)
theorem sn_t {I V : Nat → Nat → Int32} {r rc kd fi i : Nat} (h : ¬ sn I V r rc kd fi i = 0) : snA (I r) (V 2 fi) (V 3 fi) ∧ ¬ hRt (V (r + 3)) (V (r + 4)) (V (r + 5)) (nI fi) (V 7 i) rc = 0 := by
  refine Decidable.byContradiction (fun h2 => h ?_)
  unfold sn
  by_cases h3 : snA (I r) (V 2 fi) (V 3 fi)
  · by_cases h4 : hRt (V (r + 3)) (V (r + 4)) (V (r + 5)) (nI fi) (V 7 i) rc = 0
    · rw [if_pos h3, if_pos h4]
    · exact absurd ⟨h3, h4⟩ h2
  · rw [if_neg h3]
/-- the first place from i on, d places further at most, where Z holds -/
def nxt (Z : Nat → Bool) : Nat → Nat → Nat
  | 0, i => i
  | d + 1, i => if Z i = true then i else nxt Z d (i + 1)
theorem nxt_in (Z : Nat → Bool) : ∀ d i, i ≤ nxt Z d i ∧ nxt Z d i ≤ i + d
  | 0, i => ⟨Nat.le_refl _, Nat.le_refl _⟩
  | d + 1, i => by
    unfold nxt
    by_cases h : Z i = true
    · rw [if_pos h]; omega
    · rw [if_neg h]; have := nxt_in Z d (i + 1); omega

set_option maxHeartbeats 4000000 in
set_option maxRecDepth 100000 in
/-- isSeen(r, i) -/
theorem c_X3_isSeen (l : Launch) (D : va_G) (cI cZ cR : ClassId) (ad : Nat → Nat) (na n : Nat) (I V : Nat → Nat → Int32) (sz r : Nat) (hn : 11 ≤ n) (hrn : r + 5 < n) (hrd : sC_r r) (hr11 : 11 ≤ r) (rc9 : Nat) (hrc9 : I r 13 = nI rc9) (hrc94 : rc9 ≤ 40) (kd : Nat) (hkd : I r 9 = nI kd) (hkd4 : kd ≤ 4) (h01r : ∀ j, V (r + 5) j = 0 ∨ V (r + 5) j = 1) (h019 : ∀ j, V 9 j = 0 ∨ V 9 j = 1) (i fi : Nat) (hi : i < 600) (hf1 : V 8 i = nI fi) (hf2 : fi < 100) : Met l yX3_isSeen wsX3_isSeen ({ frames := 3, cells := 0, slots := 0, locals := 63 } : Room) (va_Pc [.ref (ad 0), .ref (ad r), .int (nI i)] (wPre D vwCl (sT cI cZ cR) (sW cI cZ cR ad na n I V) sz wTrue)) (va_Qi (fun (r9 : Int32) (u : Unit) => r9 = sn I V r rc9 kd fi i) (wPost D vwCl (sT cI cZ cR) (fun (u : Unit) => sW cI cZ cR ad na n (if snA (I r) (V 2 fi) (V 3 fi) ∧ ¬ hRt (V (r + 3)) (V (r + 4)) (V (r + 5)) (nI fi) (V 7 i) rc9 = 0 ∧ kd = 4 ∧ I r 10 = 0 then va_up I r (va_up (I r) 15 (I r 15 + 1)) else I) V) (va_A (sW cI cZ cR ad na n I V) sz)) (va_A (sW cI cZ cR ad na n I V) sz)) 0 0 (va_A (sW cI cZ cR ad na n I V) sz) := by
  refine Met.ofW (cc := cX3_isSeen) (maxL := 4) (ret := (some .boolean)) (by decide) rfl ?_
  intro p e s m args below meth c s₁ B hml hv
  obtain ⟨rfl, hsz, hP, hK, hD0, hE⟩ := hv
  have hx := B.exec
  have hb := B.bytes
  have hr := B.returns
  have hts := atoms_spec (ws := wsX3_isSeen) B.pre
  have hown : s.vm.findClass RX3 = some m.cls := findClass_of_methodNamed B.named
  have hlocks := B.notSynchronized
  subst hsz
  have hD := hD0.self (sz := s.heap.size)
  generalize hAe : va_A (sW cI cZ cR ad na n I V) s.heap.size = A at hD ⊢
  have hA : ∀ q : Nat, s.heap.size ≤ q → A q := fun q h => by rw [← hAe]; exact Or.inr h
  have hS : va_S A s.heap s.heap [] := va_S.rf
  have hinX2 : ∀ w ∈ wsX20, w ∈ wsX3_isSeen := by decide +kernel
  have hinX3 : ∀ w ∈ wsX30, w ∈ wsX3_isSeen := by decide +kernel
  have hl := lv_entry ([.ref (ad 0), .ref (ad r), .int (nI i)]) (n := 4) (Nat.le_of_ble_eq_true rfl)
  rw [lg_entry_eq]
  generalize (lg_sl ([.ref (ad 0), .ref (ad r), .int (nI i)]) ++ List.replicate (4 - (lg_sl ([.ref (ad 0), .ref (ad r), .int (nI i)])).length) Slot.unset).toArray = ls at hl ⊢
  have hl : lv_has ls 4 [(0, .ref (ad 0)), (1, .ref (ad r)), (2, .int (nI i))] := hl
  refine lv_aload_n hx hb dX3_isSeen_0 rfl (lv_at hl 0 rfl) ?_
  refine wR_get (v := .ref (ad 6)) (C := RX3) (T := TX3) (N := 4) (ci := 3) hx hb hts hinX3 hown hK hP 0 (by omega) rfl rfl 1 (by decide) (hts (.fieldLink RX3 19 "ChangeStream" "log" "LChangeStream$Log;") (by decide +kernel)) rfl rfl dX3_isSeen_1 ?_
  refine lv_iload_n hx hb dX3_isSeen_4 rfl (lv_at hl 2 rfl) ?_
  refine w_calli (w := sW cI cZ cR ad na n I V) hS hA hK hD (va_runV (As := [.int (nI i)]) (rest := []) ⟨hx, hb, hml, hown, hts⟩ (c_X0_factOf l D cI cZ cR ad na n I V s.heap.size hn (i) (by omega)) (cwV 1 hts gX3_isSeen_X0_factOf rfl rfl rfl (by decide +kernel) ⟨Nat.le_of_ble_eq_true rfl, Nat.le_of_ble_eq_true rfl⟩) ⟨(w_pre hP hK hD wEnv_true).1, wR_recv (C := RX0) (T := TX0) (N := 8) hK hP (ci := 0) rfl 6 (by omega) rfl, (w_pre hP hK hD wEnv_true).2⟩ rfl rfl hl.1 rfl (lv_room (Nat.le_of_ble_eq_true rfl)) dX3_isSeen_5 ⟨Nat.le_of_ble_eq_true rfl, Nat.le_of_ble_eq_true rfl⟩) (fun r_1 u H locs hw hP hD hS hz => ?_)
  rw [show r_1 = nI fi from hw.trans hf1]
  refine lv_istore_n (lv' := [(3, .int (nI fi)), (0, .ref (ad 0)), (1, .ref (ad r)), (2, .int (nI i))]) hx hb dX3_isSeen_8 rfl hl (by decide) rfl (fun ls hl => ?_)
  refine lv_aload_n hx hb dX3_isSeen_9 rfl (lv_at hl 2 rfl) ?_
  refine lv_aload_n hx hb dX3_isSeen_10 rfl (lv_at hl 1 rfl) ?_
  refine wR_get (v := .ref (ad 1)) (C := RX3) (T := TX3) (N := 4) (ci := 3) hx hb hts hinX3 hown hK hP 0 (by omega) rfl rfl 0 (by decide) (hts (.fieldLink RX3 10 "ChangeStream" "store" "LChangeStream$Store;") (by decide +kernel)) rfl rfl dX3_isSeen_11 ?_
  refine wR_get (v := .ref (ad 2)) (C := RX2) (T := TX2) (N := 6) (ci := 2) hx hb hts hinX2 hown hK hP 1 (by omega) rfl rfl 0 (by decide) (hts (.fieldLink RX3 169 "ChangeStream$Store" "graphs" "[I") (by decide +kernel)) rfl rfl dX3_isSeen_14 ?_
  refine lv_iload_n hx hb dX3_isSeen_17 rfl (lv_at hl 0 rfl) ?_
  refine wR_ild (f := V 2) (v := (V 2) fi) hx hb hK hP 2 0 (by omega) rfl rfl (nx_in (k := fi) rfl (by omega) (by decide)) (j := fi) (nx_cl rfl (by omega)) rfl dX3_isSeen_18 ?_
  refine lv_aload_n hx hb dX3_isSeen_19 rfl (lv_at hl 1 rfl) ?_
  refine wR_get (v := .ref (ad 1)) (C := RX3) (T := TX3) (N := 4) (ci := 3) hx hb hts hinX3 hown hK hP 0 (by omega) rfl rfl 0 (by decide) (hts (.fieldLink RX3 10 "ChangeStream" "store" "LChangeStream$Store;") (by decide +kernel)) rfl rfl dX3_isSeen_20 ?_
  refine wR_get (v := .ref (ad 3)) (C := RX2) (T := TX2) (N := 6) (ci := 2) hx hb hts hinX2 hown hK hP 1 (by omega) rfl rfl 1 (by decide) (hts (.fieldLink RX3 173 "ChangeStream$Store" "properties" "[I") (by decide +kernel)) rfl rfl dX3_isSeen_23 ?_
  refine lv_iload_n hx hb dX3_isSeen_26 rfl (lv_at hl 0 rfl) ?_
  refine wR_ild (f := V 3) (v := (V 3) fi) hx hb hK hP 3 0 (by omega) rfl rfl (nx_in (k := fi) rfl (by omega) (by decide)) (j := fi) (nx_cl rfl (by omega)) rfl dX3_isSeen_27 ?_
  refine w_calli (w := sW cI cZ cR ad na n I V) hS hA hK hD (va_runV (As := [.int ((V 2) fi), .int ((V 3) fi)]) (rest := []) ⟨hx, hb, hml, hown, hts⟩ (c_X1_asksFor l D cI cZ cR ad na n I V H.size r (by omega) hrd ((V 2) fi) ((V 3) fi)) (cwV 2 hts gX3_isSeen_X1_asksFor rfl rfl rfl (by decide +kernel) ⟨Nat.le_of_ble_eq_true rfl, Nat.le_of_ble_eq_true rfl⟩) ⟨(w_pre hP hK hD wEnv_true).1, wR_recv (C := RX1) (T := TX1) (N := 17) hK hP (ci := 1) rfl r (by omega) (sC_rd hrd), (w_pre hP hK hD wEnv_true).2⟩ rfl rfl hl.1 rfl (lv_room (Nat.le_of_ble_eq_true rfl)) dX3_isSeen_28 ⟨Nat.le_of_ble_eq_true rfl, Nat.le_of_ble_eq_true rfl⟩) (fun r_2 u H locs hw hP hD hS hz => ?_)
  refine lv_if_eq (tgt := 70) hx hb dX3_isSeen_31 (by decide) (fun c_3 => ?_) (fun c_3 => ?_)
  · have hs : ¬ snA (I r) (V 2 fi) (V 3 fi) := fun h9 => absurd (c_3.symm.trans (hw.trans (if_pos h9))) (by decide)
    refine lv_iconst (v := nI 0) hx hb dX3_isSeen_70 (by decide) ?_
    have hEI : (I : Nat → Nat → Int32) = if snA (I r) (V 2 fi) (V 3 fi) ∧ ¬ hRt (V (r + 3)) (V (r + 4)) (V (r + 5)) (nI fi) (V 7 i) rc9 = 0 ∧ kd = 4 ∧ I r 10 = 0 then va_up I r (va_up (I r) 15 (I r 15 + 1)) else I := by rw [if_neg (fun h => hs h.1)]
    have hP : va_P D vwCl (sW cI cZ cR ad na n (if snA (I r) (V 2 fi) (V 3 fi) ∧ ¬ hRt (V (r + 3)) (V (r + 4)) (V (r + 5)) (nI fi) (V 7 i) rc9 = 0 ∧ kd = 4 ∧ I r 10 = 0 then va_up I r (va_up (I r) 15 (I r 15 + 1)) else I) V) H := by rw [← hEI]; exact hP
    have hD : va_D A (sW cI cZ cR ad na n (if snA (I r) (V 2 fi) (V 3 fi) ∧ ¬ hRt (V (r + 3)) (V (r + 4)) (V (r + 5)) (nI fi) (V 7 i) rc9 = 0 ∧ kd = 4 ∧ I r 10 = 0 then va_up I r (va_up (I r) 15 (I r 15 + 1)) else I) V) := by rw [← hEI]; exact hD
    exact W.zret (v := nI 0) hx hb hr rfl (fun t ht hW => ⟨⟨nI 0, (), rfl, (by unfold sn; rw [if_neg hs]; rfl), by rw [ht]; exact hP, va_K.moved hW.alike hK, hD⟩, hS.F ht⟩) hS.2.2 dX3_isSeen_71
  · have hs : snA (I r) (V 2 fi) (V 3 fi) := Decidable.byContradiction (fun h9 => c_3 (hw.trans (if_neg h9)))
    refine lv_aload_n hx hb dX3_isSeen_34 rfl (lv_at hl 2 rfl) ?_
    refine lv_iload_n hx hb dX3_isSeen_35 rfl (lv_at hl 0 rfl) ?_
    refine lv_aload_n hx hb dX3_isSeen_36 rfl (lv_at hl 1 rfl) ?_
    refine wR_get (v := .ref (ad 6)) (C := RX3) (T := TX3) (N := 4) (ci := 3) hx hb hts hinX3 hown hK hP 0 (by omega) rfl rfl 1 (by decide) (hts (.fieldLink RX3 19 "ChangeStream" "log" "LChangeStream$Log;") (by decide +kernel)) rfl rfl dX3_isSeen_37 ?_
    refine lv_iload_n hx hb dX3_isSeen_40 rfl (lv_at hl 3 rfl) ?_
    refine w_calli (w := sW cI cZ cR ad na n I V) hS hA hK hD (va_runV (As := [.int (nI i)]) (rest := [.int (nI fi), .ref (ad r)]) ⟨hx, hb, hml, hown, hts⟩ (c_X0_transactionOf l D cI cZ cR ad na n I V H.size hn (i) (by omega)) (cwV 1 hts gX3_isSeen_X0_transactionOf rfl rfl rfl (by decide +kernel) ⟨Nat.le_of_ble_eq_true rfl, Nat.le_of_ble_eq_true rfl⟩) ⟨(w_pre hP hK hD wEnv_true).1, wR_recv (C := RX0) (T := TX0) (N := 8) hK hP (ci := 0) rfl 6 (by omega) rfl, (w_pre hP hK hD wEnv_true).2⟩ rfl rfl hl.1 rfl (lv_room (Nat.le_of_ble_eq_true rfl)) dX3_isSeen_41 ⟨Nat.le_of_ble_eq_true rfl, Nat.le_of_ble_eq_true rfl⟩) (fun r_4 u H locs hw hP hD hS hz => ?_)
    rw [show r_4 = (V 7) i from hw]
    refine w_calli (w := sW cI cZ cR ad na n I V) hS hA hK hD (va_runV (As := [.int (nI fi), .int ((V 7) i)]) (rest := []) ⟨hx, hb, hml, hown, hts⟩ (c_X1_hasRight l D cI cZ cR ad na n I V H.size r (by omega) hrd rc9 hrc9 hrc94 (nI fi) (V 7 i) h01r) (cwV 2 hts gX3_isSeen_X1_hasRight rfl rfl rfl (by decide +kernel) ⟨Nat.le_of_ble_eq_true rfl, Nat.le_of_ble_eq_true rfl⟩) ⟨(w_pre hP hK hD wEnv_true).1, wR_recv (C := RX1) (T := TX1) (N := 17) hK hP (ci := 1) rfl r (by omega) (sC_rd hrd), (w_pre hP hK hD wEnv_true).2⟩ rfl rfl hl.1 rfl (lv_room (Nat.le_of_ble_eq_true rfl)) dX3_isSeen_44 ⟨Nat.le_of_ble_eq_true rfl, Nat.le_of_ble_eq_true rfl⟩) (fun r_5 u H locs hw hP hD hS hz => ?_)
    rw [show r_5 = hRt (V (r + 3)) (V (r + 4)) (V (r + 5)) (nI fi) (V 7 i) rc9 from hw]
    refine lv_if_eq (tgt := 70) hx hb dX3_isSeen_47 (by decide) (fun c_6 => ?_) (fun c_6 => ?_)
    · refine lv_iconst (v := nI 0) hx hb dX3_isSeen_70 (by decide) ?_
      have hEI : (I : Nat → Nat → Int32) = if snA (I r) (V 2 fi) (V 3 fi) ∧ ¬ hRt (V (r + 3)) (V (r + 4)) (V (r + 5)) (nI fi) (V 7 i) rc9 = 0 ∧ kd = 4 ∧ I r 10 = 0 then va_up I r (va_up (I r) 15 (I r 15 + 1)) else I := by rw [if_neg (fun h => h.2.1 c_6)]
      have hP : va_P D vwCl (sW cI cZ cR ad na n (if snA (I r) (V 2 fi) (V 3 fi) ∧ ¬ hRt (V (r + 3)) (V (r + 4)) (V (r + 5)) (nI fi) (V 7 i) rc9 = 0 ∧ kd = 4 ∧ I r 10 = 0 then va_up I r (va_up (I r) 15 (I r 15 + 1)) else I) V) H := by rw [← hEI]; exact hP
      have hD : va_D A (sW cI cZ cR ad na n (if snA (I r) (V 2 fi) (V 3 fi) ∧ ¬ hRt (V (r + 3)) (V (r + 4)) (V (r + 5)) (nI fi) (V 7 i) rc9 = 0 ∧ kd = 4 ∧ I r 10 = 0 then va_up I r (va_up (I r) 15 (I r 15 + 1)) else I) V) := by rw [← hEI]; exact hD
      exact W.zret (v := nI 0) hx hb hr rfl (fun t ht hW => ⟨⟨nI 0, (), rfl, (by unfold sn; rw [if_pos hs, if_pos c_6]; rfl), by rw [ht]; exact hP, va_K.moved hW.alike hK, hD⟩, hS.F ht⟩) hS.2.2 dX3_isSeen_71
    · refine lv_aload_n hx hb dX3_isSeen_50 rfl (lv_at hl 2 rfl) ?_
      refine lv_iload_n hx hb dX3_isSeen_51 rfl (lv_at hl 0 rfl) ?_
      refine lv_aload_n hx hb dX3_isSeen_52 rfl (lv_at hl 1 rfl) ?_
      refine wR_get (v := .ref (ad 6)) (C := RX3) (T := TX3) (N := 4) (ci := 3) hx hb hts hinX3 hown hK hP 0 (by omega) rfl rfl 1 (by decide) (hts (.fieldLink RX3 19 "ChangeStream" "log" "LChangeStream$Log;") (by decide +kernel)) rfl rfl dX3_isSeen_53 ?_
      refine lv_iload_n hx hb dX3_isSeen_56 rfl (lv_at hl 3 rfl) ?_
      refine w_calli (w := sW cI cZ cR ad na n I V) hS hA hK hD (va_runV (As := [.int (nI i)]) (rest := [.int (nI fi), .ref (ad r)]) ⟨hx, hb, hml, hown, hts⟩ (c_X0_comesIn l D cI cZ cR ad na n I V H.size hn (i) (by omega) h019) (cwV 1 hts gX3_isSeen_X0_comesIn rfl rfl rfl (by decide +kernel) ⟨Nat.le_of_ble_eq_true rfl, Nat.le_of_ble_eq_true rfl⟩) ⟨(w_pre hP hK hD wEnv_true).1, wR_recv (C := RX0) (T := TX0) (N := 8) hK hP (ci := 0) rfl 6 (by omega) rfl, (w_pre hP hK hD wEnv_true).2⟩ rfl rfl hl.1 rfl (lv_room (Nat.le_of_ble_eq_true rfl)) dX3_isSeen_57 ⟨Nat.le_of_ble_eq_true rfl, Nat.le_of_ble_eq_true rfl⟩) (fun r_7 u H locs hw hP hD hS hz => ?_)
      rw [show r_7 = (V 9) i from hw]
      refine w_calli (w := sW cI cZ cR ad na n I V) hS hA hK hD (va_runV (As := [.int (nI fi), .int ((V 9) i)]) (rest := []) ⟨hx, hb, hml, hown, hts⟩ (c_X1_filterLets l D cI cZ cR ad na n I V H.size r (by omega) hrd kd hkd hkd4 fi (V 9 i) (h019 i)) (cwV 2 hts gX3_isSeen_X1_filterLets rfl rfl rfl (by decide +kernel) ⟨Nat.le_of_ble_eq_true rfl, Nat.le_of_ble_eq_true rfl⟩) ⟨(w_pre hP hK hD wEnv_true).1, wR_recv (C := RX1) (T := TX1) (N := 17) hK hP (ci := 1) rfl r (by omega) (sC_rd hrd), (w_pre hP hK hD wEnv_true).2⟩ rfl rfl hl.1 rfl (lv_room (Nat.le_of_ble_eq_true rfl)) dX3_isSeen_60 ⟨Nat.le_of_ble_eq_true rfl, Nat.le_of_ble_eq_true rfl⟩) (fun r_8 u H locs hw hP hD hS hz => ?_)
      rw [show r_8 = fLet kd (I r 10) fi (V 9 i) from hw]
      refine lv_if_eq (tgt := 70) hx hb dX3_isSeen_63 (by decide) (fun c_9 => ?_) (fun c_9 => ?_)
      · refine lv_iconst (v := nI 0) hx hb dX3_isSeen_70 (by decide) ?_
        have hEI : (if kd = 4 ∧ I r 10 = 0 then va_up I r (va_up (I r) 15 (I r 15 + 1)) else I : Nat → Nat → Int32) = if snA (I r) (V 2 fi) (V 3 fi) ∧ ¬ hRt (V (r + 3)) (V (r + 4)) (V (r + 5)) (nI fi) (V 7 i) rc9 = 0 ∧ kd = 4 ∧ I r 10 = 0 then va_up I r (va_up (I r) 15 (I r 15 + 1)) else I := if h9 : kd = 4 ∧ I r 10 = 0 then (by rw [if_pos h9, if_pos ⟨hs, c_6, h9⟩]) else (by rw [if_neg h9, if_neg (fun h => h9 h.2.2)])
        have hP : va_P D vwCl (sW cI cZ cR ad na n (if snA (I r) (V 2 fi) (V 3 fi) ∧ ¬ hRt (V (r + 3)) (V (r + 4)) (V (r + 5)) (nI fi) (V 7 i) rc9 = 0 ∧ kd = 4 ∧ I r 10 = 0 then va_up I r (va_up (I r) 15 (I r 15 + 1)) else I) V) H := by rw [← hEI]; exact hP
        have hD : va_D A (sW cI cZ cR ad na n (if snA (I r) (V 2 fi) (V 3 fi) ∧ ¬ hRt (V (r + 3)) (V (r + 4)) (V (r + 5)) (nI fi) (V 7 i) rc9 = 0 ∧ kd = 4 ∧ I r 10 = 0 then va_up I r (va_up (I r) 15 (I r 15 + 1)) else I) V) := by rw [← hEI]; exact hD
        exact W.zret (v := nI 0) hx hb hr rfl (fun t ht hW => ⟨⟨nI 0, (), rfl, (by unfold sn; rw [if_pos hs, if_neg c_6, if_pos c_9]; rfl), by rw [ht]; exact hP, va_K.moved hW.alike hK, hD⟩, hS.F ht⟩) hS.2.2 dX3_isSeen_71
      · refine lv_iconst (v := nI 1) hx hb dX3_isSeen_66 (by decide) ?_
        refine lv_goto (tgt := 71) hx hb dX3_isSeen_67 (by decide) ?_
        have hEI : (if kd = 4 ∧ I r 10 = 0 then va_up I r (va_up (I r) 15 (I r 15 + 1)) else I : Nat → Nat → Int32) = if snA (I r) (V 2 fi) (V 3 fi) ∧ ¬ hRt (V (r + 3)) (V (r + 4)) (V (r + 5)) (nI fi) (V 7 i) rc9 = 0 ∧ kd = 4 ∧ I r 10 = 0 then va_up I r (va_up (I r) 15 (I r 15 + 1)) else I := if h9 : kd = 4 ∧ I r 10 = 0 then (by rw [if_pos h9, if_pos ⟨hs, c_6, h9⟩]) else (by rw [if_neg h9, if_neg (fun h => h9 h.2.2)])
        have hP : va_P D vwCl (sW cI cZ cR ad na n (if snA (I r) (V 2 fi) (V 3 fi) ∧ ¬ hRt (V (r + 3)) (V (r + 4)) (V (r + 5)) (nI fi) (V 7 i) rc9 = 0 ∧ kd = 4 ∧ I r 10 = 0 then va_up I r (va_up (I r) 15 (I r 15 + 1)) else I) V) H := by rw [← hEI]; exact hP
        have hD : va_D A (sW cI cZ cR ad na n (if snA (I r) (V 2 fi) (V 3 fi) ∧ ¬ hRt (V (r + 3)) (V (r + 4)) (V (r + 5)) (nI fi) (V 7 i) rc9 = 0 ∧ kd = 4 ∧ I r 10 = 0 then va_up I r (va_up (I r) 15 (I r 15 + 1)) else I) V) := by rw [← hEI]; exact hD
        exact W.zret (v := nI 1) hx hb hr rfl (fun t ht hW => ⟨⟨nI 1, (), rfl, (by unfold sn; rw [if_pos hs, if_neg c_6, if_neg c_9]; rfl), by rw [ht]; exact hP, va_K.moved hW.alike hK, hD⟩, hS.F ht⟩) hS.2.2 dX3_isSeen_71

set_option maxHeartbeats 4000000 in
set_option maxRecDepth 100000 in
/-- takeOrWait(r, i) -/
theorem c_X3_takeOrWait (l : Launch) (D : va_G) (cI cZ cR : ClassId) (ad : Nat → Nat) (na n : Nat) (I V : Nat → Nat → Int32) (sz r : Nat) (hn : 11 ≤ n) (hrn : r + 5 < n) (hrd : sC_r r) (hr11 : 11 ≤ r) (tc mt : Nat) (htc : I r 12 = nI tc) (hmt : I r 11 = nI mt) (htc2 : tc ≤ 20) (hmt2 : mt ≤ 20) (i : Nat) (hi : i < 600) : Met l yX3_takeOrWait wsX3_takeOrWait ({ frames := 3, cells := 0, slots := 0, locals := 63 } : Room) (va_Pc [.ref (ad 0), .ref (ad r), .int (nI i)] (wPre D vwCl (sT cI cZ cR) (sW cI cZ cR ad na n I V) sz wTrue)) (va_Qi (fun (r9 : Int32) (u : Unit) => r9 = if tc < mt then nI i else -2) (wPost D vwCl (sT cI cZ cR) (fun (u : Unit) => sW cI cZ cR ad na n (va_up I r (if tc < mt then va_up (va_up (va_up (va_up (I r) 12 (nI (tc + 1))) 16 ((I r) 16 + nI 1)) 7 (V 7 i)) 8 (nI (i + 1)) else va_up (va_up (I r) 7 (V 7 i)) 8 (nI i))) (if tc < mt then va_up (va_up V (r + 1) (va_up (V (r + 1)) tc (nI i))) (r + 2) (va_up (V (r + 2)) tc (V 7 i)) else V)) (va_A (sW cI cZ cR ad na n I V) sz)) (va_A (sW cI cZ cR ad na n I V) sz)) 0 0 (va_A (sW cI cZ cR ad na n I V) sz) := by
  refine Met.ofW (cc := cX3_takeOrWait) (maxL := 4) (ret := (some .int)) (by decide) rfl ?_
  intro p e s m args below meth c s₁ B hml hv
  obtain ⟨rfl, hsz, hP, hK, hD0, hE⟩ := hv
  have hx := B.exec
  have hb := B.bytes
  have hr := B.returns
  have hts := atoms_spec (ws := wsX3_takeOrWait) B.pre
  have hown : s.vm.findClass RX3 = some m.cls := findClass_of_methodNamed B.named
  have hlocks := B.notSynchronized
  subst hsz
  have hD := hD0.self (sz := s.heap.size)
  generalize hAe : va_A (sW cI cZ cR ad na n I V) s.heap.size = A at hD ⊢
  have hA : ∀ q : Nat, s.heap.size ≤ q → A q := fun q h => by rw [← hAe]; exact Or.inr h
  have hS : va_S A s.heap s.heap [] := va_S.rf
  have hinX1 : ∀ w ∈ wsX10, w ∈ wsX3_takeOrWait := by decide +kernel
  have hinX3 : ∀ w ∈ wsX30, w ∈ wsX3_takeOrWait := by decide +kernel
  have hl := lv_entry ([.ref (ad 0), .ref (ad r), .int (nI i)]) (n := 4) (Nat.le_of_ble_eq_true rfl)
  rw [lg_entry_eq]
  generalize (lg_sl ([.ref (ad 0), .ref (ad r), .int (nI i)]) ++ List.replicate (4 - (lg_sl ([.ref (ad 0), .ref (ad r), .int (nI i)])).length) Slot.unset).toArray = ls at hl ⊢
  have hl : lv_has ls 4 [(0, .ref (ad 0)), (1, .ref (ad r)), (2, .int (nI i))] := hl
  refine lv_aload_n hx hb dX3_takeOrWait_0 rfl (lv_at hl 0 rfl) ?_
  refine wR_get (v := .ref (ad 6)) (C := RX3) (T := TX3) (N := 4) (ci := 3) hx hb hts hinX3 hown hK hP 0 (by omega) rfl rfl 1 (by decide) (hts (.fieldLink RX3 19 "ChangeStream" "log" "LChangeStream$Log;") (by decide +kernel)) rfl rfl dX3_takeOrWait_1 ?_
  refine lv_iload_n hx hb dX3_takeOrWait_4 rfl (lv_at hl 2 rfl) ?_
  refine w_calli (w := sW cI cZ cR ad na n I V) hS hA hK hD (va_runV (As := [.int (nI i)]) (rest := []) ⟨hx, hb, hml, hown, hts⟩ (c_X0_transactionOf l D cI cZ cR ad na n I V s.heap.size hn (i) (by omega)) (cwV 1 hts gX3_takeOrWait_X0_transactionOf rfl rfl rfl (by decide +kernel) ⟨Nat.le_of_ble_eq_true rfl, Nat.le_of_ble_eq_true rfl⟩) ⟨(w_pre hP hK hD wEnv_true).1, wR_recv (C := RX0) (T := TX0) (N := 8) hK hP (ci := 0) rfl 6 (by omega) rfl, (w_pre hP hK hD wEnv_true).2⟩ rfl rfl hl.1 rfl (lv_room (Nat.le_of_ble_eq_true rfl)) dX3_takeOrWait_5 ⟨Nat.le_of_ble_eq_true rfl, Nat.le_of_ble_eq_true rfl⟩) (fun r_1 u H locs hw hP hD hS hz => ?_)
  rw [show r_1 = (V 7) i from hw]
  refine lv_istore_n (lv' := [(3, .int ((V 7) i)), (0, .ref (ad 0)), (1, .ref (ad r)), (2, .int (nI i))]) hx hb dX3_takeOrWait_8 rfl hl (by decide) rfl (fun ls hl => ?_)
  refine lv_aload_n hx hb dX3_takeOrWait_9 rfl (lv_at hl 2 rfl) ?_
  refine wR_get (v := .int (nI tc)) (C := RX1) (T := TX1) (N := 17) (ci := 1) hx hb hts hinX1 hown hK hP r (by omega) (sC_rd hrd) rfl 12 (by decide) (hts (.fieldLink RX3 176 "ChangeStream$Reader" "takenCount" "I") (by decide +kernel)) rfl (congrArg (fun z => some (Value.int z)) htc) dX3_takeOrWait_10 ?_
  refine lv_aload_n hx hb dX3_takeOrWait_13 rfl (lv_at hl 2 rfl) ?_
  refine wR_get (v := .int (nI mt)) (C := RX1) (T := TX1) (N := 17) (ci := 1) hx hb hts hinX1 hown hK hP r (by omega) (sC_rd hrd) rfl 11 (by decide) (hts (.fieldLink RX3 116 "ChangeStream$Reader" "mostTaken" "I") (by decide +kernel)) rfl (congrArg (fun z => some (Value.int z)) hmt) dX3_takeOrWait_14 ?_
  refine lv_icmp_lt (tgt := 29) hx hb dX3_takeOrWait_17 (by decide) (fun c_2 => ?_) (fun c_2 => ?_)
  · have c_2 : tc < mt := (nI_ltI (a := tc) (b := mt) (by omega) (by omega)).mp c_2
    refine lv_aload_n hx hb dX3_takeOrWait_29 rfl (lv_at hl 2 rfl) ?_
    refine lv_iload_n hx hb dX3_takeOrWait_30 rfl (lv_at hl 0 rfl) ?_
    refine lv_iload_n hx hb dX3_takeOrWait_31 rfl (lv_at hl 3 rfl) ?_
    refine w_callv (w := sW cI cZ cR ad na n I V) hS hA hK hD (va_runV (As := [.int ((V 7) i), .int (nI i)]) (rest := []) ⟨hx, hb, hml, hown, hts⟩ (c_X1_take l D cI cZ cR ad na n I V H.size r (by omega) hrd tc htc (by omega) (V 7 i) i) (cwV 2 hts gX3_takeOrWait_X1_take rfl rfl rfl (by decide +kernel) ⟨Nat.le_of_ble_eq_true rfl, Nat.le_of_ble_eq_true rfl⟩) ⟨(w_pre hP hK hD wEnv_true).1, wR_recv (C := RX1) (T := TX1) (N := 17) hK hP (ci := 1) rfl r (by omega) (sC_rd hrd), (w_pre hP hK hD wEnv_true).2⟩ rfl rfl hl.1 rfl (lv_room (Nat.le_of_ble_eq_true rfl)) dX3_takeOrWait_32 ⟨Nat.le_of_ble_eq_true rfl, Nat.le_of_ble_eq_true rfl⟩) (fun  u H locs hw hP hD hS hz => ?_)
    refine lv_iload_n hx hb dX3_takeOrWait_35 rfl (lv_at hl 3 rfl) ?_
    have hEI : (va_up I r (va_up (va_up (va_up (va_up (I r) 12 (nI (tc + 1))) 16 ((I r) 16 + nI 1)) 7 (V 7 i)) 8 (nI (i + 1))) : Nat → Nat → Int32) = va_up I r (if tc < mt then va_up (va_up (va_up (va_up (I r) 12 (nI (tc + 1))) 16 ((I r) 16 + nI 1)) 7 (V 7 i)) 8 (nI (i + 1)) else va_up (va_up (I r) 7 (V 7 i)) 8 (nI i)) := by rw [if_pos (by assumption)]
    have hEV : (va_up (va_up V (r + 1) (va_up (V (r + 1)) tc (nI i))) (r + 2) (va_up (V (r + 2)) tc (V 7 i)) : Nat → Nat → Int32) = if tc < mt then va_up (va_up V (r + 1) (va_up (V (r + 1)) tc (nI i))) (r + 2) (va_up (V (r + 2)) tc (V 7 i)) else V := by rw [if_pos (by assumption)]
    have hP : va_P D vwCl (sW cI cZ cR ad na n (va_up I r (if tc < mt then va_up (va_up (va_up (va_up (I r) 12 (nI (tc + 1))) 16 ((I r) 16 + nI 1)) 7 (V 7 i)) 8 (nI (i + 1)) else va_up (va_up (I r) 7 (V 7 i)) 8 (nI i))) (if tc < mt then va_up (va_up V (r + 1) (va_up (V (r + 1)) tc (nI i))) (r + 2) (va_up (V (r + 2)) tc (V 7 i)) else V)) H := by rw [← hEI, ← hEV]; exact hP
    have hD : va_D A (sW cI cZ cR ad na n (va_up I r (if tc < mt then va_up (va_up (va_up (va_up (I r) 12 (nI (tc + 1))) 16 ((I r) 16 + nI 1)) 7 (V 7 i)) 8 (nI (i + 1)) else va_up (va_up (I r) 7 (V 7 i)) 8 (nI i))) (if tc < mt then va_up (va_up V (r + 1) (va_up (V (r + 1)) tc (nI i))) (r + 2) (va_up (V (r + 2)) tc (V 7 i)) else V)) := by rw [← hEI, ← hEV]; exact hD
    exact W.iret (v := nI i) hx hb hr (fun t ht hW => ⟨⟨nI i, (), rfl, (by rw [if_pos (by assumption)]), by rw [ht]; exact hP, va_K.moved hW.alike hK, hD⟩, hS.F ht⟩) hS.2.2 dX3_takeOrWait_36
  · have c_2 : ¬ (tc < mt) := fun h9 => c_2 ((nI_ltI (a := tc) (b := mt) (by omega) (by omega)).mpr h9)
    refine lv_aload_n hx hb dX3_takeOrWait_20 rfl (lv_at hl 2 rfl) ?_
    refine lv_iload_n hx hb dX3_takeOrWait_21 rfl (lv_at hl 0 rfl) ?_
    refine lv_iload_n hx hb dX3_takeOrWait_22 rfl (lv_at hl 3 rfl) ?_
    refine w_callv (w := sW cI cZ cR ad na n I V) hS hA hK hD (va_runV (As := [.int ((V 7) i), .int (nI i)]) (rest := []) ⟨hx, hb, hml, hown, hts⟩ (c_X1_moveTo l D cI cZ cR ad na n I V H.size r (by omega) hrd ((V 7) i) (nI i)) (cwV 2 hts gX3_takeOrWait_X1_moveTo rfl rfl rfl (by decide +kernel) ⟨Nat.le_of_ble_eq_true rfl, Nat.le_of_ble_eq_true rfl⟩) ⟨(w_pre hP hK hD wEnv_true).1, wR_recv (C := RX1) (T := TX1) (N := 17) hK hP (ci := 1) rfl r (by omega) (sC_rd hrd), (w_pre hP hK hD wEnv_true).2⟩ rfl rfl hl.1 rfl (lv_room (Nat.le_of_ble_eq_true rfl)) dX3_takeOrWait_23 ⟨Nat.le_of_ble_eq_true rfl, Nat.le_of_ble_eq_true rfl⟩) (fun  u H locs hw hP hD hS hz => ?_)
    refine lv_bipush (v := (-2)) hx hb dX3_takeOrWait_26 (by decide) ?_
    have hEI : (va_up I r (va_up (va_up (I r) 7 ((V 7) i)) 8 (nI i)) : Nat → Nat → Int32) = va_up I r (if tc < mt then va_up (va_up (va_up (va_up (I r) 12 (nI (tc + 1))) 16 ((I r) 16 + nI 1)) 7 (V 7 i)) 8 (nI (i + 1)) else va_up (va_up (I r) 7 (V 7 i)) 8 (nI i)) := by rw [if_neg (by assumption)]
    have hEV : (V : Nat → Nat → Int32) = if tc < mt then va_up (va_up V (r + 1) (va_up (V (r + 1)) tc (nI i))) (r + 2) (va_up (V (r + 2)) tc (V 7 i)) else V := by rw [if_neg (by assumption)]
    have hP : va_P D vwCl (sW cI cZ cR ad na n (va_up I r (if tc < mt then va_up (va_up (va_up (va_up (I r) 12 (nI (tc + 1))) 16 ((I r) 16 + nI 1)) 7 (V 7 i)) 8 (nI (i + 1)) else va_up (va_up (I r) 7 (V 7 i)) 8 (nI i))) (if tc < mt then va_up (va_up V (r + 1) (va_up (V (r + 1)) tc (nI i))) (r + 2) (va_up (V (r + 2)) tc (V 7 i)) else V)) H := by rw [← hEI, ← hEV]; exact hP
    have hD : va_D A (sW cI cZ cR ad na n (va_up I r (if tc < mt then va_up (va_up (va_up (va_up (I r) 12 (nI (tc + 1))) 16 ((I r) 16 + nI 1)) 7 (V 7 i)) 8 (nI (i + 1)) else va_up (va_up (I r) 7 (V 7 i)) 8 (nI i))) (if tc < mt then va_up (va_up V (r + 1) (va_up (V (r + 1)) tc (nI i))) (r + 2) (va_up (V (r + 2)) tc (V 7 i)) else V)) := by rw [← hEI, ← hEV]; exact hD
    exact W.iret (v := (-2)) hx hb hr (fun t ht hW => ⟨⟨(-2), (), rfl, (by rw [if_neg (by assumption)]), by rw [ht]; exact hP, va_K.moved hW.alike hK, hD⟩, hS.F ht⟩) hS.2.2 dX3_takeOrWait_28
