theorem n_xor (a b : Nat) : nI a ^^^ nI b = nI (a ^^^ b) := by
  apply Int32.toBitVec_inj.mp
  show (BitVec.ofNat 32 a) ^^^ (BitVec.ofNat 32 b) = BitVec.ofNat 32 (a ^^^ b)
  apply BitVec.eq_of_toNat_eq
  simp [BitVec.toNat_ofNat, Nat.xor_mod_two_pow]
/-- the first place from i on, d places further at most, whose number isn't below t -/
def fRow (f : Nat → Int32) (t : Int32) : Nat → Nat → Nat
  | 0, i => i
  | d + 1, i => if f i < t then fRow f t d (i + 1) else i
theorem fRow_in (f : Nat → Int32) (t : Int32) : ∀ d i, i ≤ fRow f t d i ∧ fRow f t d i ≤ i + d
  | 0, i => ⟨Nat.le_refl _, Nat.le_refl _⟩
  | d + 1, i => by
    unfold fRow
    by_cases h : f i < t
    · rw [if_pos h]; have := fRow_in f t d (i + 1); omega
    · rw [if_neg h]; omega
theorem n_max {a T q : Nat} (ha : a < 2 ^ 30) (hT : T < 2 ^ 30) (hq : q < 2 ^ 30) (ha0 : 0 < a) : (if nI a < nI T - nI q + nI 1 then nI T - nI q + nI 1 else nI a) = nI (max a (T + 1 - q)) := by
  have h1 : (nI T - nI q + nI 1).toInt = (T : Int) - q + 1 := by
    rw [Int32.toInt_add, pk_sub_toInt hT hq, nI_toInt (by decide)]
    rw [Int.bmod_eq_of_le] <;> omega
  by_cases h : nI a < nI T - nI q + nI 1
  · rw [if_pos h]
    rw [Int32.lt_iff_toInt_lt, h1, nI_toInt (by omega)] at h
    apply Int32.toInt_inj.mp
    rw [h1, nI_toInt (by omega)]
    omega
  · rw [if_neg h]
    rw [Int32.lt_iff_toInt_lt, h1, nI_toInt (by omega)] at h
    congr 1
    omega

set_option maxHeartbeats 4000000 in
set_option maxRecDepth 100000 in
/-- Math.floorMod(i, 600), i below 600 -/
theorem c_J9_floorMod (l : Launch) (D : va_G) (tys : List (ClassId × FieldType)) (w : va_W) (E : State → Prop) (sz : Nat) (i : Nat) (hi : i < 600) : Met l yJ9_floorMod_7cf53 wsJ9_floorMod_7cf53 ({ frames := 0, cells := 0, slots := 0, locals := 0 } : Room) (va_Pc [.int (nI i), .int (nI 600)] (wPre D vwCl tys (w) sz E)) (va_Qi (fun (r : Int32) (u : Unit) => r = nI i) (wPost D vwCl tys (fun (u : Unit) => w) (va_A (w) sz)) (va_A (w) sz)) 0 0 (va_A (w) sz) := by
  refine va_MetF (cc := cJ9_floorMod_7cf53) (maxL := 3) (ret := (some .int)) (by decide +kernel) rfl ?_
  intro p e s m args below meth c s₁ B hml hv
  obtain ⟨rfl, hsz, hP, hK, hD0, hE⟩ := hv
  have hx := B.exec
  have hb := B.bytes
  have hr := B.returns
  have hts := atoms_spec (ws := wsJ9_floorMod_7cf53) B.pre
  have hown : s.vm.findClass RJ9 = some m.cls := findClass_of_methodNamed B.named
  have hlocks := B.notSynchronized
  subst hsz
  have hD := hD0.self (sz := s.heap.size)
  generalize hAe : va_A (w) s.heap.size = A at hD ⊢
  have hA : ∀ q : Nat, s.heap.size ≤ q → A q := fun q h => by rw [← hAe]; exact Or.inr h
  have hS : va_S A s.heap s.heap [] := va_S.rf
  have hl := lv_entry ([.int (nI i), .int (nI 600)]) (n := 3) (Nat.le_of_ble_eq_true rfl)
  rw [lg_entry_eq]
  generalize (lg_sl ([.int (nI i), .int (nI 600)]) ++ List.replicate (3 - (lg_sl ([.int (nI i), .int (nI 600)])).length) Slot.unset).toArray = ls at hl ⊢
  have hl : lv_has ls 3 [(0, .int (nI i)), (1, .int (nI 600))] := hl
  refine lv_iload_n hx hb dJ9_floorMod_7cf53_0 rfl (lv_at hl 0 rfl) ?_
  refine lv_iload_n hx hb dJ9_floorMod_7cf53_1 rfl (lv_at hl 1 rfl) ?_
  refine lv_irem hx hb dJ9_floorMod_7cf53_2 (nI_ne0 (by decide) (by decide)) ?_
  rw [show nI i - (nI i) / (nI 600) * (nI 600) = nI i from (by rw [pk_rem (by omega) (by decide) (by decide), Nat.mod_eq_of_lt hi])]
  refine lv_istore_n (lv' := [(2, .int (nI i)), (0, .int (nI i)), (1, .int (nI 600))]) hx hb dJ9_floorMod_7cf53_3 rfl hl (by decide) rfl (fun ls hl => ?_)
  refine lv_iload_n hx hb dJ9_floorMod_7cf53_4 rfl (lv_at hl 1 rfl) ?_
  refine lv_iload_n hx hb dJ9_floorMod_7cf53_5 rfl (lv_at hl 2 rfl) ?_
  refine lv_ixor hx hb dJ9_floorMod_7cf53_6 ?_
  refine lv_if_ge (tgt := 18) hx hb dJ9_floorMod_7cf53_7 (by decide) (fun c_1 => ?_) (fun c_1 => ?_)
  · refine lv_iload_n hx hb dJ9_floorMod_7cf53_18 rfl (lv_at hl 0 rfl) ?_
    exact W.iret (v := nI i) hx hb hr (fun t ht hW => ⟨⟨nI i, (), rfl, rfl, by rw [ht]; exact hP, va_K.moved hW.alike hK, hD⟩, hS.F ht⟩) hS.2.2 dJ9_floorMod_7cf53_19
  · exact absurd (by rw [n_xor]; exact nI_pos' (Nat.lt_of_lt_of_le (Nat.xor_lt_two_pow (n := 10) (by omega) (by decide)) (by decide))) c_1

set_option maxHeartbeats 4000000 in
set_option maxRecDepth 100000 in
/-- Log.placeOf(i), i below 600 -/
theorem c_X0_placeOf (l : Launch) (D : va_G) (tys : List (ClassId × FieldType)) (w : va_W) (E : State → Prop) (sz : Nat) (i : Nat) (hi : i < 600) : Met l yX0_placeOf wsX0_placeOf ({ frames := 1, cells := 0, slots := 0, locals := 22 } : Room) (va_Pc [.int (nI i)] (wPre D vwCl tys (w) sz E)) (va_Qi (fun (r : Int32) (u : Unit) => r = nI i) (wPost D vwCl tys (fun (u : Unit) => w) (va_A (w) sz)) (va_A (w) sz)) 0 0 (va_A (w) sz) := by
  refine Met.ofW (cc := cX0_placeOf) (maxL := 1) (ret := (some .int)) (by decide) rfl ?_
  intro p e s m args below meth c s₁ B hml hv
  obtain ⟨rfl, hsz, hP, hK, hD0, hE⟩ := hv
  have hx := B.exec
  have hb := B.bytes
  have hr := B.returns
  have hts := atoms_spec (ws := wsX0_placeOf) B.pre
  have hown : s.vm.findClass RX0 = some m.cls := findClass_of_methodNamed B.named
  have hlocks := B.notSynchronized
  subst hsz
  have hD := hD0.self (sz := s.heap.size)
  generalize hAe : va_A (w) s.heap.size = A at hD ⊢
  have hA : ∀ q : Nat, s.heap.size ≤ q → A q := fun q h => by rw [← hAe]; exact Or.inr h
  have hS : va_S A s.heap s.heap [] := va_S.rf
  have hl := lv_entry ([.int (nI i)]) (n := 1) (Nat.le_of_ble_eq_true rfl)
  rw [lg_entry_eq]
  generalize (lg_sl ([.int (nI i)]) ++ List.replicate (1 - (lg_sl ([.int (nI i)])).length) Slot.unset).toArray = ls at hl ⊢
  have hl : lv_has ls 1 [(0, .int (nI i))] := hl
  refine lv_iload_n hx hb dX0_placeOf_0 rfl (lv_at hl 0 rfl) ?_
  refine lv_sipush (v := nI 600) hx hb dX0_placeOf_1 (by decide) ?_
  refine w_calli (w := w) hS hA hK hD (va_runS (As := [.int (nI i), .int (nI 600)]) (rest := []) ⟨hx, hb, hml, hown, hts⟩ (c_J9_floorMod l D tys (w) wTrue s.heap.size i hi) (va_cwS 2 hts gX0_placeOf_J9_floorMod_7cf53 rfl rfl rfl (by decide +kernel) ⟨Nat.le_of_ble_eq_true rfl, Nat.le_of_ble_eq_true rfl⟩) (w_pre hP hK hD wEnv_true) rfl rfl hl.1 rfl (lv_room (Nat.le_of_ble_eq_true rfl)) dX0_placeOf_4 ⟨Nat.le_of_ble_eq_true rfl, Nat.le_of_ble_eq_true rfl⟩) (fun r_1 u H locs hw hP hD hS hz => ?_)
  rw [show r_1 = nI i from hw]
  exact W.iret (v := nI i) hx hb hr (fun t ht hW => ⟨⟨nI i, (), rfl, rfl, by rw [ht]; exact hP, va_K.moved hW.alike hK, hD⟩, hS.F ht⟩) hS.2.2 dX0_placeOf_7

set_option maxHeartbeats 4000000 in
set_option maxRecDepth 100000 in
/-- Log.transactionOf(i), i below 600 -/
theorem c_X0_transactionOf (l : Launch) (D : va_G) (cI cZ cR : ClassId) (ad : Nat → Nat) (na n : Nat) (I V : Nat → Nat → Int32) (sz : Nat) (hn : 11 ≤ n) (i : Nat) (hi : i < 600) : Met l yX0_transactionOf wsX0_transactionOf ({ frames := 2, cells := 0, slots := 0, locals := 42 } : Room) (va_Pc [.ref (ad 6), .int (nI i)] (wPre D vwCl (sT cI cZ cR) (sW cI cZ cR ad na n I V) sz wTrue)) (va_Qi (fun (r : Int32) (u : Unit) => r = V 7 i) (wPost D vwCl (sT cI cZ cR) (fun (u : Unit) => sW cI cZ cR ad na n I V) (va_A (sW cI cZ cR ad na n I V) sz)) (va_A (sW cI cZ cR ad na n I V) sz)) 0 0 (va_A (sW cI cZ cR ad na n I V) sz) := by
  refine Met.ofW (cc := cX0_transactionOf) (maxL := 2) (ret := (some .int)) (by decide) rfl ?_
  intro p e s m args below meth c s₁ B hml hv
  obtain ⟨rfl, hsz, hP, hK, hD0, hE⟩ := hv
  have hx := B.exec
  have hb := B.bytes
  have hr := B.returns
  have hts := atoms_spec (ws := wsX0_transactionOf) B.pre
  have hown : s.vm.findClass RX0 = some m.cls := findClass_of_methodNamed B.named
  have hlocks := B.notSynchronized
  subst hsz
  have hD := hD0.self (sz := s.heap.size)
  generalize hAe : va_A (sW cI cZ cR ad na n I V) s.heap.size = A at hD ⊢
  have hA : ∀ q : Nat, s.heap.size ≤ q → A q := fun q h => by rw [← hAe]; exact Or.inr h
  have hS : va_S A s.heap s.heap [] := va_S.rf
  have hinX0 : ∀ w ∈ wsX00, w ∈ wsX0_transactionOf := by decide +kernel
  have hl := lv_entry ([.ref (ad 6), .int (nI i)]) (n := 2) (Nat.le_of_ble_eq_true rfl)
  rw [lg_entry_eq]
  generalize (lg_sl ([.ref (ad 6), .int (nI i)]) ++ List.replicate (2 - (lg_sl ([.ref (ad 6), .int (nI i)])).length) Slot.unset).toArray = ls at hl ⊢
  have hl : lv_has ls 2 [(0, .ref (ad 6)), (1, .int (nI i))] := hl
  refine lv_aload_n hx hb dX0_transactionOf_0 rfl (lv_at hl 0 rfl) ?_
  refine wR_get (v := .ref (ad 7)) (C := RX0) (T := TX0) (N := 8) (ci := 0) hx hb hts hinX0 hown hK hP 6 (by omega) rfl rfl 0 (by decide) (hts (.fieldLink RX0 11 "ChangeStream$Log" "transactionsOfRows" "[I") (by decide +kernel)) rfl rfl dX0_transactionOf_1 ?_
  refine lv_iload_n hx hb dX0_transactionOf_4 rfl (lv_at hl 1 rfl) ?_
  refine w_calli (w := sW cI cZ cR ad na n I V) hS hA hK hD (va_runS (As := [.int (nI i)]) (rest := [.ref (ad 7)]) ⟨hx, hb, hml, hown, hts⟩ (c_X0_placeOf l D (sT cI cZ cR) (sW cI cZ cR ad na n I V) wTrue s.heap.size (i) (by omega)) (va_cwS 1 hts gX0_transactionOf_X0_placeOf rfl rfl rfl (by decide +kernel) ⟨Nat.le_of_ble_eq_true rfl, Nat.le_of_ble_eq_true rfl⟩) (w_pre hP hK hD wEnv_true) rfl rfl hl.1 rfl (lv_room (Nat.le_of_ble_eq_true rfl)) dX0_transactionOf_5 ⟨Nat.le_of_ble_eq_true rfl, Nat.le_of_ble_eq_true rfl⟩) (fun r_1 u H locs hw hP hD hS hz => ?_)
  rw [show r_1 = nI i from hw]
  refine wR_ild (f := V 7) (v := (V 7) i) hx hb hK hP 7 0 (by omega) rfl rfl (nx_in (k := i) rfl (by omega) (by decide)) (j := i) (nx_cl rfl (by omega)) rfl dX0_transactionOf_8 ?_
  exact W.iret (v := (V 7) i) hx hb hr (fun t ht hW => ⟨⟨(V 7) i, (), rfl, rfl, by rw [ht]; exact hP, va_K.moved hW.alike hK, hD⟩, hS.F ht⟩) hS.2.2 dX0_transactionOf_9

set_option maxHeartbeats 4000000 in
set_option maxRecDepth 100000 in
/-- Log.factOf(i), i below 600 -/
theorem c_X0_factOf (l : Launch) (D : va_G) (cI cZ cR : ClassId) (ad : Nat → Nat) (na n : Nat) (I V : Nat → Nat → Int32) (sz : Nat) (hn : 11 ≤ n) (i : Nat) (hi : i < 600) : Met l yX0_factOf wsX0_factOf ({ frames := 2, cells := 0, slots := 0, locals := 42 } : Room) (va_Pc [.ref (ad 6), .int (nI i)] (wPre D vwCl (sT cI cZ cR) (sW cI cZ cR ad na n I V) sz wTrue)) (va_Qi (fun (r : Int32) (u : Unit) => r = V 8 i) (wPost D vwCl (sT cI cZ cR) (fun (u : Unit) => sW cI cZ cR ad na n I V) (va_A (sW cI cZ cR ad na n I V) sz)) (va_A (sW cI cZ cR ad na n I V) sz)) 0 0 (va_A (sW cI cZ cR ad na n I V) sz) := by
  refine Met.ofW (cc := cX0_factOf) (maxL := 2) (ret := (some .int)) (by decide) rfl ?_
  intro p e s m args below meth c s₁ B hml hv
  obtain ⟨rfl, hsz, hP, hK, hD0, hE⟩ := hv
  have hx := B.exec
  have hb := B.bytes
  have hr := B.returns
  have hts := atoms_spec (ws := wsX0_factOf) B.pre
  have hown : s.vm.findClass RX0 = some m.cls := findClass_of_methodNamed B.named
  have hlocks := B.notSynchronized
  subst hsz
  have hD := hD0.self (sz := s.heap.size)
  generalize hAe : va_A (sW cI cZ cR ad na n I V) s.heap.size = A at hD ⊢
  have hA : ∀ q : Nat, s.heap.size ≤ q → A q := fun q h => by rw [← hAe]; exact Or.inr h
  have hS : va_S A s.heap s.heap [] := va_S.rf
  have hinX0 : ∀ w ∈ wsX00, w ∈ wsX0_factOf := by decide +kernel
  have hl := lv_entry ([.ref (ad 6), .int (nI i)]) (n := 2) (Nat.le_of_ble_eq_true rfl)
  rw [lg_entry_eq]
  generalize (lg_sl ([.ref (ad 6), .int (nI i)]) ++ List.replicate (2 - (lg_sl ([.ref (ad 6), .int (nI i)])).length) Slot.unset).toArray = ls at hl ⊢
  have hl : lv_has ls 2 [(0, .ref (ad 6)), (1, .int (nI i))] := hl
  refine lv_aload_n hx hb dX0_factOf_0 rfl (lv_at hl 0 rfl) ?_
  refine wR_get (v := .ref (ad 8)) (C := RX0) (T := TX0) (N := 8) (ci := 0) hx hb hts hinX0 hown hK hP 6 (by omega) rfl rfl 1 (by decide) (hts (.fieldLink RX0 15 "ChangeStream$Log" "factsOfRows" "[I") (by decide +kernel)) rfl rfl dX0_factOf_1 ?_
  refine lv_iload_n hx hb dX0_factOf_4 rfl (lv_at hl 1 rfl) ?_
  refine w_calli (w := sW cI cZ cR ad na n I V) hS hA hK hD (va_runS (As := [.int (nI i)]) (rest := [.ref (ad 8)]) ⟨hx, hb, hml, hown, hts⟩ (c_X0_placeOf l D (sT cI cZ cR) (sW cI cZ cR ad na n I V) wTrue s.heap.size (i) (by omega)) (va_cwS 1 hts gX0_factOf_X0_placeOf rfl rfl rfl (by decide +kernel) ⟨Nat.le_of_ble_eq_true rfl, Nat.le_of_ble_eq_true rfl⟩) (w_pre hP hK hD wEnv_true) rfl rfl hl.1 rfl (lv_room (Nat.le_of_ble_eq_true rfl)) dX0_factOf_5 ⟨Nat.le_of_ble_eq_true rfl, Nat.le_of_ble_eq_true rfl⟩) (fun r_1 u H locs hw hP hD hS hz => ?_)
  rw [show r_1 = nI i from hw]
  refine wR_ild (f := V 8) (v := (V 8) i) hx hb hK hP 8 0 (by omega) rfl rfl (nx_in (k := i) rfl (by omega) (by decide)) (j := i) (nx_cl rfl (by omega)) rfl dX0_factOf_8 ?_
  exact W.iret (v := (V 8) i) hx hb hr (fun t ht hW => ⟨⟨(V 8) i, (), rfl, rfl, by rw [ht]; exact hP, va_K.moved hW.alike hK, hD⟩, hS.F ht⟩) hS.2.2 dX0_factOf_9

set_option maxHeartbeats 4000000 in
set_option maxRecDepth 100000 in
/-- Log.comesIn(i), i below 600 -/
theorem c_X0_comesIn (l : Launch) (D : va_G) (cI cZ cR : ClassId) (ad : Nat → Nat) (na n : Nat) (I V : Nat → Nat → Int32) (sz : Nat) (hn : 11 ≤ n) (i : Nat) (hi : i < 600) (h01 : ∀ j, V 9 j = 0 ∨ V 9 j = 1) : Met l yX0_comesIn wsX0_comesIn ({ frames := 2, cells := 0, slots := 0, locals := 42 } : Room) (va_Pc [.ref (ad 6), .int (nI i)] (wPre D vwCl (sT cI cZ cR) (sW cI cZ cR ad na n I V) sz wTrue)) (va_Qi (fun (r : Int32) (u : Unit) => r = V 9 i) (wPost D vwCl (sT cI cZ cR) (fun (u : Unit) => sW cI cZ cR ad na n I V) (va_A (sW cI cZ cR ad na n I V) sz)) (va_A (sW cI cZ cR ad na n I V) sz)) 0 0 (va_A (sW cI cZ cR ad na n I V) sz) := by
  refine Met.ofW (cc := cX0_comesIn) (maxL := 2) (ret := (some .boolean)) (by decide) rfl ?_
  intro p e s m args below meth c s₁ B hml hv
  obtain ⟨rfl, hsz, hP, hK, hD0, hE⟩ := hv
  have hx := B.exec
  have hb := B.bytes
  have hr := B.returns
  have hts := atoms_spec (ws := wsX0_comesIn) B.pre
  have hown : s.vm.findClass RX0 = some m.cls := findClass_of_methodNamed B.named
  have hlocks := B.notSynchronized
  subst hsz
  have hD := hD0.self (sz := s.heap.size)
  generalize hAe : va_A (sW cI cZ cR ad na n I V) s.heap.size = A at hD ⊢
  have hA : ∀ q : Nat, s.heap.size ≤ q → A q := fun q h => by rw [← hAe]; exact Or.inr h
  have hS : va_S A s.heap s.heap [] := va_S.rf
  have hinX0 : ∀ w ∈ wsX00, w ∈ wsX0_comesIn := by decide +kernel
  have hl := lv_entry ([.ref (ad 6), .int (nI i)]) (n := 2) (Nat.le_of_ble_eq_true rfl)
  rw [lg_entry_eq]
  generalize (lg_sl ([.ref (ad 6), .int (nI i)]) ++ List.replicate (2 - (lg_sl ([.ref (ad 6), .int (nI i)])).length) Slot.unset).toArray = ls at hl ⊢
  have hl : lv_has ls 2 [(0, .ref (ad 6)), (1, .int (nI i))] := hl
  refine lv_aload_n hx hb dX0_comesIn_0 rfl (lv_at hl 0 rfl) ?_
  refine wR_get (v := .ref (ad 9)) (C := RX0) (T := TX0) (N := 8) (ci := 0) hx hb hts hinX0 hown hK hP 6 (by omega) rfl rfl 2 (by decide) (hts (.fieldLink RX0 18 "ChangeStream$Log" "comingRows" "[Z") (by decide +kernel)) rfl rfl dX0_comesIn_1 ?_
  refine lv_iload_n hx hb dX0_comesIn_4 rfl (lv_at hl 1 rfl) ?_
  refine w_calli (w := sW cI cZ cR ad na n I V) hS hA hK hD (va_runS (As := [.int (nI i)]) (rest := [.ref (ad 9)]) ⟨hx, hb, hml, hown, hts⟩ (c_X0_placeOf l D (sT cI cZ cR) (sW cI cZ cR ad na n I V) wTrue s.heap.size (i) (by omega)) (va_cwS 1 hts gX0_comesIn_X0_placeOf rfl rfl rfl (by decide +kernel) ⟨Nat.le_of_ble_eq_true rfl, Nat.le_of_ble_eq_true rfl⟩) (w_pre hP hK hD wEnv_true) rfl rfl hl.1 rfl (lv_room (Nat.le_of_ble_eq_true rfl)) dX0_comesIn_5 ⟨Nat.le_of_ble_eq_true rfl, Nat.le_of_ble_eq_true rfl⟩) (fun r_1 u H locs hw hP hD hS hz => ?_)
  rw [show r_1 = nI i from hw]
  refine wR_zld (f := V 9) (v := (V 9) i) hx hb hK hP 9 1 (by omega) rfl rfl (nx_in (k := i) rfl (by omega) (by decide)) (j := i) (nx_cl rfl (by omega)) rfl dX0_comesIn_8 ?_
  exact W.zret (v := (V 9) i) hx hb hr (nar_z (h01 i)) (fun t ht hW => ⟨⟨(V 9) i, (), rfl, rfl, by rw [ht]; exact hP, va_K.moved hW.alike hK, hD⟩, hS.F ht⟩) hS.2.2 dX0_comesIn_9

set_option maxHeartbeats 4000000 in
set_option maxRecDepth 100000 in
theorem lp_X0_firstRowFrom {p : Program} (l : Launch) {e : Env} {s : State} {m : MethodId} {args : Array Value} {below : List Frame} {meth : Method} {c : Code} {Q : State → Prop} {A : Nat → Prop} (D : va_G) (cI cZ cR : ClassId) (ad : Nat → Nat) (na n : Nat) (I V : Nat → Nat → Int32) (x : Int32) (rc R : Nat) (hx : p.tables.exec = Jvm.exec) (hb : c.code = cX0_firstRowFrom) (hml : c.maxLocals = 3) (hts : ∀ w ∈ wsX0_firstRowFrom, w.before args s = true) (hown : s.vm.findClass RX0 = some m.cls) (hK : va_K D vwCl (sT cI cZ cR) s) (hA : ∀ q : Nat, s.heap.size ≤ q → A q) (hn : 11 ≤ n) (hrc : I 6 6 = nI rc) (hr6 : rc ≤ 600)  (k1 : ∀ (H : Heap) (locs : List Loc) (ls : Array Slot), rc = R → va_P D vwCl (sW cI cZ cR ad na n I V) H → va_D A (sW cI cZ cR ad na n I V) → va_S A s.heap H locs → lv_has ls 3 [(0, .ref (ad 6)), (1, .int x)] → W p l e ({ frames := 3, cells := 0, slots := 0, locals := 63 } : Room) s m args below meth c H locs 0 0 Q (F0 m 30 ls [])) (k2 : ∀ (H : Heap) (locs : List Loc) (ls : Array Slot), va_P D vwCl (sW cI cZ cR ad na n I V) H → va_D A (sW cI cZ cR ad na n I V) → va_S A s.heap H locs → lv_has ls 3 [(0, .ref (ad 6)), (1, .int x), (2, .int (nI R))] → W p l e ({ frames := 3, cells := 0, slots := 0, locals := 63 } : Room) s m args below meth c H locs 0 0 Q (F0 m 22 ls [])) : ∀ (fuel : Nat) (i : Nat) (H : Heap) (locs : List Loc) (ls : Array Slot), i ≤ rc → fRow (V 7) x (rc - i) i = R → rc - i < fuel → va_P D vwCl (sW cI cZ cR ad na n I V) H → va_D A (sW cI cZ cR ad na n I V) → va_S A s.heap H locs → lv_has ls 3 [(0, .ref (ad 6)), (1, .int x), (2, .int (nI i))] → W p l e ({ frames := 3, cells := 0, slots := 0, locals := 63 } : Room) s m args below meth c H locs 0 0 Q (F0 m 5 ls []) := by
  intro fuel
  induction fuel with
  | zero =>
    intro i H locs ls hi hR hfu
    exact absurd hfu (Nat.not_lt_zero _)
  | succ fuel ih =>
    intro i H locs ls hi hR hfu hP hD hS hl
    have hinX0 : ∀ w ∈ wsX00, w ∈ wsX0_firstRowFrom := by decide +kernel
    refine lv_iload_n hx hb dX0_firstRowFrom_5 rfl (lv_at hl 2 rfl) ?_
    refine lv_aload_n hx hb dX0_firstRowFrom_6 rfl (lv_at hl 0 rfl) ?_
    refine wR_get (v := .int (nI rc)) (C := RX0) (T := TX0) (N := 8) (ci := 0) hx hb hts hinX0 hown hK hP 6 (by omega) rfl rfl 6 (by decide) (hts (.fieldLink RX0 32 "ChangeStream$Log" "rowCount" "I") (by decide +kernel)) rfl (congrArg (fun z => some (Value.int z)) hrc) dX0_firstRowFrom_7 ?_
    refine lv_icmp_ge (tgt := 30) hx hb dX0_firstRowFrom_10 (by decide) (fun c_1 => ?_) (fun c_1 => ?_)
    · have c_1 : rc ≤ i := (nI_leI (a := rc) (b := i) (by omega) (by omega)).mp c_1
      have hz : rc = R := by rw [← hR, show rc - i = 0 by omega]; show rc = i; omega
      exact k1  H locs ls hz hP hD hS (lv_sub hl [0, 1] rfl)
    · have c_1 : ¬ (rc ≤ i) := fun h9 => c_1 ((nI_leI (a := rc) (b := i) (by omega) (by omega)).mpr h9)
      refine lv_aload_n hx hb dX0_firstRowFrom_13 rfl (lv_at hl 0 rfl) ?_
      refine lv_iload_n hx hb dX0_firstRowFrom_14 rfl (lv_at hl 2 rfl) ?_
      refine w_calli (w := sW cI cZ cR ad na n I V) hS hA hK hD (va_runV (As := [.int (nI i)]) (rest := []) ⟨hx, hb, hml, hown, hts⟩ (c_X0_transactionOf l D cI cZ cR ad na n I V H.size hn (i) (by omega)) (cwV 1 hts gX0_firstRowFrom_X0_transactionOf rfl rfl rfl (by decide +kernel) ⟨Nat.le_of_ble_eq_true rfl, Nat.le_of_ble_eq_true rfl⟩) ⟨(w_pre hP hK hD wEnv_true).1, wR_recv (C := RX0) (T := TX0) (N := 8) hK hP (ci := 0) rfl 6 (by omega) rfl, (w_pre hP hK hD wEnv_true).2⟩ rfl rfl hl.1 rfl (lv_room (Nat.le_of_ble_eq_true rfl)) dX0_firstRowFrom_15 ⟨Nat.le_of_ble_eq_true rfl, Nat.le_of_ble_eq_true rfl⟩) (fun r_2 u H locs hw hP hD hS hz => ?_)
      rw [show r_2 = (V 7) i from hw]
      refine lv_iload_n hx hb dX0_firstRowFrom_18 rfl (lv_at hl 1 rfl) ?_
      refine lv_icmp_lt (tgt := 24) hx hb dX0_firstRowFrom_19 (by decide) (fun c_3 => ?_) (fun c_3 => ?_)
      · have hR2 : fRow (V 7) x (rc - (i + 1)) (i + 1) = R := by rw [← hR, show rc - i = (rc - (i + 1)) + 1 by omega]; show _ = if V 7 i < x then _ else i; rw [if_pos c_3]
        refine lv_iinc (v := nI (i + 1)) (lv' := [(2, .int (nI (i + 1))), (0, .ref (ad 6)), (1, .int x)]) hx hb dX0_firstRowFrom_24 hl (k := 2) rfl (nI_add _ 1) (by decide) rfl (fun ls hl => ?_)
        refine lv_goto (tgt := 5) hx hb dX0_firstRowFrom_27 (by decide) ?_
        exact ih (i + 1) H locs ls (by omega) hR2 (by omega) hP hD hS (lv_sub hl [1, 2, 0] rfl)
      · have hR2 : i = R := by rw [← hR, show rc - i = (rc - (i + 1)) + 1 by omega]; show _ = if V 7 i < x then _ else i; rw [if_neg c_3]
        subst hR2
        exact k2  H locs ls  hP hD hS (lv_sub hl [0, 1, 2] rfl)

set_option maxHeartbeats 4000000 in
set_option maxRecDepth 100000 in
/-- Log.firstRowFrom(t) -/
theorem c_X0_firstRowFrom (l : Launch) (D : va_G) (cI cZ cR : ClassId) (ad : Nat → Nat) (na n : Nat) (I V : Nat → Nat → Int32) (sz : Nat) (hn : 11 ≤ n) (x : Int32) (rc fk : Nat) (hrc : I 6 6 = nI rc) (hfk : I 6 7 = nI fk) (hle : fk ≤ rc) (hr6 : rc ≤ 600) : Met l yX0_firstRowFrom wsX0_firstRowFrom ({ frames := 3, cells := 0, slots := 0, locals := 63 } : Room) (va_Pc [.ref (ad 6), .int x] (wPre D vwCl (sT cI cZ cR) (sW cI cZ cR ad na n I V) sz wTrue)) (va_Qi (fun (r : Int32) (u : Unit) => r = nI (fRow (V 7) x (rc - fk) fk)) (wPost D vwCl (sT cI cZ cR) (fun (u : Unit) => sW cI cZ cR ad na n I V) (va_A (sW cI cZ cR ad na n I V) sz)) (va_A (sW cI cZ cR ad na n I V) sz)) 0 0 (va_A (sW cI cZ cR ad na n I V) sz) := by
  refine Met.ofW (cc := cX0_firstRowFrom) (maxL := 3) (ret := (some .int)) (by decide) rfl ?_
  intro p e s m args below meth c s₁ B hml hv
  obtain ⟨rfl, hsz, hP, hK, hD0, hE⟩ := hv
  have hx := B.exec
  have hb := B.bytes
  have hr := B.returns
  have hts := atoms_spec (ws := wsX0_firstRowFrom) B.pre
  have hown : s.vm.findClass RX0 = some m.cls := findClass_of_methodNamed B.named
  have hlocks := B.notSynchronized
  subst hsz
  have hD := hD0.self (sz := s.heap.size)
  generalize hAe : va_A (sW cI cZ cR ad na n I V) s.heap.size = A at hD ⊢
  have hA : ∀ q : Nat, s.heap.size ≤ q → A q := fun q h => by rw [← hAe]; exact Or.inr h
  have hS : va_S A s.heap s.heap [] := va_S.rf
  have hinX0 : ∀ w ∈ wsX00, w ∈ wsX0_firstRowFrom := by decide +kernel
  have hl := lv_entry ([.ref (ad 6), .int x]) (n := 3) (Nat.le_of_ble_eq_true rfl)
  rw [lg_entry_eq]
  generalize (lg_sl ([.ref (ad 6), .int x]) ++ List.replicate (3 - (lg_sl ([.ref (ad 6), .int x])).length) Slot.unset).toArray = ls at hl ⊢
  have hl : lv_has ls 3 [(0, .ref (ad 6)), (1, .int x)] := hl
  refine lv_aload_n hx hb dX0_firstRowFrom_0 rfl (lv_at hl 0 rfl) ?_
  refine wR_get (v := .int (nI fk)) (C := RX0) (T := TX0) (N := 8) (ci := 0) hx hb hts hinX0 hown hK hP 6 (by omega) rfl rfl 7 (by decide) (hts (.fieldLink RX0 35 "ChangeStream$Log" "firstKept" "I") (by decide +kernel)) rfl (congrArg (fun z => some (Value.int z)) hfk) dX0_firstRowFrom_1 ?_
  refine lv_istore_n (lv' := [(2, .int (nI fk)), (0, .ref (ad 6)), (1, .int x)]) hx hb dX0_firstRowFrom_4 rfl hl (by decide) rfl (fun ls hl => ?_)
  refine lp_X0_firstRowFrom l D cI cZ cR ad na n I V x rc (fRow (V 7) x (rc - fk) fk) hx hb hml hts hown hK hA hn hrc hr6 (fun  H locs ls hz hP hD hS hl => ?_) (fun  H locs ls  hP hD hS hl => ?_) (rc - fk + 1) fk s.heap [] ls hle rfl (by omega) hP hD hS (lv_sub hl [1, 2, 0] rfl)
  · refine lv_aload_n hx hb dX0_firstRowFrom_30 rfl (lv_at hl 0 rfl) ?_
    refine wR_get (v := .int (nI rc)) (C := RX0) (T := TX0) (N := 8) (ci := 0) hx hb hts hinX0 hown hK hP 6 (by omega) rfl rfl 6 (by decide) (hts (.fieldLink RX0 32 "ChangeStream$Log" "rowCount" "I") (by decide +kernel)) rfl (congrArg (fun z => some (Value.int z)) hrc) dX0_firstRowFrom_31 ?_
    exact W.iret (v := nI rc) hx hb hr (fun t ht hW => ⟨⟨nI rc, (), rfl, (congrArg nI hz), by rw [ht]; exact hP, va_K.moved hW.alike hK, hD⟩, hS.F ht⟩) hS.2.2 dX0_firstRowFrom_34
  · refine lv_iload_n hx hb dX0_firstRowFrom_22 rfl (lv_at hl 2 rfl) ?_
    exact W.iret (v := nI (fRow (V 7) x (rc - fk) fk)) hx hb hr (fun t ht hW => ⟨⟨nI (fRow (V 7) x (rc - fk) fk), (), rfl, rfl, by rw [ht]; exact hP, va_K.moved hW.alike hK, hD⟩, hS.F ht⟩) hS.2.2 dX0_firstRowFrom_23

set_option maxHeartbeats 4000000 in
set_option maxRecDepth 100000 in
/-- Log.forgetOlder() -/
theorem c_X0_forgetOlder (l : Launch) (D : va_G) (cI cZ cR : ClassId) (ad : Nat → Nat) (na n : Nat) (I V : Nat → Nat → Int32) (sz : Nat) (hn : 11 ≤ n) (kp T lst rc fk : Nat) (hkp : I 6 3 = nI kp) (hT : I 6 4 = nI T) (hls : I 6 5 = nI lst) (hrc : I 6 6 = nI rc) (hfk : I 6 7 = nI fk) (hle : fk ≤ rc) (hr6 : rc ≤ 600) (hkp1 : kp ≤ 30) (hT1 : T ≤ 100000) (hls0 : 0 < lst) (hls1 : lst ≤ 100000) : Met l yX0_forgetOlder wsX0_forgetOlder ({ frames := 4, cells := 0, slots := 0, locals := 85 } : Room) (va_Pc [.ref (ad 6)] (wPre D vwCl (sT cI cZ cR) (sW cI cZ cR ad na n I V) sz wTrue)) (va_Qv (fun (u : Unit) => True) (wPost D vwCl (sT cI cZ cR) (fun (u : Unit) => sW cI cZ cR ad na n (va_up I 6 (va_up (va_up (I 6) 5 (nI (max lst (T + 1 - kp)))) 7 (nI (fRow (V 7) (nI (max lst (T + 1 - kp))) (rc - fk) fk)))) V) (va_A (sW cI cZ cR ad na n I V) sz)) (va_A (sW cI cZ cR ad na n I V) sz)) 0 0 (va_A (sW cI cZ cR ad na n I V) sz) := by
  refine Met.ofW (cc := cX0_forgetOlder) (maxL := 1) (ret := none) (by decide) rfl ?_
  intro p e s m args below meth c s₁ B hml hv
  obtain ⟨rfl, hsz, hP, hK, hD0, hE⟩ := hv
  have hx := B.exec
  have hb := B.bytes
  have hr := B.returns
  have hts := atoms_spec (ws := wsX0_forgetOlder) B.pre
  have hown : s.vm.findClass RX0 = some m.cls := findClass_of_methodNamed B.named
  have hlocks := B.notSynchronized
  subst hsz
  have hD := hD0.self (sz := s.heap.size)
  generalize hAe : va_A (sW cI cZ cR ad na n I V) s.heap.size = A at hD ⊢
  have hA : ∀ q : Nat, s.heap.size ≤ q → A q := fun q h => by rw [← hAe]; exact Or.inr h
  have hS : va_S A s.heap s.heap [] := va_S.rf
  have hinX0 : ∀ w ∈ wsX00, w ∈ wsX0_forgetOlder := by decide +kernel
  have hl := lv_entry ([.ref (ad 6)]) (n := 1) (Nat.le_of_ble_eq_true rfl)
  rw [lg_entry_eq]
  generalize (lg_sl ([.ref (ad 6)]) ++ List.replicate (1 - (lg_sl ([.ref (ad 6)])).length) Slot.unset).toArray = ls at hl ⊢
  have hl : lv_has ls 1 [(0, .ref (ad 6))] := hl
  refine lv_aload_n hx hb dX0_forgetOlder_0 rfl (lv_at hl 0 rfl) ?_
  refine lv_aload_n hx hb dX0_forgetOlder_1 rfl (lv_at hl 0 rfl) ?_
  refine wR_get (v := .int (nI lst)) (C := RX0) (T := TX0) (N := 8) (ci := 0) hx hb hts hinX0 hown hK hP 6 (by omega) rfl rfl 5 (by decide) (hts (.fieldLink RX0 29 "ChangeStream$Log" "least" "I") (by decide +kernel)) rfl (congrArg (fun z => some (Value.int z)) hls) dX0_forgetOlder_2 ?_
  refine lv_aload_n hx hb dX0_forgetOlder_5 rfl (lv_at hl 0 rfl) ?_
  refine wR_get (v := .int (nI T)) (C := RX0) (T := TX0) (N := 8) (ci := 0) hx hb hts hinX0 hown hK hP 6 (by omega) rfl rfl 4 (by decide) (hts (.fieldLink RX0 26 "ChangeStream$Log" "transactions" "I") (by decide +kernel)) rfl (congrArg (fun z => some (Value.int z)) hT) dX0_forgetOlder_6 ?_
  refine lv_aload_n hx hb dX0_forgetOlder_9 rfl (lv_at hl 0 rfl) ?_
  refine wR_get (v := .int (nI kp)) (C := RX0) (T := TX0) (N := 8) (ci := 0) hx hb hts hinX0 hown hK hP 6 (by omega) rfl rfl 3 (by decide) (hts (.fieldLink RX0 22 "ChangeStream$Log" "kept" "I") (by decide +kernel)) rfl (congrArg (fun z => some (Value.int z)) hkp) dX0_forgetOlder_10 ?_
  refine lv_isub hx hb dX0_forgetOlder_13 ?_
  refine lv_iconst (v := nI 1) hx hb dX0_forgetOlder_14 (by decide) ?_
  refine lv_iadd hx hb dX0_forgetOlder_15 ?_
  refine va_mmax hx hb (hml.trans hl.1.symm) hown (hts (.methodLink RX0 45 Lib.Math.max.name) (by decide +kernel)) (hts (.static Lib.Math.max.name) (by decide +kernel)) (hts (.initialized "java/lang/Math") (by decide +kernel)) (hts (.code Lib.Math.max.name Lib.Math.max.code 2 (some .int)) (by decide +kernel)) (Nat.le_of_ble_eq_true rfl) (Nat.le_of_ble_eq_true rfl) (Nat.zero_le _) (Nat.zero_le _) dX0_forgetOlder_16 ?_
  rw [show (if nI lst < ((nI T) - (nI kp)) + (nI 1) then ((nI T) - (nI kp)) + (nI 1) else nI lst) = nI (max lst (T + 1 - kp)) from n_max (by omega) (by omega) (by omega) hls0]
  refine wR_put (C := RX0) (T := TX0) (N := 8) (ci := 0) hx hb hts hinX0 tyX0 tyX0_ok nmX0 hown hK hP hD hS 6 (by omega) rfl rfl 5 (by decide) (hts (.fieldLink RX0 29 "ChangeStream$Log" "least" "I") (by decide +kernel)) rfl rfl (by decide +kernel) (by simp) (va_up (I 6) 5 (nI (max lst (T + 1 - kp)))) rfl dX0_forgetOlder_19 (fun H locs hP hD hS => ?_)
  refine lv_aload_n hx hb dX0_forgetOlder_22 rfl (lv_at hl 0 rfl) ?_
  refine lv_aload_n hx hb dX0_forgetOlder_23 rfl (lv_at hl 0 rfl) ?_
  refine lv_aload_n hx hb dX0_forgetOlder_24 rfl (lv_at hl 0 rfl) ?_
  refine wR_get (v := .int (nI (max lst (T + 1 - kp)))) (C := RX0) (T := TX0) (N := 8) (ci := 0) hx hb hts hinX0 hown hK hP 6 (by omega) rfl rfl 5 (by decide) (hts (.fieldLink RX0 29 "ChangeStream$Log" "least" "I") (by decide +kernel)) rfl rfl dX0_forgetOlder_25 ?_
  refine w_calli (w := sW cI cZ cR ad na n (va_up I 6 (va_up (I 6) 5 (nI (max lst (T + 1 - kp))))) V) hS hA hK hD (va_runV (As := [.int (nI (max lst (T + 1 - kp)))]) (rest := [.ref (ad 6)]) ⟨hx, hb, hml, hown, hts⟩ (c_X0_firstRowFrom l D cI cZ cR ad na n (va_up I 6 (va_up (I 6) 5 (nI (max lst (T + 1 - kp))))) V H.size hn (nI (max lst (T + 1 - kp))) rc fk hrc hfk hle hr6) (cwV 1 hts gX0_forgetOlder_X0_firstRowFrom rfl rfl rfl (by decide +kernel) ⟨Nat.le_of_ble_eq_true rfl, Nat.le_of_ble_eq_true rfl⟩) ⟨(w_pre hP hK hD wEnv_true).1, wR_recv (C := RX0) (T := TX0) (N := 8) hK hP (ci := 0) rfl 6 (by omega) rfl, (w_pre hP hK hD wEnv_true).2⟩ rfl rfl hl.1 rfl (lv_room (Nat.le_of_ble_eq_true rfl)) dX0_forgetOlder_28 ⟨Nat.le_of_ble_eq_true rfl, Nat.le_of_ble_eq_true rfl⟩) (fun r_1 u H locs hw hP hD hS hz => ?_)
  rw [show r_1 = nI (fRow (V 7) (nI (max lst (T + 1 - kp))) (rc - fk) fk) from hw]
  refine wR_put (C := RX0) (T := TX0) (N := 8) (ci := 0) hx hb hts hinX0 tyX0 tyX0_ok nmX0 hown hK hP hD hS 6 (by omega) rfl rfl 7 (by decide) (hts (.fieldLink RX0 35 "ChangeStream$Log" "firstKept" "I") (by decide +kernel)) rfl rfl (by decide +kernel) (by simp) (va_up (va_up (I 6) 5 (nI (max lst (T + 1 - kp)))) 7 (nI (fRow (V 7) (nI (max lst (T + 1 - kp))) (rc - fk) fk))) rfl dX0_forgetOlder_31 (fun H locs hP hD hS => ?_)
  rw [bx_uu] at hP hD
  exact W.vret hx hb hr (fun t ht hW => ⟨⟨(), rfl, trivial, by rw [ht]; exact hP, va_K.moved hW.alike hK, hD⟩, hS.F ht⟩) hS.2.2 dX0_forgetOlder_34

set_option maxHeartbeats 4000000 in
set_option maxRecDepth 100000 in
/-- Log.beginTransaction() -/
theorem c_X0_beginTransaction (l : Launch) (D : va_G) (cI cZ cR : ClassId) (ad : Nat → Nat) (na n : Nat) (I V : Nat → Nat → Int32) (sz : Nat) (hn : 11 ≤ n) (kp T lst rc fk : Nat) (hkp : I 6 3 = nI kp) (hT : I 6 4 = nI T) (hls : I 6 5 = nI lst) (hrc : I 6 6 = nI rc) (hfk : I 6 7 = nI fk) (hle : fk ≤ rc) (hr6 : rc ≤ 600) (hkp1 : kp ≤ 30) (hT1 : T < 100000) (hls0 : 0 < lst) (hls1 : lst ≤ 100000) : Met l yX0_beginTransaction wsX0_beginTransaction ({ frames := 5, cells := 0, slots := 0, locals := 105 } : Room) (va_Pc [.ref (ad 6)] (wPre D vwCl (sT cI cZ cR) (sW cI cZ cR ad na n I V) sz wTrue)) (va_Qv (fun (u : Unit) => True) (wPost D vwCl (sT cI cZ cR) (fun (u : Unit) => sW cI cZ cR ad na n (va_up I 6 (va_up (va_up (va_up (I 6) 4 (nI (T + 1))) 5 (nI (max lst (T + 1 + 1 - kp)))) 7 (nI (fRow (V 7) (nI (max lst (T + 1 + 1 - kp))) (rc - fk) fk)))) V) (va_A (sW cI cZ cR ad na n I V) sz)) (va_A (sW cI cZ cR ad na n I V) sz)) 0 0 (va_A (sW cI cZ cR ad na n I V) sz) := by
  refine Met.ofW (cc := cX0_beginTransaction) (maxL := 1) (ret := none) (by decide) rfl ?_
  intro p e s m args below meth c s₁ B hml hv
  obtain ⟨rfl, hsz, hP, hK, hD0, hE⟩ := hv
  have hx := B.exec
  have hb := B.bytes
  have hr := B.returns
  have hts := atoms_spec (ws := wsX0_beginTransaction) B.pre
  have hown : s.vm.findClass RX0 = some m.cls := findClass_of_methodNamed B.named
  have hlocks := B.notSynchronized
  subst hsz
  have hD := hD0.self (sz := s.heap.size)
  generalize hAe : va_A (sW cI cZ cR ad na n I V) s.heap.size = A at hD ⊢
  have hA : ∀ q : Nat, s.heap.size ≤ q → A q := fun q h => by rw [← hAe]; exact Or.inr h
  have hS : va_S A s.heap s.heap [] := va_S.rf
  have hinX0 : ∀ w ∈ wsX00, w ∈ wsX0_beginTransaction := by decide +kernel
  have hl := lv_entry ([.ref (ad 6)]) (n := 1) (Nat.le_of_ble_eq_true rfl)
  rw [lg_entry_eq]
  generalize (lg_sl ([.ref (ad 6)]) ++ List.replicate (1 - (lg_sl ([.ref (ad 6)])).length) Slot.unset).toArray = ls at hl ⊢
  have hl : lv_has ls 1 [(0, .ref (ad 6))] := hl
  refine lv_aload_n hx hb dX0_beginTransaction_0 rfl (lv_at hl 0 rfl) ?_
  refine lv_dup hx hb dX0_beginTransaction_1 rfl ?_
  refine wR_get (v := .int (nI T)) (C := RX0) (T := TX0) (N := 8) (ci := 0) hx hb hts hinX0 hown hK hP 6 (by omega) rfl rfl 4 (by decide) (hts (.fieldLink RX0 26 "ChangeStream$Log" "transactions" "I") (by decide +kernel)) rfl (congrArg (fun z => some (Value.int z)) hT) dX0_beginTransaction_2 ?_
  refine lv_iconst (v := nI 1) hx hb dX0_beginTransaction_5 (by decide) ?_
  refine lv_iadd hx hb dX0_beginTransaction_6 ?_
  rw [nI_add]
  refine wR_put (C := RX0) (T := TX0) (N := 8) (ci := 0) hx hb hts hinX0 tyX0 tyX0_ok nmX0 hown hK hP hD hS 6 (by omega) rfl rfl 4 (by decide) (hts (.fieldLink RX0 26 "ChangeStream$Log" "transactions" "I") (by decide +kernel)) rfl rfl (by decide +kernel) (by simp) (va_up (I 6) 4 (nI (T + 1))) rfl dX0_beginTransaction_7 (fun H locs hP hD hS => ?_)
  refine lv_aload_n hx hb dX0_beginTransaction_10 rfl (lv_at hl 0 rfl) ?_
  refine w_callv (w := sW cI cZ cR ad na n (va_up I 6 (va_up (I 6) 4 (nI (T + 1)))) V) hS hA hK hD (va_runV (As := []) (rest := []) ⟨hx, hb, hml, hown, hts⟩ (c_X0_forgetOlder l D cI cZ cR ad na n (va_up I 6 (va_up (I 6) 4 (nI (T + 1)))) V H.size hn kp (T + 1) lst rc fk hkp rfl hls hrc hfk hle hr6 hkp1 (by omega) hls0 hls1) (cwV 0 hts gX0_beginTransaction_X0_forgetOlder rfl rfl rfl (by decide +kernel) ⟨Nat.le_of_ble_eq_true rfl, Nat.le_of_ble_eq_true rfl⟩) ⟨(w_pre hP hK hD wEnv_true).1, wR_recv (C := RX0) (T := TX0) (N := 8) hK hP (ci := 0) rfl 6 (by omega) rfl, (w_pre hP hK hD wEnv_true).2⟩ rfl rfl hl.1 rfl (lv_room (Nat.le_of_ble_eq_true rfl)) dX0_beginTransaction_11 ⟨Nat.le_of_ble_eq_true rfl, Nat.le_of_ble_eq_true rfl⟩) (fun  u H locs hw hP hD hS hz => ?_)
  rw [bx_uu] at hP hD
  exact W.vret hx hb hr (fun t ht hW => ⟨⟨(), rfl, trivial, by rw [ht]; exact hP, va_K.moved hW.alike hK, hD⟩, hS.F ht⟩) hS.2.2 dX0_beginTransaction_14

set_option maxHeartbeats 4000000 in
set_option maxRecDepth 100000 in
/-- Log.addRow(f, b) -/
theorem c_X0_addRow (l : Launch) (D : va_G) (cI cZ cR : ClassId) (ad : Nat → Nat) (na n : Nat) (I V : Nat → Nat → Int32) (sz : Nat) (hn : 11 ≤ n) (T rc : Nat) (hT : I 6 4 = nI T) (hrc : I 6 6 = nI rc) (hr6 : rc < 600) (f : Nat) (b : Int32) (hb01 : b = 0 ∨ b = 1) : Met l yX0_addRow wsX0_addRow ({ frames := 2, cells := 0, slots := 0, locals := 42 } : Room) (va_Pc [.ref (ad 6), .int (nI f), .int b] (wPre D vwCl (sT cI cZ cR) (sW cI cZ cR ad na n I V) sz wTrue)) (va_Qv (fun (u : Unit) => True) (wPost D vwCl (sT cI cZ cR) (fun (u : Unit) => sW cI cZ cR ad na n (va_up I 6 (va_up (I 6) 6 (nI (rc + 1)))) (va_up (va_up (va_up V 7 (va_up (V 7) rc (nI T))) 8 (va_up (V 8) rc (nI f))) 9 (va_up (V 9) rc b))) (va_A (sW cI cZ cR ad na n I V) sz)) (va_A (sW cI cZ cR ad na n I V) sz)) 0 0 (va_A (sW cI cZ cR ad na n I V) sz) := by
  refine Met.ofW (cc := cX0_addRow) (maxL := 4) (ret := none) (by decide) rfl ?_
  intro p e s m args below meth c s₁ B hml hv
  obtain ⟨rfl, hsz, hP, hK, hD0, hE⟩ := hv
  have hx := B.exec
  have hb := B.bytes
  have hr := B.returns
  have hts := atoms_spec (ws := wsX0_addRow) B.pre
  have hown : s.vm.findClass RX0 = some m.cls := findClass_of_methodNamed B.named
  have hlocks := B.notSynchronized
  subst hsz
  have hD := hD0.self (sz := s.heap.size)
  generalize hAe : va_A (sW cI cZ cR ad na n I V) s.heap.size = A at hD ⊢
  have hA : ∀ q : Nat, s.heap.size ≤ q → A q := fun q h => by rw [← hAe]; exact Or.inr h
  have hS : va_S A s.heap s.heap [] := va_S.rf
  have hinX0 : ∀ w ∈ wsX00, w ∈ wsX0_addRow := by decide +kernel
  have hl := lv_entry ([.ref (ad 6), .int (nI f), .int b]) (n := 4) (Nat.le_of_ble_eq_true rfl)
  rw [lg_entry_eq]
  generalize (lg_sl ([.ref (ad 6), .int (nI f), .int b]) ++ List.replicate (4 - (lg_sl ([.ref (ad 6), .int (nI f), .int b])).length) Slot.unset).toArray = ls at hl ⊢
  have hl : lv_has ls 4 [(0, .ref (ad 6)), (1, .int (nI f)), (2, .int b)] := hl
  refine lv_aload_n hx hb dX0_addRow_0 rfl (lv_at hl 0 rfl) ?_
  refine wR_get (v := .int (nI rc)) (C := RX0) (T := TX0) (N := 8) (ci := 0) hx hb hts hinX0 hown hK hP 6 (by omega) rfl rfl 6 (by decide) (hts (.fieldLink RX0 32 "ChangeStream$Log" "rowCount" "I") (by decide +kernel)) rfl (congrArg (fun z => some (Value.int z)) hrc) dX0_addRow_1 ?_
  refine w_calli (w := sW cI cZ cR ad na n I V) hS hA hK hD (va_runS (As := [.int (nI rc)]) (rest := []) ⟨hx, hb, hml, hown, hts⟩ (c_X0_placeOf l D (sT cI cZ cR) (sW cI cZ cR ad na n I V) wTrue s.heap.size (rc) (by omega)) (va_cwS 1 hts gX0_addRow_X0_placeOf rfl rfl rfl (by decide +kernel) ⟨Nat.le_of_ble_eq_true rfl, Nat.le_of_ble_eq_true rfl⟩) (w_pre hP hK hD wEnv_true) rfl rfl hl.1 rfl (lv_room (Nat.le_of_ble_eq_true rfl)) dX0_addRow_4 ⟨Nat.le_of_ble_eq_true rfl, Nat.le_of_ble_eq_true rfl⟩) (fun r_1 u H locs hw hP hD hS hz => ?_)
  rw [show r_1 = nI rc from hw]
  refine lv_istore_n (lv' := [(3, .int (nI rc)), (0, .ref (ad 6)), (1, .int (nI f)), (2, .int b)]) hx hb dX0_addRow_7 rfl hl (by decide) rfl (fun ls hl => ?_)
  refine lv_aload_n hx hb dX0_addRow_8 rfl (lv_at hl 1 rfl) ?_
  refine wR_get (v := .ref (ad 7)) (C := RX0) (T := TX0) (N := 8) (ci := 0) hx hb hts hinX0 hown hK hP 6 (by omega) rfl rfl 0 (by decide) (hts (.fieldLink RX0 11 "ChangeStream$Log" "transactionsOfRows" "[I") (by decide +kernel)) rfl rfl dX0_addRow_9 ?_
  refine lv_iload_n hx hb dX0_addRow_12 rfl (lv_at hl 0 rfl) ?_
  refine lv_aload_n hx hb dX0_addRow_13 rfl (lv_at hl 1 rfl) ?_
  refine wR_get (v := .int (nI T)) (C := RX0) (T := TX0) (N := 8) (ci := 0) hx hb hts hinX0 hown hK hP 6 (by omega) rfl rfl 4 (by decide) (hts (.fieldLink RX0 26 "ChangeStream$Log" "transactions" "I") (by decide +kernel)) rfl (congrArg (fun z => some (Value.int z)) hT) dX0_addRow_14 ?_
  refine wR_ist (f := V 7) hx hb hK hP hD hS 7 0 (by omega) rfl rfl (nx_in (k := rc) rfl (by omega) (by decide)) (j := rc) (nx_cl rfl (by omega)) rfl dX0_addRow_17 (fun H locs hP hD hS => ?_)
  refine lv_aload_n hx hb dX0_addRow_18 rfl (lv_at hl 1 rfl) ?_
  refine wR_get (v := .ref (ad 8)) (C := RX0) (T := TX0) (N := 8) (ci := 0) hx hb hts hinX0 hown hK hP 6 (by omega) rfl rfl 1 (by decide) (hts (.fieldLink RX0 15 "ChangeStream$Log" "factsOfRows" "[I") (by decide +kernel)) rfl rfl dX0_addRow_19 ?_
  refine lv_iload_n hx hb dX0_addRow_22 rfl (lv_at hl 0 rfl) ?_
  refine lv_iload_n hx hb dX0_addRow_23 rfl (lv_at hl 2 rfl) ?_
  refine wR_ist (f := V 8) hx hb hK hP hD hS 8 0 (by omega) rfl rfl (nx_in (k := rc) rfl (by omega) (by decide)) (j := rc) (nx_cl rfl (by omega)) rfl dX0_addRow_24 (fun H locs hP hD hS => ?_)
  refine lv_aload_n hx hb dX0_addRow_25 rfl (lv_at hl 1 rfl) ?_
  refine wR_get (v := .ref (ad 9)) (C := RX0) (T := TX0) (N := 8) (ci := 0) hx hb hts hinX0 hown hK hP 6 (by omega) rfl rfl 2 (by decide) (hts (.fieldLink RX0 18 "ChangeStream$Log" "comingRows" "[Z") (by decide +kernel)) rfl rfl dX0_addRow_26 ?_
  refine lv_iload_n hx hb dX0_addRow_29 rfl (lv_at hl 0 rfl) ?_
  refine lv_iload_n hx hb dX0_addRow_30 rfl (lv_at hl 3 rfl) ?_
  refine wR_zst (f := V 9) hx hb hK hP hD hS 9 1 (by omega) rfl rfl hb01 (nx_in (k := rc) rfl (by omega) (by decide)) (j := rc) (nx_cl rfl (by omega)) rfl dX0_addRow_31 (fun H locs hP hD hS => ?_)
  refine lv_aload_n hx hb dX0_addRow_32 rfl (lv_at hl 1 rfl) ?_
  refine lv_dup hx hb dX0_addRow_33 rfl ?_
  refine wR_get (v := .int (nI rc)) (C := RX0) (T := TX0) (N := 8) (ci := 0) hx hb hts hinX0 hown hK hP 6 (by omega) rfl rfl 6 (by decide) (hts (.fieldLink RX0 32 "ChangeStream$Log" "rowCount" "I") (by decide +kernel)) rfl (congrArg (fun z => some (Value.int z)) hrc) dX0_addRow_34 ?_
  refine lv_iconst (v := nI 1) hx hb dX0_addRow_37 (by decide) ?_
  refine lv_iadd hx hb dX0_addRow_38 ?_
  rw [nI_add]
  refine wR_put (C := RX0) (T := TX0) (N := 8) (ci := 0) hx hb hts hinX0 tyX0 tyX0_ok nmX0 hown hK hP hD hS 6 (by omega) rfl rfl 6 (by decide) (hts (.fieldLink RX0 32 "ChangeStream$Log" "rowCount" "I") (by decide +kernel)) rfl rfl (by decide +kernel) (by simp) (va_up (I 6) 6 (nI (rc + 1))) rfl dX0_addRow_39 (fun H locs hP hD hS => ?_)
  exact W.vret hx hb hr (fun t ht hW => ⟨⟨(), rfl, trivial, by rw [ht]; exact hP, va_K.moved hW.alike hK, hD⟩, hS.F ht⟩) hS.2.2 dX0_addRow_42
