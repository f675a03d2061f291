/-- 1 if a number lies between two, 0 else -/
def wI (x : Int32) (a b : Int) : Int32 := if a ≤ x.toInt ∧ x.toInt ≤ b then 1 else 0
theorem wI_1 {x : Int32} {a b : Int} (h1 : a ≤ x.toInt) (h2 : x.toInt ≤ b) : nI 1 = wI x a b := by rw [wI, if_pos ⟨h1, h2⟩]; rfl
theorem wI_0 {x : Int32} {a b : Int} (h : ¬ (a ≤ x.toInt ∧ x.toInt ≤ b)) : nI 0 = wI x a b := by rw [wI, if_neg h]; rfl
theorem wI_01 (x : Int32) (a b : Int) : wI x a b = 0 ∨ wI x a b = 1 := by
  unfold wI
  by_cases h : a ≤ x.toInt ∧ x.toInt ≤ b
  · rw [if_pos h]; exact Or.inr rfl
  · rw [if_neg h]; exact Or.inl rfl
theorem nar_z {x : Int32} (h : x = 0 ∨ x = 1) : narrow .boolean (.int x) = .int x := by rcases h with rfl | rfl <;> rfl
/-- the first k places from b, the others from a -/
def cpTo (a b : Nat → Int32) (k : Nat) : Nat → Int32 := fun j => if j < k then b j else a j
theorem cpTo_0 (a b : Nat → Int32) : cpTo a b 0 = a := by funext j; simp [cpTo]
theorem cpTo_s (a b : Nat → Int32) (k : Nat) : va_up (cpTo a b k) k (b k) = cpTo a b (k + 1) := by
  funext j
  simp only [va_up, cpTo]
  by_cases h : j = k
  · subst h; simp
  · rw [if_neg h]
    by_cases h2 : j < k
    · rw [if_pos h2, if_pos (by omega)]
    · rw [if_neg h2, if_neg (by omega)]
/-- the link of Store.hasFact to a nest mate's private method -/
def eN (U : State) : Prop := va_Nw (.methodLinkNest RX2 32 yX3_isWithin RX3) U
theorem eN_env {s : State} {H : Heap} (h : eN s) : wEnv eN s H := ⟨fun U g mk a hU => va_Nw.same rfl rfl hU, fun U hU hW => va_Nw.warmM hW h⟩

set_option maxHeartbeats 4000000 in
set_option maxRecDepth 100000 in
/-- isWithin(x, lo, hi) -/
theorem c_X3_isWithin (l : Launch) (D : va_G) (tys : List (ClassId × FieldType)) (w : va_W) (E : State → Prop) (sz : Nat) (x lo hi : Int32) : Met l yX3_isWithin wsX3_isWithin ({ frames := 0, cells := 0, slots := 0, locals := 0 } : Room) (va_Pc [.int x, .int lo, .int hi] (wPre D vwCl tys (w) sz E)) (va_Qi (fun (r : Int32) (u : Unit) => r = wI x lo.toInt hi.toInt) (wPost D vwCl tys (fun (u : Unit) => w) (va_A (w) sz)) (va_A (w) sz)) 0 0 (va_A (w) sz) := by
  refine Met.ofW (cc := cX3_isWithin) (maxL := 3) (ret := (some .boolean)) (by decide) rfl ?_
  intro p e s m args below meth c s₁ B hml hv
  obtain ⟨rfl, hsz, hP, hK, hD0, hE⟩ := hv
  have hx := B.exec
  have hb := B.bytes
  have hr := B.returns
  have hts := atoms_spec (ws := wsX3_isWithin) B.pre
  have hown : s.vm.findClass RX3 = some m.cls := findClass_of_methodNamed B.named
  have hlocks := B.notSynchronized
  subst hsz
  have hD := hD0.self (sz := s.heap.size)
  generalize hAe : va_A (w) s.heap.size = A at hD ⊢
  have hA : ∀ q : Nat, s.heap.size ≤ q → A q := fun q h => by rw [← hAe]; exact Or.inr h
  have hS : va_S A s.heap s.heap [] := va_S.rf
  have hl := lv_entry ([.int x, .int lo, .int hi]) (n := 3) (Nat.le_of_ble_eq_true rfl)
  rw [lg_entry_eq]
  generalize (lg_sl ([.int x, .int lo, .int hi]) ++ List.replicate (3 - (lg_sl ([.int x, .int lo, .int hi])).length) Slot.unset).toArray = ls at hl ⊢
  have hl : lv_has ls 3 [(0, .int x), (1, .int lo), (2, .int hi)] := hl
  refine lv_iload_n hx hb dX3_isWithin_0 rfl (lv_at hl 0 rfl) ?_
  refine lv_iload_n hx hb dX3_isWithin_1 rfl (lv_at hl 1 rfl) ?_
  refine lv_icmp_lt (tgt := 14) hx hb dX3_isWithin_2 (by decide) (fun c_1 => ?_) (fun c_1 => ?_)
  · refine lv_iconst (v := nI 0) hx hb dX3_isWithin_14 (by decide) ?_
    exact W.zret (v := nI 0) hx hb hr rfl (fun t ht hW => ⟨⟨nI 0, (), rfl, (by simp only [Int32.lt_iff_toInt_lt] at *; first | exact wI_1 (by omega) (by omega) | exact wI_0 (by omega)), by rw [ht]; exact hP, va_K.moved hW.alike hK, hD⟩, hS.F ht⟩) hS.2.2 dX3_isWithin_15
  · refine lv_iload_n hx hb dX3_isWithin_5 rfl (lv_at hl 0 rfl) ?_
    refine lv_iload_n hx hb dX3_isWithin_6 rfl (lv_at hl 2 rfl) ?_
    refine lv_icmp_gt (tgt := 14) hx hb dX3_isWithin_7 (by decide) (fun c_2 => ?_) (fun c_2 => ?_)
    · refine lv_iconst (v := nI 0) hx hb dX3_isWithin_14 (by decide) ?_
      exact W.zret (v := nI 0) hx hb hr rfl (fun t ht hW => ⟨⟨nI 0, (), rfl, (by simp only [Int32.lt_iff_toInt_lt] at *; first | exact wI_1 (by omega) (by omega) | exact wI_0 (by omega)), by rw [ht]; exact hP, va_K.moved hW.alike hK, hD⟩, hS.F ht⟩) hS.2.2 dX3_isWithin_15
    · refine lv_iconst (v := nI 1) hx hb dX3_isWithin_10 (by decide) ?_
      refine lv_goto (tgt := 15) hx hb dX3_isWithin_11 (by decide) ?_
      exact W.zret (v := nI 1) hx hb hr rfl (fun t ht hW => ⟨⟨nI 1, (), rfl, (by simp only [Int32.lt_iff_toInt_lt] at *; first | exact wI_1 (by omega) (by omega) | exact wI_0 (by omega)), by rw [ht]; exact hP, va_K.moved hW.alike hK, hD⟩, hS.F ht⟩) hS.2.2 dX3_isWithin_15

set_option maxHeartbeats 4000000 in
set_option maxRecDepth 100000 in
/-- Store.hasFact(x) -/
theorem c_X2_hasFact (l : Launch) (D : va_G) (cI cZ cR : ClassId) (ad : Nat → Nat) (na n : Nat) (I V : Nat → Nat → Int32) (sz : Nat) (hn : 11 ≤ n) (k : Nat) (hk : I 1 4 = nI k) (hk1 : k ≤ 100) (x : Int32) : Met l yX2_hasFact wsX2_hasFact ({ frames := 1, cells := 0, slots := 0, locals := 22 } : Room) (va_Pc [.ref (ad 1), .int x] (wPre D vwCl (sT cI cZ cR) (sW cI cZ cR ad na n I V) sz eN)) (va_Qi (fun (r : Int32) (u : Unit) => r = wI x 0 (k - 1)) (wPost D vwCl (sT cI cZ cR) (fun (u : Unit) => sW cI cZ cR ad na n I V) (va_A (sW cI cZ cR ad na n I V) sz)) (va_A (sW cI cZ cR ad na n I V) sz)) 0 0 (va_A (sW cI cZ cR ad na n I V) sz) := by
  refine Met.ofW (cc := cX2_hasFact) (maxL := 2) (ret := (some .boolean)) (by decide) rfl ?_
  intro p e s m args below meth c s₁ B hml hv
  obtain ⟨rfl, hsz, hP, hK, hD0, hE⟩ := hv
  have hx := B.exec
  have hb := B.bytes
  have hr := B.returns
  have hts := atoms_spec (ws := wsX2_hasFact) B.pre
  have hown : s.vm.findClass RX2 = some m.cls := findClass_of_methodNamed B.named
  have hlocks := B.notSynchronized
  subst hsz
  have hD := hD0.self (sz := s.heap.size)
  generalize hAe : va_A (sW cI cZ cR ad na n I V) s.heap.size = A at hD ⊢
  have hA : ∀ q : Nat, s.heap.size ≤ q → A q := fun q h => by rw [← hAe]; exact Or.inr h
  have hS : va_S A s.heap s.heap [] := va_S.rf
  have hinX2 : ∀ w ∈ wsX20, w ∈ wsX2_hasFact := by decide +kernel
  have hl := lv_entry ([.ref (ad 1), .int x]) (n := 2) (Nat.le_of_ble_eq_true rfl)
  rw [lg_entry_eq]
  generalize (lg_sl ([.ref (ad 1), .int x]) ++ List.replicate (2 - (lg_sl ([.ref (ad 1), .int x])).length) Slot.unset).toArray = ls at hl ⊢
  have hl : lv_has ls 2 [(0, .ref (ad 1)), (1, .int x)] := hl
  refine lv_iload_n hx hb dX2_hasFact_0 rfl (lv_at hl 1 rfl) ?_
  refine lv_iconst (v := nI 0) hx hb dX2_hasFact_1 (by decide) ?_
  refine lv_aload_n hx hb dX2_hasFact_2 rfl (lv_at hl 0 rfl) ?_
  refine wR_get (v := .int (nI k)) (C := RX2) (T := TX2) (N := 6) (ci := 2) hx hb hts hinX2 hown hK hP 1 (by omega) rfl rfl 4 (by decide) (hts (.fieldLink RX2 25 "ChangeStream$Store" "factCount" "I") (by decide +kernel)) rfl (congrArg (fun z => some (Value.int z)) hk) dX2_hasFact_3 ?_
  refine lv_iconst (v := nI 1) hx hb dX2_hasFact_6 (by decide) ?_
  refine lv_isub hx hb dX2_hasFact_7 ?_
  refine w_calli (w := sW cI cZ cR ad na n I V) hS hA hK hD (va_runSN (As := [.int x, .int (nI 0), .int ((nI k) - (nI 1))]) (rest := []) ⟨hx, hb, hml, hown, hts⟩ (c_X3_isWithin l D (sT cI cZ cR) (sW cI cZ cR ad na n I V) wTrue s.heap.size x (nI 0) ((nI k) - (nI 1))) ⟨va_cnB 3 hts gX2_hasFact_X3_isWithin_n32 rfl rfl rfl hE (hts (.initialized RX3) (by decide +kernel)) (by decide +kernel) ⟨Nat.le_of_ble_eq_true rfl, Nat.le_of_ble_eq_true rfl⟩, hts (.static yX3_isWithin) (by decide +kernel), trivial⟩ (w_pre hP hK hD wEnv_true) rfl rfl hl.1 rfl (lv_room (Nat.le_of_ble_eq_true rfl)) dX2_hasFact_8 ⟨Nat.le_of_ble_eq_true rfl, Nat.le_of_ble_eq_true rfl⟩) (fun r_1 u H locs hw hP hD hS hz => ?_)
  have hq : r_1 = wI x 0 (k - 1) := by rw [hw, nI_toInt (by decide), pk_sub_toInt (by omega) (by decide)]; rfl
  exact W.zret (v := r_1) hx hb hr (nar_z (by rw [hw]; exact wI_01 _ _ _)) (fun t ht hW => ⟨⟨r_1, (), rfl, hq, by rw [ht]; exact hP, va_K.moved hW.alike hK, hD⟩, hS.F ht⟩) hS.2.2 dX2_hasFact_11

set_option maxHeartbeats 4000000 in
set_option maxRecDepth 100000 in
/-- Store.isChanged(f) -/
theorem c_X2_isChanged (l : Launch) (D : va_G) (cI cZ cR : ClassId) (ad : Nat → Nat) (na n : Nat) (I V : Nat → Nat → Int32) (sz : Nat) (hn : 11 ≤ n) (f : Nat) (hf : f < 100) : Met l yX2_isChanged wsX2_isChanged ({ frames := 0, cells := 0, slots := 0, locals := 0 } : Room) (va_Pc [.ref (ad 1), .int (nI f)] (wPre D vwCl (sT cI cZ cR) (sW cI cZ cR ad na n I V) sz wTrue)) (va_Qi (fun (r : Int32) (u : Unit) => r = if V 4 f = V 5 f then 0 else 1) (wPost D vwCl (sT cI cZ cR) (fun (u : Unit) => sW cI cZ cR ad na n I V) (va_A (sW cI cZ cR ad na n I V) sz)) (va_A (sW cI cZ cR ad na n I V) sz)) 0 0 (va_A (sW cI cZ cR ad na n I V) sz) := by
  refine Met.ofW (cc := cX2_isChanged) (maxL := 2) (ret := (some .boolean)) (by decide) rfl ?_
  intro p e s m args below meth c s₁ B hml hv
  obtain ⟨rfl, hsz, hP, hK, hD0, hE⟩ := hv
  have hx := B.exec
  have hb := B.bytes
  have hr := B.returns
  have hts := atoms_spec (ws := wsX2_isChanged) B.pre
  have hown : s.vm.findClass RX2 = some m.cls := findClass_of_methodNamed B.named
  have hlocks := B.notSynchronized
  subst hsz
  have hD := hD0.self (sz := s.heap.size)
  generalize hAe : va_A (sW cI cZ cR ad na n I V) s.heap.size = A at hD ⊢
  have hA : ∀ q : Nat, s.heap.size ≤ q → A q := fun q h => by rw [← hAe]; exact Or.inr h
  have hS : va_S A s.heap s.heap [] := va_S.rf
  have hinX2 : ∀ w ∈ wsX20, w ∈ wsX2_isChanged := by decide +kernel
  have hl := lv_entry ([.ref (ad 1), .int (nI f)]) (n := 2) (Nat.le_of_ble_eq_true rfl)
  rw [lg_entry_eq]
  generalize (lg_sl ([.ref (ad 1), .int (nI f)]) ++ List.replicate (2 - (lg_sl ([.ref (ad 1), .int (nI f)])).length) Slot.unset).toArray = ls at hl ⊢
  have hl : lv_has ls 2 [(0, .ref (ad 1)), (1, .int (nI f))] := hl
  refine lv_aload_n hx hb dX2_isChanged_0 rfl (lv_at hl 0 rfl) ?_
  refine wR_get (v := .ref (ad 4)) (C := RX2) (T := TX2) (N := 6) (ci := 2) hx hb hts hinX2 hown hK hP 1 (by omega) rfl rfl 2 (by decide) (hts (.fieldLink RX2 18 "ChangeStream$Store" "in" "[Z") (by decide +kernel)) rfl rfl dX2_isChanged_1 ?_
  refine lv_iload_n hx hb dX2_isChanged_4 rfl (lv_at hl 1 rfl) ?_
  refine wR_zld (f := V 4) (v := (V 4) f) hx hb hK hP 4 1 (by omega) rfl rfl (nx_in (k := f) rfl (by omega) (by decide)) (j := f) (nx_cl rfl (by omega)) rfl dX2_isChanged_5 ?_
  refine lv_aload_n hx hb dX2_isChanged_6 rfl (lv_at hl 0 rfl) ?_
  refine wR_get (v := .ref (ad 5)) (C := RX2) (T := TX2) (N := 6) (ci := 2) hx hb hts hinX2 hown hK hP 1 (by omega) rfl rfl 3 (by decide) (hts (.fieldLink RX2 22 "ChangeStream$Store" "behind" "[Z") (by decide +kernel)) rfl rfl dX2_isChanged_7 ?_
  refine lv_iload_n hx hb dX2_isChanged_10 rfl (lv_at hl 1 rfl) ?_
  refine wR_zld (f := V 5) (v := (V 5) f) hx hb hK hP 5 1 (by omega) rfl rfl (nx_in (k := f) rfl (by omega) (by decide)) (j := f) (nx_cl rfl (by omega)) rfl dX2_isChanged_11 ?_
  refine lv_icmp_eq (tgt := 19) hx hb dX2_isChanged_12 (by decide) (fun c_1 => ?_) (fun c_1 => ?_)
  · refine lv_iconst (v := nI 0) hx hb dX2_isChanged_19 (by decide) ?_
    exact W.zret (v := nI 0) hx hb hr rfl (fun t ht hW => ⟨⟨nI 0, (), rfl, (by first | (rw [if_pos (by assumption)]; rfl) | (rw [if_neg (by assumption)]; rfl)), by rw [ht]; exact hP, va_K.moved hW.alike hK, hD⟩, hS.F ht⟩) hS.2.2 dX2_isChanged_20
  · refine lv_iconst (v := nI 1) hx hb dX2_isChanged_15 (by decide) ?_
    refine lv_goto (tgt := 20) hx hb dX2_isChanged_16 (by decide) ?_
    exact W.zret (v := nI 1) hx hb hr rfl (fun t ht hW => ⟨⟨nI 1, (), rfl, (by first | (rw [if_pos (by assumption)]; rfl) | (rw [if_neg (by assumption)]; rfl)), by rw [ht]; exact hP, va_K.moved hW.alike hK, hD⟩, hS.F ht⟩) hS.2.2 dX2_isChanged_20

set_option maxHeartbeats 4000000 in
set_option maxRecDepth 100000 in
/-- Store.addFact(g, pr) -/
theorem c_X2_addFact (l : Launch) (D : va_G) (cI cZ cR : ClassId) (ad : Nat → Nat) (na n : Nat) (I V : Nat → Nat → Int32) (sz : Nat) (hn : 11 ≤ n) (k : Nat) (hk : I 1 4 = nI k) (hk1 : k < 100) (g pr : Int32) : Met l yX2_addFact wsX2_addFact ({ frames := 0, cells := 0, slots := 0, locals := 0 } : Room) (va_Pc [.ref (ad 1), .int g, .int pr] (wPre D vwCl (sT cI cZ cR) (sW cI cZ cR ad na n I V) sz wTrue)) (va_Qi (fun (r : Int32) (u : Unit) => r = nI k) (wPost D vwCl (sT cI cZ cR) (fun (u : Unit) => sW cI cZ cR ad na n (va_up I 1 (va_up (I 1) 4 (nI (k + 1)))) (va_up (va_up V 2 (va_up (V 2) k g)) 3 (va_up (V 3) k pr))) (va_A (sW cI cZ cR ad na n I V) sz)) (va_A (sW cI cZ cR ad na n I V) sz)) 0 0 (va_A (sW cI cZ cR ad na n I V) sz) := by
  refine Met.ofW (cc := cX2_addFact) (maxL := 3) (ret := (some .int)) (by decide) rfl ?_
  intro p e s m args below meth c s₁ B hml hv
  obtain ⟨rfl, hsz, hP, hK, hD0, hE⟩ := hv
  have hx := B.exec
  have hb := B.bytes
  have hr := B.returns
  have hts := atoms_spec (ws := wsX2_addFact) B.pre
  have hown : s.vm.findClass RX2 = some m.cls := findClass_of_methodNamed B.named
  have hlocks := B.notSynchronized
  subst hsz
  have hD := hD0.self (sz := s.heap.size)
  generalize hAe : va_A (sW cI cZ cR ad na n I V) s.heap.size = A at hD ⊢
  have hA : ∀ q : Nat, s.heap.size ≤ q → A q := fun q h => by rw [← hAe]; exact Or.inr h
  have hS : va_S A s.heap s.heap [] := va_S.rf
  have hinX2 : ∀ w ∈ wsX20, w ∈ wsX2_addFact := by decide +kernel
  have hl := lv_entry ([.ref (ad 1), .int g, .int pr]) (n := 3) (Nat.le_of_ble_eq_true rfl)
  rw [lg_entry_eq]
  generalize (lg_sl ([.ref (ad 1), .int g, .int pr]) ++ List.replicate (3 - (lg_sl ([.ref (ad 1), .int g, .int pr])).length) Slot.unset).toArray = ls at hl ⊢
  have hl : lv_has ls 3 [(0, .ref (ad 1)), (1, .int g), (2, .int pr)] := hl
  refine lv_aload_n hx hb dX2_addFact_0 rfl (lv_at hl 0 rfl) ?_
  refine wR_get (v := .ref (ad 2)) (C := RX2) (T := TX2) (N := 6) (ci := 2) hx hb hts hinX2 hown hK hP 1 (by omega) rfl rfl 0 (by decide) (hts (.fieldLink RX2 9 "ChangeStream$Store" "graphs" "[I") (by decide +kernel)) rfl rfl dX2_addFact_1 ?_
  refine lv_aload_n hx hb dX2_addFact_4 rfl (lv_at hl 0 rfl) ?_
  refine wR_get (v := .int (nI k)) (C := RX2) (T := TX2) (N := 6) (ci := 2) hx hb hts hinX2 hown hK hP 1 (by omega) rfl rfl 4 (by decide) (hts (.fieldLink RX2 25 "ChangeStream$Store" "factCount" "I") (by decide +kernel)) rfl (congrArg (fun z => some (Value.int z)) hk) dX2_addFact_5 ?_
  refine lv_iload_n hx hb dX2_addFact_8 rfl (lv_at hl 1 rfl) ?_
  refine wR_ist (f := V 2) hx hb hK hP hD hS 2 0 (by omega) rfl rfl (nx_in (k := k) rfl (by omega) (by decide)) (j := k) (nx_cl rfl (by omega)) rfl dX2_addFact_9 (fun H locs hP hD hS => ?_)
  refine lv_aload_n hx hb dX2_addFact_10 rfl (lv_at hl 0 rfl) ?_
  refine wR_get (v := .ref (ad 3)) (C := RX2) (T := TX2) (N := 6) (ci := 2) hx hb hts hinX2 hown hK hP 1 (by omega) rfl rfl 1 (by decide) (hts (.fieldLink RX2 15 "ChangeStream$Store" "properties" "[I") (by decide +kernel)) rfl rfl dX2_addFact_11 ?_
  refine lv_aload_n hx hb dX2_addFact_14 rfl (lv_at hl 0 rfl) ?_
  refine wR_get (v := .int (nI k)) (C := RX2) (T := TX2) (N := 6) (ci := 2) hx hb hts hinX2 hown hK hP 1 (by omega) rfl rfl 4 (by decide) (hts (.fieldLink RX2 25 "ChangeStream$Store" "factCount" "I") (by decide +kernel)) rfl (congrArg (fun z => some (Value.int z)) hk) dX2_addFact_15 ?_
  refine lv_iload_n hx hb dX2_addFact_18 rfl (lv_at hl 2 rfl) ?_
  refine wR_ist (f := V 3) hx hb hK hP hD hS 3 0 (by omega) rfl rfl (nx_in (k := k) rfl (by omega) (by decide)) (j := k) (nx_cl rfl (by omega)) rfl dX2_addFact_19 (fun H locs hP hD hS => ?_)
  refine lv_aload_n hx hb dX2_addFact_20 rfl (lv_at hl 0 rfl) ?_
  refine lv_dup hx hb dX2_addFact_21 rfl ?_
  refine wR_get (v := .int (nI k)) (C := RX2) (T := TX2) (N := 6) (ci := 2) hx hb hts hinX2 hown hK hP 1 (by omega) rfl rfl 4 (by decide) (hts (.fieldLink RX2 25 "ChangeStream$Store" "factCount" "I") (by decide +kernel)) rfl (congrArg (fun z => some (Value.int z)) hk) dX2_addFact_22 ?_
  refine lv_iconst (v := nI 1) hx hb dX2_addFact_25 (by decide) ?_
  refine lv_iadd hx hb dX2_addFact_26 ?_
  rw [nI_add]
  refine wR_put (C := RX2) (T := TX2) (N := 6) (ci := 2) hx hb hts hinX2 tyX2 tyX2_ok nmX2 hown hK hP hD hS 1 (by omega) rfl rfl 4 (by decide) (hts (.fieldLink RX2 25 "ChangeStream$Store" "factCount" "I") (by decide +kernel)) rfl rfl (by decide +kernel) (by simp) (va_up (I 1) 4 (nI (k + 1))) rfl dX2_addFact_27 (fun H locs hP hD hS => ?_)
  refine lv_aload_n hx hb dX2_addFact_30 rfl (lv_at hl 0 rfl) ?_
  refine wR_get (v := .int (nI (k + 1))) (C := RX2) (T := TX2) (N := 6) (ci := 2) hx hb hts hinX2 hown hK hP 1 (by omega) rfl rfl 4 (by decide) (hts (.fieldLink RX2 25 "ChangeStream$Store" "factCount" "I") (by decide +kernel)) rfl rfl dX2_addFact_31 ?_
  refine lv_iconst (v := nI 1) hx hb dX2_addFact_34 (by decide) ?_
  refine lv_isub hx hb dX2_addFact_35 ?_
  rw [show (nI (k + 1)) - (nI 1) = nI k from nI_pred k]
  exact W.iret (v := nI k) hx hb hr (fun t ht hW => ⟨⟨nI k, (), rfl, rfl, by rw [ht]; exact hP, va_K.moved hW.alike hK, hD⟩, hS.F ht⟩) hS.2.2 dX2_addFact_36

set_option maxHeartbeats 4000000 in
set_option maxRecDepth 100000 in
/-- Store.putChange(f, b) -/
theorem c_X2_putChange (l : Launch) (D : va_G) (cI cZ cR : ClassId) (ad : Nat → Nat) (na n : Nat) (I V : Nat → Nat → Int32) (sz : Nat) (hn : 11 ≤ n) (q : Nat) (hq : I 1 5 = nI q) (f : Nat) (hf : f < 100) (b : Int32) (hb01 : b = 0 ∨ b = 1) : Met l yX2_putChange wsX2_putChange ({ frames := 0, cells := 0, slots := 0, locals := 0 } : Room) (va_Pc [.ref (ad 1), .int (nI f), .int b] (wPre D vwCl (sT cI cZ cR) (sW cI cZ cR ad na n I V) sz wTrue)) (va_Qi (fun (r : Int32) (u : Unit) => r = nI (q + 1)) (wPost D vwCl (sT cI cZ cR) (fun (u : Unit) => sW cI cZ cR ad na n (va_up I 1 (va_up (I 1) 5 (nI (q + 1)))) (va_up V 5 (va_up (V 5) f b))) (va_A (sW cI cZ cR ad na n I V) sz)) (va_A (sW cI cZ cR ad na n I V) sz)) 0 0 (va_A (sW cI cZ cR ad na n I V) sz) := by
  refine Met.ofW (cc := cX2_putChange) (maxL := 3) (ret := (some .int)) (by decide) rfl ?_
  intro p e s m args below meth c s₁ B hml hv
  obtain ⟨rfl, hsz, hP, hK, hD0, hE⟩ := hv
  have hx := B.exec
  have hb := B.bytes
  have hr := B.returns
  have hts := atoms_spec (ws := wsX2_putChange) B.pre
  have hown : s.vm.findClass RX2 = some m.cls := findClass_of_methodNamed B.named
  have hlocks := B.notSynchronized
  subst hsz
  have hD := hD0.self (sz := s.heap.size)
  generalize hAe : va_A (sW cI cZ cR ad na n I V) s.heap.size = A at hD ⊢
  have hA : ∀ q : Nat, s.heap.size ≤ q → A q := fun q h => by rw [← hAe]; exact Or.inr h
  have hS : va_S A s.heap s.heap [] := va_S.rf
  have hinX2 : ∀ w ∈ wsX20, w ∈ wsX2_putChange := by decide +kernel
  have hl := lv_entry ([.ref (ad 1), .int (nI f), .int b]) (n := 3) (Nat.le_of_ble_eq_true rfl)
  rw [lg_entry_eq]
  generalize (lg_sl ([.ref (ad 1), .int (nI f), .int b]) ++ List.replicate (3 - (lg_sl ([.ref (ad 1), .int (nI f), .int b])).length) Slot.unset).toArray = ls at hl ⊢
  have hl : lv_has ls 3 [(0, .ref (ad 1)), (1, .int (nI f)), (2, .int b)] := hl
  refine lv_aload_n hx hb dX2_putChange_0 rfl (lv_at hl 0 rfl) ?_
  refine wR_get (v := .ref (ad 5)) (C := RX2) (T := TX2) (N := 6) (ci := 2) hx hb hts hinX2 hown hK hP 1 (by omega) rfl rfl 3 (by decide) (hts (.fieldLink RX2 22 "ChangeStream$Store" "behind" "[Z") (by decide +kernel)) rfl rfl dX2_putChange_1 ?_
  refine lv_iload_n hx hb dX2_putChange_4 rfl (lv_at hl 1 rfl) ?_
  refine lv_iload_n hx hb dX2_putChange_5 rfl (lv_at hl 2 rfl) ?_
  refine wR_zst (f := V 5) hx hb hK hP hD hS 5 1 (by omega) rfl rfl hb01 (nx_in (k := f) rfl (by omega) (by decide)) (j := f) (nx_cl rfl (by omega)) rfl dX2_putChange_6 (fun H locs hP hD hS => ?_)
  refine lv_aload_n hx hb dX2_putChange_7 rfl (lv_at hl 0 rfl) ?_
  refine lv_dup hx hb dX2_putChange_8 rfl ?_
  refine wR_get (v := .int (nI q)) (C := RX2) (T := TX2) (N := 6) (ci := 2) hx hb hts hinX2 hown hK hP 1 (by omega) rfl rfl 5 (by decide) (hts (.fieldLink RX2 29 "ChangeStream$Store" "changeCount" "I") (by decide +kernel)) rfl (congrArg (fun z => some (Value.int z)) hq) dX2_putChange_9 ?_
  refine lv_iconst (v := nI 1) hx hb dX2_putChange_12 (by decide) ?_
  refine lv_iadd hx hb dX2_putChange_13 ?_
  rw [nI_add]
  refine wR_put (C := RX2) (T := TX2) (N := 6) (ci := 2) hx hb hts hinX2 tyX2 tyX2_ok nmX2 hown hK hP hD hS 1 (by omega) rfl rfl 5 (by decide) (hts (.fieldLink RX2 29 "ChangeStream$Store" "changeCount" "I") (by decide +kernel)) rfl rfl (by decide +kernel) (by simp) (va_up (I 1) 5 (nI (q + 1))) rfl dX2_putChange_14 (fun H locs hP hD hS => ?_)
  refine lv_aload_n hx hb dX2_putChange_17 rfl (lv_at hl 0 rfl) ?_
  refine wR_get (v := .int (nI (q + 1))) (C := RX2) (T := TX2) (N := 6) (ci := 2) hx hb hts hinX2 hown hK hP 1 (by omega) rfl rfl 5 (by decide) (hts (.fieldLink RX2 29 "ChangeStream$Store" "changeCount" "I") (by decide +kernel)) rfl rfl dX2_putChange_18 ?_
  exact W.iret (v := nI (q + 1)) hx hb hr (fun t ht hW => ⟨⟨nI (q + 1), (), rfl, rfl, by rw [ht]; exact hP, va_K.moved hW.alike hK, hD⟩, hS.F ht⟩) hS.2.2 dX2_putChange_21

set_option maxHeartbeats 4000000 in
set_option maxRecDepth 100000 in
theorem lp_X2_acceptChanges {p : Program} (l : Launch) {e : Env} {s : State} {m : MethodId} {args : Array Value} {below : List Frame} {meth : Method} {c : Code} {Q : State → Prop} {A : Nat → Prop} (D : va_G) (cI cZ cR : ClassId) (ad : Nat → Nat) (na n : Nat) (I V : Nat → Nat → Int32) (k : Nat) (hx : p.tables.exec = Jvm.exec) (hb : c.code = cX2_acceptChanges) (hml : c.maxLocals = 2) (hts : ∀ w ∈ wsX2_acceptChanges, w.before args s = true) (hown : s.vm.findClass RX2 = some m.cls) (hK : va_K D vwCl (sT cI cZ cR) s) (hA : ∀ q : Nat, s.heap.size ≤ q → A q) (hn : 11 ≤ n) (hk : I 1 4 = nI k) (hk1 : k ≤ 100) (h01 : ∀ j, V 5 j = 0 ∨ V 5 j = 1)  (kk : ∀ (H : Heap) (locs : List Loc) (ls : Array Slot), va_P D vwCl (sW cI cZ cR ad na n I (va_up V 4 (cpTo (V 4) (V 5) k))) H → va_D A (sW cI cZ cR ad na n I (va_up V 4 (cpTo (V 4) (V 5) k))) → va_S A s.heap H locs → lv_has ls 2 [(0, .ref (ad 1)), (1, .int (nI k))] → W p l e ({ frames := 0, cells := 0, slots := 0, locals := 0 } : Room) s m args below meth c H locs 0 0 Q (F0 m 28 ls [])) : ∀ (fuel : Nat) (f : Nat) (H : Heap) (locs : List Loc) (ls : Array Slot), f ≤ k → k - f < fuel → va_P D vwCl (sW cI cZ cR ad na n I (va_up V 4 (cpTo (V 4) (V 5) f))) H → va_D A (sW cI cZ cR ad na n I (va_up V 4 (cpTo (V 4) (V 5) f))) → va_S A s.heap H locs → lv_has ls 2 [(0, .ref (ad 1)), (1, .int (nI f))] → W p l e ({ frames := 0, cells := 0, slots := 0, locals := 0 } : Room) s m args below meth c H locs 0 0 Q (F0 m 2 ls []) := by
  intro fuel
  induction fuel with
  | zero =>
    intro f H locs ls hf hfu
    exact absurd hfu (Nat.not_lt_zero _)
  | succ fuel ih =>
    intro f H locs ls hf hfu hP hD hS hl
    have hinX2 : ∀ w ∈ wsX20, w ∈ wsX2_acceptChanges := by decide +kernel
    refine lv_iload_n hx hb dX2_acceptChanges_2 rfl (lv_at hl 1 rfl) ?_
    refine lv_aload_n hx hb dX2_acceptChanges_3 rfl (lv_at hl 0 rfl) ?_
    refine wR_get (v := .int (nI k)) (C := RX2) (T := TX2) (N := 6) (ci := 2) hx hb hts hinX2 hown hK hP 1 (by omega) rfl rfl 4 (by decide) (hts (.fieldLink RX2 25 "ChangeStream$Store" "factCount" "I") (by decide +kernel)) rfl (congrArg (fun z => some (Value.int z)) hk) dX2_acceptChanges_4 ?_
    refine lv_icmp_ge (tgt := 28) hx hb dX2_acceptChanges_7 (by decide) (fun c_1 => ?_) (fun c_1 => ?_)
    · have c_1 : k ≤ f := (nI_leI (a := k) (b := f) (by omega) (by omega)).mp c_1
      have hfk : f = k := by omega
      subst hfk
      exact kk  H locs ls  hP hD hS (lv_sub hl [0, 1] rfl)
    · have c_1 : ¬ (k ≤ f) := fun h9 => c_1 ((nI_leI (a := k) (b := f) (by omega) (by omega)).mpr h9)
      refine lv_aload_n hx hb dX2_acceptChanges_10 rfl (lv_at hl 0 rfl) ?_
      refine wR_get (v := .ref (ad 4)) (C := RX2) (T := TX2) (N := 6) (ci := 2) hx hb hts hinX2 hown hK hP 1 (by omega) rfl rfl 2 (by decide) (hts (.fieldLink RX2 18 "ChangeStream$Store" "in" "[Z") (by decide +kernel)) rfl rfl dX2_acceptChanges_11 ?_
      refine lv_iload_n hx hb dX2_acceptChanges_14 rfl (lv_at hl 1 rfl) ?_
      refine lv_aload_n hx hb dX2_acceptChanges_15 rfl (lv_at hl 0 rfl) ?_
      refine wR_get (v := .ref (ad 5)) (C := RX2) (T := TX2) (N := 6) (ci := 2) hx hb hts hinX2 hown hK hP 1 (by omega) rfl rfl 3 (by decide) (hts (.fieldLink RX2 22 "ChangeStream$Store" "behind" "[Z") (by decide +kernel)) rfl rfl dX2_acceptChanges_16 ?_
      refine lv_iload_n hx hb dX2_acceptChanges_19 rfl (lv_at hl 1 rfl) ?_
      refine wR_zld (f := V 5) (v := (V 5) f) hx hb hK hP 5 1 (by omega) rfl rfl (nx_in (k := f) rfl (by omega) (by decide)) (j := f) (nx_cl rfl (by omega)) rfl dX2_acceptChanges_20 ?_
      refine wR_zst (f := cpTo (V 4) (V 5) f) hx hb hK hP hD hS 4 1 (by omega) rfl rfl (h01 f) (nx_in (k := f) rfl (by omega) (by decide)) (j := f) (nx_cl rfl (by omega)) rfl dX2_acceptChanges_21 (fun H locs hP hD hS => ?_)
      rw [bx_uu] at hP hD
      refine lv_iinc (v := nI (f + 1)) (lv' := [(1, .int (nI (f + 1))), (0, .ref (ad 1))]) hx hb dX2_acceptChanges_22 hl (k := 1) rfl (nI_add _ 1) (by decide) rfl (fun ls hl => ?_)
      refine lv_goto (tgt := 2) hx hb dX2_acceptChanges_25 (by decide) ?_
      rw [cpTo_s] at hP hD
      exact ih (f + 1) H locs ls (by omega) (by omega) hP hD hS (lv_sub hl [1, 0] rfl)

set_option maxHeartbeats 4000000 in
set_option maxRecDepth 100000 in
theorem lp_X2_dropChanges {p : Program} (l : Launch) {e : Env} {s : State} {m : MethodId} {args : Array Value} {below : List Frame} {meth : Method} {c : Code} {Q : State → Prop} {A : Nat → Prop} (D : va_G) (cI cZ cR : ClassId) (ad : Nat → Nat) (na n : Nat) (I V : Nat → Nat → Int32) (k : Nat) (hx : p.tables.exec = Jvm.exec) (hb : c.code = cX2_dropChanges) (hml : c.maxLocals = 2) (hts : ∀ w ∈ wsX2_dropChanges, w.before args s = true) (hown : s.vm.findClass RX2 = some m.cls) (hK : va_K D vwCl (sT cI cZ cR) s) (hA : ∀ q : Nat, s.heap.size ≤ q → A q) (hn : 11 ≤ n) (hk : I 1 4 = nI k) (hk1 : k ≤ 100) (h01 : ∀ j, V 4 j = 0 ∨ V 4 j = 1)  (kk : ∀ (H : Heap) (locs : List Loc) (ls : Array Slot), va_P D vwCl (sW cI cZ cR ad na n I (va_up V 5 (cpTo (V 5) (V 4) k))) H → va_D A (sW cI cZ cR ad na n I (va_up V 5 (cpTo (V 5) (V 4) k))) → va_S A s.heap H locs → lv_has ls 2 [(0, .ref (ad 1)), (1, .int (nI k))] → W p l e ({ frames := 0, cells := 0, slots := 0, locals := 0 } : Room) s m args below meth c H locs 0 0 Q (F0 m 28 ls [])) : ∀ (fuel : Nat) (f : Nat) (H : Heap) (locs : List Loc) (ls : Array Slot), f ≤ k → k - f < fuel → va_P D vwCl (sW cI cZ cR ad na n I (va_up V 5 (cpTo (V 5) (V 4) f))) H → va_D A (sW cI cZ cR ad na n I (va_up V 5 (cpTo (V 5) (V 4) f))) → va_S A s.heap H locs → lv_has ls 2 [(0, .ref (ad 1)), (1, .int (nI f))] → W p l e ({ frames := 0, cells := 0, slots := 0, locals := 0 } : Room) s m args below meth c H locs 0 0 Q (F0 m 2 ls []) := by
  intro fuel
  induction fuel with
  | zero =>
    intro f H locs ls hf hfu
    exact absurd hfu (Nat.not_lt_zero _)
  | succ fuel ih =>
    intro f H locs ls hf hfu hP hD hS hl
    have hinX2 : ∀ w ∈ wsX20, w ∈ wsX2_dropChanges := by decide +kernel
    refine lv_iload_n hx hb dX2_dropChanges_2 rfl (lv_at hl 1 rfl) ?_
    refine lv_aload_n hx hb dX2_dropChanges_3 rfl (lv_at hl 0 rfl) ?_
    refine wR_get (v := .int (nI k)) (C := RX2) (T := TX2) (N := 6) (ci := 2) hx hb hts hinX2 hown hK hP 1 (by omega) rfl rfl 4 (by decide) (hts (.fieldLink RX2 25 "ChangeStream$Store" "factCount" "I") (by decide +kernel)) rfl (congrArg (fun z => some (Value.int z)) hk) dX2_dropChanges_4 ?_
    refine lv_icmp_ge (tgt := 28) hx hb dX2_dropChanges_7 (by decide) (fun c_1 => ?_) (fun c_1 => ?_)
    · have c_1 : k ≤ f := (nI_leI (a := k) (b := f) (by omega) (by omega)).mp c_1
      have hfk : f = k := by omega
      subst hfk
      exact kk  H locs ls  hP hD hS (lv_sub hl [0, 1] rfl)
    · have c_1 : ¬ (k ≤ f) := fun h9 => c_1 ((nI_leI (a := k) (b := f) (by omega) (by omega)).mpr h9)
      refine lv_aload_n hx hb dX2_dropChanges_10 rfl (lv_at hl 0 rfl) ?_
      refine wR_get (v := .ref (ad 5)) (C := RX2) (T := TX2) (N := 6) (ci := 2) hx hb hts hinX2 hown hK hP 1 (by omega) rfl rfl 3 (by decide) (hts (.fieldLink RX2 22 "ChangeStream$Store" "behind" "[Z") (by decide +kernel)) rfl rfl dX2_dropChanges_11 ?_
      refine lv_iload_n hx hb dX2_dropChanges_14 rfl (lv_at hl 1 rfl) ?_
      refine lv_aload_n hx hb dX2_dropChanges_15 rfl (lv_at hl 0 rfl) ?_
      refine wR_get (v := .ref (ad 4)) (C := RX2) (T := TX2) (N := 6) (ci := 2) hx hb hts hinX2 hown hK hP 1 (by omega) rfl rfl 2 (by decide) (hts (.fieldLink RX2 18 "ChangeStream$Store" "in" "[Z") (by decide +kernel)) rfl rfl dX2_dropChanges_16 ?_
      refine lv_iload_n hx hb dX2_dropChanges_19 rfl (lv_at hl 1 rfl) ?_
      refine wR_zld (f := V 4) (v := (V 4) f) hx hb hK hP 4 1 (by omega) rfl rfl (nx_in (k := f) rfl (by omega) (by decide)) (j := f) (nx_cl rfl (by omega)) rfl dX2_dropChanges_20 ?_
      refine wR_zst (f := cpTo (V 5) (V 4) f) hx hb hK hP hD hS 5 1 (by omega) rfl rfl (h01 f) (nx_in (k := f) rfl (by omega) (by decide)) (j := f) (nx_cl rfl (by omega)) rfl dX2_dropChanges_21 (fun H locs hP hD hS => ?_)
      rw [bx_uu] at hP hD
      refine lv_iinc (v := nI (f + 1)) (lv' := [(1, .int (nI (f + 1))), (0, .ref (ad 1))]) hx hb dX2_dropChanges_22 hl (k := 1) rfl (nI_add _ 1) (by decide) rfl (fun ls hl => ?_)
      refine lv_goto (tgt := 2) hx hb dX2_dropChanges_25 (by decide) ?_
      rw [cpTo_s] at hP hD
      exact ih (f + 1) H locs ls (by omega) (by omega) hP hD hS (lv_sub hl [1, 0] rfl)

set_option maxHeartbeats 4000000 in
set_option maxRecDepth 100000 in
/-- Store.acceptChanges() -/
theorem c_X2_acceptChanges (l : Launch) (D : va_G) (cI cZ cR : ClassId) (ad : Nat → Nat) (na n : Nat) (I V : Nat → Nat → Int32) (sz : Nat) (hn : 11 ≤ n) (k : Nat) (hk : I 1 4 = nI k) (hk1 : k ≤ 100) (h01 : ∀ j, V 5 j = 0 ∨ V 5 j = 1) : Met l yX2_acceptChanges wsX2_acceptChanges ({ frames := 0, cells := 0, slots := 0, locals := 0 } : Room) (va_Pc [.ref (ad 1)] (wPre D vwCl (sT cI cZ cR) (sW cI cZ cR ad na n I V) sz wTrue)) (va_Qv (fun (u : Unit) => True) (wPost D vwCl (sT cI cZ cR) (fun (u : Unit) => sW cI cZ cR ad na n (va_up I 1 (va_up (I 1) 5 (nI 0))) (va_up V 4 (cpTo (V 4) (V 5) k))) (va_A (sW cI cZ cR ad na n I V) sz)) (va_A (sW cI cZ cR ad na n I V) sz)) 0 0 (va_A (sW cI cZ cR ad na n I V) sz) := by
  refine Met.ofW (cc := cX2_acceptChanges) (maxL := 2) (ret := none) (by decide) rfl ?_
  intro p e s m args below meth c s₁ B hml hv
  obtain ⟨rfl, hsz, hP, hK, hD0, hE⟩ := hv
  have hx := B.exec
  have hb := B.bytes
  have hr := B.returns
  have hts := atoms_spec (ws := wsX2_acceptChanges) B.pre
  have hown : s.vm.findClass RX2 = some m.cls := findClass_of_methodNamed B.named
  have hlocks := B.notSynchronized
  subst hsz
  have hD := hD0.self (sz := s.heap.size)
  generalize hAe : va_A (sW cI cZ cR ad na n I V) s.heap.size = A at hD ⊢
  have hA : ∀ q : Nat, s.heap.size ≤ q → A q := fun q h => by rw [← hAe]; exact Or.inr h
  have hS : va_S A s.heap s.heap [] := va_S.rf
  have hinX2 : ∀ w ∈ wsX20, w ∈ wsX2_acceptChanges := by decide +kernel
  have hl := lv_entry ([.ref (ad 1)]) (n := 2) (Nat.le_of_ble_eq_true rfl)
  rw [lg_entry_eq]
  generalize (lg_sl ([.ref (ad 1)]) ++ List.replicate (2 - (lg_sl ([.ref (ad 1)])).length) Slot.unset).toArray = ls at hl ⊢
  have hl : lv_has ls 2 [(0, .ref (ad 1))] := hl
  refine lv_iconst (v := nI 0) hx hb dX2_acceptChanges_0 (by decide) ?_
  refine lv_istore_n (lv' := [(1, .int (nI 0)), (0, .ref (ad 1))]) hx hb dX2_acceptChanges_1 rfl hl (by decide) rfl (fun ls hl => ?_)
  have hZ : V = va_up V 4 (cpTo (V 4) (V 5) 0) := by rw [cpTo_0, wR_same]
  rw [hZ] at hP hD
  refine lp_X2_acceptChanges l D cI cZ cR ad na n I V k hx hb hml hts hown hK hA hn hk hk1 h01 (fun  H locs ls  hP hD hS hl => ?_) (k + 1) 0 s.heap [] ls (by omega) (by omega) hP hD hS (lv_sub hl [1, 0] rfl)
  refine lv_aload_n hx hb dX2_acceptChanges_28 rfl (lv_at hl 0 rfl) ?_
  refine lv_iconst (v := nI 0) hx hb dX2_acceptChanges_29 (by decide) ?_
  refine wR_put (C := RX2) (T := TX2) (N := 6) (ci := 2) hx hb hts hinX2 tyX2 tyX2_ok nmX2 hown hK hP hD hS 1 (by omega) rfl rfl 5 (by decide) (hts (.fieldLink RX2 29 "ChangeStream$Store" "changeCount" "I") (by decide +kernel)) rfl rfl (by decide +kernel) (by simp) (va_up (I 1) 5 (nI 0)) rfl dX2_acceptChanges_30 (fun H locs hP hD hS => ?_)
  exact W.vret hx hb hr (fun t ht hW => ⟨⟨(), rfl, trivial, by rw [ht]; exact hP, va_K.moved hW.alike hK, hD⟩, hS.F ht⟩) hS.2.2 dX2_acceptChanges_33

set_option maxHeartbeats 4000000 in
set_option maxRecDepth 100000 in
/-- Store.dropChanges() -/
theorem c_X2_dropChanges (l : Launch) (D : va_G) (cI cZ cR : ClassId) (ad : Nat → Nat) (na n : Nat) (I V : Nat → Nat → Int32) (sz : Nat) (hn : 11 ≤ n) (k : Nat) (hk : I 1 4 = nI k) (hk1 : k ≤ 100) (q : Nat) (hq : I 1 5 = nI q) (h01 : ∀ j, V 4 j = 0 ∨ V 4 j = 1) : Met l yX2_dropChanges wsX2_dropChanges ({ frames := 0, cells := 0, slots := 0, locals := 0 } : Room) (va_Pc [.ref (ad 1)] (wPre D vwCl (sT cI cZ cR) (sW cI cZ cR ad na n I V) sz wTrue)) (va_Qi (fun (r : Int32) (u : Unit) => r = nI q) (wPost D vwCl (sT cI cZ cR) (fun (u : Unit) => sW cI cZ cR ad na n (va_up I 1 (va_up (I 1) 5 (nI 0))) (va_up V 5 (cpTo (V 5) (V 4) k))) (va_A (sW cI cZ cR ad na n I V) sz)) (va_A (sW cI cZ cR ad na n I V) sz)) 0 0 (va_A (sW cI cZ cR ad na n I V) sz) := by
  refine Met.ofW (cc := cX2_dropChanges) (maxL := 2) (ret := (some .int)) (by decide) rfl ?_
  intro p e s m args below meth c s₁ B hml hv
  obtain ⟨rfl, hsz, hP, hK, hD0, hE⟩ := hv
  have hx := B.exec
  have hb := B.bytes
  have hr := B.returns
  have hts := atoms_spec (ws := wsX2_dropChanges) B.pre
  have hown : s.vm.findClass RX2 = some m.cls := findClass_of_methodNamed B.named
  have hlocks := B.notSynchronized
  subst hsz
  have hD := hD0.self (sz := s.heap.size)
  generalize hAe : va_A (sW cI cZ cR ad na n I V) s.heap.size = A at hD ⊢
  have hA : ∀ q : Nat, s.heap.size ≤ q → A q := fun q h => by rw [← hAe]; exact Or.inr h
  have hS : va_S A s.heap s.heap [] := va_S.rf
  have hinX2 : ∀ w ∈ wsX20, w ∈ wsX2_dropChanges := by decide +kernel
  have hl := lv_entry ([.ref (ad 1)]) (n := 2) (Nat.le_of_ble_eq_true rfl)
  rw [lg_entry_eq]
  generalize (lg_sl ([.ref (ad 1)]) ++ List.replicate (2 - (lg_sl ([.ref (ad 1)])).length) Slot.unset).toArray = ls at hl ⊢
  have hl : lv_has ls 2 [(0, .ref (ad 1))] := hl
  refine lv_iconst (v := nI 0) hx hb dX2_dropChanges_0 (by decide) ?_
  refine lv_istore_n (lv' := [(1, .int (nI 0)), (0, .ref (ad 1))]) hx hb dX2_dropChanges_1 rfl hl (by decide) rfl (fun ls hl => ?_)
  have hZ : V = va_up V 5 (cpTo (V 5) (V 4) 0) := by rw [cpTo_0, wR_same]
  rw [hZ] at hP hD
  refine lp_X2_dropChanges l D cI cZ cR ad na n I V k hx hb hml hts hown hK hA hn hk hk1 h01 (fun  H locs ls  hP hD hS hl => ?_) (k + 1) 0 s.heap [] ls (by omega) (by omega) hP hD hS (lv_sub hl [1, 0] rfl)
  refine lv_aload_n hx hb dX2_dropChanges_28 rfl (lv_at hl 0 rfl) ?_
  refine wR_get (v := .int (nI q)) (C := RX2) (T := TX2) (N := 6) (ci := 2) hx hb hts hinX2 hown hK hP 1 (by omega) rfl rfl 5 (by decide) (hts (.fieldLink RX2 29 "ChangeStream$Store" "changeCount" "I") (by decide +kernel)) rfl (congrArg (fun z => some (Value.int z)) hq) dX2_dropChanges_29 ?_
  refine lv_istore_n (lv' := [(1, .int (nI q)), (0, .ref (ad 1))]) hx hb dX2_dropChanges_32 rfl hl (by decide) rfl (fun ls hl => ?_)
  refine lv_aload_n hx hb dX2_dropChanges_33 rfl (lv_at hl 1 rfl) ?_
  refine lv_iconst (v := nI 0) hx hb dX2_dropChanges_34 (by decide) ?_
  refine wR_put (C := RX2) (T := TX2) (N := 6) (ci := 2) hx hb hts hinX2 tyX2 tyX2_ok nmX2 hown hK hP hD hS 1 (by omega) rfl rfl 5 (by decide) (hts (.fieldLink RX2 29 "ChangeStream$Store" "changeCount" "I") (by decide +kernel)) rfl rfl (by decide +kernel) (by simp) (va_up (I 1) 5 (nI 0)) rfl dX2_dropChanges_35 (fun H locs hP hD hS => ?_)
  refine lv_iload_n hx hb dX2_dropChanges_38 rfl (lv_at hl 0 rfl) ?_
  exact W.iret (v := nI q) hx hb hr (fun t ht hW => ⟨⟨nI q, (), rfl, rfl, by rw [ht]; exact hP, va_K.moved hW.alike hK, hD⟩, hS.F ht⟩) hS.2.2 dX2_dropChanges_39
