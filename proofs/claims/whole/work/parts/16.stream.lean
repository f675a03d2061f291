theorem wI_in {r x : Int32} {a b : Int} (h : r = wI x a b) (h2 : r ≠ 0) : a ≤ x.toInt ∧ x.toInt ≤ b := by
  refine Decidable.byContradiction (fun h3 => h2 ?_)
  rw [h, wI, if_neg h3]
theorem wI_out {r x : Int32} {a b : Int} (h : r = wI x a b) (h2 : r = 0) : ¬ (a ≤ x.toInt ∧ x.toInt ≤ b) := by
  intro h3
  rw [wI, if_pos h3] at h
  rw [h] at h2
  exact absurd h2 (by decide)
theorem xC_1 {E : String} {Z : Prop} [Decidable Z] (h : xC E (if Z then 1 else 0)) : E = "java/lang/IllegalArgumentException" ∧ Z := by
  by_cases hz : Z
  · rw [if_pos hz] at h
    rcases h with h | h
    · exact ⟨h.1, hz⟩
    · exact absurd h.2 (by decide)
  · rw [if_neg hz] at h
    rcases h with h | h
    · exact absurd h.2 (by decide)
    · exact absurd h.2 (by decide)
theorem cd_0 {Z : Prop} [Decidable Z] (h : (if Z then 1 else 0) = (0 : Nat)) : ¬ Z := by
  intro hz
  rw [if_pos hz] at h
  exact absurd h (by decide)
theorem nx_nn {x : Int32} (h : 0 ≤ x.toInt) : x = nI x.toNatClampNeg ∧ (x.toNatClampNeg : Int) = x.toInt := by
  have h2 : (x.toNatClampNeg : Int) = x.toInt := Int.toNat_of_nonneg h
  have h3 : x.toInt < 2 ^ 31 := Int32.toInt_lt x
  refine ⟨?_, h2⟩
  apply Int32.toInt_inj.mp
  rw [nI_toInt (by omega), h2]
theorem sC_qa {ad : Nat → Nat} {na j : Nat} (h : j < na) : va_rf (sC_q ad na j) = .ref (ad (11 + 6 * j)) := by
  rw [sC_q, if_pos h]
  rfl
section WAld
variable {p : Program} {l : Launch} {e : Env} {R : Room} {s : State} {m : MethodId} {args : Array Value} {below : List Frame} {meth : Method} {c : Code} {H : Heap} {locs : List Loc} {cells slots : Nat} {Q : State → Prop}
variable {cc : ByteArray} {pc : Nat} {ls : Array Slot} {rest : List Value} {D : va_G} {cl : List vw_C} {A : Nat → Prop} {tys : List (ClassId × FieldType)} {H0 : Heap}
variable {ad : Nat → Nat} {cf : Nat → (Nat → Int32) → (Nat → Int32) → va_E} {nr : Nat} {I V : Nat → Nat → Int32}
theorem wR_ald (hexec : p.tables.exec = Jvm.exec) (hb : c.code = cc) (hK : va_K D cl tys s) (hP : va_P D cl (wR ad cf nr I V) H) (r t0 : Nat) (hr : r < nr) {cA : ClassId} {C : String} {n : Nat} {f : Nat → Option Nat} (he : cf r (I r) (V r) = .inl (cA, n, .inr (.inr (.inr (.inr f))))) (ht : tys[t0]? = some (cA, .object C)) {i : Int32} (hin : vp_in i n) {j : Nat} (hj : i.toNatClampNeg = j) {v : Value} (hv : va_rf (f j) = v) (hdg : decode cc pc = .ok (.aaload, 1))
    (kk : W p l e R s m args below meth c H locs cells slots Q (F0 m (pc + 1) ls (v :: rest))) : W p l e R s m args below meth c H locs cells slots Q (F0 m pc ls (.int i :: .ref (ad r) :: rest)) := by
  subst hj; subst hv
  exact va_aldq hexec hb hK hP r t0 (wR_at hr he) ht hin hdg kk
end WAld

set_option maxHeartbeats 4000000 in
set_option maxRecDepth 100000 in
/-- demand(b) -/
theorem c_X3_demand (l : Launch) (D : va_G) (tys : List (ClassId × FieldType)) (w : va_W) (sz : Nat) (hlt : l.stackTraces = false) (b : Int32) (cd : Nat) (hcd : cd = if b = 0 then 1 else 0) : vx_Met l yX3_demand wsX3_demand ({ frames := 6, cells := 1, slots := 6, locals := 82 } : Room) (va_Pc [.int b] (wPre D vwCl tys (w) sz (eX (va_A (w) sz)))) (va_Qv (fun (u : Unit) => cd = 0 ∧ b ≠ 0) (wPost D vwCl tys (fun (u : Unit) => w) (va_A (w) sz)) (va_A (w) sz)) (wXc D vwCl tys (w) (va_A (w) sz) cd) 1 6 (va_A (w) sz) := by
  refine vx_ofW (cc := cX3_demand) (maxL := 1) (ret := none) (by decide) rfl ?_
  intro p e s m args below meth c s₁ B hml htab hv
  obtain ⟨rfl, hsz, hP, hK, hD0, hE⟩ := hv
  have hx := B.exec
  have hb := B.bytes
  have hr := B.returns
  have hts := atoms_spec (ws := wsX3_demand) B.pre
  have hown : s.vm.findClass RX3 = some m.cls := findClass_of_methodNamed B.named
  have hlocks := B.notSynchronized
  subst hsz
  have hD := hD0.self (sz := s.heap.size)
  generalize hAe : va_A (w) s.heap.size = A at hD hE ⊢
  have hA : ∀ q : Nat, s.heap.size ≤ q → A q := fun q h => by rw [← hAe]; exact Or.inr h
  have hS : va_S A s.heap s.heap [] := va_S.rf
  have hl := lv_entry ([.int b]) (n := 1) (Nat.le_of_ble_eq_true rfl)
  rw [lg_entry_eq]
  generalize (lg_sl ([.int b]) ++ List.replicate (1 - (lg_sl ([.int b])).length) Slot.unset).toArray = ls at hl ⊢
  have hl : lv_has ls 1 [(0, .int b)] := hl
  obtain ⟨eN1, eA, eS, ej1, ej2, ej3, ⟨s46, e46⟩, ⟨s62, e62⟩, ⟨s94, e94⟩, ⟨s122, e122⟩, ⟨s187, e187⟩, ⟨s190, e190⟩, eU, eV⟩ := id hE
  refine lv_iload_n hx hb dX3_demand_0 rfl (lv_at hl 0 rfl) ?_
  refine lv_if_ne (tgt := 14) hx hb dX3_demand_1 (by decide) (fun c_1 => ?_) (fun c_1 => ?_)
  · refine vx_ret ?_
    refine W.widen (k := 1) (n := 6) (by decide) (by decide) ?_
    exact W.vret hx hb hr (fun t ht hW => ⟨⟨(), rfl, ⟨(by rw [hcd, if_neg (by assumption)]), (by assumption)⟩, by rw [ht]; exact hP, va_K.moved hW.alike hK, hD⟩, hS.F ht⟩) hS.2.2 dX3_demand_14
  · exact w_throw (own := RX3) (cls := "java/lang/IllegalArgumentException") (names := ["java/lang/RuntimeException", "java/lang/Exception"]) (text := "no such thing, or a number that may not be") hx hb hlt hts hown (by decide) (by decide) (by decide +kernel) (by decide +kernel) e187 (by decide +kernel) x_IA (xB_of eA ej1 ej2 ej3) x_gA eU eV hP hK hD hS (hl.1.trans hml.symm) dX3_demand_4 dX3_demand_7 dX3_demand_8 dX3_demand_10 dX3_demand_13 htab (by decide) (by decide) (by decide) (by decide) hlocks (Or.inl ⟨rfl, (by rw [hcd, if_pos (by assumption)])⟩) (by decide) (by decide)

set_option maxHeartbeats 4000000 in
set_option maxRecDepth 100000 in
/-- readerAt(x) -/
theorem c_X3_readerAt (l : Launch) (D : va_G) (cI cZ cR : ClassId) (ad : Nat → Nat) (na n : Nat) (I V : Nat → Nat → Int32) (sz : Nat) (hlt : l.stackTraces = false) (hn : n = 11 + 6 * na) (hna : I 0 3 = nI na) (hna6 : na ≤ 6) (x : Int32) (cd : Nat) (hcd : cd = if ¬ (0 ≤ x.toInt ∧ x.toInt ≤ ((na : Nat) : Int) - 1) then 1 else 0) : vx_Met l yX3_readerAt wsX3_readerAt ({ frames := 6, cells := 1, slots := 6, locals := 84 } : Room) (va_Pc [.ref (ad 0), .int x] (wPre D vwCl (sT cI cZ cR) (sW cI cZ cR ad na n I V) sz (eX (va_A (sW cI cZ cR ad na n I V) sz)))) (va_Qr (fun (u : Unit) => cd = 0) (fun (u : Unit) (q : Nat) (t : State) => q = ad (11 + 6 * x.toNatClampNeg) ∧ wPost D vwCl (sT cI cZ cR) (fun (u : Unit) => sW cI cZ cR ad na n I V) (va_A (sW cI cZ cR ad na n I V) sz) u t) (va_A (sW cI cZ cR ad na n I V) sz)) (wXc D vwCl (sT cI cZ cR) (sW cI cZ cR ad na n I V) (va_A (sW cI cZ cR ad na n I V) sz) cd) 1 6 (va_A (sW cI cZ cR ad na n I V) sz) := by
  refine vx_ofW (cc := cX3_readerAt) (maxL := 3) (ret := (some (.object "ChangeStream$Reader"))) (by decide) rfl ?_
  intro p e s m args below meth c s₁ B hml htab hv
  obtain ⟨rfl, hsz, hP, hK, hD0, hE⟩ := hv
  have hx := B.exec
  have hb := B.bytes
  have hr := B.returns
  have hts := atoms_spec (ws := wsX3_readerAt) B.pre
  have hown : s.vm.findClass RX3 = some m.cls := findClass_of_methodNamed B.named
  have hlocks := B.notSynchronized
  subst hsz
  have hD := hD0.self (sz := s.heap.size)
  generalize hAe : va_A (sW cI cZ cR ad na n I V) s.heap.size = A at hD hE ⊢
  have hA : ∀ q : Nat, s.heap.size ≤ q → A q := fun q h => by rw [← hAe]; exact Or.inr h
  have hS : va_S A s.heap s.heap [] := va_S.rf
  have hinX3 : ∀ w ∈ wsX30, w ∈ wsX3_readerAt := by decide +kernel
  have hl := lv_entry ([.ref (ad 0), .int x]) (n := 3) (Nat.le_of_ble_eq_true rfl)
  rw [lg_entry_eq]
  generalize (lg_sl ([.ref (ad 0), .int x]) ++ List.replicate (3 - (lg_sl ([.ref (ad 0), .int x])).length) Slot.unset).toArray = ls at hl ⊢
  have hl : lv_has ls 3 [(0, .ref (ad 0)), (1, .int x)] := hl
  obtain ⟨eN1, eA, eS, ej1, ej2, ej3, ⟨s46, e46⟩, ⟨s62, e62⟩, ⟨s94, e94⟩, ⟨s122, e122⟩, ⟨s187, e187⟩, ⟨s190, e190⟩, eU, eV⟩ := id hE
  refine lv_iload_n hx hb dX3_readerAt_0 rfl (lv_at hl 1 rfl) ?_
  refine lv_iconst (v := nI 0) hx hb dX3_readerAt_1 (by decide) ?_
  refine lv_aload_n hx hb dX3_readerAt_2 rfl (lv_at hl 0 rfl) ?_
  refine wR_get (v := .int (nI na)) (C := RX3) (T := TX3) (N := 4) (ci := 3) hx hb hts hinX3 hown hK hP 0 (by omega) rfl rfl 3 (by decide) (hts (.fieldLink RX3 29 "ChangeStream" "readerCount" "I") (by decide +kernel)) rfl (congrArg (fun z => some (Value.int z)) hna) dX3_readerAt_3 ?_
  refine lv_iconst (v := nI 1) hx hb dX3_readerAt_6 (by decide) ?_
  refine lv_isub hx hb dX3_readerAt_7 ?_
  refine w_calli (w := sW cI cZ cR ad na n I V) hS hA hK hD (va_runS (As := [.int x, .int (nI 0), .int ((nI na) - (nI 1))]) (rest := []) ⟨hx, hb, hml, hown, hts⟩ (c_X3_isWithin l D (sT cI cZ cR) (sW cI cZ cR ad na n I V) wTrue s.heap.size x (nI 0) ((nI na) - (nI 1))) (va_cwS 3 hts gX3_readerAt_X3_isWithin rfl rfl rfl (by decide +kernel) ⟨Nat.le_of_ble_eq_true rfl, Nat.le_of_ble_eq_true rfl⟩) (w_pre hP hK hD wEnv_true) rfl rfl hl.1 rfl (lv_room (Nat.le_of_ble_eq_true rfl)) dX3_readerAt_8 ⟨Nat.le_of_ble_eq_true rfl, Nat.le_of_ble_eq_true rfl⟩) (fun r_2 u H locs hw hP hD hS hz => ?_)
  have hw_1 : r_2 = wI x (0) (((na : Nat) : Int) - 1) := by rw [hw, nI_toInt (n := 0) (by decide), pk_sub_toInt (a := na) (b := 1) (by omega) (by decide)]; rfl
  refine lv_if_eq (tgt := 23) hx hb dX3_readerAt_11 (by decide) (fun c_3 => ?_) (fun c_3 => ?_)
  · have hq9 := wI_out hw_1 c_3
    refine lv_null hx hb dX3_readerAt_23 ?_
    refine lv_astore_nN (lv' := [(2, .null), (0, .ref (ad 0)), (1, .int x)]) hx hb dX3_readerAt_24 rfl hl (by decide) rfl (fun ls hl => ?_)
    refine lv_aload_nN hx hb dX3_readerAt_25 rfl (lv_at hl 0 rfl) ?_
    refine lv_ifnonnullN hx hb dX3_readerAt_26 ?_
    exact w_throw (own := RX3) (cls := "java/lang/IllegalArgumentException") (names := ["java/lang/RuntimeException", "java/lang/Exception"]) (text := "no such reader") hx hb hlt hts hown (by decide) (by decide) (by decide +kernel) (by decide +kernel) e190 (by decide +kernel) x_IA (xB_of eA ej1 ej2 ej3) x_gA eU eV hP hK hD hS (hl.1.trans hml.symm) dX3_readerAt_29 dX3_readerAt_32 dX3_readerAt_33 dX3_readerAt_35 dX3_readerAt_38 htab (by decide) (by decide) (by decide) (by decide) hlocks (Or.inl ⟨rfl, (by rw [hcd, if_pos (by omega)])⟩) (by decide) (by decide)
  · have hq9 := wI_in hw_1 c_3
    obtain ⟨hxj, hxi⟩ := nx_nn hq9.1
    obtain ⟨j, hj⟩ : ∃ j, j = x.toNatClampNeg := ⟨_, rfl⟩
    rw [← hj] at hxj hxi
    refine lv_aload_n hx hb dX3_readerAt_14 rfl (lv_at hl 0 rfl) ?_
    refine wR_get (v := .ref (ad 10)) (C := RX3) (T := TX3) (N := 4) (ci := 3) hx hb hts hinX3 hown hK hP 0 (by omega) rfl rfl 2 (by decide) (hts (.fieldLink RX3 25 "ChangeStream" "readers" "[LChangeStream$Reader;") (by decide +kernel)) rfl rfl dX3_readerAt_15 ?_
    refine lv_iload_n hx hb dX3_readerAt_18 rfl (lv_at hl 1 rfl) ?_
    refine wR_ald hx hb hK hP 10 2 (by omega) rfl rfl (nx_in (k := j) hxj (by omega) (by decide)) (j := j) (nx_cl hxj (by omega)) (v := .ref (ad (11 + 6 * j))) (sC_qa (by omega)) dX3_readerAt_19 ?_
    refine lv_goto (tgt := 24) hx hb dX3_readerAt_20 (by decide) ?_
    refine lv_astore_n (lv' := [(2, .ref (ad (11 + 6 * j))), (0, .ref (ad 0)), (1, .int x)]) hx hb dX3_readerAt_24 rfl hl (by decide) rfl (fun ls hl => ?_)
    refine lv_aload_n hx hb dX3_readerAt_25 rfl (lv_at hl 0 rfl) ?_
    refine lv_ifnonnull (tgt := 39) hx hb dX3_readerAt_26 (by decide) ?_
    refine lv_aload_n hx hb dX3_readerAt_39 rfl (lv_at hl 0 rfl) ?_
    refine vx_ret ?_
    refine W.widen (k := 1) (n := 6) (by decide) (by decide) ?_
    exact W.aret (v := .ref (ad (11 + 6 * j))) hx hb hr (Or.inl ⟨_, rfl⟩) (Or.inr ⟨_, rfl⟩) (fun t ht hW => ⟨⟨(), ad (11 + 6 * j), rfl, (by rw [hcd, if_neg (by omega)]), (by rw [hj]), by rw [ht]; exact hP, va_K.moved hW.alike hK, hD⟩, hS.F ht⟩) hS.2.2 dX3_readerAt_40

set_option maxHeartbeats 4000000 in
set_option maxRecDepth 100000 in
/-- fact(g, pr) -/
theorem c_X3_fact (l : Launch) (D : va_G) (cI cZ cR : ClassId) (ad : Nat → Nat) (na n : Nat) (I V : Nat → Nat → Int32) (sz : Nat) (hlt : l.stackTraces = false) (hn : n = 11 + 6 * na) (hna : I 0 3 = nI na) (hna6 : na ≤ 6) (k : Nat) (hk : I 1 4 = nI k) (hk1 : k ≤ 100) (g pr : Int32) (cd : Nat) (hcd : cd = if ¬ (0 ≤ g.toInt ∧ g.toInt ≤ 7) ∨ ¬ (0 ≤ pr.toInt ∧ pr.toInt ≤ 15) then 1 else if k = 100 then 2 else 0) : vx_Met l yX3_fact wsX3_fact ({ frames := 7, cells := 3, slots := 18, locals := 102 } : Room) (va_Pc [.ref (ad 0), .int g, .int pr] (wPre D vwCl (sT cI cZ cR) (sW cI cZ cR ad na n I V) sz (eX (va_A (sW cI cZ cR ad na n I V) sz)))) (va_Qi (fun (r : Int32) (u : Unit) => cd = 0 ∧ r = nI k) (wPost D vwCl (sT cI cZ cR) (fun (u : Unit) => sW cI cZ cR ad na n (va_up I 1 (va_up (I 1) 4 (nI (k + 1)))) (va_up (va_up V 2 (va_up (V 2) k g)) 3 (va_up (V 3) k pr))) (va_A (sW cI cZ cR ad na n I V) sz)) (va_A (sW cI cZ cR ad na n I V) sz)) (wXc D vwCl (sT cI cZ cR) (sW cI cZ cR ad na n I V) (va_A (sW cI cZ cR ad na n I V) sz) cd) 3 18 (va_A (sW cI cZ cR ad na n I V) sz) := by
  refine vx_ofW (cc := cX3_fact) (maxL := 3) (ret := (some .int)) (by decide) rfl ?_
  intro p e s m args below meth c s₁ B hml htab hv
  obtain ⟨rfl, hsz, hP, hK, hD0, hE⟩ := hv
  have hx := B.exec
  have hb := B.bytes
  have hr := B.returns
  have hts := atoms_spec (ws := wsX3_fact) B.pre
  have hown : s.vm.findClass RX3 = some m.cls := findClass_of_methodNamed B.named
  have hlocks := B.notSynchronized
  subst hsz
  have hD := hD0.self (sz := s.heap.size)
  generalize hAe : va_A (sW cI cZ cR ad na n I V) s.heap.size = A at hD hE ⊢
  have hA : ∀ q : Nat, s.heap.size ≤ q → A q := fun q h => by rw [← hAe]; exact Or.inr h
  have hS : va_S A s.heap s.heap [] := va_S.rf
  have hinX2 : ∀ w ∈ wsX20, w ∈ wsX3_fact := by decide +kernel
  have hinX3 : ∀ w ∈ wsX30, w ∈ wsX3_fact := by decide +kernel
  have hl := lv_entry ([.ref (ad 0), .int g, .int pr]) (n := 3) (Nat.le_of_ble_eq_true rfl)
  rw [lg_entry_eq]
  generalize (lg_sl ([.ref (ad 0), .int g, .int pr]) ++ List.replicate (3 - (lg_sl ([.ref (ad 0), .int g, .int pr])).length) Slot.unset).toArray = ls at hl ⊢
  have hl : lv_has ls 3 [(0, .ref (ad 0)), (1, .int g), (2, .int pr)] := hl
  obtain ⟨eN1, eA, eS, ej1, ej2, ej3, ⟨s46, e46⟩, ⟨s62, e62⟩, ⟨s94, e94⟩, ⟨s122, e122⟩, ⟨s187, e187⟩, ⟨s190, e190⟩, eU, eV⟩ := id hE
  refine lv_iload_n hx hb dX3_fact_0 rfl (lv_at hl 1 rfl) ?_
  refine lv_iconst (v := nI 0) hx hb dX3_fact_1 (by decide) ?_
  refine lv_bipush (v := nI 7) hx hb dX3_fact_2 (by decide) ?_
  refine w_calli (w := sW cI cZ cR ad na n I V) hS hA hK hD (va_runS (As := [.int g, .int (nI 0), .int (nI 7)]) (rest := []) ⟨hx, hb, hml, hown, hts⟩ (c_X3_isWithin l D (sT cI cZ cR) (sW cI cZ cR ad na n I V) wTrue s.heap.size g (nI 0) (nI 7)) (va_cwS 3 hts gX3_fact_X3_isWithin rfl rfl rfl (by decide +kernel) ⟨Nat.le_of_ble_eq_true rfl, Nat.le_of_ble_eq_true rfl⟩) (w_pre hP hK hD wEnv_true) rfl rfl hl.1 rfl (lv_room (Nat.le_of_ble_eq_true rfl)) dX3_fact_4 ⟨Nat.le_of_ble_eq_true rfl, Nat.le_of_ble_eq_true rfl⟩) (fun r_2 u H locs hw hP hD hS hz => ?_)
  have hw_1 : r_2 = wI g (0) (7) := by rw [hw, nI_toInt (n := 0) (by decide), nI_toInt (n := 7) (by decide)]; rfl
  refine w_callxv (w := sW cI cZ cR ad na n I V) hS hA hK hD (vx_runS (As := [.int r_2]) (rest := []) ⟨hx, hb, hml, hown, hts⟩ (c_X3_demand l D (sT cI cZ cR) (sW cI cZ cR ad na n I V) H.size hlt r_2 (if r_2 = 0 then 1 else 0) rfl) (va_cwS 1 hts gX3_fact_X3_demand rfl rfl rfl (by decide +kernel) ⟨Nat.le_of_ble_eq_true rfl, Nat.le_of_ble_eq_true rfl⟩) (w_pre hP hK hD (eX_env hE hS (w_free hD hS hA))) rfl rfl hl.1 rfl (lv_room (Nat.le_of_ble_eq_true rfl)) dX3_fact_7 ⟨Nat.le_of_ble_eq_true rfl, Nat.le_of_ble_eq_true rfl⟩) (fun E9 ce q9 H locs hxc hP hS hce hcv hcl => ?_) (fun u H locs hw hP hD hS hz => ?_)
  · obtain ⟨hE1, hb0⟩ := xC_1 hxc
    have hq_3 := wI_out hw_1 hb0
    exact w_out htab hlocks hce hcv hcl hP hK hD hS (Or.inl ⟨hE1, (by rw [hcd, if_pos (by omega)])⟩) (by decide) (by decide)
  · have hq_3 := wI_in hw_1 hw.2
    refine lv_iload_n hx hb dX3_fact_10 rfl (lv_at hl 2 rfl) ?_
    refine lv_iconst (v := nI 0) hx hb dX3_fact_11 (by decide) ?_
    refine lv_bipush (v := nI 15) hx hb dX3_fact_12 (by decide) ?_
    refine w_calli (w := sW cI cZ cR ad na n I V) hS hA hK hD (va_runS (As := [.int pr, .int (nI 0), .int (nI 15)]) (rest := []) ⟨hx, hb, hml, hown, hts⟩ (c_X3_isWithin l D (sT cI cZ cR) (sW cI cZ cR ad na n I V) wTrue H.size pr (nI 0) (nI 15)) (va_cwS 3 hts gX3_fact_X3_isWithin rfl rfl rfl (by decide +kernel) ⟨Nat.le_of_ble_eq_true rfl, Nat.le_of_ble_eq_true rfl⟩) (w_pre hP hK hD wEnv_true) rfl rfl hl.1 rfl (lv_room (Nat.le_of_ble_eq_true rfl)) dX3_fact_14 ⟨Nat.le_of_ble_eq_true rfl, Nat.le_of_ble_eq_true rfl⟩) (fun r_6 u H locs hw hP hD hS hz => ?_)
    have hw_5 : r_6 = wI pr (0) (15) := by rw [hw, nI_toInt (n := 0) (by decide), nI_toInt (n := 15) (by decide)]; rfl
    refine w_callxv (w := sW cI cZ cR ad na n I V) hS hA hK hD (vx_runS (As := [.int r_6]) (rest := []) ⟨hx, hb, hml, hown, hts⟩ (c_X3_demand l D (sT cI cZ cR) (sW cI cZ cR ad na n I V) H.size hlt r_6 (if r_6 = 0 then 1 else 0) rfl) (va_cwS 1 hts gX3_fact_X3_demand rfl rfl rfl (by decide +kernel) ⟨Nat.le_of_ble_eq_true rfl, Nat.le_of_ble_eq_true rfl⟩) (w_pre hP hK hD (eX_env hE hS (w_free hD hS hA))) rfl rfl hl.1 rfl (lv_room (Nat.le_of_ble_eq_true rfl)) dX3_fact_17 ⟨Nat.le_of_ble_eq_true rfl, Nat.le_of_ble_eq_true rfl⟩) (fun E9 ce q9 H locs hxc hP hS hce hcv hcl => ?_) (fun u H locs hw hP hD hS hz => ?_)
    · obtain ⟨hE1, hb0⟩ := xC_1 hxc
      have hq_7 := wI_out hw_5 hb0
      exact w_out htab hlocks hce hcv hcl hP hK hD hS (Or.inl ⟨hE1, (by rw [hcd, if_pos (by omega)])⟩) (by decide) (by decide)
    · have hq_7 := wI_in hw_5 hw.2
      refine lv_aload_n hx hb dX3_fact_20 rfl (lv_at hl 0 rfl) ?_
      refine wR_get (v := .ref (ad 1)) (C := RX3) (T := TX3) (N := 4) (ci := 3) hx hb hts hinX3 hown hK hP 0 (by omega) rfl rfl 0 (by decide) (hts (.fieldLink RX3 10 "ChangeStream" "store" "LChangeStream$Store;") (by decide +kernel)) rfl rfl dX3_fact_21 ?_
      refine wR_get (v := .int (nI k)) (C := RX2) (T := TX2) (N := 6) (ci := 2) hx hb hts hinX2 hown hK hP 1 (by omega) rfl rfl 4 (by decide) (hts (.fieldLink RX3 41 "ChangeStream$Store" "factCount" "I") (by decide +kernel)) rfl (congrArg (fun z => some (Value.int z)) hk) dX3_fact_24 ?_
      refine lv_bipush (v := nI 100) hx hb dX3_fact_27 (by decide) ?_
      refine lv_icmp_lt (tgt := 42) hx hb dX3_fact_29 (by decide) (fun c_9 => ?_) (fun c_9 => ?_)
      · have c_9 : k < 100 := (nI_ltI (a := k) (b := 100) (by omega) (by omega)).mp c_9
        refine lv_aload_n hx hb dX3_fact_42 rfl (lv_at hl 0 rfl) ?_
        refine wR_get (v := .ref (ad 1)) (C := RX3) (T := TX3) (N := 4) (ci := 3) hx hb hts hinX3 hown hK hP 0 (by omega) rfl rfl 0 (by decide) (hts (.fieldLink RX3 10 "ChangeStream" "store" "LChangeStream$Store;") (by decide +kernel)) rfl rfl dX3_fact_43 ?_
        refine lv_iload_n hx hb dX3_fact_46 rfl (lv_at hl 1 rfl) ?_
        refine lv_iload_n hx hb dX3_fact_47 rfl (lv_at hl 2 rfl) ?_
        refine w_calli (w := sW cI cZ cR ad na n I V) hS hA hK hD (va_runV (As := [.int g, .int pr]) (rest := []) ⟨hx, hb, hml, hown, hts⟩ (c_X2_addFact l D cI cZ cR ad na n I V H.size (by omega) k hk (by omega) g pr) (cwV 2 hts gX3_fact_X2_addFact rfl rfl rfl (by decide +kernel) ⟨Nat.le_of_ble_eq_true rfl, Nat.le_of_ble_eq_true rfl⟩) ⟨(w_pre hP hK hD wEnv_true).1, wR_recv (C := RX2) (T := TX2) (N := 6) hK hP (ci := 2) rfl 1 (by omega) rfl, (w_pre hP hK hD wEnv_true).2⟩ rfl rfl hl.1 rfl (lv_room (Nat.le_of_ble_eq_true rfl)) dX3_fact_48 ⟨Nat.le_of_ble_eq_true rfl, Nat.le_of_ble_eq_true rfl⟩) (fun r_10 u H locs hw hP hD hS hz => ?_)
        rw [show r_10 = nI k from hw]
        refine vx_ret ?_
        refine W.widen (k := 3) (n := 18) (by decide) (by decide) ?_
        exact W.iret (v := nI k) hx hb hr (fun t ht hW => ⟨⟨nI k, (), rfl, ⟨(by rw [hcd, if_neg (by omega), if_neg (by omega)]), rfl⟩, by rw [ht]; exact hP, va_K.moved hW.alike hK, hD⟩, hS.F ht⟩) hS.2.2 dX3_fact_51
      · have c_9 : ¬ (k < 100) := fun h9 => c_9 ((nI_ltI (a := k) (b := 100) (by omega) (by omega)).mpr h9)
        exact w_throw (own := RX3) (cls := "java/lang/IllegalStateException") (names := ["java/lang/RuntimeException", "java/lang/Exception"]) (text := "no more facts") hx hb hlt hts hown (by decide) (by decide) (by decide +kernel) (by decide +kernel) e46 (by decide +kernel) x_IS (xB_of eS ej1 ej2 ej3) x_gS eU eV hP hK hD hS (hl.1.trans hml.symm) dX3_fact_32 dX3_fact_35 dX3_fact_36 dX3_fact_38 dX3_fact_41 htab (by decide) (by decide) (by decide) (by decide) hlocks (Or.inr ⟨rfl, (by rw [hcd, if_neg (by omega), if_pos (by omega)])⟩) (by decide) (by decide)

set_option maxHeartbeats 4000000 in
set_option maxRecDepth 100000 in
/-- change(x, b) -/
theorem c_X3_change (l : Launch) (D : va_G) (cI cZ cR : ClassId) (ad : Nat → Nat) (na n : Nat) (I V : Nat → Nat → Int32) (sz : Nat) (hlt : l.stackTraces = false) (hn : n = 11 + 6 * na) (hna : I 0 3 = nI na) (hna6 : na ≤ 6) (k : Nat) (hk : I 1 4 = nI k) (hk1 : k ≤ 100) (q : Nat) (hq : I 1 5 = nI q) (hq2 : q ≤ 20) (x b : Int32) (hb01 : b = 0 ∨ b = 1) (f : Nat) (hf : f = x.toNatClampNeg) (cd : Nat) (hcd : cd = if ¬ (0 ≤ x.toInt ∧ x.toInt ≤ ((k : Nat) : Int) - 1) then 1 else if q = 20 then 2 else 0) : vx_Met l yX3_change wsX3_change ({ frames := 7, cells := 2, slots := 12, locals := 102 } : Room) (va_Pc [.ref (ad 0), .int x, .int b] (wPre D vwCl (sT cI cZ cR) (sW cI cZ cR ad na n I V) sz (eX (va_A (sW cI cZ cR ad na n I V) sz)))) (va_Qi (fun (r : Int32) (u : Unit) => cd = 0 ∧ r = nI (q + 1)) (wPost D vwCl (sT cI cZ cR) (fun (u : Unit) => sW cI cZ cR ad na n (va_up I 1 (va_up (I 1) 5 (nI (q + 1)))) (va_up V 5 (va_up (V 5) f b))) (va_A (sW cI cZ cR ad na n I V) sz)) (va_A (sW cI cZ cR ad na n I V) sz)) (wXc D vwCl (sT cI cZ cR) (sW cI cZ cR ad na n I V) (va_A (sW cI cZ cR ad na n I V) sz) cd) 2 12 (va_A (sW cI cZ cR ad na n I V) sz) := by
  refine vx_ofW (cc := cX3_change) (maxL := 3) (ret := (some .int)) (by decide) rfl ?_
  intro p e s m args below meth c s₁ B hml htab hv
  obtain ⟨rfl, hsz, hP, hK, hD0, hE⟩ := hv
  have hx := B.exec
  have hb := B.bytes
  have hr := B.returns
  have hts := atoms_spec (ws := wsX3_change) B.pre
  have hown : s.vm.findClass RX3 = some m.cls := findClass_of_methodNamed B.named
  have hlocks := B.notSynchronized
  subst hsz
  have hD := hD0.self (sz := s.heap.size)
  generalize hAe : va_A (sW cI cZ cR ad na n I V) s.heap.size = A at hD hE ⊢
  have hA : ∀ q : Nat, s.heap.size ≤ q → A q := fun q h => by rw [← hAe]; exact Or.inr h
  have hS : va_S A s.heap s.heap [] := va_S.rf
  have hinX2 : ∀ w ∈ wsX20, w ∈ wsX3_change := by decide +kernel
  have hinX3 : ∀ w ∈ wsX30, w ∈ wsX3_change := by decide +kernel
  have hl := lv_entry ([.ref (ad 0), .int x, .int b]) (n := 3) (Nat.le_of_ble_eq_true rfl)
  rw [lg_entry_eq]
  generalize (lg_sl ([.ref (ad 0), .int x, .int b]) ++ List.replicate (3 - (lg_sl ([.ref (ad 0), .int x, .int b])).length) Slot.unset).toArray = ls at hl ⊢
  have hl : lv_has ls 3 [(0, .ref (ad 0)), (1, .int x), (2, .int b)] := hl
  obtain ⟨eN1, eA, eS, ej1, ej2, ej3, ⟨s46, e46⟩, ⟨s62, e62⟩, ⟨s94, e94⟩, ⟨s122, e122⟩, ⟨s187, e187⟩, ⟨s190, e190⟩, eU, eV⟩ := id hE
  refine lv_aload_n hx hb dX3_change_0 rfl (lv_at hl 0 rfl) ?_
  refine wR_get (v := .ref (ad 1)) (C := RX3) (T := TX3) (N := 4) (ci := 3) hx hb hts hinX3 hown hK hP 0 (by omega) rfl rfl 0 (by decide) (hts (.fieldLink RX3 10 "ChangeStream" "store" "LChangeStream$Store;") (by decide +kernel)) rfl rfl dX3_change_1 ?_
  refine lv_iload_n hx hb dX3_change_4 rfl (lv_at hl 1 rfl) ?_
  refine w_calli (w := sW cI cZ cR ad na n I V) hS hA hK hD (va_runV (As := [.int x]) (rest := []) ⟨hx, hb, hml, hown, hts⟩ (c_X2_hasFact l D cI cZ cR ad na n I V s.heap.size (by omega) k hk hk1 x) (cwV 1 hts gX3_change_X2_hasFact rfl rfl rfl (by decide +kernel) ⟨Nat.le_of_ble_eq_true rfl, Nat.le_of_ble_eq_true rfl⟩) ⟨(w_pre hP hK hD (eN_env eN1)).1, wR_recv (C := RX2) (T := TX2) (N := 6) hK hP (ci := 2) rfl 1 (by omega) rfl, (w_pre hP hK hD (eN_env eN1)).2⟩ rfl rfl hl.1 rfl (lv_room (Nat.le_of_ble_eq_true rfl)) dX3_change_5 ⟨Nat.le_of_ble_eq_true rfl, Nat.le_of_ble_eq_true rfl⟩) (fun r_2 u H locs hw hP hD hS hz => ?_)
  have hw_1 : r_2 = wI x 0 (((k : Nat) : Int) - 1) := hw
  refine w_callxv (w := sW cI cZ cR ad na n I V) hS hA hK hD (vx_runS (As := [.int r_2]) (rest := []) ⟨hx, hb, hml, hown, hts⟩ (c_X3_demand l D (sT cI cZ cR) (sW cI cZ cR ad na n I V) H.size hlt r_2 (if r_2 = 0 then 1 else 0) rfl) (va_cwS 1 hts gX3_change_X3_demand rfl rfl rfl (by decide +kernel) ⟨Nat.le_of_ble_eq_true rfl, Nat.le_of_ble_eq_true rfl⟩) (w_pre hP hK hD (eX_env hE hS (w_free hD hS hA))) rfl rfl hl.1 rfl (lv_room (Nat.le_of_ble_eq_true rfl)) dX3_change_8 ⟨Nat.le_of_ble_eq_true rfl, Nat.le_of_ble_eq_true rfl⟩) (fun E9 ce q9 H locs hxc hP hS hce hcv hcl => ?_) (fun u H locs hw hP hD hS hz => ?_)
  · obtain ⟨hE1, hb0⟩ := xC_1 hxc
    have hq_3 := wI_out hw_1 hb0
    exact w_out htab hlocks hce hcv hcl hP hK hD hS (Or.inl ⟨hE1, (by rw [hcd, if_pos (by omega)])⟩) (by decide) (by decide)
  · have hq_3 := wI_in hw_1 hw.2
    obtain ⟨hxj, hxi⟩ := nx_nn (x := x) (by omega)
    rw [← hf] at hxj hxi
    rw [hxj] at hl
    refine lv_aload_n hx hb dX3_change_11 rfl (lv_at hl 0 rfl) ?_
    refine wR_get (v := .ref (ad 1)) (C := RX3) (T := TX3) (N := 4) (ci := 3) hx hb hts hinX3 hown hK hP 0 (by omega) rfl rfl 0 (by decide) (hts (.fieldLink RX3 10 "ChangeStream" "store" "LChangeStream$Store;") (by decide +kernel)) rfl rfl dX3_change_12 ?_
    refine wR_get (v := .int (nI q)) (C := RX2) (T := TX2) (N := 6) (ci := 2) hx hb hts hinX2 hown hK hP 1 (by omega) rfl rfl 5 (by decide) (hts (.fieldLink RX3 59 "ChangeStream$Store" "changeCount" "I") (by decide +kernel)) rfl (congrArg (fun z => some (Value.int z)) hq) dX3_change_15 ?_
    refine lv_bipush (v := nI 20) hx hb dX3_change_18 (by decide) ?_
    refine lv_icmp_lt (tgt := 33) hx hb dX3_change_20 (by decide) (fun c_5 => ?_) (fun c_5 => ?_)
    · have c_5 : q < 20 := (nI_ltI (a := q) (b := 20) (by omega) (by omega)).mp c_5
      refine lv_aload_n hx hb dX3_change_33 rfl (lv_at hl 0 rfl) ?_
      refine wR_get (v := .ref (ad 1)) (C := RX3) (T := TX3) (N := 4) (ci := 3) hx hb hts hinX3 hown hK hP 0 (by omega) rfl rfl 0 (by decide) (hts (.fieldLink RX3 10 "ChangeStream" "store" "LChangeStream$Store;") (by decide +kernel)) rfl rfl dX3_change_34 ?_
      refine lv_iload_n hx hb dX3_change_37 rfl (lv_at hl 1 rfl) ?_
      refine lv_iload_n hx hb dX3_change_38 rfl (lv_at hl 2 rfl) ?_
      refine w_calli (w := sW cI cZ cR ad na n I V) hS hA hK hD (va_runV (As := [.int (nI f), .int b]) (rest := []) ⟨hx, hb, hml, hown, hts⟩ (c_X2_putChange l D cI cZ cR ad na n I V H.size (by omega) q hq f (by omega) b hb01) (cwV 2 hts gX3_change_X2_putChange rfl rfl rfl (by decide +kernel) ⟨Nat.le_of_ble_eq_true rfl, Nat.le_of_ble_eq_true rfl⟩) ⟨(w_pre hP hK hD wEnv_true).1, wR_recv (C := RX2) (T := TX2) (N := 6) hK hP (ci := 2) rfl 1 (by omega) rfl, (w_pre hP hK hD wEnv_true).2⟩ rfl rfl hl.1 rfl (lv_room (Nat.le_of_ble_eq_true rfl)) dX3_change_39 ⟨Nat.le_of_ble_eq_true rfl, Nat.le_of_ble_eq_true rfl⟩) (fun r_6 u H locs hw hP hD hS hz => ?_)
      rw [show r_6 = nI (q + 1) from hw]
      refine vx_ret ?_
      refine W.widen (k := 2) (n := 12) (by decide) (by decide) ?_
      exact W.iret (v := nI (q + 1)) hx hb hr (fun t ht hW => ⟨⟨nI (q + 1), (), rfl, ⟨(by rw [hcd, if_neg (by omega), if_neg (by omega)]), rfl⟩, by rw [ht]; exact hP, va_K.moved hW.alike hK, hD⟩, hS.F ht⟩) hS.2.2 dX3_change_42
    · have c_5 : ¬ (q < 20) := fun h9 => c_5 ((nI_ltI (a := q) (b := 20) (by omega) (by omega)).mpr h9)
      exact w_throw (own := RX3) (cls := "java/lang/IllegalStateException") (names := ["java/lang/RuntimeException", "java/lang/Exception"]) (text := "no more changes in this transaction") hx hb hlt hts hown (by decide) (by decide) (by decide +kernel) (by decide +kernel) e62 (by decide +kernel) x_IS (xB_of eS ej1 ej2 ej3) x_gS eU eV hP hK hD hS (hl.1.trans hml.symm) dX3_change_23 dX3_change_26 dX3_change_27 dX3_change_29 dX3_change_32 htab (by decide) (by decide) (by decide) (by decide) hlocks (Or.inr ⟨rfl, (by rw [hcd, if_neg (by omega), if_pos (by omega)])⟩) (by decide) (by decide)

set_option maxHeartbeats 4000000 in
set_option maxRecDepth 100000 in
/-- contains(x) -/
theorem c_X3_contains (l : Launch) (D : va_G) (cI cZ cR : ClassId) (ad : Nat → Nat) (na n : Nat) (I V : Nat → Nat → Int32) (sz : Nat) (hlt : l.stackTraces = false) (hn : n = 11 + 6 * na) (hna : I 0 3 = nI na) (hna6 : na ≤ 6) (k : Nat) (hk : I 1 4 = nI k) (hk1 : k ≤ 100) (x : Int32) (h01 : ∀ j, V 4 j = 0 ∨ V 4 j = 1) (f : Nat) (hf : f = x.toNatClampNeg) (cd : Nat) (hcd : cd = if ¬ (0 ≤ x.toInt ∧ x.toInt ≤ ((k : Nat) : Int) - 1) then 1 else 0) : vx_Met l yX3_contains wsX3_contains ({ frames := 7, cells := 1, slots := 6, locals := 102 } : Room) (va_Pc [.ref (ad 0), .int x] (wPre D vwCl (sT cI cZ cR) (sW cI cZ cR ad na n I V) sz (eX (va_A (sW cI cZ cR ad na n I V) sz)))) (va_Qi (fun (r : Int32) (u : Unit) => cd = 0 ∧ r = V 4 f) (wPost D vwCl (sT cI cZ cR) (fun (u : Unit) => sW cI cZ cR ad na n I V) (va_A (sW cI cZ cR ad na n I V) sz)) (va_A (sW cI cZ cR ad na n I V) sz)) (wXc D vwCl (sT cI cZ cR) (sW cI cZ cR ad na n I V) (va_A (sW cI cZ cR ad na n I V) sz) cd) 1 6 (va_A (sW cI cZ cR ad na n I V) sz) := by
  refine vx_ofW (cc := cX3_contains) (maxL := 2) (ret := (some .boolean)) (by decide) rfl ?_
  intro p e s m args below meth c s₁ B hml htab hv
  obtain ⟨rfl, hsz, hP, hK, hD0, hE⟩ := hv
  have hx := B.exec
  have hb := B.bytes
  have hr := B.returns
  have hts := atoms_spec (ws := wsX3_contains) B.pre
  have hown : s.vm.findClass RX3 = some m.cls := findClass_of_methodNamed B.named
  have hlocks := B.notSynchronized
  subst hsz
  have hD := hD0.self (sz := s.heap.size)
  generalize hAe : va_A (sW cI cZ cR ad na n I V) s.heap.size = A at hD hE ⊢
  have hA : ∀ q : Nat, s.heap.size ≤ q → A q := fun q h => by rw [← hAe]; exact Or.inr h
  have hS : va_S A s.heap s.heap [] := va_S.rf
  have hinX2 : ∀ w ∈ wsX20, w ∈ wsX3_contains := by decide +kernel
  have hinX3 : ∀ w ∈ wsX30, w ∈ wsX3_contains := by decide +kernel
  have hl := lv_entry ([.ref (ad 0), .int x]) (n := 2) (Nat.le_of_ble_eq_true rfl)
  rw [lg_entry_eq]
  generalize (lg_sl ([.ref (ad 0), .int x]) ++ List.replicate (2 - (lg_sl ([.ref (ad 0), .int x])).length) Slot.unset).toArray = ls at hl ⊢
  have hl : lv_has ls 2 [(0, .ref (ad 0)), (1, .int x)] := hl
  obtain ⟨eN1, eA, eS, ej1, ej2, ej3, ⟨s46, e46⟩, ⟨s62, e62⟩, ⟨s94, e94⟩, ⟨s122, e122⟩, ⟨s187, e187⟩, ⟨s190, e190⟩, eU, eV⟩ := id hE
  refine lv_aload_n hx hb dX3_contains_0 rfl (lv_at hl 0 rfl) ?_
  refine wR_get (v := .ref (ad 1)) (C := RX3) (T := TX3) (N := 4) (ci := 3) hx hb hts hinX3 hown hK hP 0 (by omega) rfl rfl 0 (by decide) (hts (.fieldLink RX3 10 "ChangeStream" "store" "LChangeStream$Store;") (by decide +kernel)) rfl rfl dX3_contains_1 ?_
  refine lv_iload_n hx hb dX3_contains_4 rfl (lv_at hl 1 rfl) ?_
  refine w_calli (w := sW cI cZ cR ad na n I V) hS hA hK hD (va_runV (As := [.int x]) (rest := []) ⟨hx, hb, hml, hown, hts⟩ (c_X2_hasFact l D cI cZ cR ad na n I V s.heap.size (by omega) k hk hk1 x) (cwV 1 hts gX3_contains_X2_hasFact rfl rfl rfl (by decide +kernel) ⟨Nat.le_of_ble_eq_true rfl, Nat.le_of_ble_eq_true rfl⟩) ⟨(w_pre hP hK hD (eN_env eN1)).1, wR_recv (C := RX2) (T := TX2) (N := 6) hK hP (ci := 2) rfl 1 (by omega) rfl, (w_pre hP hK hD (eN_env eN1)).2⟩ rfl rfl hl.1 rfl (lv_room (Nat.le_of_ble_eq_true rfl)) dX3_contains_5 ⟨Nat.le_of_ble_eq_true rfl, Nat.le_of_ble_eq_true rfl⟩) (fun r_2 u H locs hw hP hD hS hz => ?_)
  have hw_1 : r_2 = wI x 0 (((k : Nat) : Int) - 1) := hw
  refine w_callxv (w := sW cI cZ cR ad na n I V) hS hA hK hD (vx_runS (As := [.int r_2]) (rest := []) ⟨hx, hb, hml, hown, hts⟩ (c_X3_demand l D (sT cI cZ cR) (sW cI cZ cR ad na n I V) H.size hlt r_2 (if r_2 = 0 then 1 else 0) rfl) (va_cwS 1 hts gX3_contains_X3_demand rfl rfl rfl (by decide +kernel) ⟨Nat.le_of_ble_eq_true rfl, Nat.le_of_ble_eq_true rfl⟩) (w_pre hP hK hD (eX_env hE hS (w_free hD hS hA))) rfl rfl hl.1 rfl (lv_room (Nat.le_of_ble_eq_true rfl)) dX3_contains_8 ⟨Nat.le_of_ble_eq_true rfl, Nat.le_of_ble_eq_true rfl⟩) (fun E9 ce q9 H locs hxc hP hS hce hcv hcl => ?_) (fun u H locs hw hP hD hS hz => ?_)
  · obtain ⟨hE1, hb0⟩ := xC_1 hxc
    have hq_3 := wI_out hw_1 hb0
    exact w_out htab hlocks hce hcv hcl hP hK hD hS (Or.inl ⟨hE1, (by rw [hcd, if_pos (by omega)])⟩) (by decide) (by decide)
  · have hq_3 := wI_in hw_1 hw.2
    obtain ⟨hxj, hxi⟩ := nx_nn (x := x) (by omega)
    rw [← hf] at hxj hxi
    refine lv_aload_n hx hb dX3_contains_11 rfl (lv_at hl 0 rfl) ?_
    refine wR_get (v := .ref (ad 1)) (C := RX3) (T := TX3) (N := 4) (ci := 3) hx hb hts hinX3 hown hK hP 0 (by omega) rfl rfl 0 (by decide) (hts (.fieldLink RX3 10 "ChangeStream" "store" "LChangeStream$Store;") (by decide +kernel)) rfl rfl dX3_contains_12 ?_
    refine wR_get (v := .ref (ad 4)) (C := RX2) (T := TX2) (N := 6) (ci := 2) hx hb hts hinX2 hown hK hP 1 (by omega) rfl rfl 2 (by decide) (hts (.fieldLink RX3 84 "ChangeStream$Store" "in" "[Z") (by decide +kernel)) rfl rfl dX3_contains_15 ?_
    refine lv_iload_n hx hb dX3_contains_18 rfl (lv_at hl 1 rfl) ?_
    refine wR_zld (f := V 4) (v := (V 4) f) hx hb hK hP 4 1 (by omega) rfl rfl (nx_in (k := f) hxj (by omega) (by decide)) (j := f) (nx_cl hxj (by omega)) rfl dX3_contains_19 ?_
    refine vx_ret ?_
    refine W.widen (k := 1) (n := 6) (by decide) (by decide) ?_
    exact W.zret (v := (V 4) f) hx hb hr (nar_z (h01 f)) (fun t ht hW => ⟨⟨(V 4) f, (), rfl, ⟨(by rw [hcd, if_neg (by omega)]), rfl⟩, by rw [ht]; exact hP, va_K.moved hW.alike hK, hD⟩, hS.F ht⟩) hS.2.2 dX3_contains_20
