/-- what about() tells of a reader's numbers -/
def abt (F : Nat → Int32) (v : Nat) : Int32 := if v = 0 then F 12 else if v = 1 then F 7 else if v = 2 then F 14 else if v = 3 then F 15 else F 16
/-- what told() tells -/
def tld (a b c d e f : Nat) (v : Nat) : Int32 := if v = 0 then nI a else if v = 1 then nI b else if v = 2 then nI c else if v = 3 then nI d else if v = 4 then nI e else nI f

set_option maxHeartbeats 4000000 in
set_option maxRecDepth 100000 in
/-- abort() -/
theorem c_X3_abort (l : Launch) (D : va_G) (cI cZ cR : ClassId) (ad : Nat → Nat) (na n : Nat) (I V : Nat → Nat → Int32) (sz : Nat) (hn : n = 11 + 6 * na) (hna : I 0 3 = nI na) (hna6 : na ≤ 6) (k : Nat) (hk : I 1 4 = nI k) (hk1 : k ≤ 100) (q : Nat) (hq : I 1 5 = nI q) (h01 : ∀ j, V 4 j = 0 ∨ V 4 j = 1) : Met l yX3_abort wsX3_abort ({ frames := 1, cells := 0, slots := 0, locals := 21 } : Room) (va_Pc [.ref (ad 0)] (wPre D vwCl (sT cI cZ cR) (sW cI cZ cR ad na n I V) sz wTrue)) (va_Qi (fun (r : Int32) (u : Unit) => r = nI q) (wPost D vwCl (sT cI cZ cR) (fun (u : Unit) => sW cI cZ cR ad na n (va_up I 1 (va_up (I 1) 5 (nI 0))) (va_up V 5 (cpTo (V 5) (V 4) k))) (va_A (sW cI cZ cR ad na n I V) sz)) (va_A (sW cI cZ cR ad na n I V) sz)) 0 0 (va_A (sW cI cZ cR ad na n I V) sz) := by
  refine Met.ofW (cc := cX3_abort) (maxL := 1) (ret := (some .int)) (by decide) rfl ?_
  intro p e s m args below meth c s₁ B hml hv
  obtain ⟨rfl, hsz, hP, hK, hD0, hE⟩ := hv
  have hx := B.exec
  have hb := B.bytes
  have hr := B.returns
  have hts := atoms_spec (ws := wsX3_abort) B.pre
  have hown : s.vm.findClass RX3 = some m.cls := findClass_of_methodNamed B.named
  have hlocks := B.notSynchronized
  subst hsz
  have hD := hD0.self (sz := s.heap.size)
  generalize hAe : va_A (sW cI cZ cR ad na n I V) s.heap.size = A at hD ⊢
  have hA : ∀ q : Nat, s.heap.size ≤ q → A q := fun q h => by rw [← hAe]; exact Or.inr h
  have hS : va_S A s.heap s.heap [] := va_S.rf
  have hinX3 : ∀ w ∈ wsX30, w ∈ wsX3_abort := by decide +kernel
  have hl := lv_entry ([.ref (ad 0)]) (n := 1) (Nat.le_of_ble_eq_true rfl)
  rw [lg_entry_eq]
  generalize (lg_sl ([.ref (ad 0)]) ++ List.replicate (1 - (lg_sl ([.ref (ad 0)])).length) Slot.unset).toArray = ls at hl ⊢
  have hl : lv_has ls 1 [(0, .ref (ad 0))] := hl
  refine lv_aload_n hx hb dX3_abort_0 rfl (lv_at hl 0 rfl) ?_
  refine wR_get (v := .ref (ad 1)) (C := RX3) (T := TX3) (N := 4) (ci := 3) hx hb hts hinX3 hown hK hP 0 (by omega) rfl rfl 0 (by decide) (hts (.fieldLink RX3 10 "ChangeStream" "store" "LChangeStream$Store;") (by decide +kernel)) rfl rfl dX3_abort_1 ?_
  refine w_calli (w := sW cI cZ cR ad na n I V) hS hA hK hD (va_runV (As := []) (rest := []) ⟨hx, hb, hml, hown, hts⟩ (c_X2_dropChanges l D cI cZ cR ad na n I V s.heap.size (by omega) k hk hk1 q hq h01) (cwV 0 hts gX3_abort_X2_dropChanges rfl rfl rfl (by decide +kernel) ⟨Nat.le_of_ble_eq_true rfl, Nat.le_of_ble_eq_true rfl⟩) ⟨(w_pre hP hK hD wEnv_true).1, wR_recv (C := RX2) (T := TX2) (N := 6) hK hP (ci := 2) rfl 1 (by omega) rfl, (w_pre hP hK hD wEnv_true).2⟩ rfl rfl hl.1 rfl (lv_room (Nat.le_of_ble_eq_true rfl)) dX3_abort_4 ⟨Nat.le_of_ble_eq_true rfl, Nat.le_of_ble_eq_true rfl⟩) (fun r_1 u H locs hw hP hD hS hz => ?_)
  rw [show r_1 = nI q from hw]
  exact W.iret (v := nI q) hx hb hr (fun t ht hW => ⟨⟨nI q, (), rfl, rfl, by rw [ht]; exact hP, va_K.moved hW.alike hK, hD⟩, hS.F ht⟩) hS.2.2 dX3_abort_7

set_option maxHeartbeats 4000000 in
set_option maxRecDepth 100000 in
/-- keep(x) -/
theorem c_X3_keep (l : Launch) (D : va_G) (cI cZ cR : ClassId) (ad : Nat → Nat) (na n : Nat) (I V : Nat → Nat → Int32) (sz : Nat) (hlt : l.stackTraces = false) (hn : n = 11 + 6 * na) (hna : I 0 3 = nI na) (hna6 : na ≤ 6) (kp TT lst rc fk : Nat) (hkp : I 6 3 = nI kp) (hT : I 6 4 = nI TT) (hls : I 6 5 = nI lst) (hrc : I 6 6 = nI rc) (hfk : I 6 7 = nI fk) (hle : fk ≤ rc) (hr6 : rc ≤ 600) (hkp1 : kp ≤ 30) (hT1 : TT < 100000) (hls0 : 0 < lst) (hls1 : lst ≤ 100000) (x : Int32) (f : Nat) (hf : f = x.toNatClampNeg) (cd : Nat) (hcd : cd = if ¬ (1 ≤ x.toInt ∧ x.toInt ≤ 30) then 1 else 0) : vx_Met l yX3_keep wsX3_keep ({ frames := 7, cells := 1, slots := 6, locals := 105 } : Room) (va_Pc [.ref (ad 0), .int x] (wPre D vwCl (sT cI cZ cR) (sW cI cZ cR ad na n I V) sz (eX (va_A (sW cI cZ cR ad na n I V) sz)))) (va_Qi (fun (r : Int32) (u : Unit) => cd = 0 ∧ r = nI kp) (wPost D vwCl (sT cI cZ cR) (fun (u : Unit) => sW cI cZ cR ad na n (va_up I 6 (va_up (va_up (va_up (I 6) 3 (nI f)) 5 (nI (max lst (TT + 1 - f)))) 7 (nI (fRow (V 7) (nI (max lst (TT + 1 - f))) (rc - fk) fk)))) V) (va_A (sW cI cZ cR ad na n I V) sz)) (va_A (sW cI cZ cR ad na n I V) sz)) (wXc D vwCl (sT cI cZ cR) (sW cI cZ cR ad na n I V) (va_A (sW cI cZ cR ad na n I V) sz) cd) 1 6 (va_A (sW cI cZ cR ad na n I V) sz) := by
  refine vx_ofW (cc := cX3_keep) (maxL := 3) (ret := (some .int)) (by decide) rfl ?_
  intro p e s m args below meth c s₁ B hml htab hv
  obtain ⟨rfl, hsz, hP, hK, hD0, hE⟩ := hv
  have hx := B.exec
  have hb := B.bytes
  have hr := B.returns
  have hts := atoms_spec (ws := wsX3_keep) B.pre
  have hown : s.vm.findClass RX3 = some m.cls := findClass_of_methodNamed B.named
  have hlocks := B.notSynchronized
  subst hsz
  have hD := hD0.self (sz := s.heap.size)
  generalize hAe : va_A (sW cI cZ cR ad na n I V) s.heap.size = A at hD hE ⊢
  have hA : ∀ q : Nat, s.heap.size ≤ q → A q := fun q h => by rw [← hAe]; exact Or.inr h
  have hS : va_S A s.heap s.heap [] := va_S.rf
  have hinX0 : ∀ w ∈ wsX00, w ∈ wsX3_keep := by decide +kernel
  have hinX3 : ∀ w ∈ wsX30, w ∈ wsX3_keep := by decide +kernel
  have hl := lv_entry ([.ref (ad 0), .int x]) (n := 3) (Nat.le_of_ble_eq_true rfl)
  rw [lg_entry_eq]
  generalize (lg_sl ([.ref (ad 0), .int x]) ++ List.replicate (3 - (lg_sl ([.ref (ad 0), .int x])).length) Slot.unset).toArray = ls at hl ⊢
  have hl : lv_has ls 3 [(0, .ref (ad 0)), (1, .int x)] := hl
  obtain ⟨eN1, eA, eS, ej1, ej2, ej3, ⟨s46, e46⟩, ⟨s62, e62⟩, ⟨s94, e94⟩, ⟨s122, e122⟩, ⟨s187, e187⟩, ⟨s190, e190⟩, eU, eV⟩ := id hE
  refine lv_iload_n hx hb dX3_keep_0 rfl (lv_at hl 1 rfl) ?_
  refine lv_iconst (v := nI 1) hx hb dX3_keep_1 (by decide) ?_
  refine lv_bipush (v := nI 30) hx hb dX3_keep_2 (by decide) ?_
  refine w_calli (w := sW cI cZ cR ad na n I V) hS hA hK hD (va_runS (As := [.int x, .int (nI 1), .int (nI 30)]) (rest := []) ⟨hx, hb, hml, hown, hts⟩ (c_X3_isWithin l D (sT cI cZ cR) (sW cI cZ cR ad na n I V) wTrue s.heap.size x (nI 1) (nI 30)) (va_cwS 3 hts gX3_keep_X3_isWithin rfl rfl rfl (by decide +kernel) ⟨Nat.le_of_ble_eq_true rfl, Nat.le_of_ble_eq_true rfl⟩) (w_pre hP hK hD wEnv_true) rfl rfl hl.1 rfl (lv_room (Nat.le_of_ble_eq_true rfl)) dX3_keep_4 ⟨Nat.le_of_ble_eq_true rfl, Nat.le_of_ble_eq_true rfl⟩) (fun r_2 u H locs hw hP hD hS hz => ?_)
  have hw_1 : r_2 = wI x (1) (30) := by rw [hw, nI_toInt (n := 1) (by decide), nI_toInt (n := 30) (by decide)]; rfl
  refine w_callxv (w := sW cI cZ cR ad na n I V) hS hA hK hD (vx_runS (As := [.int r_2]) (rest := []) ⟨hx, hb, hml, hown, hts⟩ (c_X3_demand l D (sT cI cZ cR) (sW cI cZ cR ad na n I V) H.size hlt r_2 (if r_2 = 0 then 1 else 0) rfl) (va_cwS 1 hts gX3_keep_X3_demand rfl rfl rfl (by decide +kernel) ⟨Nat.le_of_ble_eq_true rfl, Nat.le_of_ble_eq_true rfl⟩) (w_pre hP hK hD (eX_env hE hS (w_free hD hS hA))) rfl rfl hl.1 rfl (lv_room (Nat.le_of_ble_eq_true rfl)) dX3_keep_7 ⟨Nat.le_of_ble_eq_true rfl, Nat.le_of_ble_eq_true rfl⟩) (fun E9 ce q9 H locs hxc hP hS hce hcv hcl => ?_) (fun u H locs hw hP hD hS hz => ?_)
  · obtain ⟨hE1, hb0⟩ := xC_1 hxc
    have hq_3 := wI_out hw_1 hb0
    exact w_out htab hlocks hce hcv hcl hP hK hD hS (Or.inl ⟨hE1, (by rw [hcd, if_pos (by omega)])⟩) (by decide) (by decide)
  · have hq_3 := wI_in hw_1 hw.2
    obtain ⟨hxj, hxi⟩ := nx_nn (x := x) (by omega)
    rw [← hf] at hxj hxi
    rw [hxj] at hl
    refine lv_aload_n hx hb dX3_keep_10 rfl (lv_at hl 0 rfl) ?_
    refine wR_get (v := .ref (ad 6)) (C := RX3) (T := TX3) (N := 4) (ci := 3) hx hb hts hinX3 hown hK hP 0 (by omega) rfl rfl 1 (by decide) (hts (.fieldLink RX3 19 "ChangeStream" "log" "LChangeStream$Log;") (by decide +kernel)) rfl rfl dX3_keep_11 ?_
    refine wR_get (v := .int (nI kp)) (C := RX0) (T := TX0) (N := 8) (ci := 0) hx hb hts hinX0 hown hK hP 6 (by omega) rfl rfl 3 (by decide) (hts (.fieldLink RX3 88 "ChangeStream$Log" "kept" "I") (by decide +kernel)) rfl (congrArg (fun z => some (Value.int z)) hkp) dX3_keep_14 ?_
    refine lv_istore_n (lv' := [(2, .int (nI kp)), (0, .ref (ad 0)), (1, .int (nI f))]) hx hb dX3_keep_17 rfl hl (by decide) rfl (fun ls hl => ?_)
    refine lv_aload_n hx hb dX3_keep_18 rfl (lv_at hl 1 rfl) ?_
    refine wR_get (v := .ref (ad 6)) (C := RX3) (T := TX3) (N := 4) (ci := 3) hx hb hts hinX3 hown hK hP 0 (by omega) rfl rfl 1 (by decide) (hts (.fieldLink RX3 19 "ChangeStream" "log" "LChangeStream$Log;") (by decide +kernel)) rfl rfl dX3_keep_19 ?_
    refine lv_iload_n hx hb dX3_keep_22 rfl (lv_at hl 2 rfl) ?_
    refine wR_put (C := RX0) (T := TX0) (N := 8) (ci := 0) hx hb hts hinX0 tyX0 tyX0_ok nmX0 hown hK hP hD hS 6 (by omega) rfl rfl 3 (by decide) (hts (.fieldLink RX3 88 "ChangeStream$Log" "kept" "I") (by decide +kernel)) rfl rfl (by decide +kernel) (by simp) (va_up (I 6) 3 (nI f)) rfl dX3_keep_23 (fun H locs hP hD hS => ?_)
    refine lv_aload_n hx hb dX3_keep_26 rfl (lv_at hl 1 rfl) ?_
    refine wR_get (v := .ref (ad 6)) (C := RX3) (T := TX3) (N := 4) (ci := 3) hx hb hts hinX3 hown hK hP 0 (by omega) rfl rfl 1 (by decide) (hts (.fieldLink RX3 19 "ChangeStream" "log" "LChangeStream$Log;") (by decide +kernel)) rfl rfl dX3_keep_27 ?_
    refine w_callv (w := sW cI cZ cR ad na n (va_up I 6 (va_up (I 6) 3 (nI f))) V) hS hA hK hD (va_runV (As := []) (rest := []) ⟨hx, hb, hml, hown, hts⟩ (c_X0_forgetOlder l D cI cZ cR ad na n (va_up I 6 (va_up (I 6) 3 (nI f))) V H.size (by omega) f TT lst rc fk rfl hT hls hrc hfk hle hr6 (by omega) (by omega) hls0 hls1) (cwV 0 hts gX3_keep_X0_forgetOlder rfl rfl rfl (by decide +kernel) ⟨Nat.le_of_ble_eq_true rfl, Nat.le_of_ble_eq_true rfl⟩) ⟨(w_pre hP hK hD wEnv_true).1, wR_recv (C := RX0) (T := TX0) (N := 8) hK hP (ci := 0) rfl 6 (by omega) rfl, (w_pre hP hK hD wEnv_true).2⟩ rfl rfl hl.1 rfl (lv_room (Nat.le_of_ble_eq_true rfl)) dX3_keep_30 ⟨Nat.le_of_ble_eq_true rfl, Nat.le_of_ble_eq_true rfl⟩) (fun  u H locs hw hP hD hS hz => ?_)
    rw [bx_uu] at hP hD
    refine lv_iload_n hx hb dX3_keep_33 rfl (lv_at hl 0 rfl) ?_
    refine vx_ret ?_
    refine W.widen (k := 1) (n := 6) (by decide) (by decide) ?_
    exact W.iret (v := nI kp) hx hb hr (fun t ht hW => ⟨⟨nI kp, (), rfl, ⟨(by rw [hcd, if_neg (by omega)]), rfl⟩, by rw [ht]; exact hP, va_K.moved hW.alike hK, hD⟩, hS.F ht⟩) hS.2.2 dX3_keep_34

set_option maxHeartbeats 4000000 in
set_option maxRecDepth 100000 in
/-- filter(x, y, z) -/
theorem c_X3_filter (l : Launch) (D : va_G) (cI cZ cR : ClassId) (ad : Nat → Nat) (na n : Nat) (I V : Nat → Nat → Int32) (sz : Nat) (hlt : l.stackTraces = false) (hn : n = 11 + 6 * na) (hna : I 0 3 = nI na) (hna6 : na ≤ 6) (x : Int32) (r : Nat) (hr0 : r = 11 + 6 * x.toNatClampNeg) (y z : Int32) (cd : Nat) (hcd : cd = if ¬ (0 ≤ x.toInt ∧ x.toInt ≤ ((na : Nat) : Int) - 1) ∨ ¬ (0 ≤ y.toInt ∧ y.toInt ≤ 4) then 1 else 0) : vx_Met l yX3_filter wsX3_filter ({ frames := 7, cells := 2, slots := 12, locals := 106 } : Room) (va_Pc [.ref (ad 0), .int x, .int y, .int z] (wPre D vwCl (sT cI cZ cR) (sW cI cZ cR ad na n I V) sz (eX (va_A (sW cI cZ cR ad na n I V) sz)))) (va_Qv (fun (u : Unit) => cd = 0 ∧ True) (wPost D vwCl (sT cI cZ cR) (fun (u : Unit) => sW cI cZ cR ad na n (va_up I r (va_up (va_up (I r) 9 y) 10 z)) V) (va_A (sW cI cZ cR ad na n I V) sz)) (va_A (sW cI cZ cR ad na n I V) sz)) (wXc D vwCl (sT cI cZ cR) (sW cI cZ cR ad na n I V) (va_A (sW cI cZ cR ad na n I V) sz) cd) 2 12 (va_A (sW cI cZ cR ad na n I V) sz) := by
  refine vx_ofW (cc := cX3_filter) (maxL := 5) (ret := none) (by decide) rfl ?_
  intro p e s m args below meth c s₁ B hml htab hv
  obtain ⟨rfl, hsz, hP, hK, hD0, hE⟩ := hv
  have hx := B.exec
  have hb := B.bytes
  have hr := B.returns
  have hts := atoms_spec (ws := wsX3_filter) B.pre
  have hown : s.vm.findClass RX3 = some m.cls := findClass_of_methodNamed B.named
  have hlocks := B.notSynchronized
  subst hsz
  have hD := hD0.self (sz := s.heap.size)
  generalize hAe : va_A (sW cI cZ cR ad na n I V) s.heap.size = A at hD hE ⊢
  have hA : ∀ q : Nat, s.heap.size ≤ q → A q := fun q h => by rw [← hAe]; exact Or.inr h
  have hS : va_S A s.heap s.heap [] := va_S.rf
  have hinX1 : ∀ w ∈ wsX10, w ∈ wsX3_filter := by decide +kernel
  have hl := lv_entry ([.ref (ad 0), .int x, .int y, .int z]) (n := 5) (Nat.le_of_ble_eq_true rfl)
  rw [lg_entry_eq]
  generalize (lg_sl ([.ref (ad 0), .int x, .int y, .int z]) ++ List.replicate (5 - (lg_sl ([.ref (ad 0), .int x, .int y, .int z])).length) Slot.unset).toArray = ls at hl ⊢
  have hl : lv_has ls 5 [(0, .ref (ad 0)), (1, .int x), (2, .int y), (3, .int z)] := hl
  obtain ⟨eN1, eA, eS, ej1, ej2, ej3, ⟨s46, e46⟩, ⟨s62, e62⟩, ⟨s94, e94⟩, ⟨s122, e122⟩, ⟨s187, e187⟩, ⟨s190, e190⟩, eU, eV⟩ := id hE
  refine lv_aload_n hx hb dX3_filter_0 rfl (lv_at hl 0 rfl) ?_
  refine lv_iload_n hx hb dX3_filter_1 rfl (lv_at hl 1 rfl) ?_
  refine w_callxr (w := sW cI cZ cR ad na n I V) hS hA hK hD (vx_runV (As := [.int x]) (rest := []) ⟨hx, hb, hml, hown, hts⟩ (c_X3_readerAt l D cI cZ cR ad na n I V s.heap.size hlt hn hna hna6 x _ rfl) (cwV 1 hts gX3_filter_X3_readerAt rfl rfl rfl (by decide +kernel) ⟨Nat.le_of_ble_eq_true rfl, Nat.le_of_ble_eq_true rfl⟩) ⟨(w_pre hP hK hD (eX_env hE hS (w_free hD hS hA))).1, wR_recv (C := RX3) (T := TX3) (N := 4) hK hP (ci := 3) rfl 0 (by omega) rfl, (w_pre hP hK hD (eX_env hE hS (w_free hD hS hA))).2⟩ rfl rfl hl.1 rfl (lv_room (Nat.le_of_ble_eq_true rfl)) dX3_filter_2 ⟨Nat.le_of_ble_eq_true rfl, Nat.le_of_ble_eq_true rfl⟩) (fun E9 ce q9 H locs hxc hP hS hce hcv hcl => ?_) (fun u H locs hw hP hD hS hz => ?_)
  · obtain ⟨hE1, hq9⟩ := xC_1 hxc
    exact w_out htab hlocks hce hcv hcl hP hK hD hS (Or.inl ⟨hE1, (by rw [hcd, if_pos (by omega)])⟩) (by decide) (by decide)
  · rw [← hr0]
    have hq9 := cd_0 hw
    obtain ⟨hxj, hxi⟩ := nx_nn (x := x) (by omega)
    have hrd : sC_r r := ⟨_, hr0⟩
    have hrn : r + 5 < n := by omega
    refine lv_astore (lv' := [(4, .ref (ad r)), (0, .ref (ad 0)), (1, .int x), (2, .int y), (3, .int z)]) hx hb dX3_filter_5 hl (by decide) rfl (fun ls hl => ?_)
    refine lv_iload_n hx hb dX3_filter_7 rfl (lv_at hl 3 rfl) ?_
    refine lv_iconst (v := nI 0) hx hb dX3_filter_8 (by decide) ?_
    refine lv_iconst (v := nI 4) hx hb dX3_filter_9 (by decide) ?_
    refine w_calli (w := sW cI cZ cR ad na n I V) hS hA hK hD (va_runS (As := [.int y, .int (nI 0), .int (nI 4)]) (rest := []) ⟨hx, hb, hml, hown, hts⟩ (c_X3_isWithin l D (sT cI cZ cR) (sW cI cZ cR ad na n I V) wTrue H.size y (nI 0) (nI 4)) (va_cwS 3 hts gX3_filter_X3_isWithin rfl rfl rfl (by decide +kernel) ⟨Nat.le_of_ble_eq_true rfl, Nat.le_of_ble_eq_true rfl⟩) (w_pre hP hK hD wEnv_true) rfl rfl hl.1 rfl (lv_room (Nat.le_of_ble_eq_true rfl)) dX3_filter_10 ⟨Nat.le_of_ble_eq_true rfl, Nat.le_of_ble_eq_true rfl⟩) (fun r_3 u H locs hw hP hD hS hz => ?_)
    have hw_2 : r_3 = wI y (0) (4) := by rw [hw, nI_toInt (n := 0) (by decide), nI_toInt (n := 4) (by decide)]; rfl
    refine w_callxv (w := sW cI cZ cR ad na n I V) hS hA hK hD (vx_runS (As := [.int r_3]) (rest := []) ⟨hx, hb, hml, hown, hts⟩ (c_X3_demand l D (sT cI cZ cR) (sW cI cZ cR ad na n I V) H.size hlt r_3 (if r_3 = 0 then 1 else 0) rfl) (va_cwS 1 hts gX3_filter_X3_demand rfl rfl rfl (by decide +kernel) ⟨Nat.le_of_ble_eq_true rfl, Nat.le_of_ble_eq_true rfl⟩) (w_pre hP hK hD (eX_env hE hS (w_free hD hS hA))) rfl rfl hl.1 rfl (lv_room (Nat.le_of_ble_eq_true rfl)) dX3_filter_13 ⟨Nat.le_of_ble_eq_true rfl, Nat.le_of_ble_eq_true rfl⟩) (fun E9 ce q9 H locs hxc hP hS hce hcv hcl => ?_) (fun u H locs hw hP hD hS hz => ?_)
    · obtain ⟨hE1, hb0⟩ := xC_1 hxc
      have hq_4 := wI_out hw_2 hb0
      exact w_out htab hlocks hce hcv hcl hP hK hD hS (Or.inl ⟨hE1, (by rw [hcd, if_pos (by omega)])⟩) (by decide) (by decide)
    · have hq_4 := wI_in hw_2 hw.2
      refine lv_aload hx hb dX3_filter_16 (lv_at hl 0 rfl) ?_
      refine lv_iload_n hx hb dX3_filter_18 rfl (lv_at hl 3 rfl) ?_
      refine wR_put (C := RX1) (T := TX1) (N := 17) (ci := 1) hx hb hts hinX1 tyX1 tyX1_ok nmX1 hown hK hP hD hS r (by omega) (sC_rd hrd) rfl 9 (by decide) (hts (.fieldLink RX3 110 "ChangeStream$Reader" "filterKind" "I") (by decide +kernel)) rfl rfl (by decide +kernel) (by simp) (va_up (I r) 9 y) (by exact ((sC_rd hrd)).trans rfl) dX3_filter_19 (fun H locs hP hD hS => ?_)
      refine lv_aload hx hb dX3_filter_22 (lv_at hl 0 rfl) ?_
      refine lv_iload_n hx hb dX3_filter_24 rfl (lv_at hl 4 rfl) ?_
      have he_6 : sC cI cZ cR ad na r ((va_up I r (va_up (I r) 9 y)) r) (V r) = .inr (1, rdL ad r (va_up (I r) 9 y)) := by rw [va_up_self]; exact (sC_rd hrd)
      refine wR_put (C := RX1) (T := TX1) (N := 17) (ci := 1) hx hb hts hinX1 tyX1 tyX1_ok nmX1 hown hK hP hD hS r (by omega) he_6 rfl 10 (by decide) (hts (.fieldLink RX3 113 "ChangeStream$Reader" "filterNumber" "I") (by decide +kernel)) rfl rfl (by decide +kernel) (by simp) (va_up (va_up (I r) 9 y) 10 z) (by exact ((sC_rd hrd)).trans rfl) dX3_filter_25 (fun H locs hP hD hS => ?_)
      rw [bx_uu] at hP hD
      refine vx_ret ?_
      refine W.widen (k := 2) (n := 12) (by decide) (by decide) ?_
      exact W.vret hx hb hr (fun t ht hW => ⟨⟨(), rfl, ⟨(by rw [hcd, if_neg (by omega)]), trivial⟩, by rw [ht]; exact hP, va_K.moved hW.alike hK, hD⟩, hS.F ht⟩) hS.2.2 dX3_filter_28

set_option maxHeartbeats 4000000 in
set_option maxRecDepth 100000 in
/-- throttle(x, y) -/
theorem c_X3_throttle (l : Launch) (D : va_G) (cI cZ cR : ClassId) (ad : Nat → Nat) (na n : Nat) (I V : Nat → Nat → Int32) (sz : Nat) (hlt : l.stackTraces = false) (hn : n = 11 + 6 * na) (hna : I 0 3 = nI na) (hna6 : na ≤ 6) (x : Int32) (r : Nat) (hr0 : r = 11 + 6 * x.toNatClampNeg) (y : Int32) (cd : Nat) (hcd : cd = if ¬ (0 ≤ x.toInt ∧ x.toInt ≤ ((na : Nat) : Int) - 1) ∨ ¬ (1 ≤ y.toInt ∧ y.toInt ≤ 20) then 1 else 0) : vx_Met l yX3_throttle wsX3_throttle ({ frames := 7, cells := 2, slots := 12, locals := 106 } : Room) (va_Pc [.ref (ad 0), .int x, .int y] (wPre D vwCl (sT cI cZ cR) (sW cI cZ cR ad na n I V) sz (eX (va_A (sW cI cZ cR ad na n I V) sz)))) (va_Qi (fun (r9 : Int32) (u : Unit) => cd = 0 ∧ r9 = I r 11) (wPost D vwCl (sT cI cZ cR) (fun (u : Unit) => sW cI cZ cR ad na n (va_up I r (va_up (I r) 11 y)) V) (va_A (sW cI cZ cR ad na n I V) sz)) (va_A (sW cI cZ cR ad na n I V) sz)) (wXc D vwCl (sT cI cZ cR) (sW cI cZ cR ad na n I V) (va_A (sW cI cZ cR ad na n I V) sz) cd) 2 12 (va_A (sW cI cZ cR ad na n I V) sz) := by
  refine vx_ofW (cc := cX3_throttle) (maxL := 5) (ret := (some .int)) (by decide) rfl ?_
  intro p e s m args below meth c s₁ B hml htab hv
  obtain ⟨rfl, hsz, hP, hK, hD0, hE⟩ := hv
  have hx := B.exec
  have hb := B.bytes
  have hr := B.returns
  have hts := atoms_spec (ws := wsX3_throttle) B.pre
  have hown : s.vm.findClass RX3 = some m.cls := findClass_of_methodNamed B.named
  have hlocks := B.notSynchronized
  subst hsz
  have hD := hD0.self (sz := s.heap.size)
  generalize hAe : va_A (sW cI cZ cR ad na n I V) s.heap.size = A at hD hE ⊢
  have hA : ∀ q : Nat, s.heap.size ≤ q → A q := fun q h => by rw [← hAe]; exact Or.inr h
  have hS : va_S A s.heap s.heap [] := va_S.rf
  have hinX1 : ∀ w ∈ wsX10, w ∈ wsX3_throttle := by decide +kernel
  have hl := lv_entry ([.ref (ad 0), .int x, .int y]) (n := 5) (Nat.le_of_ble_eq_true rfl)
  rw [lg_entry_eq]
  generalize (lg_sl ([.ref (ad 0), .int x, .int y]) ++ List.replicate (5 - (lg_sl ([.ref (ad 0), .int x, .int y])).length) Slot.unset).toArray = ls at hl ⊢
  have hl : lv_has ls 5 [(0, .ref (ad 0)), (1, .int x), (2, .int y)] := hl
  obtain ⟨eN1, eA, eS, ej1, ej2, ej3, ⟨s46, e46⟩, ⟨s62, e62⟩, ⟨s94, e94⟩, ⟨s122, e122⟩, ⟨s187, e187⟩, ⟨s190, e190⟩, eU, eV⟩ := id hE
  refine lv_aload_n hx hb dX3_throttle_0 rfl (lv_at hl 0 rfl) ?_
  refine lv_iload_n hx hb dX3_throttle_1 rfl (lv_at hl 1 rfl) ?_
  refine w_callxr (w := sW cI cZ cR ad na n I V) hS hA hK hD (vx_runV (As := [.int x]) (rest := []) ⟨hx, hb, hml, hown, hts⟩ (c_X3_readerAt l D cI cZ cR ad na n I V s.heap.size hlt hn hna hna6 x _ rfl) (cwV 1 hts gX3_throttle_X3_readerAt rfl rfl rfl (by decide +kernel) ⟨Nat.le_of_ble_eq_true rfl, Nat.le_of_ble_eq_true rfl⟩) ⟨(w_pre hP hK hD (eX_env hE hS (w_free hD hS hA))).1, wR_recv (C := RX3) (T := TX3) (N := 4) hK hP (ci := 3) rfl 0 (by omega) rfl, (w_pre hP hK hD (eX_env hE hS (w_free hD hS hA))).2⟩ rfl rfl hl.1 rfl (lv_room (Nat.le_of_ble_eq_true rfl)) dX3_throttle_2 ⟨Nat.le_of_ble_eq_true rfl, Nat.le_of_ble_eq_true rfl⟩) (fun E9 ce q9 H locs hxc hP hS hce hcv hcl => ?_) (fun u H locs hw hP hD hS hz => ?_)
  · obtain ⟨hE1, hq9⟩ := xC_1 hxc
    exact w_out htab hlocks hce hcv hcl hP hK hD hS (Or.inl ⟨hE1, (by rw [hcd, if_pos (by omega)])⟩) (by decide) (by decide)
  · rw [← hr0]
    have hq9 := cd_0 hw
    obtain ⟨hxj, hxi⟩ := nx_nn (x := x) (by omega)
    have hrd : sC_r r := ⟨_, hr0⟩
    have hrn : r + 5 < n := by omega
    refine lv_astore_n (lv' := [(3, .ref (ad r)), (0, .ref (ad 0)), (1, .int x), (2, .int y)]) hx hb dX3_throttle_5 rfl hl (by decide) rfl (fun ls hl => ?_)
    refine lv_iload_n hx hb dX3_throttle_6 rfl (lv_at hl 3 rfl) ?_
    refine lv_iconst (v := nI 1) hx hb dX3_throttle_7 (by decide) ?_
    refine lv_bipush (v := nI 20) hx hb dX3_throttle_8 (by decide) ?_
    refine w_calli (w := sW cI cZ cR ad na n I V) hS hA hK hD (va_runS (As := [.int y, .int (nI 1), .int (nI 20)]) (rest := []) ⟨hx, hb, hml, hown, hts⟩ (c_X3_isWithin l D (sT cI cZ cR) (sW cI cZ cR ad na n I V) wTrue H.size y (nI 1) (nI 20)) (va_cwS 3 hts gX3_throttle_X3_isWithin rfl rfl rfl (by decide +kernel) ⟨Nat.le_of_ble_eq_true rfl, Nat.le_of_ble_eq_true rfl⟩) (w_pre hP hK hD wEnv_true) rfl rfl hl.1 rfl (lv_room (Nat.le_of_ble_eq_true rfl)) dX3_throttle_10 ⟨Nat.le_of_ble_eq_true rfl, Nat.le_of_ble_eq_true rfl⟩) (fun r_3 u H locs hw hP hD hS hz => ?_)
    have hw_2 : r_3 = wI y (1) (20) := by rw [hw, nI_toInt (n := 1) (by decide), nI_toInt (n := 20) (by decide)]; rfl
    refine w_callxv (w := sW cI cZ cR ad na n I V) hS hA hK hD (vx_runS (As := [.int r_3]) (rest := []) ⟨hx, hb, hml, hown, hts⟩ (c_X3_demand l D (sT cI cZ cR) (sW cI cZ cR ad na n I V) H.size hlt r_3 (if r_3 = 0 then 1 else 0) rfl) (va_cwS 1 hts gX3_throttle_X3_demand rfl rfl rfl (by decide +kernel) ⟨Nat.le_of_ble_eq_true rfl, Nat.le_of_ble_eq_true rfl⟩) (w_pre hP hK hD (eX_env hE hS (w_free hD hS hA))) rfl rfl hl.1 rfl (lv_room (Nat.le_of_ble_eq_true rfl)) dX3_throttle_13 ⟨Nat.le_of_ble_eq_true rfl, Nat.le_of_ble_eq_true rfl⟩) (fun E9 ce q9 H locs hxc hP hS hce hcv hcl => ?_) (fun u H locs hw hP hD hS hz => ?_)
    · obtain ⟨hE1, hb0⟩ := xC_1 hxc
      have hq_4 := wI_out hw_2 hb0
      exact w_out htab hlocks hce hcv hcl hP hK hD hS (Or.inl ⟨hE1, (by rw [hcd, if_pos (by omega)])⟩) (by decide) (by decide)
    · have hq_4 := wI_in hw_2 hw.2
      refine lv_aload_n hx hb dX3_throttle_16 rfl (lv_at hl 0 rfl) ?_
      refine wR_get (v := .int (I r 11)) (C := RX1) (T := TX1) (N := 17) (ci := 1) hx hb hts hinX1 hown hK hP r (by omega) (sC_rd hrd) rfl 11 (by decide) (hts (.fieldLink RX3 116 "ChangeStream$Reader" "mostTaken" "I") (by decide +kernel)) rfl rfl dX3_throttle_17 ?_
      refine lv_istore (lv' := [(4, .int (I r 11)), (3, .ref (ad r)), (0, .ref (ad 0)), (1, .int x), (2, .int y)]) hx hb dX3_throttle_20 hl (by decide) rfl (fun ls hl => ?_)
      refine lv_aload_n hx hb dX3_throttle_22 rfl (lv_at hl 1 rfl) ?_
      refine lv_iload_n hx hb dX3_throttle_23 rfl (lv_at hl 4 rfl) ?_
      refine wR_put (C := RX1) (T := TX1) (N := 17) (ci := 1) hx hb hts hinX1 tyX1 tyX1_ok nmX1 hown hK hP hD hS r (by omega) (sC_rd hrd) rfl 11 (by decide) (hts (.fieldLink RX3 116 "ChangeStream$Reader" "mostTaken" "I") (by decide +kernel)) rfl rfl (by decide +kernel) (by simp) (va_up (I r) 11 y) (by exact ((sC_rd hrd)).trans rfl) dX3_throttle_24 (fun H locs hP hD hS => ?_)
      refine lv_iload hx hb dX3_throttle_27 (lv_at hl 0 rfl) ?_
      refine vx_ret ?_
      refine W.widen (k := 2) (n := 12) (by decide) (by decide) ?_
      exact W.iret (v := I r 11) hx hb hr (fun t ht hW => ⟨⟨I r 11, (), rfl, ⟨(by rw [hcd, if_neg (by omega)]), rfl⟩, by rw [ht]; exact hP, va_K.moved hW.alike hK, hD⟩, hS.F ht⟩) hS.2.2 dX3_throttle_29

set_option maxHeartbeats 4000000 in
set_option maxRecDepth 100000 in
/-- right(x, y, b) -/
theorem c_X3_right (l : Launch) (D : va_G) (cI cZ cR : ClassId) (ad : Nat → Nat) (na n : Nat) (I V : Nat → Nat → Int32) (sz : Nat) (hlt : l.stackTraces = false) (hn : n = 11 + 6 * na) (hna : I 0 3 = nI na) (hna6 : na ≤ 6) (x : Int32) (r : Nat) (hr0 : r = 11 + 6 * x.toNatClampNeg) (k : Nat) (hk : I 1 4 = nI k) (hk1 : k ≤ 100) (TT : Nat) (hT : I 6 4 = nI TT) (rc9 : Nat) (hrc0 : (0 ≤ x.toInt ∧ x.toInt ≤ ((na : Nat) : Int) - 1) → I r 13 = nI rc9 ∧ rc9 ≤ 40) (y b : Int32) (hb01 : b = 0 ∨ b = 1) (f : Nat) (hf : f = y.toNatClampNeg) (cd : Nat) (hcd : cd = if ¬ (0 ≤ x.toInt ∧ x.toInt ≤ ((na : Nat) : Int) - 1) ∨ ¬ (0 ≤ y.toInt ∧ y.toInt ≤ ((k : Nat) : Int) - 1) then 1 else if rc9 = 40 then 2 else 0) : vx_Met l yX3_right wsX3_right ({ frames := 7, cells := 3, slots := 18, locals := 106 } : Room) (va_Pc [.ref (ad 0), .int x, .int y, .int b] (wPre D vwCl (sT cI cZ cR) (sW cI cZ cR ad na n I V) sz (eX (va_A (sW cI cZ cR ad na n I V) sz)))) (va_Qv (fun (u : Unit) => cd = 0 ∧ True) (wPost D vwCl (sT cI cZ cR) (fun (u : Unit) => sW cI cZ cR ad na n (va_up I r (va_up (I r) 13 (nI (rc9 + 1)))) (va_up (va_up (va_up V (r + 3) (va_up (V (r + 3)) rc9 (nI f))) (r + 5) (va_up (V (r + 5)) rc9 b)) (r + 4) (va_up (V (r + 4)) rc9 (nI (TT + 1))))) (va_A (sW cI cZ cR ad na n I V) sz)) (va_A (sW cI cZ cR ad na n I V) sz)) (wXc D vwCl (sT cI cZ cR) (sW cI cZ cR ad na n I V) (va_A (sW cI cZ cR ad na n I V) sz) cd) 3 18 (va_A (sW cI cZ cR ad na n I V) sz) := by
  refine vx_ofW (cc := cX3_right) (maxL := 5) (ret := none) (by decide) rfl ?_
  intro p e s m args below meth c s₁ B hml htab hv
  obtain ⟨rfl, hsz, hP, hK, hD0, hE⟩ := hv
  have hx := B.exec
  have hb := B.bytes
  have hr := B.returns
  have hts := atoms_spec (ws := wsX3_right) B.pre
  have hown : s.vm.findClass RX3 = some m.cls := findClass_of_methodNamed B.named
  have hlocks := B.notSynchronized
  subst hsz
  have hD := hD0.self (sz := s.heap.size)
  generalize hAe : va_A (sW cI cZ cR ad na n I V) s.heap.size = A at hD hE ⊢
  have hA : ∀ q : Nat, s.heap.size ≤ q → A q := fun q h => by rw [← hAe]; exact Or.inr h
  have hS : va_S A s.heap s.heap [] := va_S.rf
  have hinX0 : ∀ w ∈ wsX00, w ∈ wsX3_right := by decide +kernel
  have hinX1 : ∀ w ∈ wsX10, w ∈ wsX3_right := by decide +kernel
  have hinX3 : ∀ w ∈ wsX30, w ∈ wsX3_right := by decide +kernel
  have hl := lv_entry ([.ref (ad 0), .int x, .int y, .int b]) (n := 5) (Nat.le_of_ble_eq_true rfl)
  rw [lg_entry_eq]
  generalize (lg_sl ([.ref (ad 0), .int x, .int y, .int b]) ++ List.replicate (5 - (lg_sl ([.ref (ad 0), .int x, .int y, .int b])).length) Slot.unset).toArray = ls at hl ⊢
  have hl : lv_has ls 5 [(0, .ref (ad 0)), (1, .int x), (2, .int y), (3, .int b)] := hl
  obtain ⟨eN1, eA, eS, ej1, ej2, ej3, ⟨s46, e46⟩, ⟨s62, e62⟩, ⟨s94, e94⟩, ⟨s122, e122⟩, ⟨s187, e187⟩, ⟨s190, e190⟩, eU, eV⟩ := id hE
  refine lv_aload_n hx hb dX3_right_0 rfl (lv_at hl 0 rfl) ?_
  refine lv_iload_n hx hb dX3_right_1 rfl (lv_at hl 1 rfl) ?_
  refine w_callxr (w := sW cI cZ cR ad na n I V) hS hA hK hD (vx_runV (As := [.int x]) (rest := []) ⟨hx, hb, hml, hown, hts⟩ (c_X3_readerAt l D cI cZ cR ad na n I V s.heap.size hlt hn hna hna6 x _ rfl) (cwV 1 hts gX3_right_X3_readerAt rfl rfl rfl (by decide +kernel) ⟨Nat.le_of_ble_eq_true rfl, Nat.le_of_ble_eq_true rfl⟩) ⟨(w_pre hP hK hD (eX_env hE hS (w_free hD hS hA))).1, wR_recv (C := RX3) (T := TX3) (N := 4) hK hP (ci := 3) rfl 0 (by omega) rfl, (w_pre hP hK hD (eX_env hE hS (w_free hD hS hA))).2⟩ rfl rfl hl.1 rfl (lv_room (Nat.le_of_ble_eq_true rfl)) dX3_right_2 ⟨Nat.le_of_ble_eq_true rfl, Nat.le_of_ble_eq_true rfl⟩) (fun E9 ce q9 H locs hxc hP hS hce hcv hcl => ?_) (fun u H locs hw hP hD hS hz => ?_)
  · obtain ⟨hE1, hq9⟩ := xC_1 hxc
    exact w_out htab hlocks hce hcv hcl hP hK hD hS (Or.inl ⟨hE1, (by rw [hcd, if_pos (by omega)])⟩) (by decide) (by decide)
  · rw [← hr0]
    have hq9 := cd_0 hw
    obtain ⟨hxj, hxi⟩ := nx_nn (x := x) (by omega)
    have hrd : sC_r r := ⟨_, hr0⟩
    have hrn : r + 5 < n := by omega
    obtain ⟨hrc9, hrc94⟩ := hrc0 (by omega)
    refine lv_astore (lv' := [(4, .ref (ad r)), (0, .ref (ad 0)), (1, .int x), (2, .int y), (3, .int b)]) hx hb dX3_right_5 hl (by decide) rfl (fun ls hl => ?_)
    refine lv_aload_n hx hb dX3_right_7 rfl (lv_at hl 1 rfl) ?_
    refine wR_get (v := .ref (ad 1)) (C := RX3) (T := TX3) (N := 4) (ci := 3) hx hb hts hinX3 hown hK hP 0 (by omega) rfl rfl 0 (by decide) (hts (.fieldLink RX3 10 "ChangeStream" "store" "LChangeStream$Store;") (by decide +kernel)) rfl rfl dX3_right_8 ?_
    refine lv_iload_n hx hb dX3_right_11 rfl (lv_at hl 3 rfl) ?_
    refine w_calli (w := sW cI cZ cR ad na n I V) hS hA hK hD (va_runV (As := [.int y]) (rest := []) ⟨hx, hb, hml, hown, hts⟩ (c_X2_hasFact l D cI cZ cR ad na n I V H.size (by omega) k hk hk1 y) (cwV 1 hts gX3_right_X2_hasFact rfl rfl rfl (by decide +kernel) ⟨Nat.le_of_ble_eq_true rfl, Nat.le_of_ble_eq_true rfl⟩) ⟨(w_pre hP hK hD (eN_env eN1)).1, wR_recv (C := RX2) (T := TX2) (N := 6) hK hP (ci := 2) rfl 1 (by omega) rfl, (w_pre hP hK hD (eN_env eN1)).2⟩ rfl rfl hl.1 rfl (lv_room (Nat.le_of_ble_eq_true rfl)) dX3_right_12 ⟨Nat.le_of_ble_eq_true rfl, Nat.le_of_ble_eq_true rfl⟩) (fun r_3 u H locs hw hP hD hS hz => ?_)
    have hw_2 : r_3 = wI y 0 (((k : Nat) : Int) - 1) := hw
    refine w_callxv (w := sW cI cZ cR ad na n I V) hS hA hK hD (vx_runS (As := [.int r_3]) (rest := []) ⟨hx, hb, hml, hown, hts⟩ (c_X3_demand l D (sT cI cZ cR) (sW cI cZ cR ad na n I V) H.size hlt r_3 (if r_3 = 0 then 1 else 0) rfl) (va_cwS 1 hts gX3_right_X3_demand rfl rfl rfl (by decide +kernel) ⟨Nat.le_of_ble_eq_true rfl, Nat.le_of_ble_eq_true rfl⟩) (w_pre hP hK hD (eX_env hE hS (w_free hD hS hA))) rfl rfl hl.1 rfl (lv_room (Nat.le_of_ble_eq_true rfl)) dX3_right_15 ⟨Nat.le_of_ble_eq_true rfl, Nat.le_of_ble_eq_true rfl⟩) (fun E9 ce q9 H locs hxc hP hS hce hcv hcl => ?_) (fun u H locs hw hP hD hS hz => ?_)
    · obtain ⟨hE1, hb0⟩ := xC_1 hxc
      have hq_4 := wI_out hw_2 hb0
      exact w_out htab hlocks hce hcv hcl hP hK hD hS (Or.inl ⟨hE1, (by rw [hcd, if_pos (by omega)])⟩) (by decide) (by decide)
    · have hq_4 := wI_in hw_2 hw.2
      obtain ⟨hyj, hyi⟩ := nx_nn (x := y) (by omega)
      rw [← hf] at hyj hyi
      rw [hyj] at hl
      refine lv_aload hx hb dX3_right_18 (lv_at hl 0 rfl) ?_
      refine wR_get (v := .int (nI rc9)) (C := RX1) (T := TX1) (N := 17) (ci := 1) hx hb hts hinX1 hown hK hP r (by omega) (sC_rd hrd) rfl 13 (by decide) (hts (.fieldLink RX3 119 "ChangeStream$Reader" "rightCount" "I") (by decide +kernel)) rfl (congrArg (fun z => some (Value.int z)) hrc9) dX3_right_20 ?_
      refine lv_bipush (v := nI 40) hx hb dX3_right_23 (by decide) ?_
      refine lv_icmp_lt (tgt := 38) hx hb dX3_right_25 (by decide) (fun c_6 => ?_) (fun c_6 => ?_)
      · have c_6 : rc9 < 40 := (nI_ltI (a := rc9) (b := 40) (by omega) (by omega)).mp c_6
        refine lv_aload hx hb dX3_right_38 (lv_at hl 0 rfl) ?_
        refine lv_iload_n hx hb dX3_right_40 rfl (lv_at hl 3 rfl) ?_
        refine lv_iload_n hx hb dX3_right_41 rfl (lv_at hl 4 rfl) ?_
        refine lv_aload_n hx hb dX3_right_42 rfl (lv_at hl 1 rfl) ?_
        refine wR_get (v := .ref (ad 6)) (C := RX3) (T := TX3) (N := 4) (ci := 3) hx hb hts hinX3 hown hK hP 0 (by omega) rfl rfl 1 (by decide) (hts (.fieldLink RX3 19 "ChangeStream" "log" "LChangeStream$Log;") (by decide +kernel)) rfl rfl dX3_right_43 ?_
        refine wR_get (v := .int (nI TT)) (C := RX0) (T := TX0) (N := 8) (ci := 0) hx hb hts hinX0 hown hK hP 6 (by omega) rfl rfl 4 (by decide) (hts (.fieldLink RX3 77 "ChangeStream$Log" "transactions" "I") (by decide +kernel)) rfl (congrArg (fun z => some (Value.int z)) hT) dX3_right_46 ?_
        refine lv_iconst (v := nI 1) hx hb dX3_right_49 (by decide) ?_
        refine lv_iadd hx hb dX3_right_50 ?_
        rw [nI_add]
        refine w_callv (w := sW cI cZ cR ad na n I V) hS hA hK hD (va_runV (As := [.int (nI f), .int b, .int (nI (TT + 1))]) (rest := []) ⟨hx, hb, hml, hown, hts⟩ (c_X1_putRight l D cI cZ cR ad na n I V H.size r (by omega) hrd rc9 hrc9 (by omega) f b (nI (TT + 1)) hb01) (cwV 3 hts gX3_right_X1_putRight rfl rfl rfl (by decide +kernel) ⟨Nat.le_of_ble_eq_true rfl, Nat.le_of_ble_eq_true rfl⟩) ⟨(w_pre hP hK hD wEnv_true).1, wR_recv (C := RX1) (T := TX1) (N := 17) hK hP (ci := 1) rfl r (by omega) (sC_rd hrd), (w_pre hP hK hD wEnv_true).2⟩ rfl rfl hl.1 rfl (lv_room (Nat.le_of_ble_eq_true rfl)) dX3_right_51 ⟨Nat.le_of_ble_eq_true rfl, Nat.le_of_ble_eq_true rfl⟩) (fun  u H locs hw hP hD hS hz => ?_)
        refine vx_ret ?_
        refine W.widen (k := 3) (n := 18) (by decide) (by decide) ?_
        exact W.vret hx hb hr (fun t ht hW => ⟨⟨(), rfl, ⟨(by rw [hcd, if_neg (by omega), if_neg (by omega)]), trivial⟩, by rw [ht]; exact hP, va_K.moved hW.alike hK, hD⟩, hS.F ht⟩) hS.2.2 dX3_right_54
      · have c_6 : ¬ (rc9 < 40) := fun h9 => c_6 ((nI_ltI (a := rc9) (b := 40) (by omega) (by omega)).mpr h9)
        exact w_throw (own := RX3) (cls := "java/lang/IllegalStateException") (names := ["java/lang/RuntimeException", "java/lang/Exception"]) (text := "no more changes of this reader's rights") hx hb hlt hts hown (by decide) (by decide) (by decide +kernel) (by decide +kernel) e122 (by decide +kernel) x_IS (xB_of eS ej1 ej2 ej3) x_gS eU eV hP hK hD hS (hl.1.trans hml.symm) dX3_right_28 dX3_right_31 dX3_right_32 dX3_right_34 dX3_right_37 htab (by decide) (by decide) (by decide) (by decide) hlocks (Or.inr ⟨rfl, (by rw [hcd, if_neg (by omega), if_pos (by omega)])⟩) (by decide) (by decide)

set_option maxHeartbeats 4000000 in
set_option maxRecDepth 100000 in
/-- done(x, y) -/
theorem c_X3_done (l : Launch) (D : va_G) (cI cZ cR : ClassId) (ad : Nat → Nat) (na n : Nat) (I V : Nat → Nat → Int32) (sz : Nat) (hlt : l.stackTraces = false) (hn : n = 11 + 6 * na) (hna : I 0 3 = nI na) (hna6 : na ≤ 6) (x : Int32) (r : Nat) (hr0 : r = 11 + 6 * x.toNatClampNeg) (tc : Nat) (htc0 : (0 ≤ x.toInt ∧ x.toInt ≤ ((na : Nat) : Int) - 1) → I r 12 = nI tc ∧ tc ≤ 20) (TT : Nat) (hT : I 6 4 = nI TT) (hT1 : TT < 100000) (y : Int32) (d : Nat) (hd : d = fDone (V (r + 2)) y tc 0) (cd : Nat) (hcd : cd = if ¬ (0 ≤ x.toInt ∧ x.toInt ≤ ((na : Nat) : Int) - 1) ∨ ¬ (0 ≤ y.toInt ∧ y.toInt ≤ ((TT : Nat) : Int)) then 1 else 0) : vx_Met l yX3_done wsX3_done ({ frames := 7, cells := 2, slots := 12, locals := 106 } : Room) (va_Pc [.ref (ad 0), .int x, .int y] (wPre D vwCl (sT cI cZ cR) (sW cI cZ cR ad na n I V) sz (eX (va_A (sW cI cZ cR ad na n I V) sz)))) (va_Qi (fun (r9 : Int32) (u : Unit) => cd = 0 ∧ r9 = nI d) (wPost D vwCl (sT cI cZ cR) (fun (u : Unit) => sW cI cZ cR ad na n (va_up I r (va_up (I r) 12 (nI (tc - d)))) (va_up (va_up V (r + 1) (va_cpy (V (r + 1)) (V (r + 1)) d 0 (tc - d))) (r + 2) (va_cpy (V (r + 2)) (V (r + 2)) d 0 (tc - d)))) (va_A (sW cI cZ cR ad na n I V) sz)) (va_A (sW cI cZ cR ad na n I V) sz)) (wXc D vwCl (sT cI cZ cR) (sW cI cZ cR ad na n I V) (va_A (sW cI cZ cR ad na n I V) sz) cd) 2 12 (va_A (sW cI cZ cR ad na n I V) sz) := by
  refine vx_ofW (cc := cX3_done) (maxL := 4) (ret := (some .int)) (by decide) rfl ?_
  intro p e s m args below meth c s₁ B hml htab hv
  obtain ⟨rfl, hsz, hP, hK, hD0, hE⟩ := hv
  have hx := B.exec
  have hb := B.bytes
  have hr := B.returns
  have hts := atoms_spec (ws := wsX3_done) B.pre
  have hown : s.vm.findClass RX3 = some m.cls := findClass_of_methodNamed B.named
  have hlocks := B.notSynchronized
  subst hsz
  have hD := hD0.self (sz := s.heap.size)
  generalize hAe : va_A (sW cI cZ cR ad na n I V) s.heap.size = A at hD hE ⊢
  have hA : ∀ q : Nat, s.heap.size ≤ q → A q := fun q h => by rw [← hAe]; exact Or.inr h
  have hS : va_S A s.heap s.heap [] := va_S.rf
  have hinX0 : ∀ w ∈ wsX00, w ∈ wsX3_done := by decide +kernel
  have hinX3 : ∀ w ∈ wsX30, w ∈ wsX3_done := by decide +kernel
  have hl := lv_entry ([.ref (ad 0), .int x, .int y]) (n := 4) (Nat.le_of_ble_eq_true rfl)
  rw [lg_entry_eq]
  generalize (lg_sl ([.ref (ad 0), .int x, .int y]) ++ List.replicate (4 - (lg_sl ([.ref (ad 0), .int x, .int y])).length) Slot.unset).toArray = ls at hl ⊢
  have hl : lv_has ls 4 [(0, .ref (ad 0)), (1, .int x), (2, .int y)] := hl
  obtain ⟨eN1, eA, eS, ej1, ej2, ej3, ⟨s46, e46⟩, ⟨s62, e62⟩, ⟨s94, e94⟩, ⟨s122, e122⟩, ⟨s187, e187⟩, ⟨s190, e190⟩, eU, eV⟩ := id hE
  refine lv_aload_n hx hb dX3_done_0 rfl (lv_at hl 0 rfl) ?_
  refine lv_iload_n hx hb dX3_done_1 rfl (lv_at hl 1 rfl) ?_
  refine w_callxr (w := sW cI cZ cR ad na n I V) hS hA hK hD (vx_runV (As := [.int x]) (rest := []) ⟨hx, hb, hml, hown, hts⟩ (c_X3_readerAt l D cI cZ cR ad na n I V s.heap.size hlt hn hna hna6 x _ rfl) (cwV 1 hts gX3_done_X3_readerAt rfl rfl rfl (by decide +kernel) ⟨Nat.le_of_ble_eq_true rfl, Nat.le_of_ble_eq_true rfl⟩) ⟨(w_pre hP hK hD (eX_env hE hS (w_free hD hS hA))).1, wR_recv (C := RX3) (T := TX3) (N := 4) hK hP (ci := 3) rfl 0 (by omega) rfl, (w_pre hP hK hD (eX_env hE hS (w_free hD hS hA))).2⟩ rfl rfl hl.1 rfl (lv_room (Nat.le_of_ble_eq_true rfl)) dX3_done_2 ⟨Nat.le_of_ble_eq_true rfl, Nat.le_of_ble_eq_true rfl⟩) (fun E9 ce q9 H locs hxc hP hS hce hcv hcl => ?_) (fun u H locs hw hP hD hS hz => ?_)
  · obtain ⟨hE1, hq9⟩ := xC_1 hxc
    exact w_out htab hlocks hce hcv hcl hP hK hD hS (Or.inl ⟨hE1, (by rw [hcd, if_pos (by omega)])⟩) (by decide) (by decide)
  · rw [← hr0]
    have hq9 := cd_0 hw
    obtain ⟨hxj, hxi⟩ := nx_nn (x := x) (by omega)
    have hrd : sC_r r := ⟨_, hr0⟩
    have hrn : r + 5 < n := by omega
    obtain ⟨htc, htc2⟩ := htc0 (by omega)
    refine lv_astore_n (lv' := [(3, .ref (ad r)), (0, .ref (ad 0)), (1, .int x), (2, .int y)]) hx hb dX3_done_5 rfl hl (by decide) rfl (fun ls hl => ?_)
    refine lv_iload_n hx hb dX3_done_6 rfl (lv_at hl 3 rfl) ?_
    refine lv_iconst (v := nI 0) hx hb dX3_done_7 (by decide) ?_
    refine lv_aload_n hx hb dX3_done_8 rfl (lv_at hl 1 rfl) ?_
    refine wR_get (v := .ref (ad 6)) (C := RX3) (T := TX3) (N := 4) (ci := 3) hx hb hts hinX3 hown hK hP 0 (by omega) rfl rfl 1 (by decide) (hts (.fieldLink RX3 19 "ChangeStream" "log" "LChangeStream$Log;") (by decide +kernel)) rfl rfl dX3_done_9 ?_
    refine wR_get (v := .int (nI TT)) (C := RX0) (T := TX0) (N := 8) (ci := 0) hx hb hts hinX0 hown hK hP 6 (by omega) rfl rfl 4 (by decide) (hts (.fieldLink RX3 77 "ChangeStream$Log" "transactions" "I") (by decide +kernel)) rfl (congrArg (fun z => some (Value.int z)) hT) dX3_done_12 ?_
    refine w_calli (w := sW cI cZ cR ad na n I V) hS hA hK hD (va_runS (As := [.int y, .int (nI 0), .int (nI TT)]) (rest := []) ⟨hx, hb, hml, hown, hts⟩ (c_X3_isWithin l D (sT cI cZ cR) (sW cI cZ cR ad na n I V) wTrue H.size y (nI 0) (nI TT)) (va_cwS 3 hts gX3_done_X3_isWithin rfl rfl rfl (by decide +kernel) ⟨Nat.le_of_ble_eq_true rfl, Nat.le_of_ble_eq_true rfl⟩) (w_pre hP hK hD wEnv_true) rfl rfl hl.1 rfl (lv_room (Nat.le_of_ble_eq_true rfl)) dX3_done_15 ⟨Nat.le_of_ble_eq_true rfl, Nat.le_of_ble_eq_true rfl⟩) (fun r_3 u H locs hw hP hD hS hz => ?_)
    have hw_2 : r_3 = wI y (0) (((TT : Nat) : Int)) := by rw [hw, nI_toInt (n := 0) (by decide), nI_toInt (n := TT) (by omega)]; rfl
    refine w_callxv (w := sW cI cZ cR ad na n I V) hS hA hK hD (vx_runS (As := [.int r_3]) (rest := []) ⟨hx, hb, hml, hown, hts⟩ (c_X3_demand l D (sT cI cZ cR) (sW cI cZ cR ad na n I V) H.size hlt r_3 (if r_3 = 0 then 1 else 0) rfl) (va_cwS 1 hts gX3_done_X3_demand rfl rfl rfl (by decide +kernel) ⟨Nat.le_of_ble_eq_true rfl, Nat.le_of_ble_eq_true rfl⟩) (w_pre hP hK hD (eX_env hE hS (w_free hD hS hA))) rfl rfl hl.1 rfl (lv_room (Nat.le_of_ble_eq_true rfl)) dX3_done_18 ⟨Nat.le_of_ble_eq_true rfl, Nat.le_of_ble_eq_true rfl⟩) (fun E9 ce q9 H locs hxc hP hS hce hcv hcl => ?_) (fun u H locs hw hP hD hS hz => ?_)
    · obtain ⟨hE1, hb0⟩ := xC_1 hxc
      have hq_4 := wI_out hw_2 hb0
      exact w_out htab hlocks hce hcv hcl hP hK hD hS (Or.inl ⟨hE1, (by rw [hcd, if_pos (by omega)])⟩) (by decide) (by decide)
    · have hq_4 := wI_in hw_2 hw.2
      refine lv_aload_n hx hb dX3_done_21 rfl (lv_at hl 0 rfl) ?_
      refine lv_iload_n hx hb dX3_done_22 rfl (lv_at hl 3 rfl) ?_
      refine w_calli (w := sW cI cZ cR ad na n I V) hS hA hK hD (va_runV (As := [.int y]) (rest := []) ⟨hx, hb, hml, hown, hts⟩ (c_X1_finishUpTo l D cI cZ cR ad na n I V H.size r (by omega) hrd tc htc htc2 y d hd) (cwV 1 hts gX3_done_X1_finishUpTo rfl rfl rfl (by decide +kernel) ⟨Nat.le_of_ble_eq_true rfl, Nat.le_of_ble_eq_true rfl⟩) ⟨(w_pre hP hK hD wEnv_true).1, wR_recv (C := RX1) (T := TX1) (N := 17) hK hP (ci := 1) rfl r (by omega) (sC_rd hrd), (w_pre hP hK hD wEnv_true).2⟩ rfl rfl hl.1 rfl (lv_room (Nat.le_of_ble_eq_true rfl)) dX3_done_23 ⟨Nat.le_of_ble_eq_true rfl, Nat.le_of_ble_eq_true rfl⟩) (fun r_6 u H locs hw hP hD hS hz => ?_)
      rw [show r_6 = nI d from hw]
      refine vx_ret ?_
      refine W.widen (k := 2) (n := 12) (by decide) (by decide) ?_
      exact W.iret (v := nI d) hx hb hr (fun t ht hW => ⟨⟨nI d, (), rfl, ⟨(by rw [hcd, if_neg (by omega)]), rfl⟩, by rw [ht]; exact hP, va_K.moved hW.alike hK, hD⟩, hS.F ht⟩) hS.2.2 dX3_done_26

set_option maxHeartbeats 4000000 in
set_option maxRecDepth 100000 in
/-- resume(x) -/
theorem c_X3_resume (l : Launch) (D : va_G) (cI cZ cR : ClassId) (ad : Nat → Nat) (na n : Nat) (I V : Nat → Nat → Int32) (sz : Nat) (hlt : l.stackTraces = false) (hn : n = 11 + 6 * na) (hna : I 0 3 = nI na) (hna6 : na ≤ 6) (x : Int32) (r : Nat) (hr0 : r = 11 + 6 * x.toNatClampNeg) (tc : Nat) (htc0 : (0 ≤ x.toInt ∧ x.toInt ≤ ((na : Nat) : Int) - 1) → I r 12 = nI tc ∧ tc ≤ 20) (cd : Nat) (hcd : cd = if ¬ (0 ≤ x.toInt ∧ x.toInt ≤ ((na : Nat) : Int) - 1) then 1 else 0) : vx_Met l yX3_resume wsX3_resume ({ frames := 7, cells := 1, slots := 6, locals := 106 } : Room) (va_Pc [.ref (ad 0), .int x] (wPre D vwCl (sT cI cZ cR) (sW cI cZ cR ad na n I V) sz (eX (va_A (sW cI cZ cR ad na n I V) sz)))) (va_Qi (fun (r9 : Int32) (u : Unit) => cd = 0 ∧ r9 = nI tc) (wPost D vwCl (sT cI cZ cR) (fun (u : Unit) => sW cI cZ cR ad na n (va_up I r (va_up (if 0 < tc then va_up (va_up (I r) 7 (V (r + 2) 0)) 8 (V (r + 1) 0) else I r) 12 (nI 0))) V) (va_A (sW cI cZ cR ad na n I V) sz)) (va_A (sW cI cZ cR ad na n I V) sz)) (wXc D vwCl (sT cI cZ cR) (sW cI cZ cR ad na n I V) (va_A (sW cI cZ cR ad na n I V) sz) cd) 1 6 (va_A (sW cI cZ cR ad na n I V) sz) := by
  refine vx_ofW (cc := cX3_resume) (maxL := 2) (ret := (some .int)) (by decide) rfl ?_
  intro p e s m args below meth c s₁ B hml htab hv
  obtain ⟨rfl, hsz, hP, hK, hD0, hE⟩ := hv
  have hx := B.exec
  have hb := B.bytes
  have hr := B.returns
  have hts := atoms_spec (ws := wsX3_resume) B.pre
  have hown : s.vm.findClass RX3 = some m.cls := findClass_of_methodNamed B.named
  have hlocks := B.notSynchronized
  subst hsz
  have hD := hD0.self (sz := s.heap.size)
  generalize hAe : va_A (sW cI cZ cR ad na n I V) s.heap.size = A at hD hE ⊢
  have hA : ∀ q : Nat, s.heap.size ≤ q → A q := fun q h => by rw [← hAe]; exact Or.inr h
  have hS : va_S A s.heap s.heap [] := va_S.rf
  have hl := lv_entry ([.ref (ad 0), .int x]) (n := 2) (Nat.le_of_ble_eq_true rfl)
  rw [lg_entry_eq]
  generalize (lg_sl ([.ref (ad 0), .int x]) ++ List.replicate (2 - (lg_sl ([.ref (ad 0), .int x])).length) Slot.unset).toArray = ls at hl ⊢
  have hl : lv_has ls 2 [(0, .ref (ad 0)), (1, .int x)] := hl
  obtain ⟨eN1, eA, eS, ej1, ej2, ej3, ⟨s46, e46⟩, ⟨s62, e62⟩, ⟨s94, e94⟩, ⟨s122, e122⟩, ⟨s187, e187⟩, ⟨s190, e190⟩, eU, eV⟩ := id hE
  refine lv_aload_n hx hb dX3_resume_0 rfl (lv_at hl 0 rfl) ?_
  refine lv_iload_n hx hb dX3_resume_1 rfl (lv_at hl 1 rfl) ?_
  refine w_callxr (w := sW cI cZ cR ad na n I V) hS hA hK hD (vx_runV (As := [.int x]) (rest := []) ⟨hx, hb, hml, hown, hts⟩ (c_X3_readerAt l D cI cZ cR ad na n I V s.heap.size hlt hn hna hna6 x _ rfl) (cwV 1 hts gX3_resume_X3_readerAt rfl rfl rfl (by decide +kernel) ⟨Nat.le_of_ble_eq_true rfl, Nat.le_of_ble_eq_true rfl⟩) ⟨(w_pre hP hK hD (eX_env hE hS (w_free hD hS hA))).1, wR_recv (C := RX3) (T := TX3) (N := 4) hK hP (ci := 3) rfl 0 (by omega) rfl, (w_pre hP hK hD (eX_env hE hS (w_free hD hS hA))).2⟩ rfl rfl hl.1 rfl (lv_room (Nat.le_of_ble_eq_true rfl)) dX3_resume_2 ⟨Nat.le_of_ble_eq_true rfl, Nat.le_of_ble_eq_true rfl⟩) (fun E9 ce q9 H locs hxc hP hS hce hcv hcl => ?_) (fun u H locs hw hP hD hS hz => ?_)
  · obtain ⟨hE1, hq9⟩ := xC_1 hxc
    exact w_out htab hlocks hce hcv hcl hP hK hD hS (Or.inl ⟨hE1, (by rw [hcd, if_pos (by omega)])⟩) (by decide) (by decide)
  · rw [← hr0]
    have hq9 := cd_0 hw
    obtain ⟨hxj, hxi⟩ := nx_nn (x := x) (by omega)
    have hrd : sC_r r := ⟨_, hr0⟩
    have hrn : r + 5 < n := by omega
    obtain ⟨htc, htc2⟩ := htc0 (by omega)
    refine w_calli (w := sW cI cZ cR ad na n I V) hS hA hK hD (va_runV (As := []) (rest := []) ⟨hx, hb, hml, hown, hts⟩ (c_X1_beginAgain l D cI cZ cR ad na n I V H.size r (by omega) hrd tc htc htc2) (cwV 0 hts gX3_resume_X1_beginAgain rfl rfl rfl (by decide +kernel) ⟨Nat.le_of_ble_eq_true rfl, Nat.le_of_ble_eq_true rfl⟩) ⟨(w_pre hP hK hD wEnv_true).1, wR_recv (C := RX1) (T := TX1) (N := 17) hK hP (ci := 1) rfl r (by omega) (sC_rd hrd), (w_pre hP hK hD wEnv_true).2⟩ rfl rfl hl.1 rfl (lv_room (Nat.le_of_ble_eq_true rfl)) dX3_resume_5 ⟨Nat.le_of_ble_eq_true rfl, Nat.le_of_ble_eq_true rfl⟩) (fun r_2 u H locs hw hP hD hS hz => ?_)
    rw [show r_2 = nI tc from hw]
    refine vx_ret ?_
    refine W.widen (k := 1) (n := 6) (by decide) (by decide) ?_
    exact W.iret (v := nI tc) hx hb hr (fun t ht hW => ⟨⟨nI tc, (), rfl, ⟨(by rw [hcd, if_neg (by omega)]), rfl⟩, by rw [ht]; exact hP, va_K.moved hW.alike hK, hD⟩, hS.F ht⟩) hS.2.2 dX3_resume_8

set_option maxHeartbeats 4000000 in
set_option maxRecDepth 100000 in
/-- about(x, y) -/
theorem c_X3_about (l : Launch) (D : va_G) (cI cZ cR : ClassId) (ad : Nat → Nat) (na n : Nat) (I V : Nat → Nat → Int32) (sz : Nat) (hlt : l.stackTraces = false) (hn : n = 11 + 6 * na) (hna : I 0 3 = nI na) (hna6 : na ≤ 6) (x : Int32) (r : Nat) (hr0 : r = 11 + 6 * x.toNatClampNeg) (y : Int32) (v : Nat) (hv : v = y.toNatClampNeg) (cd : Nat) (hcd : cd = if ¬ (0 ≤ x.toInt ∧ x.toInt ≤ ((na : Nat) : Int) - 1) ∨ ¬ (0 ≤ y.toInt ∧ y.toInt ≤ 4) then 1 else 0) : vx_Met l yX3_about wsX3_about ({ frames := 7, cells := 2, slots := 12, locals := 106 } : Room) (va_Pc [.ref (ad 0), .int x, .int y] (wPre D vwCl (sT cI cZ cR) (sW cI cZ cR ad na n I V) sz (eX (va_A (sW cI cZ cR ad na n I V) sz)))) (va_Qi (fun (r9 : Int32) (u : Unit) => cd = 0 ∧ r9 = abt (I r) v) (wPost D vwCl (sT cI cZ cR) (fun (u : Unit) => sW cI cZ cR ad na n I V) (va_A (sW cI cZ cR ad na n I V) sz)) (va_A (sW cI cZ cR ad na n I V) sz)) (wXc D vwCl (sT cI cZ cR) (sW cI cZ cR ad na n I V) (va_A (sW cI cZ cR ad na n I V) sz) cd) 2 12 (va_A (sW cI cZ cR ad na n I V) sz) := by
  refine vx_ofW (cc := cX3_about) (maxL := 4) (ret := (some .int)) (by decide) rfl ?_
  intro p e s m args below meth c s₁ B hml htab hv
  obtain ⟨rfl, hsz, hP, hK, hD0, hE⟩ := hv
  have hx := B.exec
  have hb := B.bytes
  have hr := B.returns
  have hts := atoms_spec (ws := wsX3_about) B.pre
  have hown : s.vm.findClass RX3 = some m.cls := findClass_of_methodNamed B.named
  have hlocks := B.notSynchronized
  subst hsz
  have hD := hD0.self (sz := s.heap.size)
  generalize hAe : va_A (sW cI cZ cR ad na n I V) s.heap.size = A at hD hE ⊢
  have hA : ∀ q : Nat, s.heap.size ≤ q → A q := fun q h => by rw [← hAe]; exact Or.inr h
  have hS : va_S A s.heap s.heap [] := va_S.rf
  have hinX1 : ∀ w ∈ wsX10, w ∈ wsX3_about := by decide +kernel
  have hl := lv_entry ([.ref (ad 0), .int x, .int y]) (n := 4) (Nat.le_of_ble_eq_true rfl)
  rw [lg_entry_eq]
  generalize (lg_sl ([.ref (ad 0), .int x, .int y]) ++ List.replicate (4 - (lg_sl ([.ref (ad 0), .int x, .int y])).length) Slot.unset).toArray = ls at hl ⊢
  have hl : lv_has ls 4 [(0, .ref (ad 0)), (1, .int x), (2, .int y)] := hl
  obtain ⟨eN1, eA, eS, ej1, ej2, ej3, ⟨s46, e46⟩, ⟨s62, e62⟩, ⟨s94, e94⟩, ⟨s122, e122⟩, ⟨s187, e187⟩, ⟨s190, e190⟩, eU, eV⟩ := id hE
  refine lv_aload_n hx hb dX3_about_0 rfl (lv_at hl 0 rfl) ?_
  refine lv_iload_n hx hb dX3_about_1 rfl (lv_at hl 1 rfl) ?_
  refine w_callxr (w := sW cI cZ cR ad na n I V) hS hA hK hD (vx_runV (As := [.int x]) (rest := []) ⟨hx, hb, hml, hown, hts⟩ (c_X3_readerAt l D cI cZ cR ad na n I V s.heap.size hlt hn hna hna6 x _ rfl) (cwV 1 hts gX3_about_X3_readerAt rfl rfl rfl (by decide +kernel) ⟨Nat.le_of_ble_eq_true rfl, Nat.le_of_ble_eq_true rfl⟩) ⟨(w_pre hP hK hD (eX_env hE hS (w_free hD hS hA))).1, wR_recv (C := RX3) (T := TX3) (N := 4) hK hP (ci := 3) rfl 0 (by omega) rfl, (w_pre hP hK hD (eX_env hE hS (w_free hD hS hA))).2⟩ rfl rfl hl.1 rfl (lv_room (Nat.le_of_ble_eq_true rfl)) dX3_about_2 ⟨Nat.le_of_ble_eq_true rfl, Nat.le_of_ble_eq_true rfl⟩) (fun E9 ce q9 H locs hxc hP hS hce hcv hcl => ?_) (fun u H locs hw hP hD hS hz => ?_)
  · obtain ⟨hE1, hq9⟩ := xC_1 hxc
    exact w_out htab hlocks hce hcv hcl hP hK hD hS (Or.inl ⟨hE1, (by rw [hcd, if_pos (by omega)])⟩) (by decide) (by decide)
  · rw [← hr0]
    have hq9 := cd_0 hw
    obtain ⟨hxj, hxi⟩ := nx_nn (x := x) (by omega)
    have hrd : sC_r r := ⟨_, hr0⟩
    have hrn : r + 5 < n := by omega
    refine lv_astore_n (lv' := [(3, .ref (ad r)), (0, .ref (ad 0)), (1, .int x), (2, .int y)]) hx hb dX3_about_5 rfl hl (by decide) rfl (fun ls hl => ?_)
    refine lv_iload_n hx hb dX3_about_6 rfl (lv_at hl 3 rfl) ?_
    refine lv_iconst (v := nI 0) hx hb dX3_about_7 (by decide) ?_
    refine lv_iconst (v := nI 4) hx hb dX3_about_8 (by decide) ?_
    refine w_calli (w := sW cI cZ cR ad na n I V) hS hA hK hD (va_runS (As := [.int y, .int (nI 0), .int (nI 4)]) (rest := []) ⟨hx, hb, hml, hown, hts⟩ (c_X3_isWithin l D (sT cI cZ cR) (sW cI cZ cR ad na n I V) wTrue H.size y (nI 0) (nI 4)) (va_cwS 3 hts gX3_about_X3_isWithin rfl rfl rfl (by decide +kernel) ⟨Nat.le_of_ble_eq_true rfl, Nat.le_of_ble_eq_true rfl⟩) (w_pre hP hK hD wEnv_true) rfl rfl hl.1 rfl (lv_room (Nat.le_of_ble_eq_true rfl)) dX3_about_9 ⟨Nat.le_of_ble_eq_true rfl, Nat.le_of_ble_eq_true rfl⟩) (fun r_3 u H locs hw hP hD hS hz => ?_)
    have hw_2 : r_3 = wI y (0) (4) := by rw [hw, nI_toInt (n := 0) (by decide), nI_toInt (n := 4) (by decide)]; rfl
    refine w_callxv (w := sW cI cZ cR ad na n I V) hS hA hK hD (vx_runS (As := [.int r_3]) (rest := []) ⟨hx, hb, hml, hown, hts⟩ (c_X3_demand l D (sT cI cZ cR) (sW cI cZ cR ad na n I V) H.size hlt r_3 (if r_3 = 0 then 1 else 0) rfl) (va_cwS 1 hts gX3_about_X3_demand rfl rfl rfl (by decide +kernel) ⟨Nat.le_of_ble_eq_true rfl, Nat.le_of_ble_eq_true rfl⟩) (w_pre hP hK hD (eX_env hE hS (w_free hD hS hA))) rfl rfl hl.1 rfl (lv_room (Nat.le_of_ble_eq_true rfl)) dX3_about_12 ⟨Nat.le_of_ble_eq_true rfl, Nat.le_of_ble_eq_true rfl⟩) (fun E9 ce q9 H locs hxc hP hS hce hcv hcl => ?_) (fun u H locs hw hP hD hS hz => ?_)
    · obtain ⟨hE1, hb0⟩ := xC_1 hxc
      have hq_4 := wI_out hw_2 hb0
      exact w_out htab hlocks hce hcv hcl hP hK hD hS (Or.inl ⟨hE1, (by rw [hcd, if_pos (by omega)])⟩) (by decide) (by decide)
    · have hq_4 := wI_in hw_2 hw.2
      obtain ⟨hyj, hyi⟩ := nx_nn (x := y) (by omega)
      rw [← hv] at hyj hyi
      rw [hyj] at hl
      refine lv_iload_n hx hb dX3_about_15 rfl (lv_at hl 3 rfl) ?_
      rcases (show v = 0 ∨ v = 1 ∨ v = 2 ∨ v = 3 ∨ v = 4 by omega) with rfl | rfl | rfl | rfl | rfl
      · refine lv_tableIn (tgt := 48) hx hb dX3_about_16 (by decide) (by decide) (off := 32) (by decide) (by decide) ?_
        refine lv_aload_n hx hb dX3_about_48 rfl (lv_at hl 0 rfl) ?_
        refine wR_get (v := .int (I r 12)) (C := RX1) (T := TX1) (N := 17) (ci := 1) hx hb hts hinX1 hown hK hP r (by omega) (sC_rd hrd) rfl 12 (by decide) (hts (.fieldLink RX3 176 "ChangeStream$Reader" "takenCount" "I") (by decide +kernel)) rfl rfl dX3_about_49 ?_
        refine vx_ret ?_
        refine W.widen (k := 2) (n := 12) (by decide) (by decide) ?_
        exact W.iret (v := I r 12) hx hb hr (fun t ht hW => ⟨⟨I r 12, (), rfl, ⟨(by rw [hcd, if_neg (by omega)]), rfl⟩, by rw [ht]; exact hP, va_K.moved hW.alike hK, hD⟩, hS.F ht⟩) hS.2.2 dX3_about_52
      · refine lv_tableIn (tgt := 53) hx hb dX3_about_16 (by decide) (by decide) (off := 37) (by decide) (by decide) ?_
        refine lv_aload_n hx hb dX3_about_53 rfl (lv_at hl 0 rfl) ?_
        refine wR_get (v := .int (I r 7)) (C := RX1) (T := TX1) (N := 17) (ci := 1) hx hb hts hinX1 hown hK hP r (by omega) (sC_rd hrd) rfl 7 (by decide) (hts (.fieldLink RX3 128 "ChangeStream$Reader" "atTransaction" "I") (by decide +kernel)) rfl rfl dX3_about_54 ?_
        refine vx_ret ?_
        refine W.widen (k := 2) (n := 12) (by decide) (by decide) ?_
        exact W.iret (v := I r 7) hx hb hr (fun t ht hW => ⟨⟨I r 7, (), rfl, ⟨(by rw [hcd, if_neg (by omega)]), rfl⟩, by rw [ht]; exact hP, va_K.moved hW.alike hK, hD⟩, hS.F ht⟩) hS.2.2 dX3_about_57
      · refine lv_tableIn (tgt := 58) hx hb dX3_about_16 (by decide) (by decide) (off := 42) (by decide) (by decide) ?_
        refine lv_aload_n hx hb dX3_about_58 rfl (lv_at hl 0 rfl) ?_
        refine wR_get (v := .int (I r 14)) (C := RX1) (T := TX1) (N := 17) (ci := 1) hx hb hts hinX1 hown hK hP r (by omega) (sC_rd hrd) rfl 14 (by decide) (hts (.fieldLink RX3 134 "ChangeStream$Reader" "missed" "I") (by decide +kernel)) rfl rfl dX3_about_59 ?_
        refine vx_ret ?_
        refine W.widen (k := 2) (n := 12) (by decide) (by decide) ?_
        exact W.iret (v := I r 14) hx hb hr (fun t ht hW => ⟨⟨I r 14, (), rfl, ⟨(by rw [hcd, if_neg (by omega)]), rfl⟩, by rw [ht]; exact hP, va_K.moved hW.alike hK, hD⟩, hS.F ht⟩) hS.2.2 dX3_about_62
      · refine lv_tableIn (tgt := 63) hx hb dX3_about_16 (by decide) (by decide) (off := 47) (by decide) (by decide) ?_
        refine lv_aload_n hx hb dX3_about_63 rfl (lv_at hl 0 rfl) ?_
        refine wR_get (v := .int (I r 15)) (C := RX1) (T := TX1) (N := 17) (ci := 1) hx hb hts hinX1 hown hK hP r (by omega) (sC_rd hrd) rfl 15 (by decide) (hts (.fieldLink RX3 179 "ChangeStream$Reader" "failures" "I") (by decide +kernel)) rfl rfl dX3_about_64 ?_
        refine vx_ret ?_
        refine W.widen (k := 2) (n := 12) (by decide) (by decide) ?_
        exact W.iret (v := I r 15) hx hb hr (fun t ht hW => ⟨⟨I r 15, (), rfl, ⟨(by rw [hcd, if_neg (by omega)]), rfl⟩, by rw [ht]; exact hP, va_K.moved hW.alike hK, hD⟩, hS.F ht⟩) hS.2.2 dX3_about_67
      · refine lv_tableOut (tgt := 68) hx hb dX3_about_16 (by decide) (by decide) ?_
        refine lv_aload_n hx hb dX3_about_68 rfl (lv_at hl 0 rfl) ?_
        refine wR_get (v := .int (I r 16)) (C := RX1) (T := TX1) (N := 17) (ci := 1) hx hb hts hinX1 hown hK hP r (by omega) (sC_rd hrd) rfl 16 (by decide) (hts (.fieldLink RX3 182 "ChangeStream$Reader" "tookInAll" "I") (by decide +kernel)) rfl rfl dX3_about_69 ?_
        refine vx_ret ?_
        refine W.widen (k := 2) (n := 12) (by decide) (by decide) ?_
        exact W.iret (v := I r 16) hx hb hr (fun t ht hW => ⟨⟨I r 16, (), rfl, ⟨(by rw [hcd, if_neg (by omega)]), rfl⟩, by rw [ht]; exact hP, va_K.moved hW.alike hK, hD⟩, hS.F ht⟩) hS.2.2 dX3_about_72

set_option maxHeartbeats 4000000 in
set_option maxRecDepth 100000 in
/-- told(y) -/
theorem c_X3_told (l : Launch) (D : va_G) (cI cZ cR : ClassId) (ad : Nat → Nat) (na n : Nat) (I V : Nat → Nat → Int32) (sz : Nat) (hlt : l.stackTraces = false) (hn : n = 11 + 6 * na) (hna : I 0 3 = nI na) (hna6 : na ≤ 6) (k : Nat) (hk : I 1 4 = nI k) (hk1 : k ≤ 100) (q : Nat) (hq : I 1 5 = nI q) (TT lst rc : Nat) (hT : I 6 4 = nI TT) (hls : I 6 5 = nI lst) (hrc : I 6 6 = nI rc) (y : Int32) (v : Nat) (hv : v = y.toNatClampNeg) (cd : Nat) (hcd : cd = if ¬ (0 ≤ y.toInt ∧ y.toInt ≤ 5) then 1 else 0) : vx_Met l yX3_told wsX3_told ({ frames := 7, cells := 1, slots := 6, locals := 102 } : Room) (va_Pc [.ref (ad 0), .int y] (wPre D vwCl (sT cI cZ cR) (sW cI cZ cR ad na n I V) sz (eX (va_A (sW cI cZ cR ad na n I V) sz)))) (va_Qi (fun (r : Int32) (u : Unit) => cd = 0 ∧ r = tld k TT lst rc na q v) (wPost D vwCl (sT cI cZ cR) (fun (u : Unit) => sW cI cZ cR ad na n I V) (va_A (sW cI cZ cR ad na n I V) sz)) (va_A (sW cI cZ cR ad na n I V) sz)) (wXc D vwCl (sT cI cZ cR) (sW cI cZ cR ad na n I V) (va_A (sW cI cZ cR ad na n I V) sz) cd) 1 6 (va_A (sW cI cZ cR ad na n I V) sz) := by
  refine vx_ofW (cc := cX3_told) (maxL := 2) (ret := (some .int)) (by decide) rfl ?_
  intro p e s m args below meth c s₁ B hml htab hv
  obtain ⟨rfl, hsz, hP, hK, hD0, hE⟩ := hv
  have hx := B.exec
  have hb := B.bytes
  have hr := B.returns
  have hts := atoms_spec (ws := wsX3_told) B.pre
  have hown : s.vm.findClass RX3 = some m.cls := findClass_of_methodNamed B.named
  have hlocks := B.notSynchronized
  subst hsz
  have hD := hD0.self (sz := s.heap.size)
  generalize hAe : va_A (sW cI cZ cR ad na n I V) s.heap.size = A at hD hE ⊢
  have hA : ∀ q : Nat, s.heap.size ≤ q → A q := fun q h => by rw [← hAe]; exact Or.inr h
  have hS : va_S A s.heap s.heap [] := va_S.rf
  have hinX0 : ∀ w ∈ wsX00, w ∈ wsX3_told := by decide +kernel
  have hinX2 : ∀ w ∈ wsX20, w ∈ wsX3_told := by decide +kernel
  have hinX3 : ∀ w ∈ wsX30, w ∈ wsX3_told := by decide +kernel
  have hl := lv_entry ([.ref (ad 0), .int y]) (n := 2) (Nat.le_of_ble_eq_true rfl)
  rw [lg_entry_eq]
  generalize (lg_sl ([.ref (ad 0), .int y]) ++ List.replicate (2 - (lg_sl ([.ref (ad 0), .int y])).length) Slot.unset).toArray = ls at hl ⊢
  have hl : lv_has ls 2 [(0, .ref (ad 0)), (1, .int y)] := hl
  obtain ⟨eN1, eA, eS, ej1, ej2, ej3, ⟨s46, e46⟩, ⟨s62, e62⟩, ⟨s94, e94⟩, ⟨s122, e122⟩, ⟨s187, e187⟩, ⟨s190, e190⟩, eU, eV⟩ := id hE
  refine lv_iload_n hx hb dX3_told_0 rfl (lv_at hl 1 rfl) ?_
  refine lv_iconst (v := nI 0) hx hb dX3_told_1 (by decide) ?_
  refine lv_iconst (v := nI 5) hx hb dX3_told_2 (by decide) ?_
  refine w_calli (w := sW cI cZ cR ad na n I V) hS hA hK hD (va_runS (As := [.int y, .int (nI 0), .int (nI 5)]) (rest := []) ⟨hx, hb, hml, hown, hts⟩ (c_X3_isWithin l D (sT cI cZ cR) (sW cI cZ cR ad na n I V) wTrue s.heap.size y (nI 0) (nI 5)) (va_cwS 3 hts gX3_told_X3_isWithin rfl rfl rfl (by decide +kernel) ⟨Nat.le_of_ble_eq_true rfl, Nat.le_of_ble_eq_true rfl⟩) (w_pre hP hK hD wEnv_true) rfl rfl hl.1 rfl (lv_room (Nat.le_of_ble_eq_true rfl)) dX3_told_3 ⟨Nat.le_of_ble_eq_true rfl, Nat.le_of_ble_eq_true rfl⟩) (fun r_2 u H locs hw hP hD hS hz => ?_)
  have hw_1 : r_2 = wI y (0) (5) := by rw [hw, nI_toInt (n := 0) (by decide), nI_toInt (n := 5) (by decide)]; rfl
  refine w_callxv (w := sW cI cZ cR ad na n I V) hS hA hK hD (vx_runS (As := [.int r_2]) (rest := []) ⟨hx, hb, hml, hown, hts⟩ (c_X3_demand l D (sT cI cZ cR) (sW cI cZ cR ad na n I V) H.size hlt r_2 (if r_2 = 0 then 1 else 0) rfl) (va_cwS 1 hts gX3_told_X3_demand rfl rfl rfl (by decide +kernel) ⟨Nat.le_of_ble_eq_true rfl, Nat.le_of_ble_eq_true rfl⟩) (w_pre hP hK hD (eX_env hE hS (w_free hD hS hA))) rfl rfl hl.1 rfl (lv_room (Nat.le_of_ble_eq_true rfl)) dX3_told_6 ⟨Nat.le_of_ble_eq_true rfl, Nat.le_of_ble_eq_true rfl⟩) (fun E9 ce q9 H locs hxc hP hS hce hcv hcl => ?_) (fun u H locs hw hP hD hS hz => ?_)
  · obtain ⟨hE1, hb0⟩ := xC_1 hxc
    have hq_3 := wI_out hw_1 hb0
    exact w_out htab hlocks hce hcv hcl hP hK hD hS (Or.inl ⟨hE1, (by rw [hcd, if_pos (by omega)])⟩) (by decide) (by decide)
  · have hq_3 := wI_in hw_1 hw.2
    obtain ⟨hyj, hyi⟩ := nx_nn (x := y) (by omega)
    rw [← hv] at hyj hyi
    rw [hyj] at hl
    refine lv_iload_n hx hb dX3_told_9 rfl (lv_at hl 1 rfl) ?_
    rcases (show v = 0 ∨ v = 1 ∨ v = 2 ∨ v = 3 ∨ v = 4 ∨ v = 5 by omega) with rfl | rfl | rfl | rfl | rfl | rfl
    · refine lv_tableIn (tgt := 44) hx hb dX3_told_10 (by decide) (by decide) (off := 34) (by decide) (by decide) ?_
      refine lv_aload_n hx hb dX3_told_44 rfl (lv_at hl 0 rfl) ?_
      refine wR_get (v := .ref (ad 1)) (C := RX3) (T := TX3) (N := 4) (ci := 3) hx hb hts hinX3 hown hK hP 0 (by omega) rfl rfl 0 (by decide) (hts (.fieldLink RX3 10 "ChangeStream" "store" "LChangeStream$Store;") (by decide +kernel)) rfl rfl dX3_told_45 ?_
      refine wR_get (v := .int (nI k)) (C := RX2) (T := TX2) (N := 6) (ci := 2) hx hb hts hinX2 hown hK hP 1 (by omega) rfl rfl 4 (by decide) (hts (.fieldLink RX3 41 "ChangeStream$Store" "factCount" "I") (by decide +kernel)) rfl (congrArg (fun z => some (Value.int z)) hk) dX3_told_48 ?_
      refine vx_ret ?_
      refine W.widen (k := 1) (n := 6) (by decide) (by decide) ?_
      exact W.iret (v := nI k) hx hb hr (fun t ht hW => ⟨⟨nI k, (), rfl, ⟨(by rw [hcd, if_neg (by omega)]), rfl⟩, by rw [ht]; exact hP, va_K.moved hW.alike hK, hD⟩, hS.F ht⟩) hS.2.2 dX3_told_51
    · refine lv_tableIn (tgt := 52) hx hb dX3_told_10 (by decide) (by decide) (off := 42) (by decide) (by decide) ?_
      refine lv_aload_n hx hb dX3_told_52 rfl (lv_at hl 0 rfl) ?_
      refine wR_get (v := .ref (ad 6)) (C := RX3) (T := TX3) (N := 4) (ci := 3) hx hb hts hinX3 hown hK hP 0 (by omega) rfl rfl 1 (by decide) (hts (.fieldLink RX3 19 "ChangeStream" "log" "LChangeStream$Log;") (by decide +kernel)) rfl rfl dX3_told_53 ?_
      refine wR_get (v := .int (nI TT)) (C := RX0) (T := TX0) (N := 8) (ci := 0) hx hb hts hinX0 hown hK hP 6 (by omega) rfl rfl 4 (by decide) (hts (.fieldLink RX3 77 "ChangeStream$Log" "transactions" "I") (by decide +kernel)) rfl (congrArg (fun z => some (Value.int z)) hT) dX3_told_56 ?_
      refine vx_ret ?_
      refine W.widen (k := 1) (n := 6) (by decide) (by decide) ?_
      exact W.iret (v := nI TT) hx hb hr (fun t ht hW => ⟨⟨nI TT, (), rfl, ⟨(by rw [hcd, if_neg (by omega)]), rfl⟩, by rw [ht]; exact hP, va_K.moved hW.alike hK, hD⟩, hS.F ht⟩) hS.2.2 dX3_told_59
    · refine lv_tableIn (tgt := 60) hx hb dX3_told_10 (by decide) (by decide) (off := 50) (by decide) (by decide) ?_
      refine lv_aload_n hx hb dX3_told_60 rfl (lv_at hl 0 rfl) ?_
      refine wR_get (v := .ref (ad 6)) (C := RX3) (T := TX3) (N := 4) (ci := 3) hx hb hts hinX3 hown hK hP 0 (by omega) rfl rfl 1 (by decide) (hts (.fieldLink RX3 19 "ChangeStream" "log" "LChangeStream$Log;") (by decide +kernel)) rfl rfl dX3_told_61 ?_
      refine wR_get (v := .int (nI lst)) (C := RX0) (T := TX0) (N := 8) (ci := 0) hx hb hts hinX0 hown hK hP 6 (by omega) rfl rfl 5 (by decide) (hts (.fieldLink RX3 131 "ChangeStream$Log" "least" "I") (by decide +kernel)) rfl (congrArg (fun z => some (Value.int z)) hls) dX3_told_64 ?_
      refine vx_ret ?_
      refine W.widen (k := 1) (n := 6) (by decide) (by decide) ?_
      exact W.iret (v := nI lst) hx hb hr (fun t ht hW => ⟨⟨nI lst, (), rfl, ⟨(by rw [hcd, if_neg (by omega)]), rfl⟩, by rw [ht]; exact hP, va_K.moved hW.alike hK, hD⟩, hS.F ht⟩) hS.2.2 dX3_told_67
    · refine lv_tableIn (tgt := 68) hx hb dX3_told_10 (by decide) (by decide) (off := 58) (by decide) (by decide) ?_
      refine lv_aload_n hx hb dX3_told_68 rfl (lv_at hl 0 rfl) ?_
      refine wR_get (v := .ref (ad 6)) (C := RX3) (T := TX3) (N := 4) (ci := 3) hx hb hts hinX3 hown hK hP 0 (by omega) rfl rfl 1 (by decide) (hts (.fieldLink RX3 19 "ChangeStream" "log" "LChangeStream$Log;") (by decide +kernel)) rfl rfl dX3_told_69 ?_
      refine wR_get (v := .int (nI rc)) (C := RX0) (T := TX0) (N := 8) (ci := 0) hx hb hts hinX0 hown hK hP 6 (by omega) rfl rfl 6 (by decide) (hts (.fieldLink RX3 143 "ChangeStream$Log" "rowCount" "I") (by decide +kernel)) rfl (congrArg (fun z => some (Value.int z)) hrc) dX3_told_72 ?_
      refine vx_ret ?_
      refine W.widen (k := 1) (n := 6) (by decide) (by decide) ?_
      exact W.iret (v := nI rc) hx hb hr (fun t ht hW => ⟨⟨nI rc, (), rfl, ⟨(by rw [hcd, if_neg (by omega)]), rfl⟩, by rw [ht]; exact hP, va_K.moved hW.alike hK, hD⟩, hS.F ht⟩) hS.2.2 dX3_told_75
    · refine lv_tableIn (tgt := 76) hx hb dX3_told_10 (by decide) (by decide) (off := 66) (by decide) (by decide) ?_
      refine lv_aload_n hx hb dX3_told_76 rfl (lv_at hl 0 rfl) ?_
      refine wR_get (v := .int (nI na)) (C := RX3) (T := TX3) (N := 4) (ci := 3) hx hb hts hinX3 hown hK hP 0 (by omega) rfl rfl 3 (by decide) (hts (.fieldLink RX3 29 "ChangeStream" "readerCount" "I") (by decide +kernel)) rfl (congrArg (fun z => some (Value.int z)) hna) dX3_told_77 ?_
      refine vx_ret ?_
      refine W.widen (k := 1) (n := 6) (by decide) (by decide) ?_
      exact W.iret (v := nI na) hx hb hr (fun t ht hW => ⟨⟨nI na, (), rfl, ⟨(by rw [hcd, if_neg (by omega)]), rfl⟩, by rw [ht]; exact hP, va_K.moved hW.alike hK, hD⟩, hS.F ht⟩) hS.2.2 dX3_told_80
    · refine lv_tableOut (tgt := 81) hx hb dX3_told_10 (by decide) (by decide) ?_
      refine lv_aload_n hx hb dX3_told_81 rfl (lv_at hl 0 rfl) ?_
      refine wR_get (v := .ref (ad 1)) (C := RX3) (T := TX3) (N := 4) (ci := 3) hx hb hts hinX3 hown hK hP 0 (by omega) rfl rfl 0 (by decide) (hts (.fieldLink RX3 10 "ChangeStream" "store" "LChangeStream$Store;") (by decide +kernel)) rfl rfl dX3_told_82 ?_
      refine wR_get (v := .int (nI q)) (C := RX2) (T := TX2) (N := 6) (ci := 2) hx hb hts hinX2 hown hK hP 1 (by omega) rfl rfl 5 (by decide) (hts (.fieldLink RX3 59 "ChangeStream$Store" "changeCount" "I") (by decide +kernel)) rfl (congrArg (fun z => some (Value.int z)) hq) dX3_told_85 ?_
      refine vx_ret ?_
      refine W.widen (k := 1) (n := 6) (by decide) (by decide) ?_
      exact W.iret (v := nI q) hx hb hr (fun t ht hW => ⟨⟨nI q, (), rfl, ⟨(by rw [hcd, if_neg (by omega)]), rfl⟩, by rw [ht]; exact hP, va_K.moved hW.alike hK, hD⟩, hS.F ht⟩) hS.2.2 dX3_told_88
