set_option maxHeartbeats 4000000 in
set_option maxRecDepth 100000 in
theorem cs_throttle {p : Program} {l : Launch} {e : Env} {s : State} {m : MethodId} {below : List Frame} {meth : Method} {c : Code} {b L : Nat} {xs : Nat → Int32} {Q : State → Prop} (hlt : l.stackTraces = false) (C0 : lwC p s m c b L xs) (D : va_G) (cI cZ cR cJ : ClassId) (hE : eL (fun q : Nat => s.heap.size ≤ q) s) (hK : va_K D vwCl (lT cI cZ cR cJ) s) (ao : Nat) (md : Nat → Nat) (i : Nat) (hi : i + 4 ≤ L) (hL : L ≤ 2048) (cn : Nat) (hcn : cn < 512) (na n : Nat) (hn : n = 11 + 6 * na) (ad : Nat → Nat) (I V J U : Nat → Nat → Int32) (f : Nat → Int64) (hrel : rel cn na I V J U) (cells slots : Nat) (hce : cells + 10 ≤ 601024) (hsl : slots + 201 ≤ 7293034) (H : Heap) (locs : List Loc) (ls : Array Slot) (hP : va_P D vwCl (lW cI cZ cR cJ ao f ad na n I V md J U) H) (hD : va_D (fun q : Nat => s.heap.size ≤ q) (lW cI cZ cR cJ ao f ad na n I V md J U)) (hS : va_S (fun q : Nat => s.heap.size ≤ q) s.heap H locs) (hl : lv_has ls 7 [(0, .ref b), (1, .ref (ad 0)), (2, .ref (md 0)), (3, .ref ao), (4, .int (nI i))]) (kk : ∀ (na' n' : Nat) (ad' : Nat → Nat) (I' V' J' U' : Nat → Nat → Int32) (f' : Nat → Int64) (H : Heap) (locs : List Loc) (ls : Array Slot), n' = 11 + 6 * na' → rel (cn + 1) na' I' V' J' U' → va_P D vwCl (lW cI cZ cR cJ ao f' ad' na' n' I' V' md J' U') H → va_D (fun q : Nat => s.heap.size ≤ q) (lW cI cZ cR cJ ao f' ad' na' n' I' V' md J' U') → va_S (fun q : Nat => s.heap.size ≤ q) s.heap H locs → lv_has ls 7 [(0, .ref b), (1, .ref (ad' 0)), (2, .ref (md 0)), (3, .ref ao), (4, .int (nI i))] → W p l e room_1 s m #[Value.ref b] below meth c H locs (cells + 10) (slots + 201) Q (F0 m 1069 ls [])) : W p l e room_1 s m #[Value.ref b] below meth c H locs cells slots Q (F0 m 553 ls []) := by
  obtain ⟨hx, hb, hml, hown, hts, hX, hbl⟩ := C0
  have hA : ∀ q : Nat, s.heap.size ≤ q → (fun q : Nat => s.heap.size ≤ q) q := fun _ h => h
  have hbA : ¬ (fun q : Nat => s.heap.size ≤ q) b := Nat.not_le.mpr hbl
  obtain ⟨hna, hna6⟩ := rel_na hrel
  have hKs : va_K D vwCl (sT cI cZ cR) s := hK.sub [0, 1, 2] rfl
  have hKm : va_K D vwCl (mT cI cZ) s := hK.sub [0, 1] rfl
  obtain ⟨⟨e1, e2, e3⟩, hst⟩ := st_throttle hrel (xs (i + 1)) (xs (i + 2)) _ rfl
  obtain ⟨cd, hcd⟩ : ∃ cd : Nat, cd = if ¬ (0 ≤ (xs (i + 1)).toInt ∧ (xs (i + 1)).toInt ≤ ((na : Nat) : Int) - 1) ∨ ¬ (1 ≤ (xs (i + 2)).toInt ∧ (xs (i + 2)).toInt ≤ 20) then 1 else 0 := ⟨_, rfl⟩
  have hcd9 : cd ≤ 2 := by rw [hcd]; split <;> first | decide | (split <;> decide)
  have hcd2 : ¬ cd = 2 := by rw [hcd]; split <;> decide
  obtain ⟨hab, hst⟩ := hst cd hcd
  refine lv_aload_n hx hb dL_law_553 rfl (lv_at hl 1 rfl) ?_
  refine lv_aload_n hx hb dL_law_554 rfl (lv_at hl 0 rfl) ?_
  refine lv_iload hx hb dL_law_555 (lv_at hl 4 rfl) ?_
  refine lv_iconst (v := nI 1) hx hb dL_law_557 (by decide) ?_
  refine lv_iadd hx hb dL_law_558 ?_
  rw [nI_add]
  refine w_sld hx hb hX hbl hbA hS (k := i + 1) (by omega) hL dL_law_559 ?_
  refine lv_aload_n hx hb dL_law_560 rfl (lv_at hl 0 rfl) ?_
  refine lv_iload hx hb dL_law_561 (lv_at hl 4 rfl) ?_
  refine lv_iconst (v := nI 2) hx hb dL_law_563 (by decide) ?_
  refine lv_iadd hx hb dL_law_564 ?_
  rw [nI_add]
  refine w_sld hx hb hX hbl hbA hS (k := i + 2) (by omega) hL dL_law_565 ?_
  refine lv_aload_n hx hb dL_law_566 rfl (lv_at hl 3 rfl) ?_
  have hP3 : va_P D vwCl ([] ++ ((hW cJ ao f (sW cI cZ cR ad na n I V)) ++ (mW cI cZ md J U))) H := hP
  have hD3 : va_D (fun q : Nat => s.heap.size ≤ q) ([] ++ ((hW cJ ao f (sW cI cZ cR ad na n I V)) ++ (mW cI cZ md J U))) := hD
  refine w_calliX (X := []) (w := (hW cJ ao f (sW cI cZ cR ad na n I V))) (Y := (mW cI cZ md J U)) hS hA hP3 hD3 (vx_runSW (As := [.ref (ad 0), .int (xs (i + 1)), .int (xs (i + 2)), .ref ao]) (rest := []) ⟨hx, hb, hml, hown, hts⟩ (h_L_throttle l D cI cZ cR cJ ao (ad 0) f (sW cI cZ cR ad na n I V) _ (wR_at (r := 0) (by omega) rfl) _ _ cd H.size (xs (i + 1)) (xs (i + 2)) hcd2 (fun sz => c_X3_throttle l D cI cZ cR ad na n I V sz hlt hn hna hna6 _ _ rfl _ cd hcd)) (vx_cwSW 4 hts gL_law_L_throttle rfl rfl rfl (by decide +kernel) ⟨Nat.le_of_ble_eq_true rfl, Nat.le_of_ble_eq_true rfl⟩) (w_pre (w_midP hP3) hK (w_midD hD3) (eL_env hE hS (w_free (w_midD hD3) hS hA))) rfl rfl hl.1 rfl (lv_room (Nat.le_of_ble_eq_true rfl)) dL_law_567 ⟨(by show cells + 2 ≤ 601024; omega), (by show slots + 12 ≤ 7293034; omega)⟩) (fun kr u H locs hw hP hD hS => ?_)
  obtain ⟨f', w'⟩ := u
  obtain ⟨hkr, hans, hw2⟩ := hQ_fix hw
  subst hkr
  have hw2 : w' = _ := hw2
  subst hw2
  have hans : cd = 0 → f' 0 = _ := hans
  have hP : va_P D vwCl (lW cI cZ cR cJ ao f' ad na n _ _ md J U) H := hP
  have hD : va_D (fun q : Nat => s.heap.size ≤ q) (lW cI cZ cR cJ ao f' ad na n _ _ md J U) := hD
  refine lv_istore (lv' := [(5, .int (nI cd)), (0, .ref b), (1, .ref (ad 0)), (2, .ref (md 0)), (3, .ref ao), (4, .int (nI i))]) hx hb dL_law_570 hl (by decide) rfl (fun ls hl => ?_)
  refine lv_aload_n hx hb dL_law_572 rfl (lv_at hl 3 rfl) ?_
  refine lv_aload_n hx hb dL_law_573 rfl (lv_at hl 1 rfl) ?_
  refine lv_iload hx hb dL_law_574 (lv_at hl 5 rfl) ?_
  refine lv_iconst (v := nI 1) hx hb dL_law_576 (by decide) ?_
  refine lv_iadd hx hb dL_law_577 ?_
  rw [nI_add]
  refine w_sld hx hb hX hbl hbA hS (k := i + 1) (by omega) hL dL_law_578 ?_
  refine lv_aload_n hx hb dL_law_579 rfl (lv_at hl 1 rfl) ?_
  refine lv_iload hx hb dL_law_580 (lv_at hl 5 rfl) ?_
  refine lv_iconst (v := nI 2) hx hb dL_law_582 (by decide) ?_
  refine lv_iadd hx hb dL_law_583 ?_
  rw [nI_add]
  refine w_sld hx hb hX hbl hbA hS (k := i + 2) (by omega) hL dL_law_584 ?_
  have hP3 := w_addP (X := hW cJ ao f' (sW cI cZ cR ad na n _ _)) (w := mW cI cZ md _ _) hP
  have hD3 := w_addD (X := hW cJ ao f' (sW cI cZ cR ad na n _ _)) (w := mW cI cZ md _ _) hD
  refine w_calliX (Y := []) hS hA hP3 hD3 (va_runV (As := [.int (xs (i + 1)), .int (xs (i + 2))]) (rest := []) ⟨hx, hb, hml, hown, hts⟩ (c_X4_throttle l D cI cZ md J U H.size na e2 e3 _ _ rfl _ cd hcd) (cwV 2 hts gL_law_X4_throttle rfl rfl rfl (by decide +kernel) ⟨Nat.le_of_ble_eq_true rfl, Nat.le_of_ble_eq_true rfl⟩) ⟨(w_pre (w_midP hP3) hKm (w_midD hD3) wEnv_true).1, wR_recv (C := RX4) (T := TX4) (N := 18) hKm (w_midP hP3) (ci := 4) rfl 0 (by decide) rfl, (w_pre (w_midP hP3) hKm (w_midD hD3) wEnv_true).2⟩ rfl rfl hl.1 rfl (lv_room (Nat.le_of_ble_eq_true rfl)) dL_law_585 ⟨(by show (cells + 2) + 0 ≤ 601024; omega), (by show (slots + 12) + 0 ≤ 7293034; omega)⟩) (fun br u H locs hm9 hP hD hS => ?_)
  rw [List.append_nil] at hP hD
  refine lv_istore (lv' := [(6, .int br), (5, .int (nI cd)), (0, .ref b), (1, .ref (ad 0)), (2, .ref (md 0)), (3, .ref ao), (4, .int (nI i))]) hx hb dL_law_588 hl (by decide) rfl (fun ls hl => ?_)
  refine lv_aload_n hx hb dL_law_590 rfl (lv_at hl 4 rfl) ?_
  have hP3 := w_addP (X := hW cJ ao f' (sW cI cZ cR ad na n _ _)) (w := mW cI cZ md _ _) hP
  have hD3 := w_addD (X := hW cJ ao f' (sW cI cZ cR ad na n _ _)) (w := mW cI cZ md _ _) hD
  refine w_calliX (Y := []) hS hA hP3 hD3 (va_runV (As := []) (rest := []) ⟨hx, hb, hml, hown, hts⟩ (c_X4_thrown l D cI cZ md _ _ H.size) (cwV 0 hts gL_law_X4_thrown rfl rfl rfl (by decide +kernel) ⟨Nat.le_of_ble_eq_true rfl, Nat.le_of_ble_eq_true rfl⟩) ⟨(w_pre (w_midP hP3) hKm (w_midD hD3) wEnv_true).1, wR_recv (C := RX4) (T := TX4) (N := 18) hKm (w_midP hP3) (ci := 4) rfl 0 (by decide) rfl, (w_pre (w_midP hP3) hKm (w_midD hD3) wEnv_true).2⟩ rfl rfl hl.1 rfl (lv_room (Nat.le_of_ble_eq_true rfl)) dL_law_591 ⟨(by show (cells + 2 + 0) + 0 ≤ 601024; omega), (by show (slots + 12 + 0) + 0 ≤ 7293034; omega)⟩) (fun tr9 u H locs ht9 hP hD hS => ?_)
  rw [List.append_nil] at hP hD
  have ht9 : tr9 = nI cd := ht9.trans (rfl)
  refine lv_iload hx hb dL_law_594 (lv_at hl 1 rfl) ?_
  refine lv_icmp_eq (tgt := 601) hx hb dL_law_596 (by decide) (fun _ => ?_) (fun c9 => absurd ht9 c9)
  refine lv_iload hx hb dL_law_601 (lv_at hl 1 rfl) ?_
  refine lv_if_ne (tgt := 618) hx hb dL_law_603 (by decide) (fun _ => ?_) (fun c9 => ?_)
  · refine lv_goto (tgt := 1069) hx hb dL_law_618 (by decide) ?_
    refine W.widen (k := cells + 10) (n := slots + 201) (by omega) (by omega) ?_
    exact kk na n ad _ _ _ _ f' H locs ls hn hst hP hD hS (lv_sub hl [2, 3, 4, 5, 6] rfl)
  · have hc9 : cd = 0 := cd_z0 c9 hcd9
    have hfb : f' 0 = br.toInt64 := (hans hc9).trans (congrArg Int32.toInt64 ((hab hc9).trans (hm9 hc9).symm))
    refine lv_aload_n hx hb dL_law_606 rfl (lv_at hl 5 rfl) ?_
    refine lv_iconst (v := nI 0) hx hb dL_law_607 (by decide) ?_
    refine va_lald hx hb hK hP 0 3 rfl rfl (vp_in_nI (by decide) (by decide)) dL_law_608 ?_
    rw [nI_clamp (show 0 < 2 ^ 31 by decide), hfb]
    refine lv_iload hx hb dL_law_609 (lv_at hl 0 rfl) ?_
    refine lv_i2l (v := br.toInt64) hx hb dL_law_611 rfl ?_
    refine W.lcmp hx hb dL_law_612 ?_
    refine lv_if_eq (tgt := 618) hx hb dL_law_613 (by decide) (fun _ => ?_) (fun c8 => absurd (lg_same _) c8)
    refine lv_goto (tgt := 1069) hx hb dL_law_618 (by decide) ?_
    refine W.widen (k := cells + 10) (n := slots + 201) (by omega) (by omega) ?_
    exact kk na n ad _ _ _ _ f' H locs ls hn hst hP hD hS (lv_sub hl [2, 3, 4, 5, 6] rfl)

set_option maxHeartbeats 4000000 in
set_option maxRecDepth 100000 in
theorem cs_right {p : Program} {l : Launch} {e : Env} {s : State} {m : MethodId} {below : List Frame} {meth : Method} {c : Code} {b L : Nat} {xs : Nat → Int32} {Q : State → Prop} (hlt : l.stackTraces = false) (C0 : lwC p s m c b L xs) (D : va_G) (cI cZ cR cJ : ClassId) (hE : eL (fun q : Nat => s.heap.size ≤ q) s) (hK : va_K D vwCl (lT cI cZ cR cJ) s) (ao : Nat) (md : Nat → Nat) (i : Nat) (hi : i + 4 ≤ L) (hL : L ≤ 2048) (cn : Nat) (hcn : cn < 512) (na n : Nat) (hn : n = 11 + 6 * na) (ad : Nat → Nat) (I V J U : Nat → Nat → Int32) (f : Nat → Int64) (hrel : rel cn na I V J U) (cells slots : Nat) (hce : cells + 10 ≤ 601024) (hsl : slots + 201 ≤ 7293034) (H : Heap) (locs : List Loc) (ls : Array Slot) (hP : va_P D vwCl (lW cI cZ cR cJ ao f ad na n I V md J U) H) (hD : va_D (fun q : Nat => s.heap.size ≤ q) (lW cI cZ cR cJ ao f ad na n I V md J U)) (hS : va_S (fun q : Nat => s.heap.size ≤ q) s.heap H locs) (hl : lv_has ls 7 [(0, .ref b), (1, .ref (ad 0)), (2, .ref (md 0)), (3, .ref ao), (4, .int (nI i))]) (kk : ∀ (na' n' : Nat) (ad' : Nat → Nat) (I' V' J' U' : Nat → Nat → Int32) (f' : Nat → Int64) (H : Heap) (locs : List Loc) (ls : Array Slot), n' = 11 + 6 * na' → rel (cn + 1) na' I' V' J' U' → va_P D vwCl (lW cI cZ cR cJ ao f' ad' na' n' I' V' md J' U') H → va_D (fun q : Nat => s.heap.size ≤ q) (lW cI cZ cR cJ ao f' ad' na' n' I' V' md J' U') → va_S (fun q : Nat => s.heap.size ≤ q) s.heap H locs → lv_has ls 7 [(0, .ref b), (1, .ref (ad' 0)), (2, .ref (md 0)), (3, .ref ao), (4, .int (nI i))] → W p l e room_1 s m #[Value.ref b] below meth c H locs (cells + 10) (slots + 201) Q (F0 m 1069 ls [])) : W p l e room_1 s m #[Value.ref b] below meth c H locs cells slots Q (F0 m 621 ls []) := by
  obtain ⟨hx, hb, hml, hown, hts, hX, hbl⟩ := C0
  have hA : ∀ q : Nat, s.heap.size ≤ q → (fun q : Nat => s.heap.size ≤ q) q := fun _ h => h
  have hbA : ¬ (fun q : Nat => s.heap.size ≤ q) b := Nat.not_le.mpr hbl
  obtain ⟨hna, hna6⟩ := rel_na hrel
  have hKs : va_K D vwCl (sT cI cZ cR) s := hK.sub [0, 1, 2] rfl
  have hKm : va_K D vwCl (mT cI cZ) s := hK.sub [0, 1] rfl
  obtain ⟨k, kp, T, lst, rc, fk, rg, ⟨e1, e2, e3⟩, ⟨⟨g1, g2, g3, g4, g5⟩, ⟨g6, g7, g8, g9, g10⟩, g11, g12, g13, g14, g15, g16, g17⟩, e4, e5, hst⟩ := st_right hrel (by omega) (xs (i + 1)) (xs (i + 2)) (if xs (i + 3) = 0 then nI 0 else nI 1) (w_b01 _) _ _ rfl rfl
  obtain ⟨cd, hcd⟩ : ∃ cd : Nat, cd = if ¬ (0 ≤ (xs (i + 1)).toInt ∧ (xs (i + 1)).toInt ≤ ((na : Nat) : Int) - 1) ∨ ¬ (0 ≤ (xs (i + 2)).toInt ∧ (xs (i + 2)).toInt ≤ ((k : Nat) : Int) - 1) then 1 else if rg = 40 then 2 else 0 := ⟨_, rfl⟩
  have hcd9 : cd ≤ 2 := by rw [hcd]; split <;> first | decide | (split <;> decide)
  have hst := hst cd hcd
  refine lv_aload_n hx hb dL_law_621 rfl (lv_at hl 1 rfl) ?_
  refine lv_aload_n hx hb dL_law_622 rfl (lv_at hl 0 rfl) ?_
  refine lv_iload hx hb dL_law_623 (lv_at hl 4 rfl) ?_
  refine lv_iconst (v := nI 1) hx hb dL_law_625 (by decide) ?_
  refine lv_iadd hx hb dL_law_626 ?_
  rw [nI_add]
  refine w_sld hx hb hX hbl hbA hS (k := i + 1) (by omega) hL dL_law_627 ?_
  refine lv_aload_n hx hb dL_law_628 rfl (lv_at hl 0 rfl) ?_
  refine lv_iload hx hb dL_law_629 (lv_at hl 4 rfl) ?_
  refine lv_iconst (v := nI 2) hx hb dL_law_631 (by decide) ?_
  refine lv_iadd hx hb dL_law_632 ?_
  rw [nI_add]
  refine w_sld hx hb hX hbl hbA hS (k := i + 2) (by omega) hL dL_law_633 ?_
  refine lv_aload_n hx hb dL_law_634 rfl (lv_at hl 0 rfl) ?_
  refine lv_iload hx hb dL_law_635 (lv_at hl 4 rfl) ?_
  refine lv_iconst (v := nI 3) hx hb dL_law_637 (by decide) ?_
  refine lv_iadd hx hb dL_law_638 ?_
  rw [nI_add]
  refine w_sld hx hb hX hbl hbA hS (k := i + 3) (by omega) hL dL_law_639 ?_
  refine w_bool hx hb dL_law_640 dL_law_643 dL_law_644 dL_law_647 ?_
  have hP3 : va_P D vwCl ([(ao, .inl (cJ, 1, .inr (.inl f)))] ++ ((sW cI cZ cR ad na n I V) ++ (mW cI cZ md J U))) H := hP
  have hD3 : va_D (fun q : Nat => s.heap.size ≤ q) ([(ao, .inl (cJ, 1, .inr (.inl f)))] ++ ((sW cI cZ cR ad na n I V) ++ (mW cI cZ md J U))) := hD
  refine w_calliX (X := [(ao, .inl (cJ, 1, .inr (.inl f)))]) (w := (sW cI cZ cR ad na n I V)) (Y := (mW cI cZ md J U)) hS hA hP3 hD3 (vx_runSW (As := [.ref (ad 0), .int (xs (i + 1)), .int (xs (i + 2)), .int (if xs (i + 3) = 0 then nI 0 else nI 1)]) (rest := []) ⟨hx, hb, hml, hown, hts⟩ (h_L_right l D cI cZ cR (ad 0) (sW cI cZ cR ad na n I V) _ (wR_at (r := 0) (by omega) rfl) _ _ cd H.size (xs (i + 1)) (xs (i + 2)) (if xs (i + 3) = 0 then nI 0 else nI 1) (fun sz => c_X3_right l D cI cZ cR ad na n I V sz hlt hn hna hna6 _ _ rfl k e1 e3 T g2 rg e4 _ _ (w_b01 _) _ rfl cd hcd)) (vx_cwSW 4 hts gL_law_L_right rfl rfl rfl (by decide +kernel) ⟨Nat.le_of_ble_eq_true rfl, Nat.le_of_ble_eq_true rfl⟩) (w_pre (w_midP hP3) hKs (w_midD hD3) (eL_env hE hS (w_free (w_midD hD3) hS hA))) rfl rfl hl.1 rfl (lv_room (Nat.le_of_ble_eq_true rfl)) dL_law_648 ⟨(by show cells + 3 ≤ 601024; omega), (by show slots + 18 ≤ 7293034; omega)⟩) (fun kr u H locs hw hP hD hS => ?_)
  obtain ⟨hkr, hw2⟩ := hV_fix hw
  subst hkr
  subst hw2
  have hP : va_P D vwCl (lW cI cZ cR cJ ao f ad na n _ _ md J U) H := hP
  have hD : va_D (fun q : Nat => s.heap.size ≤ q) (lW cI cZ cR cJ ao f ad na n _ _ md J U) := hD
  refine lv_istore (lv' := [(5, .int (nI cd)), (0, .ref b), (1, .ref (ad 0)), (2, .ref (md 0)), (3, .ref ao), (4, .int (nI i))]) hx hb dL_law_651 hl (by decide) rfl (fun ls hl => ?_)
  refine lv_aload_n hx hb dL_law_653 rfl (lv_at hl 3 rfl) ?_
  refine lv_aload_n hx hb dL_law_654 rfl (lv_at hl 1 rfl) ?_
  refine lv_iload hx hb dL_law_655 (lv_at hl 5 rfl) ?_
  refine lv_iconst (v := nI 1) hx hb dL_law_657 (by decide) ?_
  refine lv_iadd hx hb dL_law_658 ?_
  rw [nI_add]
  refine w_sld hx hb hX hbl hbA hS (k := i + 1) (by omega) hL dL_law_659 ?_
  refine lv_aload_n hx hb dL_law_660 rfl (lv_at hl 1 rfl) ?_
  refine lv_iload hx hb dL_law_661 (lv_at hl 5 rfl) ?_
  refine lv_iconst (v := nI 2) hx hb dL_law_663 (by decide) ?_
  refine lv_iadd hx hb dL_law_664 ?_
  rw [nI_add]
  refine w_sld hx hb hX hbl hbA hS (k := i + 2) (by omega) hL dL_law_665 ?_
  refine lv_aload_n hx hb dL_law_666 rfl (lv_at hl 1 rfl) ?_
  refine lv_iload hx hb dL_law_667 (lv_at hl 5 rfl) ?_
  refine lv_iconst (v := nI 3) hx hb dL_law_669 (by decide) ?_
  refine lv_iadd hx hb dL_law_670 ?_
  rw [nI_add]
  refine w_sld hx hb hX hbl hbA hS (k := i + 3) (by omega) hL dL_law_671 ?_
  refine w_bool hx hb dL_law_672 dL_law_675 dL_law_676 dL_law_679 ?_
  have hP3 := w_addP (X := hW cJ ao f (sW cI cZ cR ad na n _ _)) (w := mW cI cZ md _ _) hP
  have hD3 := w_addD (X := hW cJ ao f (sW cI cZ cR ad na n _ _)) (w := mW cI cZ md _ _) hD
  refine w_callvX (Y := []) hS hA hP3 hD3 (va_runV (As := [.int (xs (i + 1)), .int (xs (i + 2)), .int (if xs (i + 3) = 0 then nI 0 else nI 1)]) (rest := []) ⟨hx, hb, hml, hown, hts⟩ (c_X4_right l D cI cZ md J U H.size k e2 e3 T lst rc kp na g6 g7 g8 g9 g10 g12 g14 g13 g15 g16 g17 _ _ rfl rg e5 _ _ (w_b01 _) _ rfl cd hcd) (cwV 3 hts gL_law_X4_right rfl rfl rfl (by decide +kernel) ⟨Nat.le_of_ble_eq_true rfl, Nat.le_of_ble_eq_true rfl⟩) ⟨(w_pre (w_midP hP3) hKm (w_midD hD3) wEnv_true).1, wR_recv (C := RX4) (T := TX4) (N := 18) hKm (w_midP hP3) (ci := 4) rfl 0 (by decide) rfl, (w_pre (w_midP hP3) hKm (w_midD hD3) wEnv_true).2⟩ rfl rfl hl.1 rfl (lv_room (Nat.le_of_ble_eq_true rfl)) dL_law_680 ⟨(by show (cells + 3) + 0 ≤ 601024; omega), (by show (slots + 18) + 0 ≤ 7293034; omega)⟩) (fun u H locs hm9 hP hD hS => ?_)
  rw [List.append_nil] at hP hD
  refine lv_aload_n hx hb dL_law_683 rfl (lv_at hl 3 rfl) ?_
  have hP3 := w_addP (X := hW cJ ao f (sW cI cZ cR ad na n _ _)) (w := mW cI cZ md _ _) hP
  have hD3 := w_addD (X := hW cJ ao f (sW cI cZ cR ad na n _ _)) (w := mW cI cZ md _ _) hD
  refine w_calliX (Y := []) hS hA hP3 hD3 (va_runV (As := []) (rest := []) ⟨hx, hb, hml, hown, hts⟩ (c_X4_thrown l D cI cZ md _ _ H.size) (cwV 0 hts gL_law_X4_thrown rfl rfl rfl (by decide +kernel) ⟨Nat.le_of_ble_eq_true rfl, Nat.le_of_ble_eq_true rfl⟩) ⟨(w_pre (w_midP hP3) hKm (w_midD hD3) wEnv_true).1, wR_recv (C := RX4) (T := TX4) (N := 18) hKm (w_midP hP3) (ci := 4) rfl 0 (by decide) rfl, (w_pre (w_midP hP3) hKm (w_midD hD3) wEnv_true).2⟩ rfl rfl hl.1 rfl (lv_room (Nat.le_of_ble_eq_true rfl)) dL_law_684 ⟨(by show (cells + 3 + 0) + 0 ≤ 601024; omega), (by show (slots + 18 + 0) + 0 ≤ 7293034; omega)⟩) (fun tr9 u H locs ht9 hP hD hS => ?_)
  rw [List.append_nil] at hP hD
  have ht9 : tr9 = nI cd := ht9.trans (rfl)
  refine lv_iload hx hb dL_law_687 (lv_at hl 0 rfl) ?_
  refine lv_icmp_eq (tgt := 694) hx hb dL_law_689 (by decide) (fun _ => ?_) (fun c9 => absurd ht9 c9)
  refine lv_goto (tgt := 1069) hx hb dL_law_694 (by decide) ?_
  refine W.widen (k := cells + 10) (n := slots + 201) (by omega) (by omega) ?_
  exact kk na n ad _ _ _ _ f H locs ls hn hst hP hD hS (lv_sub hl [1, 2, 3, 4, 5] rfl)

set_option maxHeartbeats 4000000 in
set_option maxRecDepth 100000 in
theorem cs_next {p : Program} {l : Launch} {e : Env} {s : State} {m : MethodId} {below : List Frame} {meth : Method} {c : Code} {b L : Nat} {xs : Nat → Int32} {Q : State → Prop} (hlt : l.stackTraces = false) (C0 : lwC p s m c b L xs) (D : va_G) (cI cZ cR cJ : ClassId) (hE : eL (fun q : Nat => s.heap.size ≤ q) s) (hK : va_K D vwCl (lT cI cZ cR cJ) s) (ao : Nat) (md : Nat → Nat) (i : Nat) (hi : i + 4 ≤ L) (hL : L ≤ 2048) (cn : Nat) (hcn : cn < 512) (na n : Nat) (hn : n = 11 + 6 * na) (ad : Nat → Nat) (I V J U : Nat → Nat → Int32) (f : Nat → Int64) (hrel : rel cn na I V J U) (cells slots : Nat) (hce : cells + 10 ≤ 601024) (hsl : slots + 201 ≤ 7293034) (H : Heap) (locs : List Loc) (ls : Array Slot) (hP : va_P D vwCl (lW cI cZ cR cJ ao f ad na n I V md J U) H) (hD : va_D (fun q : Nat => s.heap.size ≤ q) (lW cI cZ cR cJ ao f ad na n I V md J U)) (hS : va_S (fun q : Nat => s.heap.size ≤ q) s.heap H locs) (hl : lv_has ls 7 [(0, .ref b), (1, .ref (ad 0)), (2, .ref (md 0)), (3, .ref ao), (4, .int (nI i))]) (kk : ∀ (na' n' : Nat) (ad' : Nat → Nat) (I' V' J' U' : Nat → Nat → Int32) (f' : Nat → Int64) (H : Heap) (locs : List Loc) (ls : Array Slot), n' = 11 + 6 * na' → rel (cn + 1) na' I' V' J' U' → va_P D vwCl (lW cI cZ cR cJ ao f' ad' na' n' I' V' md J' U') H → va_D (fun q : Nat => s.heap.size ≤ q) (lW cI cZ cR cJ ao f' ad' na' n' I' V' md J' U') → va_S (fun q : Nat => s.heap.size ≤ q) s.heap H locs → lv_has ls 7 [(0, .ref b), (1, .ref (ad' 0)), (2, .ref (md 0)), (3, .ref ao), (4, .int (nI i))] → W p l e room_1 s m #[Value.ref b] below meth c H locs (cells + 10) (slots + 201) Q (F0 m 1069 ls [])) : W p l e room_1 s m #[Value.ref b] below meth c H locs cells slots Q (F0 m 697 ls []) := by
  obtain ⟨hx, hb, hml, hown, hts, hX, hbl⟩ := C0
  have hA : ∀ q : Nat, s.heap.size ≤ q → (fun q : Nat => s.heap.size ≤ q) q := fun _ h => h
  have hbA : ¬ (fun q : Nat => s.heap.size ≤ q) b := Nat.not_le.mpr hbl
  obtain ⟨hna, hna6⟩ := rel_na hrel
  have hKs : va_K D vwCl (sT cI cZ cR) s := hK.sub [0, 1, 2] rfl
  have hKm : va_K D vwCl (mT cI cZ) s := hK.sub [0, 1] rfl
  obtain ⟨kp, T, lst, rc, fk, fa, tr, rg, kd, tc, mt, at9, ar, ix, ⟨⟨g1, g2, g3, g4, g5⟩, ⟨g6, g7, g8, g9, g10⟩, g11, g12, g13, g14, g15, g16, g17⟩, f1, f2, f3, f4, f5, f6, hix1, hix2, hst⟩ := st_next hrel (by omega) (xs (i + 1)) _ rfl
  obtain ⟨cd, hcd⟩ : ∃ cd : Nat, cd = if ¬ (0 ≤ (xs (i + 1)).toInt ∧ (xs (i + 1)).toInt ≤ ((na : Nat) : Int) - 1) then 1 else 0 := ⟨_, rfl⟩
  have hcd9 : cd ≤ 2 := by rw [hcd]; split <;> first | decide | (split <;> decide)
  have hcd2 : ¬ cd = 2 := by rw [hcd]; split <;> decide
  obtain ⟨hab, hst⟩ := hst cd hcd
  refine lv_aload_n hx hb dL_law_697 rfl (lv_at hl 1 rfl) ?_
  refine lv_aload_n hx hb dL_law_698 rfl (lv_at hl 0 rfl) ?_
  refine lv_iload hx hb dL_law_699 (lv_at hl 4 rfl) ?_
  refine lv_iconst (v := nI 1) hx hb dL_law_701 (by decide) ?_
  refine lv_iadd hx hb dL_law_702 ?_
  rw [nI_add]
  refine w_sld hx hb hX hbl hbA hS (k := i + 1) (by omega) hL dL_law_703 ?_
  refine lv_aload_n hx hb dL_law_704 rfl (lv_at hl 3 rfl) ?_
  have hP3 : va_P D vwCl ([] ++ ((hW cJ ao f (sW cI cZ cR ad na n I V)) ++ (mW cI cZ md J U))) H := hP
  have hD3 : va_D (fun q : Nat => s.heap.size ≤ q) ([] ++ ((hW cJ ao f (sW cI cZ cR ad na n I V)) ++ (mW cI cZ md J U))) := hD
  refine w_calliX (X := []) (w := (hW cJ ao f (sW cI cZ cR ad na n I V))) (Y := (mW cI cZ md J U)) hS hA hP3 hD3 (vx_runSW (As := [.ref (ad 0), .int (xs (i + 1)), .ref ao]) (rest := []) ⟨hx, hb, hml, hown, hts⟩ (h_L_next l D cI cZ cR cJ ao (ad 0) f (sW cI cZ cR ad na n I V) _ (wR_at (r := 0) (by omega) rfl) _ _ cd H.size (xs (i + 1)) hcd2 (fun sz => c_X3_next l D cI cZ cR ad na n I V sz hlt hn hna hna6 _ _ rfl kp T lst rc fk g1 g2 g3 g4 g5 g11 (by omega) g13 (by omega) g15 (by omega) fa f1 rg kd tc mt at9 ar ix (fun h9 => ⟨(f5 h9).1, (f5 h9).2.1, (f5 h9).2.2.1, (f5 h9).2.2.2.1, ⟨(f5 h9).2.2.2.2.1.1, Nat.le_trans (f5 h9).2.2.2.2.1.2 (by decide)⟩, (f5 h9).2.2.2.2.2⟩) f2 hix1 cd hcd)) (vx_cwSW 3 hts gL_law_L_next rfl rfl rfl (by decide +kernel) ⟨Nat.le_of_ble_eq_true rfl, Nat.le_of_ble_eq_true rfl⟩) (w_pre (w_midP hP3) hK (w_midD hD3) (eL_env hE hS (w_free (w_midD hD3) hS hA))) rfl rfl hl.1 rfl (lv_room (Nat.le_of_ble_eq_true rfl)) dL_law_705 ⟨(by show cells + 1 ≤ 601024; omega), (by show slots + 6 ≤ 7293034; omega)⟩) (fun kr u H locs hw hP hD hS => ?_)
  obtain ⟨f', w'⟩ := u
  obtain ⟨hkr, hans, hw2⟩ := hQ_fix hw
  subst hkr
  have hw2 : w' = _ := hw2
  subst hw2
  have hans : cd = 0 → f' 0 = _ := hans
  have hP : va_P D vwCl (lW cI cZ cR cJ ao f' ad na n _ _ md J U) H := hP
  have hD : va_D (fun q : Nat => s.heap.size ≤ q) (lW cI cZ cR cJ ao f' ad na n _ _ md J U) := hD
  refine lv_istore (lv' := [(5, .int (nI cd)), (0, .ref b), (1, .ref (ad 0)), (2, .ref (md 0)), (3, .ref ao), (4, .int (nI i))]) hx hb dL_law_708 hl (by decide) rfl (fun ls hl => ?_)
  refine lv_aload_n hx hb dL_law_710 rfl (lv_at hl 3 rfl) ?_
  refine lv_aload_n hx hb dL_law_711 rfl (lv_at hl 1 rfl) ?_
  refine lv_iload hx hb dL_law_712 (lv_at hl 5 rfl) ?_
  refine lv_iconst (v := nI 1) hx hb dL_law_714 (by decide) ?_
  refine lv_iadd hx hb dL_law_715 ?_
  rw [nI_add]
  refine w_sld hx hb hX hbl hbA hS (k := i + 1) (by omega) hL dL_law_716 ?_
  have hP3 := w_addP (X := hW cJ ao f' (sW cI cZ cR ad na n _ _)) (w := mW cI cZ md _ _) hP
  have hD3 := w_addD (X := hW cJ ao f' (sW cI cZ cR ad na n _ _)) (w := mW cI cZ md _ _) hD
  refine w_calliX (Y := []) hS hA hP3 hD3 (va_runV (As := [.int (xs (i + 1))]) (rest := []) ⟨hx, hb, hml, hown, hts⟩ (c_X4_next l D cI cZ md J U H.size T lst rc kp na g6 g7 g8 g9 g10 g12 g14 g13 g15 g16 g17 _ _ rfl fa tr f3 f4 rg kd tc mt at9 0 ar ix f6 hix2 cd hcd) (cwV 1 hts gL_law_X4_next rfl rfl rfl (by decide +kernel) ⟨Nat.le_of_ble_eq_true rfl, Nat.le_of_ble_eq_true rfl⟩) ⟨(w_pre (w_midP hP3) hKm (w_midD hD3) wEnv_true).1, wR_recv (C := RX4) (T := TX4) (N := 18) hKm (w_midP hP3) (ci := 4) rfl 0 (by decide) rfl, (w_pre (w_midP hP3) hKm (w_midD hD3) wEnv_true).2⟩ rfl rfl hl.1 rfl (lv_room (Nat.le_of_ble_eq_true rfl)) dL_law_717 ⟨(by show (cells + 1) + 0 ≤ 601024; omega), (by show (slots + 6) + 0 ≤ 7293034; omega)⟩) (fun br u H locs hm9 hP hD hS => ?_)
  rw [List.append_nil] at hP hD
  refine lv_istore (lv' := [(6, .int br), (5, .int (nI cd)), (0, .ref b), (1, .ref (ad 0)), (2, .ref (md 0)), (3, .ref ao), (4, .int (nI i))]) hx hb dL_law_720 hl (by decide) rfl (fun ls hl => ?_)
  refine lv_aload_n hx hb dL_law_722 rfl (lv_at hl 4 rfl) ?_
  have hP3 := w_addP (X := hW cJ ao f' (sW cI cZ cR ad na n _ _)) (w := mW cI cZ md _ _) hP
  have hD3 := w_addD (X := hW cJ ao f' (sW cI cZ cR ad na n _ _)) (w := mW cI cZ md _ _) hD
  refine w_calliX (Y := []) hS hA hP3 hD3 (va_runV (As := []) (rest := []) ⟨hx, hb, hml, hown, hts⟩ (c_X4_thrown l D cI cZ md _ _ H.size) (cwV 0 hts gL_law_X4_thrown rfl rfl rfl (by decide +kernel) ⟨Nat.le_of_ble_eq_true rfl, Nat.le_of_ble_eq_true rfl⟩) ⟨(w_pre (w_midP hP3) hKm (w_midD hD3) wEnv_true).1, wR_recv (C := RX4) (T := TX4) (N := 18) hKm (w_midP hP3) (ci := 4) rfl 0 (by decide) rfl, (w_pre (w_midP hP3) hKm (w_midD hD3) wEnv_true).2⟩ rfl rfl hl.1 rfl (lv_room (Nat.le_of_ble_eq_true rfl)) dL_law_723 ⟨(by show (cells + 1 + 0) + 0 ≤ 601024; omega), (by show (slots + 6 + 0) + 0 ≤ 7293034; omega)⟩) (fun tr9 u H locs ht9 hP hD hS => ?_)
  rw [List.append_nil] at hP hD
  have ht9 : tr9 = nI cd := ht9.trans (rfl)
  refine lv_iload hx hb dL_law_726 (lv_at hl 1 rfl) ?_
  refine lv_icmp_eq (tgt := 733) hx hb dL_law_728 (by decide) (fun _ => ?_) (fun c9 => absurd ht9 c9)
  refine lv_iload hx hb dL_law_733 (lv_at hl 1 rfl) ?_
  refine lv_if_ne (tgt := 750) hx hb dL_law_735 (by decide) (fun _ => ?_) (fun c9 => ?_)
  · refine lv_goto (tgt := 1069) hx hb dL_law_750 (by decide) ?_
    refine W.widen (k := cells + 10) (n := slots + 201) (by omega) (by omega) ?_
    exact kk na n ad _ _ _ _ f' H locs ls hn hst hP hD hS (lv_sub hl [2, 3, 4, 5, 6] rfl)
  · have hc9 : cd = 0 := cd_z0 c9 hcd9
    have hfb : f' 0 = br.toInt64 := (hans hc9).trans (congrArg Int32.toInt64 ((hab hc9).trans (hm9 hc9).symm))
    refine lv_aload_n hx hb dL_law_738 rfl (lv_at hl 5 rfl) ?_
    refine lv_iconst (v := nI 0) hx hb dL_law_739 (by decide) ?_
    refine va_lald hx hb hK hP 0 3 rfl rfl (vp_in_nI (by decide) (by decide)) dL_law_740 ?_
    rw [nI_clamp (show 0 < 2 ^ 31 by decide), hfb]
    refine lv_iload hx hb dL_law_741 (lv_at hl 0 rfl) ?_
    refine lv_i2l (v := br.toInt64) hx hb dL_law_743 rfl ?_
    refine W.lcmp hx hb dL_law_744 ?_
    refine lv_if_eq (tgt := 750) hx hb dL_law_745 (by decide) (fun _ => ?_) (fun c8 => absurd (lg_same _) c8)
    refine lv_goto (tgt := 1069) hx hb dL_law_750 (by decide) ?_
    refine W.widen (k := cells + 10) (n := slots + 201) (by omega) (by omega) ?_
    exact kk na n ad _ _ _ _ f' H locs ls hn hst hP hD hS (lv_sub hl [2, 3, 4, 5, 6] rfl)

set_option maxHeartbeats 4000000 in
set_option maxRecDepth 100000 in
theorem cs_done {p : Program} {l : Launch} {e : Env} {s : State} {m : MethodId} {below : List Frame} {meth : Method} {c : Code} {b L : Nat} {xs : Nat → Int32} {Q : State → Prop} (hlt : l.stackTraces = false) (C0 : lwC p s m c b L xs) (D : va_G) (cI cZ cR cJ : ClassId) (hE : eL (fun q : Nat => s.heap.size ≤ q) s) (hK : va_K D vwCl (lT cI cZ cR cJ) s) (ao : Nat) (md : Nat → Nat) (i : Nat) (hi : i + 4 ≤ L) (hL : L ≤ 2048) (cn : Nat) (hcn : cn < 512) (na n : Nat) (hn : n = 11 + 6 * na) (ad : Nat → Nat) (I V J U : Nat → Nat → Int32) (f : Nat → Int64) (hrel : rel cn na I V J U) (cells slots : Nat) (hce : cells + 10 ≤ 601024) (hsl : slots + 201 ≤ 7293034) (H : Heap) (locs : List Loc) (ls : Array Slot) (hP : va_P D vwCl (lW cI cZ cR cJ ao f ad na n I V md J U) H) (hD : va_D (fun q : Nat => s.heap.size ≤ q) (lW cI cZ cR cJ ao f ad na n I V md J U)) (hS : va_S (fun q : Nat => s.heap.size ≤ q) s.heap H locs) (hl : lv_has ls 7 [(0, .ref b), (1, .ref (ad 0)), (2, .ref (md 0)), (3, .ref ao), (4, .int (nI i))]) (kk : ∀ (na' n' : Nat) (ad' : Nat → Nat) (I' V' J' U' : Nat → Nat → Int32) (f' : Nat → Int64) (H : Heap) (locs : List Loc) (ls : Array Slot), n' = 11 + 6 * na' → rel (cn + 1) na' I' V' J' U' → va_P D vwCl (lW cI cZ cR cJ ao f' ad' na' n' I' V' md J' U') H → va_D (fun q : Nat => s.heap.size ≤ q) (lW cI cZ cR cJ ao f' ad' na' n' I' V' md J' U') → va_S (fun q : Nat => s.heap.size ≤ q) s.heap H locs → lv_has ls 7 [(0, .ref b), (1, .ref (ad' 0)), (2, .ref (md 0)), (3, .ref ao), (4, .int (nI i))] → W p l e room_1 s m #[Value.ref b] below meth c H locs (cells + 10) (slots + 201) Q (F0 m 1069 ls [])) : W p l e room_1 s m #[Value.ref b] below meth c H locs cells slots Q (F0 m 753 ls []) := by
  obtain ⟨hx, hb, hml, hown, hts, hX, hbl⟩ := C0
  have hA : ∀ q : Nat, s.heap.size ≤ q → (fun q : Nat => s.heap.size ≤ q) q := fun _ h => h
  have hbA : ¬ (fun q : Nat => s.heap.size ≤ q) b := Nat.not_le.mpr hbl
  obtain ⟨hna, hna6⟩ := rel_na hrel
  have hKs : va_K D vwCl (sT cI cZ cR) s := hK.sub [0, 1, 2] rfl
  have hKm : va_K D vwCl (mT cI cZ) s := hK.sub [0, 1] rfl
  obtain ⟨kp, T, lst, rc, fk, tc, tk, ⟨⟨g1, g2, g3, g4, g5⟩, ⟨g6, g7, g8, g9, g10⟩, g11, g12, g13, g14, g15, g16, g17⟩, e4, e5, hst⟩ := st_done hrel (by omega) (xs (i + 1)) (xs (i + 2)) _ rfl
  obtain ⟨cd, hcd⟩ : ∃ cd : Nat, cd = if ¬ (0 ≤ (xs (i + 1)).toInt ∧ (xs (i + 1)).toInt ≤ ((na : Nat) : Int) - 1) ∨ ¬ (0 ≤ (xs (i + 2)).toInt ∧ (xs (i + 2)).toInt ≤ ((T : Nat) : Int)) then 1 else 0 := ⟨_, rfl⟩
  have hcd9 : cd ≤ 2 := by rw [hcd]; split <;> first | decide | (split <;> decide)
  have hcd2 : ¬ cd = 2 := by rw [hcd]; split <;> decide
  obtain ⟨hab, hst⟩ := hst cd hcd _ rfl
  refine lv_aload_n hx hb dL_law_753 rfl (lv_at hl 1 rfl) ?_
  refine lv_aload_n hx hb dL_law_754 rfl (lv_at hl 0 rfl) ?_
  refine lv_iload hx hb dL_law_755 (lv_at hl 4 rfl) ?_
  refine lv_iconst (v := nI 1) hx hb dL_law_757 (by decide) ?_
  refine lv_iadd hx hb dL_law_758 ?_
  rw [nI_add]
  refine w_sld hx hb hX hbl hbA hS (k := i + 1) (by omega) hL dL_law_759 ?_
  refine lv_aload_n hx hb dL_law_760 rfl (lv_at hl 0 rfl) ?_
  refine lv_iload hx hb dL_law_761 (lv_at hl 4 rfl) ?_
  refine lv_iconst (v := nI 2) hx hb dL_law_763 (by decide) ?_
  refine lv_iadd hx hb dL_law_764 ?_
  rw [nI_add]
  refine w_sld hx hb hX hbl hbA hS (k := i + 2) (by omega) hL dL_law_765 ?_
  refine lv_aload_n hx hb dL_law_766 rfl (lv_at hl 3 rfl) ?_
  have hP3 : va_P D vwCl ([] ++ ((hW cJ ao f (sW cI cZ cR ad na n I V)) ++ (mW cI cZ md J U))) H := hP
  have hD3 : va_D (fun q : Nat => s.heap.size ≤ q) ([] ++ ((hW cJ ao f (sW cI cZ cR ad na n I V)) ++ (mW cI cZ md J U))) := hD
  refine w_calliX (X := []) (w := (hW cJ ao f (sW cI cZ cR ad na n I V))) (Y := (mW cI cZ md J U)) hS hA hP3 hD3 (vx_runSW (As := [.ref (ad 0), .int (xs (i + 1)), .int (xs (i + 2)), .ref ao]) (rest := []) ⟨hx, hb, hml, hown, hts⟩ (h_L_done l D cI cZ cR cJ ao (ad 0) f (sW cI cZ cR ad na n I V) _ (wR_at (r := 0) (by omega) rfl) _ _ cd H.size (xs (i + 1)) (xs (i + 2)) hcd2 (fun sz => c_X3_done l D cI cZ cR ad na n I V sz hlt hn hna hna6 _ _ rfl tc e4 T g2 (by omega) _ _ rfl cd hcd)) (vx_cwSW 4 hts gL_law_L_done rfl rfl rfl (by decide +kernel) ⟨Nat.le_of_ble_eq_true rfl, Nat.le_of_ble_eq_true rfl⟩) (w_pre (w_midP hP3) hK (w_midD hD3) (eL_env hE hS (w_free (w_midD hD3) hS hA))) rfl rfl hl.1 rfl (lv_room (Nat.le_of_ble_eq_true rfl)) dL_law_767 ⟨(by show cells + 2 ≤ 601024; omega), (by show slots + 12 ≤ 7293034; omega)⟩) (fun kr u H locs hw hP hD hS => ?_)
  obtain ⟨f', w'⟩ := u
  obtain ⟨hkr, hans, hw2⟩ := hQ_fix hw
  subst hkr
  have hw2 : w' = _ := hw2
  subst hw2
  have hans : cd = 0 → f' 0 = _ := hans
  have hP : va_P D vwCl (lW cI cZ cR cJ ao f' ad na n _ _ md J U) H := hP
  have hD : va_D (fun q : Nat => s.heap.size ≤ q) (lW cI cZ cR cJ ao f' ad na n _ _ md J U) := hD
  refine lv_istore (lv' := [(5, .int (nI cd)), (0, .ref b), (1, .ref (ad 0)), (2, .ref (md 0)), (3, .ref ao), (4, .int (nI i))]) hx hb dL_law_770 hl (by decide) rfl (fun ls hl => ?_)
  refine lv_aload_n hx hb dL_law_772 rfl (lv_at hl 3 rfl) ?_
  refine lv_aload_n hx hb dL_law_773 rfl (lv_at hl 1 rfl) ?_
  refine lv_iload hx hb dL_law_774 (lv_at hl 5 rfl) ?_
  refine lv_iconst (v := nI 1) hx hb dL_law_776 (by decide) ?_
  refine lv_iadd hx hb dL_law_777 ?_
  rw [nI_add]
  refine w_sld hx hb hX hbl hbA hS (k := i + 1) (by omega) hL dL_law_778 ?_
  refine lv_aload_n hx hb dL_law_779 rfl (lv_at hl 1 rfl) ?_
  refine lv_iload hx hb dL_law_780 (lv_at hl 5 rfl) ?_
  refine lv_iconst (v := nI 2) hx hb dL_law_782 (by decide) ?_
  refine lv_iadd hx hb dL_law_783 ?_
  rw [nI_add]
  refine w_sld hx hb hX hbl hbA hS (k := i + 2) (by omega) hL dL_law_784 ?_
  have hP3 := w_addP (X := hW cJ ao f' (sW cI cZ cR ad na n _ _)) (w := mW cI cZ md _ _) hP
  have hD3 := w_addD (X := hW cJ ao f' (sW cI cZ cR ad na n _ _)) (w := mW cI cZ md _ _) hD
  refine w_calliX (Y := []) hS hA hP3 hD3 (va_runV (As := [.int (xs (i + 1)), .int (xs (i + 2))]) (rest := []) ⟨hx, hb, hml, hown, hts⟩ (c_X4_done l D cI cZ md J U H.size T lst rc kp na g6 g7 g8 g9 g10 g12 g14 g13 g15 g16 g17 _ _ rfl tc tk e5 _ cd hcd) (cwV 2 hts gL_law_X4_done rfl rfl rfl (by decide +kernel) ⟨Nat.le_of_ble_eq_true rfl, Nat.le_of_ble_eq_true rfl⟩) ⟨(w_pre (w_midP hP3) hKm (w_midD hD3) wEnv_true).1, wR_recv (C := RX4) (T := TX4) (N := 18) hKm (w_midP hP3) (ci := 4) rfl 0 (by decide) rfl, (w_pre (w_midP hP3) hKm (w_midD hD3) wEnv_true).2⟩ rfl rfl hl.1 rfl (lv_room (Nat.le_of_ble_eq_true rfl)) dL_law_785 ⟨(by show (cells + 2) + 0 ≤ 601024; omega), (by show (slots + 12) + 0 ≤ 7293034; omega)⟩) (fun br u H locs hm9 hP hD hS => ?_)
  rw [List.append_nil] at hP hD
  refine lv_istore (lv' := [(6, .int br), (5, .int (nI cd)), (0, .ref b), (1, .ref (ad 0)), (2, .ref (md 0)), (3, .ref ao), (4, .int (nI i))]) hx hb dL_law_788 hl (by decide) rfl (fun ls hl => ?_)
  refine lv_aload_n hx hb dL_law_790 rfl (lv_at hl 4 rfl) ?_
  have hP3 := w_addP (X := hW cJ ao f' (sW cI cZ cR ad na n _ _)) (w := mW cI cZ md _ _) hP
  have hD3 := w_addD (X := hW cJ ao f' (sW cI cZ cR ad na n _ _)) (w := mW cI cZ md _ _) hD
  refine w_calliX (Y := []) hS hA hP3 hD3 (va_runV (As := []) (rest := []) ⟨hx, hb, hml, hown, hts⟩ (c_X4_thrown l D cI cZ md _ _ H.size) (cwV 0 hts gL_law_X4_thrown rfl rfl rfl (by decide +kernel) ⟨Nat.le_of_ble_eq_true rfl, Nat.le_of_ble_eq_true rfl⟩) ⟨(w_pre (w_midP hP3) hKm (w_midD hD3) wEnv_true).1, wR_recv (C := RX4) (T := TX4) (N := 18) hKm (w_midP hP3) (ci := 4) rfl 0 (by decide) rfl, (w_pre (w_midP hP3) hKm (w_midD hD3) wEnv_true).2⟩ rfl rfl hl.1 rfl (lv_room (Nat.le_of_ble_eq_true rfl)) dL_law_791 ⟨(by show (cells + 2 + 0) + 0 ≤ 601024; omega), (by show (slots + 12 + 0) + 0 ≤ 7293034; omega)⟩) (fun tr9 u H locs ht9 hP hD hS => ?_)
  rw [List.append_nil] at hP hD
  have ht9 : tr9 = nI cd := ht9.trans (rfl)
  refine lv_iload hx hb dL_law_794 (lv_at hl 1 rfl) ?_
  refine lv_icmp_eq (tgt := 801) hx hb dL_law_796 (by decide) (fun _ => ?_) (fun c9 => absurd ht9 c9)
  refine lv_iload hx hb dL_law_801 (lv_at hl 1 rfl) ?_
  refine lv_if_ne (tgt := 818) hx hb dL_law_803 (by decide) (fun _ => ?_) (fun c9 => ?_)
  · refine lv_goto (tgt := 1069) hx hb dL_law_818 (by decide) ?_
    refine W.widen (k := cells + 10) (n := slots + 201) (by omega) (by omega) ?_
    exact kk na n ad _ _ _ _ f' H locs ls hn hst hP hD hS (lv_sub hl [2, 3, 4, 5, 6] rfl)
  · have hc9 : cd = 0 := cd_z0 c9 hcd9
    have hfb : f' 0 = br.toInt64 := (hans hc9).trans (congrArg Int32.toInt64 ((hab hc9).trans (hm9 hc9).symm))
    refine lv_aload_n hx hb dL_law_806 rfl (lv_at hl 5 rfl) ?_
    refine lv_iconst (v := nI 0) hx hb dL_law_807 (by decide) ?_
    refine va_lald hx hb hK hP 0 3 rfl rfl (vp_in_nI (by decide) (by decide)) dL_law_808 ?_
    rw [nI_clamp (show 0 < 2 ^ 31 by decide), hfb]
    refine lv_iload hx hb dL_law_809 (lv_at hl 0 rfl) ?_
    refine lv_i2l (v := br.toInt64) hx hb dL_law_811 rfl ?_
    refine W.lcmp hx hb dL_law_812 ?_
    refine lv_if_eq (tgt := 818) hx hb dL_law_813 (by decide) (fun _ => ?_) (fun c8 => absurd (lg_same _) c8)
    refine lv_goto (tgt := 1069) hx hb dL_law_818 (by decide) ?_
    refine W.widen (k := cells + 10) (n := slots + 201) (by omega) (by omega) ?_
    exact kk na n ad _ _ _ _ f' H locs ls hn hst hP hD hS (lv_sub hl [2, 3, 4, 5, 6] rfl)

set_option maxHeartbeats 4000000 in
set_option maxRecDepth 100000 in
theorem cs_resume {p : Program} {l : Launch} {e : Env} {s : State} {m : MethodId} {below : List Frame} {meth : Method} {c : Code} {b L : Nat} {xs : Nat → Int32} {Q : State → Prop} (hlt : l.stackTraces = false) (C0 : lwC p s m c b L xs) (D : va_G) (cI cZ cR cJ : ClassId) (hE : eL (fun q : Nat => s.heap.size ≤ q) s) (hK : va_K D vwCl (lT cI cZ cR cJ) s) (ao : Nat) (md : Nat → Nat) (i : Nat) (hi : i + 4 ≤ L) (hL : L ≤ 2048) (cn : Nat) (hcn : cn < 512) (na n : Nat) (hn : n = 11 + 6 * na) (ad : Nat → Nat) (I V J U : Nat → Nat → Int32) (f : Nat → Int64) (hrel : rel cn na I V J U) (cells slots : Nat) (hce : cells + 10 ≤ 601024) (hsl : slots + 201 ≤ 7293034) (H : Heap) (locs : List Loc) (ls : Array Slot) (hP : va_P D vwCl (lW cI cZ cR cJ ao f ad na n I V md J U) H) (hD : va_D (fun q : Nat => s.heap.size ≤ q) (lW cI cZ cR cJ ao f ad na n I V md J U)) (hS : va_S (fun q : Nat => s.heap.size ≤ q) s.heap H locs) (hl : lv_has ls 7 [(0, .ref b), (1, .ref (ad 0)), (2, .ref (md 0)), (3, .ref ao), (4, .int (nI i))]) (kk : ∀ (na' n' : Nat) (ad' : Nat → Nat) (I' V' J' U' : Nat → Nat → Int32) (f' : Nat → Int64) (H : Heap) (locs : List Loc) (ls : Array Slot), n' = 11 + 6 * na' → rel (cn + 1) na' I' V' J' U' → va_P D vwCl (lW cI cZ cR cJ ao f' ad' na' n' I' V' md J' U') H → va_D (fun q : Nat => s.heap.size ≤ q) (lW cI cZ cR cJ ao f' ad' na' n' I' V' md J' U') → va_S (fun q : Nat => s.heap.size ≤ q) s.heap H locs → lv_has ls 7 [(0, .ref b), (1, .ref (ad' 0)), (2, .ref (md 0)), (3, .ref ao), (4, .int (nI i))] → W p l e room_1 s m #[Value.ref b] below meth c H locs (cells + 10) (slots + 201) Q (F0 m 1069 ls [])) : W p l e room_1 s m #[Value.ref b] below meth c H locs cells slots Q (F0 m 821 ls []) := by
  obtain ⟨hx, hb, hml, hown, hts, hX, hbl⟩ := C0
  have hA : ∀ q : Nat, s.heap.size ≤ q → (fun q : Nat => s.heap.size ≤ q) q := fun _ h => h
  have hbA : ¬ (fun q : Nat => s.heap.size ≤ q) b := Nat.not_le.mpr hbl
  obtain ⟨hna, hna6⟩ := rel_na hrel
  have hKs : va_K D vwCl (sT cI cZ cR) s := hK.sub [0, 1, 2] rfl
  have hKm : va_K D vwCl (mT cI cZ) s := hK.sub [0, 1] rfl
  obtain ⟨kp, T, lst, rc, fk, tc, t0, tr0, ⟨⟨g1, g2, g3, g4, g5⟩, ⟨g6, g7, g8, g9, g10⟩, g11, g12, g13, g14, g15, g16, g17⟩, e4, e5, hst⟩ := st_resume hrel (by omega) (xs (i + 1)) _ rfl
  obtain ⟨cd, hcd⟩ : ∃ cd : Nat, cd = if ¬ (0 ≤ (xs (i + 1)).toInt ∧ (xs (i + 1)).toInt ≤ ((na : Nat) : Int) - 1) then 1 else 0 := ⟨_, rfl⟩
  have hcd9 : cd ≤ 2 := by rw [hcd]; split <;> first | decide | (split <;> decide)
  have hcd2 : ¬ cd = 2 := by rw [hcd]; split <;> decide
  have hst := hst cd hcd
  refine lv_aload_n hx hb dL_law_821 rfl (lv_at hl 1 rfl) ?_
  refine lv_aload_n hx hb dL_law_822 rfl (lv_at hl 0 rfl) ?_
  refine lv_iload hx hb dL_law_823 (lv_at hl 4 rfl) ?_
  refine lv_iconst (v := nI 1) hx hb dL_law_825 (by decide) ?_
  refine lv_iadd hx hb dL_law_826 ?_
  rw [nI_add]
  refine w_sld hx hb hX hbl hbA hS (k := i + 1) (by omega) hL dL_law_827 ?_
  refine lv_aload_n hx hb dL_law_828 rfl (lv_at hl 3 rfl) ?_
  have hP3 : va_P D vwCl ([] ++ ((hW cJ ao f (sW cI cZ cR ad na n I V)) ++ (mW cI cZ md J U))) H := hP
  have hD3 : va_D (fun q : Nat => s.heap.size ≤ q) ([] ++ ((hW cJ ao f (sW cI cZ cR ad na n I V)) ++ (mW cI cZ md J U))) := hD
  refine w_calliX (X := []) (w := (hW cJ ao f (sW cI cZ cR ad na n I V))) (Y := (mW cI cZ md J U)) hS hA hP3 hD3 (vx_runSW (As := [.ref (ad 0), .int (xs (i + 1)), .ref ao]) (rest := []) ⟨hx, hb, hml, hown, hts⟩ (h_L_resume l D cI cZ cR cJ ao (ad 0) f (sW cI cZ cR ad na n I V) _ (wR_at (r := 0) (by omega) rfl) _ _ cd H.size (xs (i + 1)) hcd2 (fun sz => c_X3_resume l D cI cZ cR ad na n I V sz hlt hn hna hna6 _ _ rfl tc e4 cd hcd)) (vx_cwSW 3 hts gL_law_L_resume rfl rfl rfl (by decide +kernel) ⟨Nat.le_of_ble_eq_true rfl, Nat.le_of_ble_eq_true rfl⟩) (w_pre (w_midP hP3) hK (w_midD hD3) (eL_env hE hS (w_free (w_midD hD3) hS hA))) rfl rfl hl.1 rfl (lv_room (Nat.le_of_ble_eq_true rfl)) dL_law_829 ⟨(by show cells + 1 ≤ 601024; omega), (by show slots + 6 ≤ 7293034; omega)⟩) (fun kr u H locs hw hP hD hS => ?_)
  obtain ⟨f', w'⟩ := u
  obtain ⟨hkr, hans, hw2⟩ := hQ_fix hw
  subst hkr
  have hw2 : w' = _ := hw2
  subst hw2
  have hans : cd = 0 → f' 0 = _ := hans
  have hP : va_P D vwCl (lW cI cZ cR cJ ao f' ad na n _ _ md J U) H := hP
  have hD : va_D (fun q : Nat => s.heap.size ≤ q) (lW cI cZ cR cJ ao f' ad na n _ _ md J U) := hD
  refine lv_istore (lv' := [(5, .int (nI cd)), (0, .ref b), (1, .ref (ad 0)), (2, .ref (md 0)), (3, .ref ao), (4, .int (nI i))]) hx hb dL_law_832 hl (by decide) rfl (fun ls hl => ?_)
  refine lv_aload_n hx hb dL_law_834 rfl (lv_at hl 3 rfl) ?_
  refine lv_aload_n hx hb dL_law_835 rfl (lv_at hl 1 rfl) ?_
  refine lv_iload hx hb dL_law_836 (lv_at hl 5 rfl) ?_
  refine lv_iconst (v := nI 1) hx hb dL_law_838 (by decide) ?_
  refine lv_iadd hx hb dL_law_839 ?_
  rw [nI_add]
  refine w_sld hx hb hX hbl hbA hS (k := i + 1) (by omega) hL dL_law_840 ?_
  have hP3 := w_addP (X := hW cJ ao f' (sW cI cZ cR ad na n _ _)) (w := mW cI cZ md _ _) hP
  have hD3 := w_addD (X := hW cJ ao f' (sW cI cZ cR ad na n _ _)) (w := mW cI cZ md _ _) hD
  refine w_calliX (Y := []) hS hA hP3 hD3 (va_runV (As := [.int (xs (i + 1))]) (rest := []) ⟨hx, hb, hml, hown, hts⟩ (c_X4_resume l D cI cZ md J U H.size T lst rc kp na g6 g7 g8 g9 g10 g12 g14 g13 g15 g16 g17 _ _ rfl tc t0 tr0 e5 cd hcd) (cwV 1 hts gL_law_X4_resume rfl rfl rfl (by decide +kernel) ⟨Nat.le_of_ble_eq_true rfl, Nat.le_of_ble_eq_true rfl⟩) ⟨(w_pre (w_midP hP3) hKm (w_midD hD3) wEnv_true).1, wR_recv (C := RX4) (T := TX4) (N := 18) hKm (w_midP hP3) (ci := 4) rfl 0 (by decide) rfl, (w_pre (w_midP hP3) hKm (w_midD hD3) wEnv_true).2⟩ rfl rfl hl.1 rfl (lv_room (Nat.le_of_ble_eq_true rfl)) dL_law_841 ⟨(by show (cells + 1) + 0 ≤ 601024; omega), (by show (slots + 6) + 0 ≤ 7293034; omega)⟩) (fun br u H locs hm9 hP hD hS => ?_)
  rw [List.append_nil] at hP hD
  refine lv_istore (lv' := [(6, .int br), (5, .int (nI cd)), (0, .ref b), (1, .ref (ad 0)), (2, .ref (md 0)), (3, .ref ao), (4, .int (nI i))]) hx hb dL_law_844 hl (by decide) rfl (fun ls hl => ?_)
  refine lv_aload_n hx hb dL_law_846 rfl (lv_at hl 4 rfl) ?_
  have hP3 := w_addP (X := hW cJ ao f' (sW cI cZ cR ad na n _ _)) (w := mW cI cZ md _ _) hP
  have hD3 := w_addD (X := hW cJ ao f' (sW cI cZ cR ad na n _ _)) (w := mW cI cZ md _ _) hD
  refine w_calliX (Y := []) hS hA hP3 hD3 (va_runV (As := []) (rest := []) ⟨hx, hb, hml, hown, hts⟩ (c_X4_thrown l D cI cZ md _ _ H.size) (cwV 0 hts gL_law_X4_thrown rfl rfl rfl (by decide +kernel) ⟨Nat.le_of_ble_eq_true rfl, Nat.le_of_ble_eq_true rfl⟩) ⟨(w_pre (w_midP hP3) hKm (w_midD hD3) wEnv_true).1, wR_recv (C := RX4) (T := TX4) (N := 18) hKm (w_midP hP3) (ci := 4) rfl 0 (by decide) rfl, (w_pre (w_midP hP3) hKm (w_midD hD3) wEnv_true).2⟩ rfl rfl hl.1 rfl (lv_room (Nat.le_of_ble_eq_true rfl)) dL_law_847 ⟨(by show (cells + 1 + 0) + 0 ≤ 601024; omega), (by show (slots + 6 + 0) + 0 ≤ 7293034; omega)⟩) (fun tr9 u H locs ht9 hP hD hS => ?_)
  rw [List.append_nil] at hP hD
  have ht9 : tr9 = nI cd := ht9.trans (rfl)
  refine lv_iload hx hb dL_law_850 (lv_at hl 1 rfl) ?_
  refine lv_icmp_eq (tgt := 857) hx hb dL_law_852 (by decide) (fun _ => ?_) (fun c9 => absurd ht9 c9)
  refine lv_iload hx hb dL_law_857 (lv_at hl 1 rfl) ?_
  refine lv_if_ne (tgt := 874) hx hb dL_law_859 (by decide) (fun _ => ?_) (fun c9 => ?_)
  · refine lv_goto (tgt := 1069) hx hb dL_law_874 (by decide) ?_
    refine W.widen (k := cells + 10) (n := slots + 201) (by omega) (by omega) ?_
    exact kk na n ad _ _ _ _ f' H locs ls hn hst hP hD hS (lv_sub hl [2, 3, 4, 5, 6] rfl)
  · have hc9 : cd = 0 := cd_z0 c9 hcd9
    have hfb : f' 0 = br.toInt64 := (hans hc9).trans (congrArg Int32.toInt64 ((rfl).trans (hm9 hc9).symm))
    refine lv_aload_n hx hb dL_law_862 rfl (lv_at hl 5 rfl) ?_
    refine lv_iconst (v := nI 0) hx hb dL_law_863 (by decide) ?_
    refine va_lald hx hb hK hP 0 3 rfl rfl (vp_in_nI (by decide) (by decide)) dL_law_864 ?_
    rw [nI_clamp (show 0 < 2 ^ 31 by decide), hfb]
    refine lv_iload hx hb dL_law_865 (lv_at hl 0 rfl) ?_
    refine lv_i2l (v := br.toInt64) hx hb dL_law_867 rfl ?_
    refine W.lcmp hx hb dL_law_868 ?_
    refine lv_if_eq (tgt := 874) hx hb dL_law_869 (by decide) (fun _ => ?_) (fun c8 => absurd (lg_same _) c8)
    refine lv_goto (tgt := 1069) hx hb dL_law_874 (by decide) ?_
    refine W.widen (k := cells + 10) (n := slots + 201) (by omega) (by omega) ?_
    exact kk na n ad _ _ _ _ f' H locs ls hn hst hP hD hS (lv_sub hl [2, 3, 4, 5, 6] rfl)

set_option maxHeartbeats 4000000 in
set_option maxRecDepth 100000 in
theorem cs_row {p : Program} {l : Launch} {e : Env} {s : State} {m : MethodId} {below : List Frame} {meth : Method} {c : Code} {b L : Nat} {xs : Nat → Int32} {Q : State → Prop} (hlt : l.stackTraces = false) (C0 : lwC p s m c b L xs) (D : va_G) (cI cZ cR cJ : ClassId) (hE : eL (fun q : Nat => s.heap.size ≤ q) s) (hK : va_K D vwCl (lT cI cZ cR cJ) s) (ao : Nat) (md : Nat → Nat) (i : Nat) (hi : i + 4 ≤ L) (hL : L ≤ 2048) (cn : Nat) (hcn : cn < 512) (na n : Nat) (hn : n = 11 + 6 * na) (ad : Nat → Nat) (I V J U : Nat → Nat → Int32) (f : Nat → Int64) (hrel : rel cn na I V J U) (cells slots : Nat) (hce : cells + 10 ≤ 601024) (hsl : slots + 201 ≤ 7293034) (H : Heap) (locs : List Loc) (ls : Array Slot) (hP : va_P D vwCl (lW cI cZ cR cJ ao f ad na n I V md J U) H) (hD : va_D (fun q : Nat => s.heap.size ≤ q) (lW cI cZ cR cJ ao f ad na n I V md J U)) (hS : va_S (fun q : Nat => s.heap.size ≤ q) s.heap H locs) (hl : lv_has ls 7 [(0, .ref b), (1, .ref (ad 0)), (2, .ref (md 0)), (3, .ref ao), (4, .int (nI i))]) (kk : ∀ (na' n' : Nat) (ad' : Nat → Nat) (I' V' J' U' : Nat → Nat → Int32) (f' : Nat → Int64) (H : Heap) (locs : List Loc) (ls : Array Slot), n' = 11 + 6 * na' → rel (cn + 1) na' I' V' J' U' → va_P D vwCl (lW cI cZ cR cJ ao f' ad' na' n' I' V' md J' U') H → va_D (fun q : Nat => s.heap.size ≤ q) (lW cI cZ cR cJ ao f' ad' na' n' I' V' md J' U') → va_S (fun q : Nat => s.heap.size ≤ q) s.heap H locs → lv_has ls 7 [(0, .ref b), (1, .ref (ad' 0)), (2, .ref (md 0)), (3, .ref ao), (4, .int (nI i))] → W p l e room_1 s m #[Value.ref b] below meth c H locs (cells + 10) (slots + 201) Q (F0 m 1069 ls [])) : W p l e room_1 s m #[Value.ref b] below meth c H locs cells slots Q (F0 m 877 ls []) := by
  obtain ⟨hx, hb, hml, hown, hts, hX, hbl⟩ := C0
  have hA : ∀ q : Nat, s.heap.size ≤ q → (fun q : Nat => s.heap.size ≤ q) q := fun _ h => h
  have hbA : ¬ (fun q : Nat => s.heap.size ≤ q) b := Nat.not_le.mpr hbl
  obtain ⟨hna, hna6⟩ := rel_na hrel
  have hKs : va_K D vwCl (sT cI cZ cR) s := hK.sub [0, 1, 2] rfl
  have hKm : va_K D vwCl (mT cI cZ) s := hK.sub [0, 1] rfl
  obtain ⟨kp, T, lst, rc, fk, fa, ⟨⟨g1, g2, g3, g4, g5⟩, ⟨g6, g7, g8, g9, g10⟩, g11, g12, g13, g14, g15, g16, g17⟩, f1, f2, f3, hab⟩ := st_row hrel (by omega) (xs (i + 1)) (xs (i + 2)) _ _ rfl rfl
  obtain ⟨cd, hcd⟩ : ∃ cd : Nat, cd = if ¬ (0 ≤ (xs (i + 1)).toInt ∧ (xs (i + 1)).toInt ≤ ((rc : Nat) : Int) - 1) ∨ ¬ (0 ≤ (xs (i + 2)).toInt ∧ (xs (i + 2)).toInt ≤ 4) then 1 else 0 := ⟨_, rfl⟩
  have hcd9 : cd ≤ 2 := by rw [hcd]; split <;> first | decide | (split <;> decide)
  have hcd2 : ¬ cd = 2 := by rw [hcd]; split <;> decide
  have hst := st_code (cd := cd) hrel
  refine lv_aload_n hx hb dL_law_877 rfl (lv_at hl 1 rfl) ?_
  refine lv_aload_n hx hb dL_law_878 rfl (lv_at hl 0 rfl) ?_
  refine lv_iload hx hb dL_law_879 (lv_at hl 4 rfl) ?_
  refine lv_iconst (v := nI 1) hx hb dL_law_881 (by decide) ?_
  refine lv_iadd hx hb dL_law_882 ?_
  rw [nI_add]
  refine w_sld hx hb hX hbl hbA hS (k := i + 1) (by omega) hL dL_law_883 ?_
  refine lv_aload_n hx hb dL_law_884 rfl (lv_at hl 0 rfl) ?_
  refine lv_iload hx hb dL_law_885 (lv_at hl 4 rfl) ?_
  refine lv_iconst (v := nI 2) hx hb dL_law_887 (by decide) ?_
  refine lv_iadd hx hb dL_law_888 ?_
  rw [nI_add]
  refine w_sld hx hb hX hbl hbA hS (k := i + 2) (by omega) hL dL_law_889 ?_
  refine lv_aload_n hx hb dL_law_890 rfl (lv_at hl 3 rfl) ?_
  have hP3 : va_P D vwCl ([] ++ ((hW cJ ao f (sW cI cZ cR ad na n I V)) ++ (mW cI cZ md J U))) H := hP
  have hD3 : va_D (fun q : Nat => s.heap.size ≤ q) ([] ++ ((hW cJ ao f (sW cI cZ cR ad na n I V)) ++ (mW cI cZ md J U))) := hD
  refine w_calliX (X := []) (w := (hW cJ ao f (sW cI cZ cR ad na n I V))) (Y := (mW cI cZ md J U)) hS hA hP3 hD3 (vx_runSW (As := [.ref (ad 0), .int (xs (i + 1)), .int (xs (i + 2)), .ref ao]) (rest := []) ⟨hx, hb, hml, hown, hts⟩ (h_L_row l D cI cZ cR cJ ao (ad 0) f (sW cI cZ cR ad na n I V) _ (wR_at (r := 0) (by omega) rfl) _ _ cd H.size (xs (i + 1)) (xs (i + 2)) hcd2 (fun sz => c_X3_row l D cI cZ cR ad na n I V sz hlt hn hna hna6 kp T lst rc fk g1 g2 g3 g4 g5 g11 (by omega) g13 (by omega) g15 (by omega) fa f1 f2 _ _ _ _ rfl rfl cd hcd)) (vx_cwSW 4 hts gL_law_L_row rfl rfl rfl (by decide +kernel) ⟨Nat.le_of_ble_eq_true rfl, Nat.le_of_ble_eq_true rfl⟩) (w_pre (w_midP hP3) hK (w_midD hD3) (eL_env hE hS (w_free (w_midD hD3) hS hA))) rfl rfl hl.1 rfl (lv_room (Nat.le_of_ble_eq_true rfl)) dL_law_891 ⟨(by show cells + 2 ≤ 601024; omega), (by show slots + 12 ≤ 7293034; omega)⟩) (fun kr u H locs hw hP hD hS => ?_)
  obtain ⟨f', w'⟩ := u
  obtain ⟨hkr, hans, hw2⟩ := hQ_fix hw
  subst hkr
  have hw2 : w' = _ := hw2
  subst hw2
  have hans : cd = 0 → f' 0 = _ := hans
  have hP : va_P D vwCl (lW cI cZ cR cJ ao f' ad na n _ _ md J U) H := hP
  have hD : va_D (fun q : Nat => s.heap.size ≤ q) (lW cI cZ cR cJ ao f' ad na n _ _ md J U) := hD
  rw [ite_self, ite_self] at hP hD
  refine lv_istore (lv' := [(5, .int (nI cd)), (0, .ref b), (1, .ref (ad 0)), (2, .ref (md 0)), (3, .ref ao), (4, .int (nI i))]) hx hb dL_law_894 hl (by decide) rfl (fun ls hl => ?_)
  refine lv_aload_n hx hb dL_law_896 rfl (lv_at hl 3 rfl) ?_
  refine lv_aload_n hx hb dL_law_897 rfl (lv_at hl 1 rfl) ?_
  refine lv_iload hx hb dL_law_898 (lv_at hl 5 rfl) ?_
  refine lv_iconst (v := nI 1) hx hb dL_law_900 (by decide) ?_
  refine lv_iadd hx hb dL_law_901 ?_
  rw [nI_add]
  refine w_sld hx hb hX hbl hbA hS (k := i + 1) (by omega) hL dL_law_902 ?_
  refine lv_aload_n hx hb dL_law_903 rfl (lv_at hl 1 rfl) ?_
  refine lv_iload hx hb dL_law_904 (lv_at hl 5 rfl) ?_
  refine lv_iconst (v := nI 2) hx hb dL_law_906 (by decide) ?_
  refine lv_iadd hx hb dL_law_907 ?_
  rw [nI_add]
  refine w_sld hx hb hX hbl hbA hS (k := i + 2) (by omega) hL dL_law_908 ?_
  have hP3 := w_addP (X := hW cJ ao f' (sW cI cZ cR ad na n _ _)) (w := mW cI cZ md _ _) hP
  have hD3 := w_addD (X := hW cJ ao f' (sW cI cZ cR ad na n _ _)) (w := mW cI cZ md _ _) hD
  refine w_calliX (Y := []) hS hA hP3 hD3 (va_runV (As := [.int (xs (i + 1)), .int (xs (i + 2))]) (rest := []) ⟨hx, hb, hml, hown, hts⟩ (c_X4_row l D cI cZ md J U H.size T lst rc kp na g6 g7 g8 g9 g10 g12 g14 g13 g15 g16 g17 fa f3 _ _ _ _ rfl rfl cd hcd) (cwV 2 hts gL_law_X4_row rfl rfl rfl (by decide +kernel) ⟨Nat.le_of_ble_eq_true rfl, Nat.le_of_ble_eq_true rfl⟩) ⟨(w_pre (w_midP hP3) hKm (w_midD hD3) wEnv_true).1, wR_recv (C := RX4) (T := TX4) (N := 18) hKm (w_midP hP3) (ci := 4) rfl 0 (by decide) rfl, (w_pre (w_midP hP3) hKm (w_midD hD3) wEnv_true).2⟩ rfl rfl hl.1 rfl (lv_room (Nat.le_of_ble_eq_true rfl)) dL_law_909 ⟨(by show (cells + 2) + 0 ≤ 601024; omega), (by show (slots + 12) + 0 ≤ 7293034; omega)⟩) (fun br u H locs hm9 hP hD hS => ?_)
  rw [List.append_nil] at hP hD
  refine lv_istore (lv' := [(6, .int br), (5, .int (nI cd)), (0, .ref b), (1, .ref (ad 0)), (2, .ref (md 0)), (3, .ref ao), (4, .int (nI i))]) hx hb dL_law_912 hl (by decide) rfl (fun ls hl => ?_)
  refine lv_aload_n hx hb dL_law_914 rfl (lv_at hl 4 rfl) ?_
  have hP3 := w_addP (X := hW cJ ao f' (sW cI cZ cR ad na n _ _)) (w := mW cI cZ md _ _) hP
  have hD3 := w_addD (X := hW cJ ao f' (sW cI cZ cR ad na n _ _)) (w := mW cI cZ md _ _) hD
  refine w_calliX (Y := []) hS hA hP3 hD3 (va_runV (As := []) (rest := []) ⟨hx, hb, hml, hown, hts⟩ (c_X4_thrown l D cI cZ md _ _ H.size) (cwV 0 hts gL_law_X4_thrown rfl rfl rfl (by decide +kernel) ⟨Nat.le_of_ble_eq_true rfl, Nat.le_of_ble_eq_true rfl⟩) ⟨(w_pre (w_midP hP3) hKm (w_midD hD3) wEnv_true).1, wR_recv (C := RX4) (T := TX4) (N := 18) hKm (w_midP hP3) (ci := 4) rfl 0 (by decide) rfl, (w_pre (w_midP hP3) hKm (w_midD hD3) wEnv_true).2⟩ rfl rfl hl.1 rfl (lv_room (Nat.le_of_ble_eq_true rfl)) dL_law_915 ⟨(by show (cells + 2 + 0) + 0 ≤ 601024; omega), (by show (slots + 12 + 0) + 0 ≤ 7293034; omega)⟩) (fun tr9 u H locs ht9 hP hD hS => ?_)
  rw [List.append_nil] at hP hD
  have ht9 : tr9 = nI cd := ht9.trans (jc_if (fun _ => rfl))
  refine lv_iload hx hb dL_law_918 (lv_at hl 1 rfl) ?_
  refine lv_icmp_eq (tgt := 925) hx hb dL_law_920 (by decide) (fun _ => ?_) (fun c9 => absurd ht9 c9)
  refine lv_iload hx hb dL_law_925 (lv_at hl 1 rfl) ?_
  refine lv_if_ne (tgt := 942) hx hb dL_law_927 (by decide) (fun _ => ?_) (fun c9 => ?_)
  · refine lv_goto (tgt := 1069) hx hb dL_law_942 (by decide) ?_
    refine W.widen (k := cells + 10) (n := slots + 201) (by omega) (by omega) ?_
    exact kk na n ad _ _ _ _ f' H locs ls hn hst hP hD hS (lv_sub hl [2, 3, 4, 5, 6] rfl)
  · have hc9 : cd = 0 := cd_z0 c9 hcd9
    have hfb : f' 0 = br.toInt64 := (hans hc9).trans (congrArg Int32.toInt64 ((hab cd hcd hc9).trans (hm9 hc9).symm))
    refine lv_aload_n hx hb dL_law_930 rfl (lv_at hl 5 rfl) ?_
    refine lv_iconst (v := nI 0) hx hb dL_law_931 (by decide) ?_
    refine va_lald hx hb hK hP 0 3 rfl rfl (vp_in_nI (by decide) (by decide)) dL_law_932 ?_
    rw [nI_clamp (show 0 < 2 ^ 31 by decide), hfb]
    refine lv_iload hx hb dL_law_933 (lv_at hl 0 rfl) ?_
    refine lv_i2l (v := br.toInt64) hx hb dL_law_935 rfl ?_
    refine W.lcmp hx hb dL_law_936 ?_
    refine lv_if_eq (tgt := 942) hx hb dL_law_937 (by decide) (fun _ => ?_) (fun c8 => absurd (lg_same _) c8)
    refine lv_goto (tgt := 1069) hx hb dL_law_942 (by decide) ?_
    refine W.widen (k := cells + 10) (n := slots + 201) (by omega) (by omega) ?_
    exact kk na n ad _ _ _ _ f' H locs ls hn hst hP hD hS (lv_sub hl [2, 3, 4, 5, 6] rfl)

set_option maxHeartbeats 4000000 in
set_option maxRecDepth 100000 in
theorem cs_about {p : Program} {l : Launch} {e : Env} {s : State} {m : MethodId} {below : List Frame} {meth : Method} {c : Code} {b L : Nat} {xs : Nat → Int32} {Q : State → Prop} (hlt : l.stackTraces = false) (C0 : lwC p s m c b L xs) (D : va_G) (cI cZ cR cJ : ClassId) (hE : eL (fun q : Nat => s.heap.size ≤ q) s) (hK : va_K D vwCl (lT cI cZ cR cJ) s) (ao : Nat) (md : Nat → Nat) (i : Nat) (hi : i + 4 ≤ L) (hL : L ≤ 2048) (cn : Nat) (hcn : cn < 512) (na n : Nat) (hn : n = 11 + 6 * na) (ad : Nat → Nat) (I V J U : Nat → Nat → Int32) (f : Nat → Int64) (hrel : rel cn na I V J U) (cells slots : Nat) (hce : cells + 10 ≤ 601024) (hsl : slots + 201 ≤ 7293034) (H : Heap) (locs : List Loc) (ls : Array Slot) (hP : va_P D vwCl (lW cI cZ cR cJ ao f ad na n I V md J U) H) (hD : va_D (fun q : Nat => s.heap.size ≤ q) (lW cI cZ cR cJ ao f ad na n I V md J U)) (hS : va_S (fun q : Nat => s.heap.size ≤ q) s.heap H locs) (hl : lv_has ls 7 [(0, .ref b), (1, .ref (ad 0)), (2, .ref (md 0)), (3, .ref ao), (4, .int (nI i))]) (kk : ∀ (na' n' : Nat) (ad' : Nat → Nat) (I' V' J' U' : Nat → Nat → Int32) (f' : Nat → Int64) (H : Heap) (locs : List Loc) (ls : Array Slot), n' = 11 + 6 * na' → rel (cn + 1) na' I' V' J' U' → va_P D vwCl (lW cI cZ cR cJ ao f' ad' na' n' I' V' md J' U') H → va_D (fun q : Nat => s.heap.size ≤ q) (lW cI cZ cR cJ ao f' ad' na' n' I' V' md J' U') → va_S (fun q : Nat => s.heap.size ≤ q) s.heap H locs → lv_has ls 7 [(0, .ref b), (1, .ref (ad' 0)), (2, .ref (md 0)), (3, .ref ao), (4, .int (nI i))] → W p l e room_1 s m #[Value.ref b] below meth c H locs (cells + 10) (slots + 201) Q (F0 m 1069 ls [])) : W p l e room_1 s m #[Value.ref b] below meth c H locs cells slots Q (F0 m 945 ls []) := by
  obtain ⟨hx, hb, hml, hown, hts, hX, hbl⟩ := C0
  have hA : ∀ q : Nat, s.heap.size ≤ q → (fun q : Nat => s.heap.size ≤ q) q := fun _ h => h
  have hbA : ¬ (fun q : Nat => s.heap.size ≤ q) b := Nat.not_le.mpr hbl
  obtain ⟨hna, hna6⟩ := rel_na hrel
  have hKs : va_K D vwCl (sT cI cZ cR) s := hK.sub [0, 1, 2] rfl
  have hKm : va_K D vwCl (mT cI cZ) s := hK.sub [0, 1] rfl
  obtain ⟨⟨e1, e2, e3⟩, hab⟩ := st_about hrel (xs (i + 1)) (xs (i + 2)) _ _ rfl rfl
  obtain ⟨cd, hcd⟩ : ∃ cd : Nat, cd = if ¬ (0 ≤ (xs (i + 1)).toInt ∧ (xs (i + 1)).toInt ≤ ((na : Nat) : Int) - 1) ∨ ¬ (0 ≤ (xs (i + 2)).toInt ∧ (xs (i + 2)).toInt ≤ 4) then 1 else 0 := ⟨_, rfl⟩
  have hcd9 : cd ≤ 2 := by rw [hcd]; split <;> first | decide | (split <;> decide)
  have hcd2 : ¬ cd = 2 := by rw [hcd]; split <;> decide
  have hst := rel_code hrel (nI cd)
  refine lv_aload_n hx hb dL_law_945 rfl (lv_at hl 1 rfl) ?_
  refine lv_aload_n hx hb dL_law_946 rfl (lv_at hl 0 rfl) ?_
  refine lv_iload hx hb dL_law_947 (lv_at hl 4 rfl) ?_
  refine lv_iconst (v := nI 1) hx hb dL_law_949 (by decide) ?_
  refine lv_iadd hx hb dL_law_950 ?_
  rw [nI_add]
  refine w_sld hx hb hX hbl hbA hS (k := i + 1) (by omega) hL dL_law_951 ?_
  refine lv_aload_n hx hb dL_law_952 rfl (lv_at hl 0 rfl) ?_
  refine lv_iload hx hb dL_law_953 (lv_at hl 4 rfl) ?_
  refine lv_iconst (v := nI 2) hx hb dL_law_955 (by decide) ?_
  refine lv_iadd hx hb dL_law_956 ?_
  rw [nI_add]
  refine w_sld hx hb hX hbl hbA hS (k := i + 2) (by omega) hL dL_law_957 ?_
  refine lv_aload_n hx hb dL_law_958 rfl (lv_at hl 3 rfl) ?_
  have hP3 : va_P D vwCl ([] ++ ((hW cJ ao f (sW cI cZ cR ad na n I V)) ++ (mW cI cZ md J U))) H := hP
  have hD3 : va_D (fun q : Nat => s.heap.size ≤ q) ([] ++ ((hW cJ ao f (sW cI cZ cR ad na n I V)) ++ (mW cI cZ md J U))) := hD
  refine w_calliX (X := []) (w := (hW cJ ao f (sW cI cZ cR ad na n I V))) (Y := (mW cI cZ md J U)) hS hA hP3 hD3 (vx_runSW (As := [.ref (ad 0), .int (xs (i + 1)), .int (xs (i + 2)), .ref ao]) (rest := []) ⟨hx, hb, hml, hown, hts⟩ (h_L_about l D cI cZ cR cJ ao (ad 0) f (sW cI cZ cR ad na n I V) _ (wR_at (r := 0) (by omega) rfl) _ _ cd H.size (xs (i + 1)) (xs (i + 2)) hcd2 (fun sz => c_X3_about l D cI cZ cR ad na n I V sz hlt hn hna hna6 _ _ rfl _ _ rfl cd hcd)) (vx_cwSW 4 hts gL_law_L_about rfl rfl rfl (by decide +kernel) ⟨Nat.le_of_ble_eq_true rfl, Nat.le_of_ble_eq_true rfl⟩) (w_pre (w_midP hP3) hK (w_midD hD3) (eL_env hE hS (w_free (w_midD hD3) hS hA))) rfl rfl hl.1 rfl (lv_room (Nat.le_of_ble_eq_true rfl)) dL_law_959 ⟨(by show cells + 2 ≤ 601024; omega), (by show slots + 12 ≤ 7293034; omega)⟩) (fun kr u H locs hw hP hD hS => ?_)
  obtain ⟨f', w'⟩ := u
  obtain ⟨hkr, hans, hw2⟩ := hQ_fix hw
  subst hkr
  have hw2 : w' = _ := hw2
  subst hw2
  have hans : cd = 0 → f' 0 = _ := hans
  have hP : va_P D vwCl (lW cI cZ cR cJ ao f' ad na n _ _ md J U) H := hP
  have hD : va_D (fun q : Nat => s.heap.size ≤ q) (lW cI cZ cR cJ ao f' ad na n _ _ md J U) := hD
  rw [ite_self, ite_self] at hP hD
  refine lv_istore (lv' := [(5, .int (nI cd)), (0, .ref b), (1, .ref (ad 0)), (2, .ref (md 0)), (3, .ref ao), (4, .int (nI i))]) hx hb dL_law_962 hl (by decide) rfl (fun ls hl => ?_)
  refine lv_aload_n hx hb dL_law_964 rfl (lv_at hl 3 rfl) ?_
  refine lv_aload_n hx hb dL_law_965 rfl (lv_at hl 1 rfl) ?_
  refine lv_iload hx hb dL_law_966 (lv_at hl 5 rfl) ?_
  refine lv_iconst (v := nI 1) hx hb dL_law_968 (by decide) ?_
  refine lv_iadd hx hb dL_law_969 ?_
  rw [nI_add]
  refine w_sld hx hb hX hbl hbA hS (k := i + 1) (by omega) hL dL_law_970 ?_
  refine lv_aload_n hx hb dL_law_971 rfl (lv_at hl 1 rfl) ?_
  refine lv_iload hx hb dL_law_972 (lv_at hl 5 rfl) ?_
  refine lv_iconst (v := nI 2) hx hb dL_law_974 (by decide) ?_
  refine lv_iadd hx hb dL_law_975 ?_
  rw [nI_add]
  refine w_sld hx hb hX hbl hbA hS (k := i + 2) (by omega) hL dL_law_976 ?_
  have hP3 := w_addP (X := hW cJ ao f' (sW cI cZ cR ad na n _ _)) (w := mW cI cZ md _ _) hP
  have hD3 := w_addD (X := hW cJ ao f' (sW cI cZ cR ad na n _ _)) (w := mW cI cZ md _ _) hD
  refine w_calliX (Y := []) hS hA hP3 hD3 (va_runV (As := [.int (xs (i + 1)), .int (xs (i + 2))]) (rest := []) ⟨hx, hb, hml, hown, hts⟩ (c_X4_about l D cI cZ md J U H.size na e2 e3 _ _ rfl _ _ rfl cd hcd) (cwV 2 hts gL_law_X4_about rfl rfl rfl (by decide +kernel) ⟨Nat.le_of_ble_eq_true rfl, Nat.le_of_ble_eq_true rfl⟩) ⟨(w_pre (w_midP hP3) hKm (w_midD hD3) wEnv_true).1, wR_recv (C := RX4) (T := TX4) (N := 18) hKm (w_midP hP3) (ci := 4) rfl 0 (by decide) rfl, (w_pre (w_midP hP3) hKm (w_midD hD3) wEnv_true).2⟩ rfl rfl hl.1 rfl (lv_room (Nat.le_of_ble_eq_true rfl)) dL_law_977 ⟨(by show (cells + 2) + 0 ≤ 601024; omega), (by show (slots + 12) + 0 ≤ 7293034; omega)⟩) (fun br u H locs hm9 hP hD hS => ?_)
  rw [List.append_nil] at hP hD
  refine lv_istore (lv' := [(6, .int br), (5, .int (nI cd)), (0, .ref b), (1, .ref (ad 0)), (2, .ref (md 0)), (3, .ref ao), (4, .int (nI i))]) hx hb dL_law_980 hl (by decide) rfl (fun ls hl => ?_)
  refine lv_aload_n hx hb dL_law_982 rfl (lv_at hl 4 rfl) ?_
  have hP3 := w_addP (X := hW cJ ao f' (sW cI cZ cR ad na n _ _)) (w := mW cI cZ md _ _) hP
  have hD3 := w_addD (X := hW cJ ao f' (sW cI cZ cR ad na n _ _)) (w := mW cI cZ md _ _) hD
  refine w_calliX (Y := []) hS hA hP3 hD3 (va_runV (As := []) (rest := []) ⟨hx, hb, hml, hown, hts⟩ (c_X4_thrown l D cI cZ md _ _ H.size) (cwV 0 hts gL_law_X4_thrown rfl rfl rfl (by decide +kernel) ⟨Nat.le_of_ble_eq_true rfl, Nat.le_of_ble_eq_true rfl⟩) ⟨(w_pre (w_midP hP3) hKm (w_midD hD3) wEnv_true).1, wR_recv (C := RX4) (T := TX4) (N := 18) hKm (w_midP hP3) (ci := 4) rfl 0 (by decide) rfl, (w_pre (w_midP hP3) hKm (w_midD hD3) wEnv_true).2⟩ rfl rfl hl.1 rfl (lv_room (Nat.le_of_ble_eq_true rfl)) dL_law_983 ⟨(by show (cells + 2 + 0) + 0 ≤ 601024; omega), (by show (slots + 12 + 0) + 0 ≤ 7293034; omega)⟩) (fun tr9 u H locs ht9 hP hD hS => ?_)
  rw [List.append_nil] at hP hD
  have ht9 : tr9 = nI cd := ht9.trans (rfl)
  refine lv_iload hx hb dL_law_986 (lv_at hl 1 rfl) ?_
  refine lv_icmp_eq (tgt := 993) hx hb dL_law_988 (by decide) (fun _ => ?_) (fun c9 => absurd ht9 c9)
  refine lv_iload hx hb dL_law_993 (lv_at hl 1 rfl) ?_
  refine lv_if_ne (tgt := 1010) hx hb dL_law_995 (by decide) (fun _ => ?_) (fun c9 => ?_)
  · refine lv_goto (tgt := 1069) hx hb dL_law_1010 (by decide) ?_
    refine W.widen (k := cells + 10) (n := slots + 201) (by omega) (by omega) ?_
    exact kk na n ad _ _ _ _ f' H locs ls hn hst hP hD hS (lv_sub hl [2, 3, 4, 5, 6] rfl)
  · have hc9 : cd = 0 := cd_z0 c9 hcd9
    have hfb : f' 0 = br.toInt64 := (hans hc9).trans (congrArg Int32.toInt64 ((hab cd hcd hc9).trans (hm9 hc9).symm))
    refine lv_aload_n hx hb dL_law_998 rfl (lv_at hl 5 rfl) ?_
    refine lv_iconst (v := nI 0) hx hb dL_law_999 (by decide) ?_
    refine va_lald hx hb hK hP 0 3 rfl rfl (vp_in_nI (by decide) (by decide)) dL_law_1000 ?_
    rw [nI_clamp (show 0 < 2 ^ 31 by decide), hfb]
    refine lv_iload hx hb dL_law_1001 (lv_at hl 0 rfl) ?_
    refine lv_i2l (v := br.toInt64) hx hb dL_law_1003 rfl ?_
    refine W.lcmp hx hb dL_law_1004 ?_
    refine lv_if_eq (tgt := 1010) hx hb dL_law_1005 (by decide) (fun _ => ?_) (fun c8 => absurd (lg_same _) c8)
    refine lv_goto (tgt := 1069) hx hb dL_law_1010 (by decide) ?_
    refine W.widen (k := cells + 10) (n := slots + 201) (by omega) (by omega) ?_
    exact kk na n ad _ _ _ _ f' H locs ls hn hst hP hD hS (lv_sub hl [2, 3, 4, 5, 6] rfl)

set_option maxHeartbeats 4000000 in
set_option maxRecDepth 100000 in
theorem cs_told {p : Program} {l : Launch} {e : Env} {s : State} {m : MethodId} {below : List Frame} {meth : Method} {c : Code} {b L : Nat} {xs : Nat → Int32} {Q : State → Prop} (hlt : l.stackTraces = false) (C0 : lwC p s m c b L xs) (D : va_G) (cI cZ cR cJ : ClassId) (hE : eL (fun q : Nat => s.heap.size ≤ q) s) (hK : va_K D vwCl (lT cI cZ cR cJ) s) (ao : Nat) (md : Nat → Nat) (i : Nat) (hi : i + 4 ≤ L) (hL : L ≤ 2048) (cn : Nat) (hcn : cn < 512) (na n : Nat) (hn : n = 11 + 6 * na) (ad : Nat → Nat) (I V J U : Nat → Nat → Int32) (f : Nat → Int64) (hrel : rel cn na I V J U) (cells slots : Nat) (hce : cells + 10 ≤ 601024) (hsl : slots + 201 ≤ 7293034) (H : Heap) (locs : List Loc) (ls : Array Slot) (hP : va_P D vwCl (lW cI cZ cR cJ ao f ad na n I V md J U) H) (hD : va_D (fun q : Nat => s.heap.size ≤ q) (lW cI cZ cR cJ ao f ad na n I V md J U)) (hS : va_S (fun q : Nat => s.heap.size ≤ q) s.heap H locs) (hl : lv_has ls 7 [(0, .ref b), (1, .ref (ad 0)), (2, .ref (md 0)), (3, .ref ao), (4, .int (nI i))]) (kk : ∀ (na' n' : Nat) (ad' : Nat → Nat) (I' V' J' U' : Nat → Nat → Int32) (f' : Nat → Int64) (H : Heap) (locs : List Loc) (ls : Array Slot), n' = 11 + 6 * na' → rel (cn + 1) na' I' V' J' U' → va_P D vwCl (lW cI cZ cR cJ ao f' ad' na' n' I' V' md J' U') H → va_D (fun q : Nat => s.heap.size ≤ q) (lW cI cZ cR cJ ao f' ad' na' n' I' V' md J' U') → va_S (fun q : Nat => s.heap.size ≤ q) s.heap H locs → lv_has ls 7 [(0, .ref b), (1, .ref (ad' 0)), (2, .ref (md 0)), (3, .ref ao), (4, .int (nI i))] → W p l e room_1 s m #[Value.ref b] below meth c H locs (cells + 10) (slots + 201) Q (F0 m 1069 ls [])) : W p l e room_1 s m #[Value.ref b] below meth c H locs cells slots Q (F0 m 1013 ls []) := by
  obtain ⟨hx, hb, hml, hown, hts, hX, hbl⟩ := C0
  have hA : ∀ q : Nat, s.heap.size ≤ q → (fun q : Nat => s.heap.size ≤ q) q := fun _ h => h
  have hbA : ¬ (fun q : Nat => s.heap.size ≤ q) b := Nat.not_le.mpr hbl
  obtain ⟨hna, hna6⟩ := rel_na hrel
  have hKs : va_K D vwCl (sT cI cZ cR) s := hK.sub [0, 1, 2] rfl
  have hKm : va_K D vwCl (mT cI cZ) s := hK.sub [0, 1] rfl
  obtain ⟨k, q, kp, T, lst, rc, fk, ⟨e1, e2, e3⟩, ⟨e4, e5, e6⟩, ⟨⟨g1, g2, g3, g4, g5⟩, ⟨g6, g7, g8, g9, g10⟩, g11, g12, g13, g14, g15, g16, g17⟩⟩ := st_told hrel (by omega)
  obtain ⟨cd, hcd⟩ : ∃ cd : Nat, cd = if ¬ (0 ≤ (xs (i + 1)).toInt ∧ (xs (i + 1)).toInt ≤ 5) then 1 else 0 := ⟨_, rfl⟩
  have hcd9 : cd ≤ 2 := by rw [hcd]; split <;> first | decide | (split <;> decide)
  have hcd2 : ¬ cd = 2 := by rw [hcd]; split <;> decide
  have hst := st_code (cd := cd) hrel
  refine lv_aload_n hx hb dL_law_1013 rfl (lv_at hl 1 rfl) ?_
  refine lv_aload_n hx hb dL_law_1014 rfl (lv_at hl 0 rfl) ?_
  refine lv_iload hx hb dL_law_1015 (lv_at hl 4 rfl) ?_
  refine lv_iconst (v := nI 1) hx hb dL_law_1017 (by decide) ?_
  refine lv_iadd hx hb dL_law_1018 ?_
  rw [nI_add]
  refine w_sld hx hb hX hbl hbA hS (k := i + 1) (by omega) hL dL_law_1019 ?_
  refine lv_aload_n hx hb dL_law_1020 rfl (lv_at hl 3 rfl) ?_
  have hP3 : va_P D vwCl ([] ++ ((hW cJ ao f (sW cI cZ cR ad na n I V)) ++ (mW cI cZ md J U))) H := hP
  have hD3 : va_D (fun q : Nat => s.heap.size ≤ q) ([] ++ ((hW cJ ao f (sW cI cZ cR ad na n I V)) ++ (mW cI cZ md J U))) := hD
  refine w_calliX (X := []) (w := (hW cJ ao f (sW cI cZ cR ad na n I V))) (Y := (mW cI cZ md J U)) hS hA hP3 hD3 (vx_runSW (As := [.ref (ad 0), .int (xs (i + 1)), .ref ao]) (rest := []) ⟨hx, hb, hml, hown, hts⟩ (h_L_told l D cI cZ cR cJ ao (ad 0) f (sW cI cZ cR ad na n I V) _ (wR_at (r := 0) (by omega) rfl) _ _ cd H.size (xs (i + 1)) hcd2 (fun sz => c_X3_told l D cI cZ cR ad na n I V sz hlt hn hna hna6 k e1 e3 q e4 T lst rc g2 g3 g4 _ _ rfl cd hcd)) (vx_cwSW 3 hts gL_law_L_told rfl rfl rfl (by decide +kernel) ⟨Nat.le_of_ble_eq_true rfl, Nat.le_of_ble_eq_true rfl⟩) (w_pre (w_midP hP3) hK (w_midD hD3) (eL_env hE hS (w_free (w_midD hD3) hS hA))) rfl rfl hl.1 rfl (lv_room (Nat.le_of_ble_eq_true rfl)) dL_law_1021 ⟨(by show cells + 1 ≤ 601024; omega), (by show slots + 6 ≤ 7293034; omega)⟩) (fun kr u H locs hw hP hD hS => ?_)
  obtain ⟨f', w'⟩ := u
  obtain ⟨hkr, hans, hw2⟩ := hQ_fix hw
  subst hkr
  have hw2 : w' = _ := hw2
  subst hw2
  have hans : cd = 0 → f' 0 = _ := hans
  have hP : va_P D vwCl (lW cI cZ cR cJ ao f' ad na n _ _ md J U) H := hP
  have hD : va_D (fun q : Nat => s.heap.size ≤ q) (lW cI cZ cR cJ ao f' ad na n _ _ md J U) := hD
  rw [ite_self, ite_self] at hP hD
  refine lv_istore (lv' := [(5, .int (nI cd)), (0, .ref b), (1, .ref (ad 0)), (2, .ref (md 0)), (3, .ref ao), (4, .int (nI i))]) hx hb dL_law_1024 hl (by decide) rfl (fun ls hl => ?_)
  refine lv_aload_n hx hb dL_law_1026 rfl (lv_at hl 3 rfl) ?_
  refine lv_aload_n hx hb dL_law_1027 rfl (lv_at hl 1 rfl) ?_
  refine lv_iload hx hb dL_law_1028 (lv_at hl 5 rfl) ?_
  refine lv_iconst (v := nI 1) hx hb dL_law_1030 (by decide) ?_
  refine lv_iadd hx hb dL_law_1031 ?_
  rw [nI_add]
  refine w_sld hx hb hX hbl hbA hS (k := i + 1) (by omega) hL dL_law_1032 ?_
  have hP3 := w_addP (X := hW cJ ao f' (sW cI cZ cR ad na n _ _)) (w := mW cI cZ md _ _) hP
  have hD3 := w_addD (X := hW cJ ao f' (sW cI cZ cR ad na n _ _)) (w := mW cI cZ md _ _) hD
  refine w_calliX (Y := []) hS hA hP3 hD3 (va_runV (As := [.int (xs (i + 1))]) (rest := []) ⟨hx, hb, hml, hown, hts⟩ (c_X4_told l D cI cZ md J U H.size k e2 e3 q e5 e6 T lst rc kp na g6 g7 g8 g9 g10 g12 g14 g13 g15 g16 g17 _ _ rfl cd hcd) (cwV 1 hts gL_law_X4_told rfl rfl rfl (by decide +kernel) ⟨Nat.le_of_ble_eq_true rfl, Nat.le_of_ble_eq_true rfl⟩) ⟨(w_pre (w_midP hP3) hKm (w_midD hD3) wEnv_true).1, wR_recv (C := RX4) (T := TX4) (N := 18) hKm (w_midP hP3) (ci := 4) rfl 0 (by decide) rfl, (w_pre (w_midP hP3) hKm (w_midD hD3) wEnv_true).2⟩ rfl rfl hl.1 rfl (lv_room (Nat.le_of_ble_eq_true rfl)) dL_law_1033 ⟨(by show (cells + 1) + 0 ≤ 601024; omega), (by show (slots + 6) + 0 ≤ 7293034; omega)⟩) (fun br u H locs hm9 hP hD hS => ?_)
  rw [List.append_nil] at hP hD
  refine lv_istore (lv' := [(6, .int br), (5, .int (nI cd)), (0, .ref b), (1, .ref (ad 0)), (2, .ref (md 0)), (3, .ref ao), (4, .int (nI i))]) hx hb dL_law_1036 hl (by decide) rfl (fun ls hl => ?_)
  refine lv_aload_n hx hb dL_law_1038 rfl (lv_at hl 4 rfl) ?_
  have hP3 := w_addP (X := hW cJ ao f' (sW cI cZ cR ad na n _ _)) (w := mW cI cZ md _ _) hP
  have hD3 := w_addD (X := hW cJ ao f' (sW cI cZ cR ad na n _ _)) (w := mW cI cZ md _ _) hD
  refine w_calliX (Y := []) hS hA hP3 hD3 (va_runV (As := []) (rest := []) ⟨hx, hb, hml, hown, hts⟩ (c_X4_thrown l D cI cZ md _ _ H.size) (cwV 0 hts gL_law_X4_thrown rfl rfl rfl (by decide +kernel) ⟨Nat.le_of_ble_eq_true rfl, Nat.le_of_ble_eq_true rfl⟩) ⟨(w_pre (w_midP hP3) hKm (w_midD hD3) wEnv_true).1, wR_recv (C := RX4) (T := TX4) (N := 18) hKm (w_midP hP3) (ci := 4) rfl 0 (by decide) rfl, (w_pre (w_midP hP3) hKm (w_midD hD3) wEnv_true).2⟩ rfl rfl hl.1 rfl (lv_room (Nat.le_of_ble_eq_true rfl)) dL_law_1039 ⟨(by show (cells + 1 + 0) + 0 ≤ 601024; omega), (by show (slots + 6 + 0) + 0 ≤ 7293034; omega)⟩) (fun tr9 u H locs ht9 hP hD hS => ?_)
  rw [List.append_nil] at hP hD
  have ht9 : tr9 = nI cd := ht9.trans (jc_if (fun _ => rfl))
  refine lv_iload hx hb dL_law_1042 (lv_at hl 1 rfl) ?_
  refine lv_icmp_eq (tgt := 1049) hx hb dL_law_1044 (by decide) (fun _ => ?_) (fun c9 => absurd ht9 c9)
  refine lv_iload hx hb dL_law_1049 (lv_at hl 1 rfl) ?_
  refine lv_if_ne (tgt := 1066) hx hb dL_law_1051 (by decide) (fun _ => ?_) (fun c9 => ?_)
  · refine lv_goto (tgt := 1069) hx hb dL_law_1066 (by decide) ?_
    refine W.widen (k := cells + 10) (n := slots + 201) (by omega) (by omega) ?_
    exact kk na n ad _ _ _ _ f' H locs ls hn hst hP hD hS (lv_sub hl [2, 3, 4, 5, 6] rfl)
  · have hc9 : cd = 0 := cd_z0 c9 hcd9
    have hfb : f' 0 = br.toInt64 := (hans hc9).trans (congrArg Int32.toInt64 ((rfl).trans (hm9 hc9).symm))
    refine lv_aload_n hx hb dL_law_1054 rfl (lv_at hl 5 rfl) ?_
    refine lv_iconst (v := nI 0) hx hb dL_law_1055 (by decide) ?_
    refine va_lald hx hb hK hP 0 3 rfl rfl (vp_in_nI (by decide) (by decide)) dL_law_1056 ?_
    rw [nI_clamp (show 0 < 2 ^ 31 by decide), hfb]
    refine lv_iload hx hb dL_law_1057 (lv_at hl 0 rfl) ?_
    refine lv_i2l (v := br.toInt64) hx hb dL_law_1059 rfl ?_
    refine W.lcmp hx hb dL_law_1060 ?_
    refine lv_if_eq (tgt := 1066) hx hb dL_law_1061 (by decide) (fun _ => ?_) (fun c8 => absurd (lg_same _) c8)
    refine lv_goto (tgt := 1069) hx hb dL_law_1066 (by decide) ?_
    refine W.widen (k := cells + 10) (n := slots + 201) (by omega) (by omega) ?_
    exact kk na n ad _ _ _ _ f' H locs ls hn hst hP hD hS (lv_sub hl [2, 3, 4, 5, 6] rfl)
