/-! ===== the law's helpers: the class's method within try .. catch; the answer goes into out[0], the exception's number is returned ===== -/
abbrev lT (cI cZ cR cJ : ClassId) : List (ClassId × FieldType) := [(cI, .int), (cZ, .boolean), (cR, .object RX1), (cJ, .long)]
abbrev hW (cJ : ClassId) (ao : Nat) (f : Nat → Int64) (w : va_W) : va_W := (ao, .inl (cJ, 1, .inr (.inl f))) :: w
def eL (A : Nat → Prop) (U : State) : Prop := eX A U ∧ va_Nc "java/lang/IllegalStateException" "java/lang/IllegalArgumentException" U
theorem eL_env {A : Nat → Prop} {s : State} {H : Heap} {w : va_W} {locs : List Loc} (h : eL A s) (hS : va_S A s.heap H locs) (hF : ∀ q, va_A w H.size q → A q) : wEnv (eL (va_A w H.size)) s H :=
  ⟨fun U g mk a hU => ⟨(eX_env h.1 hS hF).1 U g mk a hU.1, va_Nc.moved (u := U) (U := U.calling g mk a) (Vm.Alike.refl U.vm) hU.2⟩, fun U hU hW => ⟨(eX_env h.1 hS hF).2 U hU hW, va_Nc.moved hW.alike h.2⟩⟩
/-- what a helper that stores an answer leaves -/
def hQ {S : Type} (cd : Nat) (w : va_W) (post : Int32 → S → Prop) (B : S → va_W) : Int32 → (Nat → Int64) × va_W → Prop := fun k u => k = nI cd ∧ (cd = 0 → ∃ (r : Int32) (v : S), post r v ∧ u.1 0 = r.toInt64 ∧ u.2 = B v) ∧ (¬ cd = 0 → u.2 = w)
/-- and one that stores none -/
def hV {S : Type} (cd : Nat) (w : va_W) (post : S → Prop) (B : S → va_W) : Int32 → va_W → Prop := fun k u => k = nI cd ∧ (cd = 0 → ∃ v : S, post v ∧ u = B v) ∧ (¬ cd = 0 → u = w)
theorem vp_upd0 (f : Nat → Int64) (x : Int64) : vp_updL f (nI 0).toNatClampNeg x 0 = x := by
  rw [nI_clamp (by decide)]
  rfl

set_option maxHeartbeats 4000000 in
set_option maxRecDepth 100000 in
theorem h_L_fact (l : Launch) (D : va_G) (cI cZ cR cJ : ClassId) (ao a0 : Nat) (f0 : Nat → Int64) (w : va_W) (fs0 : List Value) (hw0 : w[0]? = some (a0, .inr (3, fs0))) {S : Type} (post : Int32 → S → Prop) (B : S → va_W) (cd sz : Nat) (p1 p2 : Int32) (hM : ∀ sz : Nat, vx_Met l yX3_fact wsX3_fact ({ frames := 7, cells := 3, slots := 18, locals := 102 } : Room) (va_Pc [.ref a0, .int p1, .int p2] (wPre D vwCl (sT cI cZ cR) w sz (eX (va_A w sz)))) (va_Qi (fun r u => cd = 0 ∧ post r u) (wPost D vwCl (sT cI cZ cR) B (va_A w sz)) (va_A w sz)) (wXc D vwCl (sT cI cZ cR) w (va_A w sz) cd) 3 18 (va_A w sz)) : Met l yL_fact wsL_fact ({ frames := 8, cells := 3, slots := 18, locals := 124 } : Room) (va_Pc [.ref a0, .int p1, .int p2, .ref ao] (wPre D vwCl (lT cI cZ cR cJ) (hW cJ ao f0 w) sz (eL (va_A (hW cJ ao f0 w) sz)))) (va_Qi (hQ cd w post B) (wPost D vwCl (lT cI cZ cR cJ) (fun u => hW cJ ao u.1 u.2) (va_A (hW cJ ao f0 w) sz)) (va_A (hW cJ ao f0 w) sz)) 3 18 (va_A (hW cJ ao f0 w) sz) := by
  refine va_MetW (cc := cL_fact) (maxL := 5) (ret := some .int) (hh := [(0, 10, 13, 13), (0, 10, 17, 15)]) (by decide) rfl ?_
  intro p e s m args below meth c s₁ Bd hml hv
  obtain ⟨rfl, hsz, hP, hK, hD0, hE⟩ := hv
  have hx := Bd.exec
  have hb := Bd.bytes
  have hr := Bd.returns
  have hts := atoms_spec (ws := wsL_fact) Bd.pre
  have hown : s.vm.findClass RL = some m.cls := findClass_of_methodNamed Bd.named
  have hlocks := Bd.notSynchronized
  have htab : c.exceptionTable.toList = tableOf [(0, 10, 13, 13), (0, 10, 17, 15)] := vx_table (x := yL_fact) Bd (hts (.codeWith yL_fact cL_fact 5 (some .int) [(0, 10, 13, 13), (0, 10, 17, 15)]) List.mem_cons_self)
  subst hsz
  have hD := hD0.self (sz := s.heap.size)
  generalize hAe : va_A (hW cJ ao f0 w) s.heap.size = A at hD hE ⊢
  have hA : ∀ q : Nat, s.heap.size ≤ q → A q := fun q h => by rw [← hAe]; exact Or.inr h
  have hS : va_S A s.heap s.heap [] := va_S.rf
  have hl := lv_entry ([.ref a0, .int p1, .int p2, .ref ao]) (n := 5) (Nat.le_of_ble_eq_true rfl)
  rw [lg_entry_eq]
  generalize (lg_sl ([.ref a0, .int p1, .int p2, .ref ao]) ++ List.replicate (5 - (lg_sl ([.ref a0, .int p1, .int p2, .ref ao])).length) Slot.unset).toArray = ls at hl ⊢
  have hl : lv_has ls 5 [(0, .ref a0), (1, .int p1), (2, .int p2), (3, .ref ao)] := hl
  obtain ⟨hE, hNc⟩ := hE
  obtain ⟨eN1, eA, eS, eR⟩ := id hE
  have hP3 : va_P D vwCl ([(ao, .inl (cJ, 1, .inr (.inl f0)))] ++ (w ++ [])) s.heap := by rw [List.append_nil]; exact hP
  have hD3 : va_D A ([(ao, .inl (cJ, 1, .inr (.inl f0)))] ++ (w ++ [])) := by rw [List.append_nil]; exact hD
  have hPw := w_midP hP3
  have hDw := w_midD hD3
  have hKw : va_K D vwCl (sT cI cZ cR) s := hK.sub [0, 1, 2] rfl
  refine lv_aload_n hx hb dL_fact_0 rfl (lv_at hl 3 rfl) ?_
  refine lv_iconst (v := nI 0) hx hb dL_fact_1 (by decide) ?_
  refine lv_aload_n hx hb dL_fact_2 rfl (lv_at hl 0 rfl) ?_
  refine lv_iload_n hx hb dL_fact_3 rfl (lv_at hl 1 rfl) ?_
  refine lv_iload_n hx hb dL_fact_4 rfl (lv_at hl 2 rfl) ?_
  refine w_callxiX (X := [(ao, .inl (cJ, 1, .inr (.inl f0)))]) (w := w) (Y := []) hS hA hP3 hD3 (vx_runV (As := [.int p1, .int p2]) (rest := [.int (nI 0), .ref ao]) ⟨hx, hb, hml, hown, hts⟩ (hM s.heap.size) (cwV 2 hts gL_fact_X3_fact rfl rfl rfl (by decide +kernel) ⟨Nat.le_of_ble_eq_true rfl, Nat.le_of_ble_eq_true rfl⟩) ⟨(w_pre hPw hKw hDw (eX_env hE hS (w_free hDw hS hA))).1, va_recv hKw hPw (show vwCl[3]? = some (RX3, TX3, 4) from rfl) hw0, (w_pre hPw hKw hDw (eX_env hE hS (w_free hDw hS hA))).2⟩ rfl rfl hl.1 rfl (lv_room (Nat.le_of_ble_eq_true rfl)) dL_fact_5 ⟨Nat.le_of_ble_eq_true rfl, Nat.le_of_ble_eq_true rfl⟩) (fun E9 ce q9 H locs hxc hP hS hce hcv hcl => ?_) (fun r u H locs hw hP hD hS => ?_)
  · rw [List.append_nil] at hP
    rcases hxc with ⟨rfl, hc9⟩ | ⟨rfl, hc9⟩
    · refine vx_catch (name := "java/lang/IllegalArgumentException") hown [] ⟨0, 10, 13, 13⟩ [⟨0, 10, 17, 15⟩] (by rw [htab]; rfl) (fun z hz => absurd hz List.not_mem_nil) (by decide) (by decide) (hts (.classLink RL 13 "java/lang/IllegalArgumentException") (by decide +kernel)) (va_Nw.use rfl eA) hce hcv hcl ?_
      refine lv_astore (lv' := [(4, .ref q9), (0, .ref a0), (1, .int p1), (2, .int p2), (3, .ref ao)]) hx hb dL_fact_13 hl (by decide) rfl (fun ls hl => ?_)
      refine lv_iconst (v := nI 1) hx hb dL_fact_15 (by decide) ?_
      refine W.widen (k := 3) (n := 18) (Nat.le_of_ble_eq_true rfl) (Nat.le_of_ble_eq_true rfl) ?_
      exact W.iret (v := nI 1) hx hb hr (fun t ht hW9 => ⟨⟨nI 1, (f0, w), rfl, ⟨by rw [hc9], fun h9 => absurd (hc9.symm.trans h9) (by decide), fun _ => rfl⟩, by rw [ht]; exact hP, va_K.moved hW9.alike hK, hD⟩, hS.F ht⟩) hS.2.2 dL_fact_16
    · refine vx_catch (name := "java/lang/IllegalStateException") hown [⟨0, 10, 13, 13⟩] ⟨0, 10, 17, 15⟩ [] (by rw [htab]; rfl) (fun z hz => Or.inr ?_) (by decide) (by decide) (hts (.classLink RL 15 "java/lang/IllegalStateException") (by decide +kernel)) (va_Nw.use rfl eS) hce hcv hcl ?_
      · rw [List.mem_singleton] at hz
        subst hz
        exact ⟨by decide, "java/lang/IllegalArgumentException", hts (.classLink RL 13 "java/lang/IllegalArgumentException") (by decide +kernel), hNc⟩
      · skip
        refine lv_astore (lv' := [(4, .ref q9), (0, .ref a0), (1, .int p1), (2, .int p2), (3, .ref ao)]) hx hb dL_fact_17 hl (by decide) rfl (fun ls hl => ?_)
        refine lv_iconst (v := nI 2) hx hb dL_fact_19 (by decide) ?_
        refine W.widen (k := 3) (n := 18) (Nat.le_of_ble_eq_true rfl) (Nat.le_of_ble_eq_true rfl) ?_
        exact W.iret (v := nI 2) hx hb hr (fun t ht hW9 => ⟨⟨nI 2, (f0, w), rfl, ⟨by rw [hc9], fun h9 => absurd (hc9.symm.trans h9) (by decide), fun _ => rfl⟩, by rw [ht]; exact hP, va_K.moved hW9.alike hK, hD⟩, hS.F ht⟩) hS.2.2 dL_fact_20
  · rw [List.append_nil] at hP hD
    refine lv_i2l (v := r.toInt64) hx hb dL_fact_8 rfl ?_
    refine va_last hx hb hK hP hD hS 0 3 rfl rfl (vp_in_nI (by decide) (by decide)) dL_fact_9 (fun H locs hP hD hS => ?_)
    refine lv_goto (tgt := 21) hx hb dL_fact_10 (by decide) ?_
    refine lv_iconst (v := nI 0) hx hb dL_fact_21 (by decide) ?_
    refine W.widen (k := 3) (n := 18) (Nat.le_of_ble_eq_true rfl) (Nat.le_of_ble_eq_true rfl) ?_
    exact W.iret (v := nI 0) hx hb hr (fun t ht hW9 => ⟨⟨nI 0, (vp_updL f0 (nI 0).toNatClampNeg r.toInt64, B u), rfl, ⟨by rw [hw.1], fun _ => ⟨r, u, hw.2, vp_upd0 f0 r.toInt64, rfl⟩, fun h9 => absurd hw.1 h9⟩, by rw [ht]; exact hP, va_K.moved hW9.alike hK, hD⟩, hS.F ht⟩) hS.2.2 dL_fact_22

set_option maxHeartbeats 4000000 in
set_option maxRecDepth 100000 in
theorem h_L_change (l : Launch) (D : va_G) (cI cZ cR cJ : ClassId) (ao a0 : Nat) (f0 : Nat → Int64) (w : va_W) (fs0 : List Value) (hw0 : w[0]? = some (a0, .inr (3, fs0))) {S : Type} (post : Int32 → S → Prop) (B : S → va_W) (cd sz : Nat) (p1 p2 : Int32) (hM : ∀ sz : Nat, vx_Met l yX3_change wsX3_change ({ frames := 7, cells := 2, slots := 12, locals := 102 } : Room) (va_Pc [.ref a0, .int p1, .int p2] (wPre D vwCl (sT cI cZ cR) w sz (eX (va_A w sz)))) (va_Qi (fun r u => cd = 0 ∧ post r u) (wPost D vwCl (sT cI cZ cR) B (va_A w sz)) (va_A w sz)) (wXc D vwCl (sT cI cZ cR) w (va_A w sz) cd) 2 12 (va_A w sz)) : Met l yL_change wsL_change ({ frames := 8, cells := 2, slots := 12, locals := 124 } : Room) (va_Pc [.ref a0, .int p1, .int p2, .ref ao] (wPre D vwCl (lT cI cZ cR cJ) (hW cJ ao f0 w) sz (eL (va_A (hW cJ ao f0 w) sz)))) (va_Qi (hQ cd w post B) (wPost D vwCl (lT cI cZ cR cJ) (fun u => hW cJ ao u.1 u.2) (va_A (hW cJ ao f0 w) sz)) (va_A (hW cJ ao f0 w) sz)) 2 12 (va_A (hW cJ ao f0 w) sz) := by
  refine va_MetW (cc := cL_change) (maxL := 5) (ret := some .int) (hh := [(0, 10, 13, 13), (0, 10, 17, 15)]) (by decide) rfl ?_
  intro p e s m args below meth c s₁ Bd hml hv
  obtain ⟨rfl, hsz, hP, hK, hD0, hE⟩ := hv
  have hx := Bd.exec
  have hb := Bd.bytes
  have hr := Bd.returns
  have hts := atoms_spec (ws := wsL_change) Bd.pre
  have hown : s.vm.findClass RL = some m.cls := findClass_of_methodNamed Bd.named
  have hlocks := Bd.notSynchronized
  have htab : c.exceptionTable.toList = tableOf [(0, 10, 13, 13), (0, 10, 17, 15)] := vx_table (x := yL_change) Bd (hts (.codeWith yL_change cL_change 5 (some .int) [(0, 10, 13, 13), (0, 10, 17, 15)]) List.mem_cons_self)
  subst hsz
  have hD := hD0.self (sz := s.heap.size)
  generalize hAe : va_A (hW cJ ao f0 w) s.heap.size = A at hD hE ⊢
  have hA : ∀ q : Nat, s.heap.size ≤ q → A q := fun q h => by rw [← hAe]; exact Or.inr h
  have hS : va_S A s.heap s.heap [] := va_S.rf
  have hl := lv_entry ([.ref a0, .int p1, .int p2, .ref ao]) (n := 5) (Nat.le_of_ble_eq_true rfl)
  rw [lg_entry_eq]
  generalize (lg_sl ([.ref a0, .int p1, .int p2, .ref ao]) ++ List.replicate (5 - (lg_sl ([.ref a0, .int p1, .int p2, .ref ao])).length) Slot.unset).toArray = ls at hl ⊢
  have hl : lv_has ls 5 [(0, .ref a0), (1, .int p1), (2, .int p2), (3, .ref ao)] := hl
  obtain ⟨hE, hNc⟩ := hE
  obtain ⟨eN1, eA, eS, eR⟩ := id hE
  have hP3 : va_P D vwCl ([(ao, .inl (cJ, 1, .inr (.inl f0)))] ++ (w ++ [])) s.heap := by rw [List.append_nil]; exact hP
  have hD3 : va_D A ([(ao, .inl (cJ, 1, .inr (.inl f0)))] ++ (w ++ [])) := by rw [List.append_nil]; exact hD
  have hPw := w_midP hP3
  have hDw := w_midD hD3
  have hKw : va_K D vwCl (sT cI cZ cR) s := hK.sub [0, 1, 2] rfl
  refine lv_aload_n hx hb dL_change_0 rfl (lv_at hl 3 rfl) ?_
  refine lv_iconst (v := nI 0) hx hb dL_change_1 (by decide) ?_
  refine lv_aload_n hx hb dL_change_2 rfl (lv_at hl 0 rfl) ?_
  refine lv_iload_n hx hb dL_change_3 rfl (lv_at hl 1 rfl) ?_
  refine lv_iload_n hx hb dL_change_4 rfl (lv_at hl 2 rfl) ?_
  refine w_callxiX (X := [(ao, .inl (cJ, 1, .inr (.inl f0)))]) (w := w) (Y := []) hS hA hP3 hD3 (vx_runV (As := [.int p1, .int p2]) (rest := [.int (nI 0), .ref ao]) ⟨hx, hb, hml, hown, hts⟩ (hM s.heap.size) (cwV 2 hts gL_change_X3_change rfl rfl rfl (by decide +kernel) ⟨Nat.le_of_ble_eq_true rfl, Nat.le_of_ble_eq_true rfl⟩) ⟨(w_pre hPw hKw hDw (eX_env hE hS (w_free hDw hS hA))).1, va_recv hKw hPw (show vwCl[3]? = some (RX3, TX3, 4) from rfl) hw0, (w_pre hPw hKw hDw (eX_env hE hS (w_free hDw hS hA))).2⟩ rfl rfl hl.1 rfl (lv_room (Nat.le_of_ble_eq_true rfl)) dL_change_5 ⟨Nat.le_of_ble_eq_true rfl, Nat.le_of_ble_eq_true rfl⟩) (fun E9 ce q9 H locs hxc hP hS hce hcv hcl => ?_) (fun r u H locs hw hP hD hS => ?_)
  · rw [List.append_nil] at hP
    rcases hxc with ⟨rfl, hc9⟩ | ⟨rfl, hc9⟩
    · refine vx_catch (name := "java/lang/IllegalArgumentException") hown [] ⟨0, 10, 13, 13⟩ [⟨0, 10, 17, 15⟩] (by rw [htab]; rfl) (fun z hz => absurd hz List.not_mem_nil) (by decide) (by decide) (hts (.classLink RL 13 "java/lang/IllegalArgumentException") (by decide +kernel)) (va_Nw.use rfl eA) hce hcv hcl ?_
      refine lv_astore (lv' := [(4, .ref q9), (0, .ref a0), (1, .int p1), (2, .int p2), (3, .ref ao)]) hx hb dL_change_13 hl (by decide) rfl (fun ls hl => ?_)
      refine lv_iconst (v := nI 1) hx hb dL_change_15 (by decide) ?_
      refine W.widen (k := 2) (n := 12) (Nat.le_of_ble_eq_true rfl) (Nat.le_of_ble_eq_true rfl) ?_
      exact W.iret (v := nI 1) hx hb hr (fun t ht hW9 => ⟨⟨nI 1, (f0, w), rfl, ⟨by rw [hc9], fun h9 => absurd (hc9.symm.trans h9) (by decide), fun _ => rfl⟩, by rw [ht]; exact hP, va_K.moved hW9.alike hK, hD⟩, hS.F ht⟩) hS.2.2 dL_change_16
    · refine vx_catch (name := "java/lang/IllegalStateException") hown [⟨0, 10, 13, 13⟩] ⟨0, 10, 17, 15⟩ [] (by rw [htab]; rfl) (fun z hz => Or.inr ?_) (by decide) (by decide) (hts (.classLink RL 15 "java/lang/IllegalStateException") (by decide +kernel)) (va_Nw.use rfl eS) hce hcv hcl ?_
      · rw [List.mem_singleton] at hz
        subst hz
        exact ⟨by decide, "java/lang/IllegalArgumentException", hts (.classLink RL 13 "java/lang/IllegalArgumentException") (by decide +kernel), hNc⟩
      · skip
        refine lv_astore (lv' := [(4, .ref q9), (0, .ref a0), (1, .int p1), (2, .int p2), (3, .ref ao)]) hx hb dL_change_17 hl (by decide) rfl (fun ls hl => ?_)
        refine lv_iconst (v := nI 2) hx hb dL_change_19 (by decide) ?_
        refine W.widen (k := 2) (n := 12) (Nat.le_of_ble_eq_true rfl) (Nat.le_of_ble_eq_true rfl) ?_
        exact W.iret (v := nI 2) hx hb hr (fun t ht hW9 => ⟨⟨nI 2, (f0, w), rfl, ⟨by rw [hc9], fun h9 => absurd (hc9.symm.trans h9) (by decide), fun _ => rfl⟩, by rw [ht]; exact hP, va_K.moved hW9.alike hK, hD⟩, hS.F ht⟩) hS.2.2 dL_change_20
  · rw [List.append_nil] at hP hD
    refine lv_i2l (v := r.toInt64) hx hb dL_change_8 rfl ?_
    refine va_last hx hb hK hP hD hS 0 3 rfl rfl (vp_in_nI (by decide) (by decide)) dL_change_9 (fun H locs hP hD hS => ?_)
    refine lv_goto (tgt := 21) hx hb dL_change_10 (by decide) ?_
    refine lv_iconst (v := nI 0) hx hb dL_change_21 (by decide) ?_
    refine W.widen (k := 2) (n := 12) (Nat.le_of_ble_eq_true rfl) (Nat.le_of_ble_eq_true rfl) ?_
    exact W.iret (v := nI 0) hx hb hr (fun t ht hW9 => ⟨⟨nI 0, (vp_updL f0 (nI 0).toNatClampNeg r.toInt64, B u), rfl, ⟨by rw [hw.1], fun _ => ⟨r, u, hw.2, vp_upd0 f0 r.toInt64, rfl⟩, fun h9 => absurd hw.1 h9⟩, by rw [ht]; exact hP, va_K.moved hW9.alike hK, hD⟩, hS.F ht⟩) hS.2.2 dL_change_22

set_option maxHeartbeats 4000000 in
set_option maxRecDepth 100000 in
theorem h_L_contains (l : Launch) (D : va_G) (cI cZ cR cJ : ClassId) (ao a0 : Nat) (f0 : Nat → Int64) (w : va_W) (fs0 : List Value) (hw0 : w[0]? = some (a0, .inr (3, fs0))) {S : Type} (post : Int32 → S → Prop) (B : S → va_W) (cd sz : Nat) (p1 : Int32) (hcd2 : ¬ cd = 2) (h01 : ∀ r u, post r u → r = 0 ∨ r = 1) (hM : ∀ sz : Nat, vx_Met l yX3_contains wsX3_contains ({ frames := 7, cells := 1, slots := 6, locals := 102 } : Room) (va_Pc [.ref a0, .int p1] (wPre D vwCl (sT cI cZ cR) w sz (eX (va_A w sz)))) (va_Qi (fun r u => cd = 0 ∧ post r u) (wPost D vwCl (sT cI cZ cR) B (va_A w sz)) (va_A w sz)) (wXc D vwCl (sT cI cZ cR) w (va_A w sz) cd) 1 6 (va_A w sz)) : Met l yL_contains wsL_contains ({ frames := 8, cells := 1, slots := 6, locals := 123 } : Room) (va_Pc [.ref a0, .int p1, .ref ao] (wPre D vwCl (lT cI cZ cR cJ) (hW cJ ao f0 w) sz (eL (va_A (hW cJ ao f0 w) sz)))) (va_Qi (hQ cd w post B) (wPost D vwCl (lT cI cZ cR cJ) (fun u => hW cJ ao u.1 u.2) (va_A (hW cJ ao f0 w) sz)) (va_A (hW cJ ao f0 w) sz)) 1 6 (va_A (hW cJ ao f0 w) sz) := by
  refine va_MetW (cc := cL_contains) (maxL := 4) (ret := some .int) (hh := [(0, 16, 19, 13)]) (by decide) rfl ?_
  intro p e s m args below meth c s₁ Bd hml hv
  obtain ⟨rfl, hsz, hP, hK, hD0, hE⟩ := hv
  have hx := Bd.exec
  have hb := Bd.bytes
  have hr := Bd.returns
  have hts := atoms_spec (ws := wsL_contains) Bd.pre
  have hown : s.vm.findClass RL = some m.cls := findClass_of_methodNamed Bd.named
  have hlocks := Bd.notSynchronized
  have htab : c.exceptionTable.toList = tableOf [(0, 16, 19, 13)] := vx_table (x := yL_contains) Bd (hts (.codeWith yL_contains cL_contains 4 (some .int) [(0, 16, 19, 13)]) List.mem_cons_self)
  subst hsz
  have hD := hD0.self (sz := s.heap.size)
  generalize hAe : va_A (hW cJ ao f0 w) s.heap.size = A at hD hE ⊢
  have hA : ∀ q : Nat, s.heap.size ≤ q → A q := fun q h => by rw [← hAe]; exact Or.inr h
  have hS : va_S A s.heap s.heap [] := va_S.rf
  have hl := lv_entry ([.ref a0, .int p1, .ref ao]) (n := 4) (Nat.le_of_ble_eq_true rfl)
  rw [lg_entry_eq]
  generalize (lg_sl ([.ref a0, .int p1, .ref ao]) ++ List.replicate (4 - (lg_sl ([.ref a0, .int p1, .ref ao])).length) Slot.unset).toArray = ls at hl ⊢
  have hl : lv_has ls 4 [(0, .ref a0), (1, .int p1), (2, .ref ao)] := hl
  obtain ⟨hE, hNc⟩ := hE
  obtain ⟨eN1, eA, eS, eR⟩ := id hE
  have hP3 : va_P D vwCl ([(ao, .inl (cJ, 1, .inr (.inl f0)))] ++ (w ++ [])) s.heap := by rw [List.append_nil]; exact hP
  have hD3 : va_D A ([(ao, .inl (cJ, 1, .inr (.inl f0)))] ++ (w ++ [])) := by rw [List.append_nil]; exact hD
  have hPw := w_midP hP3
  have hDw := w_midD hD3
  have hKw : va_K D vwCl (sT cI cZ cR) s := hK.sub [0, 1, 2] rfl
  refine lv_aload_n hx hb dL_contains_0 rfl (lv_at hl 2 rfl) ?_
  refine lv_iconst (v := nI 0) hx hb dL_contains_1 (by decide) ?_
  refine lv_aload_n hx hb dL_contains_2 rfl (lv_at hl 0 rfl) ?_
  refine lv_iload_n hx hb dL_contains_3 rfl (lv_at hl 1 rfl) ?_
  refine w_callxiX (X := [(ao, .inl (cJ, 1, .inr (.inl f0)))]) (w := w) (Y := []) hS hA hP3 hD3 (vx_runV (As := [.int p1]) (rest := [.int (nI 0), .ref ao]) ⟨hx, hb, hml, hown, hts⟩ (hM s.heap.size) (cwV 1 hts gL_contains_X3_contains rfl rfl rfl (by decide +kernel) ⟨Nat.le_of_ble_eq_true rfl, Nat.le_of_ble_eq_true rfl⟩) ⟨(w_pre hPw hKw hDw (eX_env hE hS (w_free hDw hS hA))).1, va_recv hKw hPw (show vwCl[3]? = some (RX3, TX3, 4) from rfl) hw0, (w_pre hPw hKw hDw (eX_env hE hS (w_free hDw hS hA))).2⟩ rfl rfl hl.1 rfl (lv_room (Nat.le_of_ble_eq_true rfl)) dL_contains_4 ⟨Nat.le_of_ble_eq_true rfl, Nat.le_of_ble_eq_true rfl⟩) (fun E9 ce q9 H locs hxc hP hS hce hcv hcl => ?_) (fun r u H locs hw hP hD hS => ?_)
  · rw [List.append_nil] at hP
    rcases hxc with ⟨rfl, hc9⟩ | ⟨rfl, hc9⟩
    · refine vx_catch (name := "java/lang/IllegalArgumentException") hown [] ⟨0, 16, 19, 13⟩ [] (by rw [htab]; rfl) (fun z hz => absurd hz List.not_mem_nil) (by decide) (by decide) (hts (.classLink RL 13 "java/lang/IllegalArgumentException") (by decide +kernel)) (va_Nw.use rfl eA) hce hcv hcl ?_
      refine lv_astore_n (lv' := [(3, .ref q9), (0, .ref a0), (1, .int p1), (2, .ref ao)]) hx hb dL_contains_19 rfl hl (by decide) rfl (fun ls hl => ?_)
      refine lv_iconst (v := nI 1) hx hb dL_contains_20 (by decide) ?_
      refine W.widen (k := 1) (n := 6) (Nat.le_of_ble_eq_true rfl) (Nat.le_of_ble_eq_true rfl) ?_
      exact W.iret (v := nI 1) hx hb hr (fun t ht hW9 => ⟨⟨nI 1, (f0, w), rfl, ⟨by rw [hc9], fun h9 => absurd (hc9.symm.trans h9) (by decide), fun _ => rfl⟩, by rw [ht]; exact hP, va_K.moved hW9.alike hK, hD⟩, hS.F ht⟩) hS.2.2 dL_contains_21
    · exact absurd hc9 hcd2
  · rw [List.append_nil] at hP hD
    refine lv_if_eq (tgt := 14) hx hb dL_contains_7 (by decide) (fun c9 => ?_) (fun c9 => ?_)
    · refine lv_lconst (v := 0) hx hb dL_contains_14 (by decide) ?_
      refine va_last hx hb hK hP hD hS 0 3 rfl rfl (vp_in_nI (by decide) (by decide)) dL_contains_15 (fun H locs hP hD hS => ?_)
      refine lv_goto (tgt := 22) hx hb dL_contains_16 (by decide) ?_
      refine lv_iconst (v := nI 0) hx hb dL_contains_22 (by decide) ?_
      refine W.widen (k := 1) (n := 6) (Nat.le_of_ble_eq_true rfl) (Nat.le_of_ble_eq_true rfl) ?_
      exact W.iret (v := nI 0) hx hb hr (fun t ht hW9 => ⟨⟨nI 0, (vp_updL f0 (nI 0).toNatClampNeg 0, B u), rfl, ⟨by rw [hw.1], fun _ => ⟨r, u, hw.2, (by rw [c9]; exact (vp_upd0 f0 0).trans (show (0 : Int64) = Int32.toInt64 0 by decide)), rfl⟩, fun h9 => absurd hw.1 h9⟩, by rw [ht]; exact hP, va_K.moved hW9.alike hK, hD⟩, hS.F ht⟩) hS.2.2 dL_contains_23
    · refine lv_lconst (v := 1) hx hb dL_contains_10 (by decide) ?_
      refine lv_goto (tgt := 15) hx hb dL_contains_11 (by decide) ?_
      refine va_last hx hb hK hP hD hS 0 3 rfl rfl (vp_in_nI (by decide) (by decide)) dL_contains_15 (fun H locs hP hD hS => ?_)
      refine lv_goto (tgt := 22) hx hb dL_contains_16 (by decide) ?_
      refine lv_iconst (v := nI 0) hx hb dL_contains_22 (by decide) ?_
      refine W.widen (k := 1) (n := 6) (Nat.le_of_ble_eq_true rfl) (Nat.le_of_ble_eq_true rfl) ?_
      exact W.iret (v := nI 0) hx hb hr (fun t ht hW9 => ⟨⟨nI 0, (vp_updL f0 (nI 0).toNatClampNeg 1, B u), rfl, ⟨by rw [hw.1], fun _ => ⟨r, u, hw.2, (by rw [(h01 r u hw.2).resolve_left c9]; exact (vp_upd0 f0 1).trans (show (1 : Int64) = Int32.toInt64 1 by decide)), rfl⟩, fun h9 => absurd hw.1 h9⟩, by rw [ht]; exact hP, va_K.moved hW9.alike hK, hD⟩, hS.F ht⟩) hS.2.2 dL_contains_23

set_option maxHeartbeats 4000000 in
set_option maxRecDepth 100000 in
theorem h_L_keep (l : Launch) (D : va_G) (cI cZ cR cJ : ClassId) (ao a0 : Nat) (f0 : Nat → Int64) (w : va_W) (fs0 : List Value) (hw0 : w[0]? = some (a0, .inr (3, fs0))) {S : Type} (post : Int32 → S → Prop) (B : S → va_W) (cd sz : Nat) (p1 : Int32) (hcd2 : ¬ cd = 2) (hM : ∀ sz : Nat, vx_Met l yX3_keep wsX3_keep ({ frames := 7, cells := 1, slots := 6, locals := 105 } : Room) (va_Pc [.ref a0, .int p1] (wPre D vwCl (sT cI cZ cR) w sz (eX (va_A w sz)))) (va_Qi (fun r u => cd = 0 ∧ post r u) (wPost D vwCl (sT cI cZ cR) B (va_A w sz)) (va_A w sz)) (wXc D vwCl (sT cI cZ cR) w (va_A w sz) cd) 1 6 (va_A w sz)) : Met l yL_keep wsL_keep ({ frames := 8, cells := 1, slots := 6, locals := 127 } : Room) (va_Pc [.ref a0, .int p1, .ref ao] (wPre D vwCl (lT cI cZ cR cJ) (hW cJ ao f0 w) sz (eL (va_A (hW cJ ao f0 w) sz)))) (va_Qi (hQ cd w post B) (wPost D vwCl (lT cI cZ cR cJ) (fun u => hW cJ ao u.1 u.2) (va_A (hW cJ ao f0 w) sz)) (va_A (hW cJ ao f0 w) sz)) 1 6 (va_A (hW cJ ao f0 w) sz) := by
  refine va_MetW (cc := cL_keep) (maxL := 4) (ret := some .int) (hh := [(0, 9, 12, 13)]) (by decide) rfl ?_
  intro p e s m args below meth c s₁ Bd hml hv
  obtain ⟨rfl, hsz, hP, hK, hD0, hE⟩ := hv
  have hx := Bd.exec
  have hb := Bd.bytes
  have hr := Bd.returns
  have hts := atoms_spec (ws := wsL_keep) Bd.pre
  have hown : s.vm.findClass RL = some m.cls := findClass_of_methodNamed Bd.named
  have hlocks := Bd.notSynchronized
  have htab : c.exceptionTable.toList = tableOf [(0, 9, 12, 13)] := vx_table (x := yL_keep) Bd (hts (.codeWith yL_keep cL_keep 4 (some .int) [(0, 9, 12, 13)]) List.mem_cons_self)
  subst hsz
  have hD := hD0.self (sz := s.heap.size)
  generalize hAe : va_A (hW cJ ao f0 w) s.heap.size = A at hD hE ⊢
  have hA : ∀ q : Nat, s.heap.size ≤ q → A q := fun q h => by rw [← hAe]; exact Or.inr h
  have hS : va_S A s.heap s.heap [] := va_S.rf
  have hl := lv_entry ([.ref a0, .int p1, .ref ao]) (n := 4) (Nat.le_of_ble_eq_true rfl)
  rw [lg_entry_eq]
  generalize (lg_sl ([.ref a0, .int p1, .ref ao]) ++ List.replicate (4 - (lg_sl ([.ref a0, .int p1, .ref ao])).length) Slot.unset).toArray = ls at hl ⊢
  have hl : lv_has ls 4 [(0, .ref a0), (1, .int p1), (2, .ref ao)] := hl
  obtain ⟨hE, hNc⟩ := hE
  obtain ⟨eN1, eA, eS, eR⟩ := id hE
  have hP3 : va_P D vwCl ([(ao, .inl (cJ, 1, .inr (.inl f0)))] ++ (w ++ [])) s.heap := by rw [List.append_nil]; exact hP
  have hD3 : va_D A ([(ao, .inl (cJ, 1, .inr (.inl f0)))] ++ (w ++ [])) := by rw [List.append_nil]; exact hD
  have hPw := w_midP hP3
  have hDw := w_midD hD3
  have hKw : va_K D vwCl (sT cI cZ cR) s := hK.sub [0, 1, 2] rfl
  refine lv_aload_n hx hb dL_keep_0 rfl (lv_at hl 2 rfl) ?_
  refine lv_iconst (v := nI 0) hx hb dL_keep_1 (by decide) ?_
  refine lv_aload_n hx hb dL_keep_2 rfl (lv_at hl 0 rfl) ?_
  refine lv_iload_n hx hb dL_keep_3 rfl (lv_at hl 1 rfl) ?_
  refine w_callxiX (X := [(ao, .inl (cJ, 1, .inr (.inl f0)))]) (w := w) (Y := []) hS hA hP3 hD3 (vx_runV (As := [.int p1]) (rest := [.int (nI 0), .ref ao]) ⟨hx, hb, hml, hown, hts⟩ (hM s.heap.size) (cwV 1 hts gL_keep_X3_keep rfl rfl rfl (by decide +kernel) ⟨Nat.le_of_ble_eq_true rfl, Nat.le_of_ble_eq_true rfl⟩) ⟨(w_pre hPw hKw hDw (eX_env hE hS (w_free hDw hS hA))).1, va_recv hKw hPw (show vwCl[3]? = some (RX3, TX3, 4) from rfl) hw0, (w_pre hPw hKw hDw (eX_env hE hS (w_free hDw hS hA))).2⟩ rfl rfl hl.1 rfl (lv_room (Nat.le_of_ble_eq_true rfl)) dL_keep_4 ⟨Nat.le_of_ble_eq_true rfl, Nat.le_of_ble_eq_true rfl⟩) (fun E9 ce q9 H locs hxc hP hS hce hcv hcl => ?_) (fun r u H locs hw hP hD hS => ?_)
  · rw [List.append_nil] at hP
    rcases hxc with ⟨rfl, hc9⟩ | ⟨rfl, hc9⟩
    · refine vx_catch (name := "java/lang/IllegalArgumentException") hown [] ⟨0, 9, 12, 13⟩ [] (by rw [htab]; rfl) (fun z hz => absurd hz List.not_mem_nil) (by decide) (by decide) (hts (.classLink RL 13 "java/lang/IllegalArgumentException") (by decide +kernel)) (va_Nw.use rfl eA) hce hcv hcl ?_
      refine lv_astore_n (lv' := [(3, .ref q9), (0, .ref a0), (1, .int p1), (2, .ref ao)]) hx hb dL_keep_12 rfl hl (by decide) rfl (fun ls hl => ?_)
      refine lv_iconst (v := nI 1) hx hb dL_keep_13 (by decide) ?_
      refine W.widen (k := 1) (n := 6) (Nat.le_of_ble_eq_true rfl) (Nat.le_of_ble_eq_true rfl) ?_
      exact W.iret (v := nI 1) hx hb hr (fun t ht hW9 => ⟨⟨nI 1, (f0, w), rfl, ⟨by rw [hc9], fun h9 => absurd (hc9.symm.trans h9) (by decide), fun _ => rfl⟩, by rw [ht]; exact hP, va_K.moved hW9.alike hK, hD⟩, hS.F ht⟩) hS.2.2 dL_keep_14
    · exact absurd hc9 hcd2
  · rw [List.append_nil] at hP hD
    refine lv_i2l (v := r.toInt64) hx hb dL_keep_7 rfl ?_
    refine va_last hx hb hK hP hD hS 0 3 rfl rfl (vp_in_nI (by decide) (by decide)) dL_keep_8 (fun H locs hP hD hS => ?_)
    refine lv_goto (tgt := 15) hx hb dL_keep_9 (by decide) ?_
    refine lv_iconst (v := nI 0) hx hb dL_keep_15 (by decide) ?_
    refine W.widen (k := 1) (n := 6) (Nat.le_of_ble_eq_true rfl) (Nat.le_of_ble_eq_true rfl) ?_
    exact W.iret (v := nI 0) hx hb hr (fun t ht hW9 => ⟨⟨nI 0, (vp_updL f0 (nI 0).toNatClampNeg r.toInt64, B u), rfl, ⟨by rw [hw.1], fun _ => ⟨r, u, hw.2, vp_upd0 f0 r.toInt64, rfl⟩, fun h9 => absurd hw.1 h9⟩, by rw [ht]; exact hP, va_K.moved hW9.alike hK, hD⟩, hS.F ht⟩) hS.2.2 dL_keep_16

set_option maxHeartbeats 4000000 in
set_option maxRecDepth 100000 in
theorem h_L_reader (l : Launch) (D : va_G) (cI cZ cR cJ : ClassId) (ao a0 : Nat) (f0 : Nat → Int64) (w : va_W) (fs0 : List Value) (hw0 : w[0]? = some (a0, .inr (3, fs0))) {S : Type} (post : Int32 → S → Prop) (B : S → va_W) (cd sz : Nat) (p1 p2 p3 : Int32) (hM : ∀ sz : Nat, vx_Met l yX3_reader wsX3_reader ({ frames := 7, cells := 10, slots := 201, locals := 102 } : Room) (va_Pc [.ref a0, .int p1, .int p2, .int p3] (wPre D vwCl (sT cI cZ cR) w sz (eX (va_A w sz)))) (va_Qi (fun r u => cd = 0 ∧ post r u) (wPost D vwCl (sT cI cZ cR) B (va_A w sz)) (va_A w sz)) (wXc D vwCl (sT cI cZ cR) w (va_A w sz) cd) 10 201 (va_A w sz)) : Met l yL_reader wsL_reader ({ frames := 8, cells := 10, slots := 201, locals := 126 } : Room) (va_Pc [.ref a0, .int p1, .int p2, .int p3, .ref ao] (wPre D vwCl (lT cI cZ cR cJ) (hW cJ ao f0 w) sz (eL (va_A (hW cJ ao f0 w) sz)))) (va_Qi (hQ cd w post B) (wPost D vwCl (lT cI cZ cR cJ) (fun u => hW cJ ao u.1 u.2) (va_A (hW cJ ao f0 w) sz)) (va_A (hW cJ ao f0 w) sz)) 10 201 (va_A (hW cJ ao f0 w) sz) := by
  refine va_MetW (cc := cL_reader) (maxL := 6) (ret := some .int) (hh := [(0, 12, 15, 13), (0, 12, 19, 15)]) (by decide) rfl ?_
  intro p e s m args below meth c s₁ Bd hml hv
  obtain ⟨rfl, hsz, hP, hK, hD0, hE⟩ := hv
  have hx := Bd.exec
  have hb := Bd.bytes
  have hr := Bd.returns
  have hts := atoms_spec (ws := wsL_reader) Bd.pre
  have hown : s.vm.findClass RL = some m.cls := findClass_of_methodNamed Bd.named
  have hlocks := Bd.notSynchronized
  have htab : c.exceptionTable.toList = tableOf [(0, 12, 15, 13), (0, 12, 19, 15)] := vx_table (x := yL_reader) Bd (hts (.codeWith yL_reader cL_reader 6 (some .int) [(0, 12, 15, 13), (0, 12, 19, 15)]) List.mem_cons_self)
  subst hsz
  have hD := hD0.self (sz := s.heap.size)
  generalize hAe : va_A (hW cJ ao f0 w) s.heap.size = A at hD hE ⊢
  have hA : ∀ q : Nat, s.heap.size ≤ q → A q := fun q h => by rw [← hAe]; exact Or.inr h
  have hS : va_S A s.heap s.heap [] := va_S.rf
  have hl := lv_entry ([.ref a0, .int p1, .int p2, .int p3, .ref ao]) (n := 6) (Nat.le_of_ble_eq_true rfl)
  rw [lg_entry_eq]
  generalize (lg_sl ([.ref a0, .int p1, .int p2, .int p3, .ref ao]) ++ List.replicate (6 - (lg_sl ([.ref a0, .int p1, .int p2, .int p3, .ref ao])).length) Slot.unset).toArray = ls at hl ⊢
  have hl : lv_has ls 6 [(0, .ref a0), (1, .int p1), (2, .int p2), (3, .int p3), (4, .ref ao)] := hl
  obtain ⟨hE, hNc⟩ := hE
  obtain ⟨eN1, eA, eS, eR⟩ := id hE
  have hP3 : va_P D vwCl ([(ao, .inl (cJ, 1, .inr (.inl f0)))] ++ (w ++ [])) s.heap := by rw [List.append_nil]; exact hP
  have hD3 : va_D A ([(ao, .inl (cJ, 1, .inr (.inl f0)))] ++ (w ++ [])) := by rw [List.append_nil]; exact hD
  have hPw := w_midP hP3
  have hDw := w_midD hD3
  have hKw : va_K D vwCl (sT cI cZ cR) s := hK.sub [0, 1, 2] rfl
  refine lv_aload hx hb dL_reader_0 (lv_at hl 4 rfl) ?_
  refine lv_iconst (v := nI 0) hx hb dL_reader_2 (by decide) ?_
  refine lv_aload_n hx hb dL_reader_3 rfl (lv_at hl 0 rfl) ?_
  refine lv_iload_n hx hb dL_reader_4 rfl (lv_at hl 1 rfl) ?_
  refine lv_iload_n hx hb dL_reader_5 rfl (lv_at hl 2 rfl) ?_
  refine lv_iload_n hx hb dL_reader_6 rfl (lv_at hl 3 rfl) ?_
  refine w_callxiX (X := [(ao, .inl (cJ, 1, .inr (.inl f0)))]) (w := w) (Y := []) hS hA hP3 hD3 (vx_runV (As := [.int p1, .int p2, .int p3]) (rest := [.int (nI 0), .ref ao]) ⟨hx, hb, hml, hown, hts⟩ (hM s.heap.size) (cwV 3 hts gL_reader_X3_reader rfl rfl rfl (by decide +kernel) ⟨Nat.le_of_ble_eq_true rfl, Nat.le_of_ble_eq_true rfl⟩) ⟨(w_pre hPw hKw hDw (eX_env hE hS (w_free hDw hS hA))).1, va_recv hKw hPw (show vwCl[3]? = some (RX3, TX3, 4) from rfl) hw0, (w_pre hPw hKw hDw (eX_env hE hS (w_free hDw hS hA))).2⟩ rfl rfl hl.1 rfl (lv_room (Nat.le_of_ble_eq_true rfl)) dL_reader_7 ⟨Nat.le_of_ble_eq_true rfl, Nat.le_of_ble_eq_true rfl⟩) (fun E9 ce q9 H locs hxc hP hS hce hcv hcl => ?_) (fun r u H locs hw hP hD hS => ?_)
  · rw [List.append_nil] at hP
    rcases hxc with ⟨rfl, hc9⟩ | ⟨rfl, hc9⟩
    · refine vx_catch (name := "java/lang/IllegalArgumentException") hown [] ⟨0, 12, 15, 13⟩ [⟨0, 12, 19, 15⟩] (by rw [htab]; rfl) (fun z hz => absurd hz List.not_mem_nil) (by decide) (by decide) (hts (.classLink RL 13 "java/lang/IllegalArgumentException") (by decide +kernel)) (va_Nw.use rfl eA) hce hcv hcl ?_
      refine lv_astore (lv' := [(5, .ref q9), (0, .ref a0), (1, .int p1), (2, .int p2), (3, .int p3), (4, .ref ao)]) hx hb dL_reader_15 hl (by decide) rfl (fun ls hl => ?_)
      refine lv_iconst (v := nI 1) hx hb dL_reader_17 (by decide) ?_
      refine W.widen (k := 10) (n := 201) (Nat.le_of_ble_eq_true rfl) (Nat.le_of_ble_eq_true rfl) ?_
      exact W.iret (v := nI 1) hx hb hr (fun t ht hW9 => ⟨⟨nI 1, (f0, w), rfl, ⟨by rw [hc9], fun h9 => absurd (hc9.symm.trans h9) (by decide), fun _ => rfl⟩, by rw [ht]; exact hP, va_K.moved hW9.alike hK, hD⟩, hS.F ht⟩) hS.2.2 dL_reader_18
    · refine vx_catch (name := "java/lang/IllegalStateException") hown [⟨0, 12, 15, 13⟩] ⟨0, 12, 19, 15⟩ [] (by rw [htab]; rfl) (fun z hz => Or.inr ?_) (by decide) (by decide) (hts (.classLink RL 15 "java/lang/IllegalStateException") (by decide +kernel)) (va_Nw.use rfl eS) hce hcv hcl ?_
      · rw [List.mem_singleton] at hz
        subst hz
        exact ⟨by decide, "java/lang/IllegalArgumentException", hts (.classLink RL 13 "java/lang/IllegalArgumentException") (by decide +kernel), hNc⟩
      · skip
        refine lv_astore (lv' := [(5, .ref q9), (0, .ref a0), (1, .int p1), (2, .int p2), (3, .int p3), (4, .ref ao)]) hx hb dL_reader_19 hl (by decide) rfl (fun ls hl => ?_)
        refine lv_iconst (v := nI 2) hx hb dL_reader_21 (by decide) ?_
        refine W.widen (k := 10) (n := 201) (Nat.le_of_ble_eq_true rfl) (Nat.le_of_ble_eq_true rfl) ?_
        exact W.iret (v := nI 2) hx hb hr (fun t ht hW9 => ⟨⟨nI 2, (f0, w), rfl, ⟨by rw [hc9], fun h9 => absurd (hc9.symm.trans h9) (by decide), fun _ => rfl⟩, by rw [ht]; exact hP, va_K.moved hW9.alike hK, hD⟩, hS.F ht⟩) hS.2.2 dL_reader_22
  · rw [List.append_nil] at hP hD
    refine lv_i2l (v := r.toInt64) hx hb dL_reader_10 rfl ?_
    refine va_last hx hb hK hP hD hS 0 3 rfl rfl (vp_in_nI (by decide) (by decide)) dL_reader_11 (fun H locs hP hD hS => ?_)
    refine lv_goto (tgt := 23) hx hb dL_reader_12 (by decide) ?_
    refine lv_iconst (v := nI 0) hx hb dL_reader_23 (by decide) ?_
    refine W.widen (k := 10) (n := 201) (Nat.le_of_ble_eq_true rfl) (Nat.le_of_ble_eq_true rfl) ?_
    exact W.iret (v := nI 0) hx hb hr (fun t ht hW9 => ⟨⟨nI 0, (vp_updL f0 (nI 0).toNatClampNeg r.toInt64, B u), rfl, ⟨by rw [hw.1], fun _ => ⟨r, u, hw.2, vp_upd0 f0 r.toInt64, rfl⟩, fun h9 => absurd hw.1 h9⟩, by rw [ht]; exact hP, va_K.moved hW9.alike hK, hD⟩, hS.F ht⟩) hS.2.2 dL_reader_24

set_option maxHeartbeats 4000000 in
set_option maxRecDepth 100000 in
theorem h_L_filter (l : Launch) (D : va_G) (cI cZ cR : ClassId) (a0 : Nat) (w : va_W) (fs0 : List Value) (hw0 : w[0]? = some (a0, .inr (3, fs0))) {S : Type} (post : S → Prop) (B : S → va_W) (cd sz : Nat) (p1 p2 p3 : Int32) (hcd2 : ¬ cd = 2) (hM : ∀ sz : Nat, vx_Met l yX3_filter wsX3_filter ({ frames := 7, cells := 2, slots := 12, locals := 106 } : Room) (va_Pc [.ref a0, .int p1, .int p2, .int p3] (wPre D vwCl (sT cI cZ cR) w sz (eX (va_A w sz)))) (va_Qv (fun u => cd = 0 ∧ post u) (wPost D vwCl (sT cI cZ cR) B (va_A w sz)) (va_A w sz)) (wXc D vwCl (sT cI cZ cR) w (va_A w sz) cd) 2 12 (va_A w sz)) : Met l yL_filter wsL_filter ({ frames := 8, cells := 2, slots := 12, locals := 130 } : Room) (va_Pc [.ref a0, .int p1, .int p2, .int p3] (wPre D vwCl (sT cI cZ cR) (w) sz (eL (va_A (w) sz)))) (va_Qi (hV cd w post B) (wPost D vwCl (sT cI cZ cR) (fun u => u) (va_A (w) sz)) (va_A (w) sz)) 2 12 (va_A (w) sz) := by
  refine va_MetW (cc := cL_filter) (maxL := 5) (ret := some .int) (hh := [(0, 7, 10, 13)]) (by decide) rfl ?_
  intro p e s m args below meth c s₁ Bd hml hv
  obtain ⟨rfl, hsz, hP, hK, hD0, hE⟩ := hv
  have hx := Bd.exec
  have hb := Bd.bytes
  have hr := Bd.returns
  have hts := atoms_spec (ws := wsL_filter) Bd.pre
  have hown : s.vm.findClass RL = some m.cls := findClass_of_methodNamed Bd.named
  have hlocks := Bd.notSynchronized
  have htab : c.exceptionTable.toList = tableOf [(0, 7, 10, 13)] := vx_table (x := yL_filter) Bd (hts (.codeWith yL_filter cL_filter 5 (some .int) [(0, 7, 10, 13)]) List.mem_cons_self)
  subst hsz
  have hD := hD0.self (sz := s.heap.size)
  generalize hAe : va_A (w) s.heap.size = A at hD hE ⊢
  have hA : ∀ q : Nat, s.heap.size ≤ q → A q := fun q h => by rw [← hAe]; exact Or.inr h
  have hS : va_S A s.heap s.heap [] := va_S.rf
  have hl := lv_entry ([.ref a0, .int p1, .int p2, .int p3]) (n := 5) (Nat.le_of_ble_eq_true rfl)
  rw [lg_entry_eq]
  generalize (lg_sl ([.ref a0, .int p1, .int p2, .int p3]) ++ List.replicate (5 - (lg_sl ([.ref a0, .int p1, .int p2, .int p3])).length) Slot.unset).toArray = ls at hl ⊢
  have hl : lv_has ls 5 [(0, .ref a0), (1, .int p1), (2, .int p2), (3, .int p3)] := hl
  obtain ⟨hE, hNc⟩ := hE
  obtain ⟨eN1, eA, eS, eR⟩ := id hE
  have hP3 := hP
  have hD3 := hD
  have hPw := hP
  have hDw := hD
  have hKw := hK
  refine lv_aload_n hx hb dL_filter_0 rfl (lv_at hl 0 rfl) ?_
  refine lv_iload_n hx hb dL_filter_1 rfl (lv_at hl 1 rfl) ?_
  refine lv_iload_n hx hb dL_filter_2 rfl (lv_at hl 2 rfl) ?_
  refine lv_iload_n hx hb dL_filter_3 rfl (lv_at hl 3 rfl) ?_
  refine w_callxv (w := w) hS hA hK hD (vx_runV (As := [.int p1, .int p2, .int p3]) (rest := []) ⟨hx, hb, hml, hown, hts⟩ (hM s.heap.size) (cwV 3 hts gL_filter_X3_filter rfl rfl rfl (by decide +kernel) ⟨Nat.le_of_ble_eq_true rfl, Nat.le_of_ble_eq_true rfl⟩) ⟨(w_pre hPw hKw hDw (eX_env hE hS (w_free hDw hS hA))).1, va_recv hKw hPw (show vwCl[3]? = some (RX3, TX3, 4) from rfl) hw0, (w_pre hPw hKw hDw (eX_env hE hS (w_free hDw hS hA))).2⟩ rfl rfl hl.1 rfl (lv_room (Nat.le_of_ble_eq_true rfl)) dL_filter_4 ⟨Nat.le_of_ble_eq_true rfl, Nat.le_of_ble_eq_true rfl⟩) (fun E9 ce q9 H locs hxc hP hS hce hcv hcl => ?_) (fun u H locs hw hP hD hS hz => ?_)
  · have hP := hP
    rcases hxc with ⟨rfl, hc9⟩ | ⟨rfl, hc9⟩
    · refine vx_catch (name := "java/lang/IllegalArgumentException") hown [] ⟨0, 7, 10, 13⟩ [] (by rw [htab]; rfl) (fun z hz => absurd hz List.not_mem_nil) (by decide) (by decide) (hts (.classLink RL 13 "java/lang/IllegalArgumentException") (by decide +kernel)) (va_Nw.use rfl eA) hce hcv hcl ?_
      refine lv_astore (lv' := [(4, .ref q9), (0, .ref a0), (1, .int p1), (2, .int p2), (3, .int p3)]) hx hb dL_filter_10 hl (by decide) rfl (fun ls hl => ?_)
      refine lv_iconst (v := nI 1) hx hb dL_filter_12 (by decide) ?_
      refine W.widen (k := 2) (n := 12) (Nat.le_of_ble_eq_true rfl) (Nat.le_of_ble_eq_true rfl) ?_
      exact W.iret (v := nI 1) hx hb hr (fun t ht hW9 => ⟨⟨nI 1, w, rfl, ⟨by rw [hc9], fun h9 => absurd (hc9.symm.trans h9) (by decide), fun _ => rfl⟩, by rw [ht]; exact hP, va_K.moved hW9.alike hK, hD⟩, hS.F ht⟩) hS.2.2 dL_filter_13
    · exact absurd hc9 hcd2
  · refine lv_goto (tgt := 14) hx hb dL_filter_7 (by decide) ?_
    refine lv_iconst (v := nI 0) hx hb dL_filter_14 (by decide) ?_
    refine W.widen (k := 2) (n := 12) (Nat.le_of_ble_eq_true rfl) (Nat.le_of_ble_eq_true rfl) ?_
    exact W.iret (v := nI 0) hx hb hr (fun t ht hW9 => ⟨⟨nI 0, B u, rfl, ⟨by rw [hw.1], fun _ => ⟨u, hw.2, rfl⟩, fun h9 => absurd hw.1 h9⟩, by rw [ht]; exact hP, va_K.moved hW9.alike hK, hD⟩, hS.F ht⟩) hS.2.2 dL_filter_15

set_option maxHeartbeats 4000000 in
set_option maxRecDepth 100000 in
theorem h_L_throttle (l : Launch) (D : va_G) (cI cZ cR cJ : ClassId) (ao a0 : Nat) (f0 : Nat → Int64) (w : va_W) (fs0 : List Value) (hw0 : w[0]? = some (a0, .inr (3, fs0))) {S : Type} (post : Int32 → S → Prop) (B : S → va_W) (cd sz : Nat) (p1 p2 : Int32) (hcd2 : ¬ cd = 2) (hM : ∀ sz : Nat, vx_Met l yX3_throttle wsX3_throttle ({ frames := 7, cells := 2, slots := 12, locals := 106 } : Room) (va_Pc [.ref a0, .int p1, .int p2] (wPre D vwCl (sT cI cZ cR) w sz (eX (va_A w sz)))) (va_Qi (fun r u => cd = 0 ∧ post r u) (wPost D vwCl (sT cI cZ cR) B (va_A w sz)) (va_A w sz)) (wXc D vwCl (sT cI cZ cR) w (va_A w sz) cd) 2 12 (va_A w sz)) : Met l yL_throttle wsL_throttle ({ frames := 8, cells := 2, slots := 12, locals := 130 } : Room) (va_Pc [.ref a0, .int p1, .int p2, .ref ao] (wPre D vwCl (lT cI cZ cR cJ) (hW cJ ao f0 w) sz (eL (va_A (hW cJ ao f0 w) sz)))) (va_Qi (hQ cd w post B) (wPost D vwCl (lT cI cZ cR cJ) (fun u => hW cJ ao u.1 u.2) (va_A (hW cJ ao f0 w) sz)) (va_A (hW cJ ao f0 w) sz)) 2 12 (va_A (hW cJ ao f0 w) sz) := by
  refine va_MetW (cc := cL_throttle) (maxL := 5) (ret := some .int) (hh := [(0, 10, 13, 13)]) (by decide) rfl ?_
  intro p e s m args below meth c s₁ Bd hml hv
  obtain ⟨rfl, hsz, hP, hK, hD0, hE⟩ := hv
  have hx := Bd.exec
  have hb := Bd.bytes
  have hr := Bd.returns
  have hts := atoms_spec (ws := wsL_throttle) Bd.pre
  have hown : s.vm.findClass RL = some m.cls := findClass_of_methodNamed Bd.named
  have hlocks := Bd.notSynchronized
  have htab : c.exceptionTable.toList = tableOf [(0, 10, 13, 13)] := vx_table (x := yL_throttle) Bd (hts (.codeWith yL_throttle cL_throttle 5 (some .int) [(0, 10, 13, 13)]) List.mem_cons_self)
  subst hsz
  have hD := hD0.self (sz := s.heap.size)
  generalize hAe : va_A (hW cJ ao f0 w) s.heap.size = A at hD hE ⊢
  have hA : ∀ q : Nat, s.heap.size ≤ q → A q := fun q h => by rw [← hAe]; exact Or.inr h
  have hS : va_S A s.heap s.heap [] := va_S.rf
  have hl := lv_entry ([.ref a0, .int p1, .int p2, .ref ao]) (n := 5) (Nat.le_of_ble_eq_true rfl)
  rw [lg_entry_eq]
  generalize (lg_sl ([.ref a0, .int p1, .int p2, .ref ao]) ++ List.replicate (5 - (lg_sl ([.ref a0, .int p1, .int p2, .ref ao])).length) Slot.unset).toArray = ls at hl ⊢
  have hl : lv_has ls 5 [(0, .ref a0), (1, .int p1), (2, .int p2), (3, .ref ao)] := hl
  obtain ⟨hE, hNc⟩ := hE
  obtain ⟨eN1, eA, eS, eR⟩ := id hE
  have hP3 : va_P D vwCl ([(ao, .inl (cJ, 1, .inr (.inl f0)))] ++ (w ++ [])) s.heap := by rw [List.append_nil]; exact hP
  have hD3 : va_D A ([(ao, .inl (cJ, 1, .inr (.inl f0)))] ++ (w ++ [])) := by rw [List.append_nil]; exact hD
  have hPw := w_midP hP3
  have hDw := w_midD hD3
  have hKw : va_K D vwCl (sT cI cZ cR) s := hK.sub [0, 1, 2] rfl
  refine lv_aload_n hx hb dL_throttle_0 rfl (lv_at hl 3 rfl) ?_
  refine lv_iconst (v := nI 0) hx hb dL_throttle_1 (by decide) ?_
  refine lv_aload_n hx hb dL_throttle_2 rfl (lv_at hl 0 rfl) ?_
  refine lv_iload_n hx hb dL_throttle_3 rfl (lv_at hl 1 rfl) ?_
  refine lv_iload_n hx hb dL_throttle_4 rfl (lv_at hl 2 rfl) ?_
  refine w_callxiX (X := [(ao, .inl (cJ, 1, .inr (.inl f0)))]) (w := w) (Y := []) hS hA hP3 hD3 (vx_runV (As := [.int p1, .int p2]) (rest := [.int (nI 0), .ref ao]) ⟨hx, hb, hml, hown, hts⟩ (hM s.heap.size) (cwV 2 hts gL_throttle_X3_throttle rfl rfl rfl (by decide +kernel) ⟨Nat.le_of_ble_eq_true rfl, Nat.le_of_ble_eq_true rfl⟩) ⟨(w_pre hPw hKw hDw (eX_env hE hS (w_free hDw hS hA))).1, va_recv hKw hPw (show vwCl[3]? = some (RX3, TX3, 4) from rfl) hw0, (w_pre hPw hKw hDw (eX_env hE hS (w_free hDw hS hA))).2⟩ rfl rfl hl.1 rfl (lv_room (Nat.le_of_ble_eq_true rfl)) dL_throttle_5 ⟨Nat.le_of_ble_eq_true rfl, Nat.le_of_ble_eq_true rfl⟩) (fun E9 ce q9 H locs hxc hP hS hce hcv hcl => ?_) (fun r u H locs hw hP hD hS => ?_)
  · rw [List.append_nil] at hP
    rcases hxc with ⟨rfl, hc9⟩ | ⟨rfl, hc9⟩
    · refine vx_catch (name := "java/lang/IllegalArgumentException") hown [] ⟨0, 10, 13, 13⟩ [] (by rw [htab]; rfl) (fun z hz => absurd hz List.not_mem_nil) (by decide) (by decide) (hts (.classLink RL 13 "java/lang/IllegalArgumentException") (by decide +kernel)) (va_Nw.use rfl eA) hce hcv hcl ?_
      refine lv_astore (lv' := [(4, .ref q9), (0, .ref a0), (1, .int p1), (2, .int p2), (3, .ref ao)]) hx hb dL_throttle_13 hl (by decide) rfl (fun ls hl => ?_)
      refine lv_iconst (v := nI 1) hx hb dL_throttle_15 (by decide) ?_
      refine W.widen (k := 2) (n := 12) (Nat.le_of_ble_eq_true rfl) (Nat.le_of_ble_eq_true rfl) ?_
      exact W.iret (v := nI 1) hx hb hr (fun t ht hW9 => ⟨⟨nI 1, (f0, w), rfl, ⟨by rw [hc9], fun h9 => absurd (hc9.symm.trans h9) (by decide), fun _ => rfl⟩, by rw [ht]; exact hP, va_K.moved hW9.alike hK, hD⟩, hS.F ht⟩) hS.2.2 dL_throttle_16
    · exact absurd hc9 hcd2
  · rw [List.append_nil] at hP hD
    refine lv_i2l (v := r.toInt64) hx hb dL_throttle_8 rfl ?_
    refine va_last hx hb hK hP hD hS 0 3 rfl rfl (vp_in_nI (by decide) (by decide)) dL_throttle_9 (fun H locs hP hD hS => ?_)
    refine lv_goto (tgt := 17) hx hb dL_throttle_10 (by decide) ?_
    refine lv_iconst (v := nI 0) hx hb dL_throttle_17 (by decide) ?_
    refine W.widen (k := 2) (n := 12) (Nat.le_of_ble_eq_true rfl) (Nat.le_of_ble_eq_true rfl) ?_
    exact W.iret (v := nI 0) hx hb hr (fun t ht hW9 => ⟨⟨nI 0, (vp_updL f0 (nI 0).toNatClampNeg r.toInt64, B u), rfl, ⟨by rw [hw.1], fun _ => ⟨r, u, hw.2, vp_upd0 f0 r.toInt64, rfl⟩, fun h9 => absurd hw.1 h9⟩, by rw [ht]; exact hP, va_K.moved hW9.alike hK, hD⟩, hS.F ht⟩) hS.2.2 dL_throttle_18

set_option maxHeartbeats 4000000 in
set_option maxRecDepth 100000 in
theorem h_L_right (l : Launch) (D : va_G) (cI cZ cR : ClassId) (a0 : Nat) (w : va_W) (fs0 : List Value) (hw0 : w[0]? = some (a0, .inr (3, fs0))) {S : Type} (post : S → Prop) (B : S → va_W) (cd sz : Nat) (p1 p2 p3 : Int32) (hM : ∀ sz : Nat, vx_Met l yX3_right wsX3_right ({ frames := 7, cells := 3, slots := 18, locals := 106 } : Room) (va_Pc [.ref a0, .int p1, .int p2, .int p3] (wPre D vwCl (sT cI cZ cR) w sz (eX (va_A w sz)))) (va_Qv (fun u => cd = 0 ∧ post u) (wPost D vwCl (sT cI cZ cR) B (va_A w sz)) (va_A w sz)) (wXc D vwCl (sT cI cZ cR) w (va_A w sz) cd) 3 18 (va_A w sz)) : Met l yL_right wsL_right ({ frames := 8, cells := 3, slots := 18, locals := 130 } : Room) (va_Pc [.ref a0, .int p1, .int p2, .int p3] (wPre D vwCl (sT cI cZ cR) (w) sz (eL (va_A (w) sz)))) (va_Qi (hV cd w post B) (wPost D vwCl (sT cI cZ cR) (fun u => u) (va_A (w) sz)) (va_A (w) sz)) 3 18 (va_A (w) sz) := by
  refine va_MetW (cc := cL_right) (maxL := 5) (ret := some .int) (hh := [(0, 7, 10, 13), (0, 7, 14, 15)]) (by decide) rfl ?_
  intro p e s m args below meth c s₁ Bd hml hv
  obtain ⟨rfl, hsz, hP, hK, hD0, hE⟩ := hv
  have hx := Bd.exec
  have hb := Bd.bytes
  have hr := Bd.returns
  have hts := atoms_spec (ws := wsL_right) Bd.pre
  have hown : s.vm.findClass RL = some m.cls := findClass_of_methodNamed Bd.named
  have hlocks := Bd.notSynchronized
  have htab : c.exceptionTable.toList = tableOf [(0, 7, 10, 13), (0, 7, 14, 15)] := vx_table (x := yL_right) Bd (hts (.codeWith yL_right cL_right 5 (some .int) [(0, 7, 10, 13), (0, 7, 14, 15)]) List.mem_cons_self)
  subst hsz
  have hD := hD0.self (sz := s.heap.size)
  generalize hAe : va_A (w) s.heap.size = A at hD hE ⊢
  have hA : ∀ q : Nat, s.heap.size ≤ q → A q := fun q h => by rw [← hAe]; exact Or.inr h
  have hS : va_S A s.heap s.heap [] := va_S.rf
  have hl := lv_entry ([.ref a0, .int p1, .int p2, .int p3]) (n := 5) (Nat.le_of_ble_eq_true rfl)
  rw [lg_entry_eq]
  generalize (lg_sl ([.ref a0, .int p1, .int p2, .int p3]) ++ List.replicate (5 - (lg_sl ([.ref a0, .int p1, .int p2, .int p3])).length) Slot.unset).toArray = ls at hl ⊢
  have hl : lv_has ls 5 [(0, .ref a0), (1, .int p1), (2, .int p2), (3, .int p3)] := hl
  obtain ⟨hE, hNc⟩ := hE
  obtain ⟨eN1, eA, eS, eR⟩ := id hE
  have hP3 := hP
  have hD3 := hD
  have hPw := hP
  have hDw := hD
  have hKw := hK
  refine lv_aload_n hx hb dL_right_0 rfl (lv_at hl 0 rfl) ?_
  refine lv_iload_n hx hb dL_right_1 rfl (lv_at hl 1 rfl) ?_
  refine lv_iload_n hx hb dL_right_2 rfl (lv_at hl 2 rfl) ?_
  refine lv_iload_n hx hb dL_right_3 rfl (lv_at hl 3 rfl) ?_
  refine w_callxv (w := w) hS hA hK hD (vx_runV (As := [.int p1, .int p2, .int p3]) (rest := []) ⟨hx, hb, hml, hown, hts⟩ (hM s.heap.size) (cwV 3 hts gL_right_X3_right rfl rfl rfl (by decide +kernel) ⟨Nat.le_of_ble_eq_true rfl, Nat.le_of_ble_eq_true rfl⟩) ⟨(w_pre hPw hKw hDw (eX_env hE hS (w_free hDw hS hA))).1, va_recv hKw hPw (show vwCl[3]? = some (RX3, TX3, 4) from rfl) hw0, (w_pre hPw hKw hDw (eX_env hE hS (w_free hDw hS hA))).2⟩ rfl rfl hl.1 rfl (lv_room (Nat.le_of_ble_eq_true rfl)) dL_right_4 ⟨Nat.le_of_ble_eq_true rfl, Nat.le_of_ble_eq_true rfl⟩) (fun E9 ce q9 H locs hxc hP hS hce hcv hcl => ?_) (fun u H locs hw hP hD hS hz => ?_)
  · have hP := hP
    rcases hxc with ⟨rfl, hc9⟩ | ⟨rfl, hc9⟩
    · refine vx_catch (name := "java/lang/IllegalArgumentException") hown [] ⟨0, 7, 10, 13⟩ [⟨0, 7, 14, 15⟩] (by rw [htab]; rfl) (fun z hz => absurd hz List.not_mem_nil) (by decide) (by decide) (hts (.classLink RL 13 "java/lang/IllegalArgumentException") (by decide +kernel)) (va_Nw.use rfl eA) hce hcv hcl ?_
      refine lv_astore (lv' := [(4, .ref q9), (0, .ref a0), (1, .int p1), (2, .int p2), (3, .int p3)]) hx hb dL_right_10 hl (by decide) rfl (fun ls hl => ?_)
      refine lv_iconst (v := nI 1) hx hb dL_right_12 (by decide) ?_
      refine W.widen (k := 3) (n := 18) (Nat.le_of_ble_eq_true rfl) (Nat.le_of_ble_eq_true rfl) ?_
      exact W.iret (v := nI 1) hx hb hr (fun t ht hW9 => ⟨⟨nI 1, w, rfl, ⟨by rw [hc9], fun h9 => absurd (hc9.symm.trans h9) (by decide), fun _ => rfl⟩, by rw [ht]; exact hP, va_K.moved hW9.alike hK, hD⟩, hS.F ht⟩) hS.2.2 dL_right_13
    · refine vx_catch (name := "java/lang/IllegalStateException") hown [⟨0, 7, 10, 13⟩] ⟨0, 7, 14, 15⟩ [] (by rw [htab]; rfl) (fun z hz => Or.inr ?_) (by decide) (by decide) (hts (.classLink RL 15 "java/lang/IllegalStateException") (by decide +kernel)) (va_Nw.use rfl eS) hce hcv hcl ?_
      · rw [List.mem_singleton] at hz
        subst hz
        exact ⟨by decide, "java/lang/IllegalArgumentException", hts (.classLink RL 13 "java/lang/IllegalArgumentException") (by decide +kernel), hNc⟩
      · skip
        refine lv_astore (lv' := [(4, .ref q9), (0, .ref a0), (1, .int p1), (2, .int p2), (3, .int p3)]) hx hb dL_right_14 hl (by decide) rfl (fun ls hl => ?_)
        refine lv_iconst (v := nI 2) hx hb dL_right_16 (by decide) ?_
        refine W.widen (k := 3) (n := 18) (Nat.le_of_ble_eq_true rfl) (Nat.le_of_ble_eq_true rfl) ?_
        exact W.iret (v := nI 2) hx hb hr (fun t ht hW9 => ⟨⟨nI 2, w, rfl, ⟨by rw [hc9], fun h9 => absurd (hc9.symm.trans h9) (by decide), fun _ => rfl⟩, by rw [ht]; exact hP, va_K.moved hW9.alike hK, hD⟩, hS.F ht⟩) hS.2.2 dL_right_17
  · refine lv_goto (tgt := 18) hx hb dL_right_7 (by decide) ?_
    refine lv_iconst (v := nI 0) hx hb dL_right_18 (by decide) ?_
    refine W.widen (k := 3) (n := 18) (Nat.le_of_ble_eq_true rfl) (Nat.le_of_ble_eq_true rfl) ?_
    exact W.iret (v := nI 0) hx hb hr (fun t ht hW9 => ⟨⟨nI 0, B u, rfl, ⟨by rw [hw.1], fun _ => ⟨u, hw.2, rfl⟩, fun h9 => absurd hw.1 h9⟩, by rw [ht]; exact hP, va_K.moved hW9.alike hK, hD⟩, hS.F ht⟩) hS.2.2 dL_right_19

set_option maxHeartbeats 4000000 in
set_option maxRecDepth 100000 in
theorem h_L_next (l : Launch) (D : va_G) (cI cZ cR cJ : ClassId) (ao a0 : Nat) (f0 : Nat → Int64) (w : va_W) (fs0 : List Value) (hw0 : w[0]? = some (a0, .inr (3, fs0))) {S : Type} (post : Int32 → S → Prop) (B : S → va_W) (cd sz : Nat) (p1 : Int32) (hcd2 : ¬ cd = 2) (hM : ∀ sz : Nat, vx_Met l yX3_next wsX3_next ({ frames := 7, cells := 1, slots := 6, locals := 106 } : Room) (va_Pc [.ref a0, .int p1] (wPre D vwCl (sT cI cZ cR) w sz (eX (va_A w sz)))) (va_Qi (fun r u => cd = 0 ∧ post r u) (wPost D vwCl (sT cI cZ cR) B (va_A w sz)) (va_A w sz)) (wXc D vwCl (sT cI cZ cR) w (va_A w sz) cd) 1 6 (va_A w sz)) : Met l yL_next wsL_next ({ frames := 8, cells := 1, slots := 6, locals := 129 } : Room) (va_Pc [.ref a0, .int p1, .ref ao] (wPre D vwCl (lT cI cZ cR cJ) (hW cJ ao f0 w) sz (eL (va_A (hW cJ ao f0 w) sz)))) (va_Qi (hQ cd w post B) (wPost D vwCl (lT cI cZ cR cJ) (fun u => hW cJ ao u.1 u.2) (va_A (hW cJ ao f0 w) sz)) (va_A (hW cJ ao f0 w) sz)) 1 6 (va_A (hW cJ ao f0 w) sz) := by
  refine va_MetW (cc := cL_next) (maxL := 4) (ret := some .int) (hh := [(0, 9, 12, 13)]) (by decide) rfl ?_
  intro p e s m args below meth c s₁ Bd hml hv
  obtain ⟨rfl, hsz, hP, hK, hD0, hE⟩ := hv
  have hx := Bd.exec
  have hb := Bd.bytes
  have hr := Bd.returns
  have hts := atoms_spec (ws := wsL_next) Bd.pre
  have hown : s.vm.findClass RL = some m.cls := findClass_of_methodNamed Bd.named
  have hlocks := Bd.notSynchronized
  have htab : c.exceptionTable.toList = tableOf [(0, 9, 12, 13)] := vx_table (x := yL_next) Bd (hts (.codeWith yL_next cL_next 4 (some .int) [(0, 9, 12, 13)]) List.mem_cons_self)
  subst hsz
  have hD := hD0.self (sz := s.heap.size)
  generalize hAe : va_A (hW cJ ao f0 w) s.heap.size = A at hD hE ⊢
  have hA : ∀ q : Nat, s.heap.size ≤ q → A q := fun q h => by rw [← hAe]; exact Or.inr h
  have hS : va_S A s.heap s.heap [] := va_S.rf
  have hl := lv_entry ([.ref a0, .int p1, .ref ao]) (n := 4) (Nat.le_of_ble_eq_true rfl)
  rw [lg_entry_eq]
  generalize (lg_sl ([.ref a0, .int p1, .ref ao]) ++ List.replicate (4 - (lg_sl ([.ref a0, .int p1, .ref ao])).length) Slot.unset).toArray = ls at hl ⊢
  have hl : lv_has ls 4 [(0, .ref a0), (1, .int p1), (2, .ref ao)] := hl
  obtain ⟨hE, hNc⟩ := hE
  obtain ⟨eN1, eA, eS, eR⟩ := id hE
  have hP3 : va_P D vwCl ([(ao, .inl (cJ, 1, .inr (.inl f0)))] ++ (w ++ [])) s.heap := by rw [List.append_nil]; exact hP
  have hD3 : va_D A ([(ao, .inl (cJ, 1, .inr (.inl f0)))] ++ (w ++ [])) := by rw [List.append_nil]; exact hD
  have hPw := w_midP hP3
  have hDw := w_midD hD3
  have hKw : va_K D vwCl (sT cI cZ cR) s := hK.sub [0, 1, 2] rfl
  refine lv_aload_n hx hb dL_next_0 rfl (lv_at hl 2 rfl) ?_
  refine lv_iconst (v := nI 0) hx hb dL_next_1 (by decide) ?_
  refine lv_aload_n hx hb dL_next_2 rfl (lv_at hl 0 rfl) ?_
  refine lv_iload_n hx hb dL_next_3 rfl (lv_at hl 1 rfl) ?_
  refine w_callxiX (X := [(ao, .inl (cJ, 1, .inr (.inl f0)))]) (w := w) (Y := []) hS hA hP3 hD3 (vx_runV (As := [.int p1]) (rest := [.int (nI 0), .ref ao]) ⟨hx, hb, hml, hown, hts⟩ (hM s.heap.size) (cwV 1 hts gL_next_X3_next rfl rfl rfl (by decide +kernel) ⟨Nat.le_of_ble_eq_true rfl, Nat.le_of_ble_eq_true rfl⟩) ⟨(w_pre hPw hKw hDw (eX_env hE hS (w_free hDw hS hA))).1, va_recv hKw hPw (show vwCl[3]? = some (RX3, TX3, 4) from rfl) hw0, (w_pre hPw hKw hDw (eX_env hE hS (w_free hDw hS hA))).2⟩ rfl rfl hl.1 rfl (lv_room (Nat.le_of_ble_eq_true rfl)) dL_next_4 ⟨Nat.le_of_ble_eq_true rfl, Nat.le_of_ble_eq_true rfl⟩) (fun E9 ce q9 H locs hxc hP hS hce hcv hcl => ?_) (fun r u H locs hw hP hD hS => ?_)
  · rw [List.append_nil] at hP
    rcases hxc with ⟨rfl, hc9⟩ | ⟨rfl, hc9⟩
    · refine vx_catch (name := "java/lang/IllegalArgumentException") hown [] ⟨0, 9, 12, 13⟩ [] (by rw [htab]; rfl) (fun z hz => absurd hz List.not_mem_nil) (by decide) (by decide) (hts (.classLink RL 13 "java/lang/IllegalArgumentException") (by decide +kernel)) (va_Nw.use rfl eA) hce hcv hcl ?_
      refine lv_astore_n (lv' := [(3, .ref q9), (0, .ref a0), (1, .int p1), (2, .ref ao)]) hx hb dL_next_12 rfl hl (by decide) rfl (fun ls hl => ?_)
      refine lv_iconst (v := nI 1) hx hb dL_next_13 (by decide) ?_
      refine W.widen (k := 1) (n := 6) (Nat.le_of_ble_eq_true rfl) (Nat.le_of_ble_eq_true rfl) ?_
      exact W.iret (v := nI 1) hx hb hr (fun t ht hW9 => ⟨⟨nI 1, (f0, w), rfl, ⟨by rw [hc9], fun h9 => absurd (hc9.symm.trans h9) (by decide), fun _ => rfl⟩, by rw [ht]; exact hP, va_K.moved hW9.alike hK, hD⟩, hS.F ht⟩) hS.2.2 dL_next_14
    · exact absurd hc9 hcd2
  · rw [List.append_nil] at hP hD
    refine lv_i2l (v := r.toInt64) hx hb dL_next_7 rfl ?_
    refine va_last hx hb hK hP hD hS 0 3 rfl rfl (vp_in_nI (by decide) (by decide)) dL_next_8 (fun H locs hP hD hS => ?_)
    refine lv_goto (tgt := 15) hx hb dL_next_9 (by decide) ?_
    refine lv_iconst (v := nI 0) hx hb dL_next_15 (by decide) ?_
    refine W.widen (k := 1) (n := 6) (Nat.le_of_ble_eq_true rfl) (Nat.le_of_ble_eq_true rfl) ?_
    exact W.iret (v := nI 0) hx hb hr (fun t ht hW9 => ⟨⟨nI 0, (vp_updL f0 (nI 0).toNatClampNeg r.toInt64, B u), rfl, ⟨by rw [hw.1], fun _ => ⟨r, u, hw.2, vp_upd0 f0 r.toInt64, rfl⟩, fun h9 => absurd hw.1 h9⟩, by rw [ht]; exact hP, va_K.moved hW9.alike hK, hD⟩, hS.F ht⟩) hS.2.2 dL_next_16

set_option maxHeartbeats 4000000 in
set_option maxRecDepth 100000 in
theorem h_L_done (l : Launch) (D : va_G) (cI cZ cR cJ : ClassId) (ao a0 : Nat) (f0 : Nat → Int64) (w : va_W) (fs0 : List Value) (hw0 : w[0]? = some (a0, .inr (3, fs0))) {S : Type} (post : Int32 → S → Prop) (B : S → va_W) (cd sz : Nat) (p1 p2 : Int32) (hcd2 : ¬ cd = 2) (hM : ∀ sz : Nat, vx_Met l yX3_done wsX3_done ({ frames := 7, cells := 2, slots := 12, locals := 106 } : Room) (va_Pc [.ref a0, .int p1, .int p2] (wPre D vwCl (sT cI cZ cR) w sz (eX (va_A w sz)))) (va_Qi (fun r u => cd = 0 ∧ post r u) (wPost D vwCl (sT cI cZ cR) B (va_A w sz)) (va_A w sz)) (wXc D vwCl (sT cI cZ cR) w (va_A w sz) cd) 2 12 (va_A w sz)) : Met l yL_done wsL_done ({ frames := 8, cells := 2, slots := 12, locals := 129 } : Room) (va_Pc [.ref a0, .int p1, .int p2, .ref ao] (wPre D vwCl (lT cI cZ cR cJ) (hW cJ ao f0 w) sz (eL (va_A (hW cJ ao f0 w) sz)))) (va_Qi (hQ cd w post B) (wPost D vwCl (lT cI cZ cR cJ) (fun u => hW cJ ao u.1 u.2) (va_A (hW cJ ao f0 w) sz)) (va_A (hW cJ ao f0 w) sz)) 2 12 (va_A (hW cJ ao f0 w) sz) := by
  refine va_MetW (cc := cL_done) (maxL := 5) (ret := some .int) (hh := [(0, 10, 13, 13)]) (by decide) rfl ?_
  intro p e s m args below meth c s₁ Bd hml hv
  obtain ⟨rfl, hsz, hP, hK, hD0, hE⟩ := hv
  have hx := Bd.exec
  have hb := Bd.bytes
  have hr := Bd.returns
  have hts := atoms_spec (ws := wsL_done) Bd.pre
  have hown : s.vm.findClass RL = some m.cls := findClass_of_methodNamed Bd.named
  have hlocks := Bd.notSynchronized
  have htab : c.exceptionTable.toList = tableOf [(0, 10, 13, 13)] := vx_table (x := yL_done) Bd (hts (.codeWith yL_done cL_done 5 (some .int) [(0, 10, 13, 13)]) List.mem_cons_self)
  subst hsz
  have hD := hD0.self (sz := s.heap.size)
  generalize hAe : va_A (hW cJ ao f0 w) s.heap.size = A at hD hE ⊢
  have hA : ∀ q : Nat, s.heap.size ≤ q → A q := fun q h => by rw [← hAe]; exact Or.inr h
  have hS : va_S A s.heap s.heap [] := va_S.rf
  have hl := lv_entry ([.ref a0, .int p1, .int p2, .ref ao]) (n := 5) (Nat.le_of_ble_eq_true rfl)
  rw [lg_entry_eq]
  generalize (lg_sl ([.ref a0, .int p1, .int p2, .ref ao]) ++ List.replicate (5 - (lg_sl ([.ref a0, .int p1, .int p2, .ref ao])).length) Slot.unset).toArray = ls at hl ⊢
  have hl : lv_has ls 5 [(0, .ref a0), (1, .int p1), (2, .int p2), (3, .ref ao)] := hl
  obtain ⟨hE, hNc⟩ := hE
  obtain ⟨eN1, eA, eS, eR⟩ := id hE
  have hP3 : va_P D vwCl ([(ao, .inl (cJ, 1, .inr (.inl f0)))] ++ (w ++ [])) s.heap := by rw [List.append_nil]; exact hP
  have hD3 : va_D A ([(ao, .inl (cJ, 1, .inr (.inl f0)))] ++ (w ++ [])) := by rw [List.append_nil]; exact hD
  have hPw := w_midP hP3
  have hDw := w_midD hD3
  have hKw : va_K D vwCl (sT cI cZ cR) s := hK.sub [0, 1, 2] rfl
  refine lv_aload_n hx hb dL_done_0 rfl (lv_at hl 3 rfl) ?_
  refine lv_iconst (v := nI 0) hx hb dL_done_1 (by decide) ?_
  refine lv_aload_n hx hb dL_done_2 rfl (lv_at hl 0 rfl) ?_
  refine lv_iload_n hx hb dL_done_3 rfl (lv_at hl 1 rfl) ?_
  refine lv_iload_n hx hb dL_done_4 rfl (lv_at hl 2 rfl) ?_
  refine w_callxiX (X := [(ao, .inl (cJ, 1, .inr (.inl f0)))]) (w := w) (Y := []) hS hA hP3 hD3 (vx_runV (As := [.int p1, .int p2]) (rest := [.int (nI 0), .ref ao]) ⟨hx, hb, hml, hown, hts⟩ (hM s.heap.size) (cwV 2 hts gL_done_X3_done rfl rfl rfl (by decide +kernel) ⟨Nat.le_of_ble_eq_true rfl, Nat.le_of_ble_eq_true rfl⟩) ⟨(w_pre hPw hKw hDw (eX_env hE hS (w_free hDw hS hA))).1, va_recv hKw hPw (show vwCl[3]? = some (RX3, TX3, 4) from rfl) hw0, (w_pre hPw hKw hDw (eX_env hE hS (w_free hDw hS hA))).2⟩ rfl rfl hl.1 rfl (lv_room (Nat.le_of_ble_eq_true rfl)) dL_done_5 ⟨Nat.le_of_ble_eq_true rfl, Nat.le_of_ble_eq_true rfl⟩) (fun E9 ce q9 H locs hxc hP hS hce hcv hcl => ?_) (fun r u H locs hw hP hD hS => ?_)
  · rw [List.append_nil] at hP
    rcases hxc with ⟨rfl, hc9⟩ | ⟨rfl, hc9⟩
    · refine vx_catch (name := "java/lang/IllegalArgumentException") hown [] ⟨0, 10, 13, 13⟩ [] (by rw [htab]; rfl) (fun z hz => absurd hz List.not_mem_nil) (by decide) (by decide) (hts (.classLink RL 13 "java/lang/IllegalArgumentException") (by decide +kernel)) (va_Nw.use rfl eA) hce hcv hcl ?_
      refine lv_astore (lv' := [(4, .ref q9), (0, .ref a0), (1, .int p1), (2, .int p2), (3, .ref ao)]) hx hb dL_done_13 hl (by decide) rfl (fun ls hl => ?_)
      refine lv_iconst (v := nI 1) hx hb dL_done_15 (by decide) ?_
      refine W.widen (k := 2) (n := 12) (Nat.le_of_ble_eq_true rfl) (Nat.le_of_ble_eq_true rfl) ?_
      exact W.iret (v := nI 1) hx hb hr (fun t ht hW9 => ⟨⟨nI 1, (f0, w), rfl, ⟨by rw [hc9], fun h9 => absurd (hc9.symm.trans h9) (by decide), fun _ => rfl⟩, by rw [ht]; exact hP, va_K.moved hW9.alike hK, hD⟩, hS.F ht⟩) hS.2.2 dL_done_16
    · exact absurd hc9 hcd2
  · rw [List.append_nil] at hP hD
    refine lv_i2l (v := r.toInt64) hx hb dL_done_8 rfl ?_
    refine va_last hx hb hK hP hD hS 0 3 rfl rfl (vp_in_nI (by decide) (by decide)) dL_done_9 (fun H locs hP hD hS => ?_)
    refine lv_goto (tgt := 17) hx hb dL_done_10 (by decide) ?_
    refine lv_iconst (v := nI 0) hx hb dL_done_17 (by decide) ?_
    refine W.widen (k := 2) (n := 12) (Nat.le_of_ble_eq_true rfl) (Nat.le_of_ble_eq_true rfl) ?_
    exact W.iret (v := nI 0) hx hb hr (fun t ht hW9 => ⟨⟨nI 0, (vp_updL f0 (nI 0).toNatClampNeg r.toInt64, B u), rfl, ⟨by rw [hw.1], fun _ => ⟨r, u, hw.2, vp_upd0 f0 r.toInt64, rfl⟩, fun h9 => absurd hw.1 h9⟩, by rw [ht]; exact hP, va_K.moved hW9.alike hK, hD⟩, hS.F ht⟩) hS.2.2 dL_done_18

set_option maxHeartbeats 4000000 in
set_option maxRecDepth 100000 in
theorem h_L_resume (l : Launch) (D : va_G) (cI cZ cR cJ : ClassId) (ao a0 : Nat) (f0 : Nat → Int64) (w : va_W) (fs0 : List Value) (hw0 : w[0]? = some (a0, .inr (3, fs0))) {S : Type} (post : Int32 → S → Prop) (B : S → va_W) (cd sz : Nat) (p1 : Int32) (hcd2 : ¬ cd = 2) (hM : ∀ sz : Nat, vx_Met l yX3_resume wsX3_resume ({ frames := 7, cells := 1, slots := 6, locals := 106 } : Room) (va_Pc [.ref a0, .int p1] (wPre D vwCl (sT cI cZ cR) w sz (eX (va_A w sz)))) (va_Qi (fun r u => cd = 0 ∧ post r u) (wPost D vwCl (sT cI cZ cR) B (va_A w sz)) (va_A w sz)) (wXc D vwCl (sT cI cZ cR) w (va_A w sz) cd) 1 6 (va_A w sz)) : Met l yL_resume wsL_resume ({ frames := 8, cells := 1, slots := 6, locals := 127 } : Room) (va_Pc [.ref a0, .int p1, .ref ao] (wPre D vwCl (lT cI cZ cR cJ) (hW cJ ao f0 w) sz (eL (va_A (hW cJ ao f0 w) sz)))) (va_Qi (hQ cd w post B) (wPost D vwCl (lT cI cZ cR cJ) (fun u => hW cJ ao u.1 u.2) (va_A (hW cJ ao f0 w) sz)) (va_A (hW cJ ao f0 w) sz)) 1 6 (va_A (hW cJ ao f0 w) sz) := by
  refine va_MetW (cc := cL_resume) (maxL := 4) (ret := some .int) (hh := [(0, 9, 12, 13)]) (by decide) rfl ?_
  intro p e s m args below meth c s₁ Bd hml hv
  obtain ⟨rfl, hsz, hP, hK, hD0, hE⟩ := hv
  have hx := Bd.exec
  have hb := Bd.bytes
  have hr := Bd.returns
  have hts := atoms_spec (ws := wsL_resume) Bd.pre
  have hown : s.vm.findClass RL = some m.cls := findClass_of_methodNamed Bd.named
  have hlocks := Bd.notSynchronized
  have htab : c.exceptionTable.toList = tableOf [(0, 9, 12, 13)] := vx_table (x := yL_resume) Bd (hts (.codeWith yL_resume cL_resume 4 (some .int) [(0, 9, 12, 13)]) List.mem_cons_self)
  subst hsz
  have hD := hD0.self (sz := s.heap.size)
  generalize hAe : va_A (hW cJ ao f0 w) s.heap.size = A at hD hE ⊢
  have hA : ∀ q : Nat, s.heap.size ≤ q → A q := fun q h => by rw [← hAe]; exact Or.inr h
  have hS : va_S A s.heap s.heap [] := va_S.rf
  have hl := lv_entry ([.ref a0, .int p1, .ref ao]) (n := 4) (Nat.le_of_ble_eq_true rfl)
  rw [lg_entry_eq]
  generalize (lg_sl ([.ref a0, .int p1, .ref ao]) ++ List.replicate (4 - (lg_sl ([.ref a0, .int p1, .ref ao])).length) Slot.unset).toArray = ls at hl ⊢
  have hl : lv_has ls 4 [(0, .ref a0), (1, .int p1), (2, .ref ao)] := hl
  obtain ⟨hE, hNc⟩ := hE
  obtain ⟨eN1, eA, eS, eR⟩ := id hE
  have hP3 : va_P D vwCl ([(ao, .inl (cJ, 1, .inr (.inl f0)))] ++ (w ++ [])) s.heap := by rw [List.append_nil]; exact hP
  have hD3 : va_D A ([(ao, .inl (cJ, 1, .inr (.inl f0)))] ++ (w ++ [])) := by rw [List.append_nil]; exact hD
  have hPw := w_midP hP3
  have hDw := w_midD hD3
  have hKw : va_K D vwCl (sT cI cZ cR) s := hK.sub [0, 1, 2] rfl
  refine lv_aload_n hx hb dL_resume_0 rfl (lv_at hl 2 rfl) ?_
  refine lv_iconst (v := nI 0) hx hb dL_resume_1 (by decide) ?_
  refine lv_aload_n hx hb dL_resume_2 rfl (lv_at hl 0 rfl) ?_
  refine lv_iload_n hx hb dL_resume_3 rfl (lv_at hl 1 rfl) ?_
  refine w_callxiX (X := [(ao, .inl (cJ, 1, .inr (.inl f0)))]) (w := w) (Y := []) hS hA hP3 hD3 (vx_runV (As := [.int p1]) (rest := [.int (nI 0), .ref ao]) ⟨hx, hb, hml, hown, hts⟩ (hM s.heap.size) (cwV 1 hts gL_resume_X3_resume rfl rfl rfl (by decide +kernel) ⟨Nat.le_of_ble_eq_true rfl, Nat.le_of_ble_eq_true rfl⟩) ⟨(w_pre hPw hKw hDw (eX_env hE hS (w_free hDw hS hA))).1, va_recv hKw hPw (show vwCl[3]? = some (RX3, TX3, 4) from rfl) hw0, (w_pre hPw hKw hDw (eX_env hE hS (w_free hDw hS hA))).2⟩ rfl rfl hl.1 rfl (lv_room (Nat.le_of_ble_eq_true rfl)) dL_resume_4 ⟨Nat.le_of_ble_eq_true rfl, Nat.le_of_ble_eq_true rfl⟩) (fun E9 ce q9 H locs hxc hP hS hce hcv hcl => ?_) (fun r u H locs hw hP hD hS => ?_)
  · rw [List.append_nil] at hP
    rcases hxc with ⟨rfl, hc9⟩ | ⟨rfl, hc9⟩
    · refine vx_catch (name := "java/lang/IllegalArgumentException") hown [] ⟨0, 9, 12, 13⟩ [] (by rw [htab]; rfl) (fun z hz => absurd hz List.not_mem_nil) (by decide) (by decide) (hts (.classLink RL 13 "java/lang/IllegalArgumentException") (by decide +kernel)) (va_Nw.use rfl eA) hce hcv hcl ?_
      refine lv_astore_n (lv' := [(3, .ref q9), (0, .ref a0), (1, .int p1), (2, .ref ao)]) hx hb dL_resume_12 rfl hl (by decide) rfl (fun ls hl => ?_)
      refine lv_iconst (v := nI 1) hx hb dL_resume_13 (by decide) ?_
      refine W.widen (k := 1) (n := 6) (Nat.le_of_ble_eq_true rfl) (Nat.le_of_ble_eq_true rfl) ?_
      exact W.iret (v := nI 1) hx hb hr (fun t ht hW9 => ⟨⟨nI 1, (f0, w), rfl, ⟨by rw [hc9], fun h9 => absurd (hc9.symm.trans h9) (by decide), fun _ => rfl⟩, by rw [ht]; exact hP, va_K.moved hW9.alike hK, hD⟩, hS.F ht⟩) hS.2.2 dL_resume_14
    · exact absurd hc9 hcd2
  · rw [List.append_nil] at hP hD
    refine lv_i2l (v := r.toInt64) hx hb dL_resume_7 rfl ?_
    refine va_last hx hb hK hP hD hS 0 3 rfl rfl (vp_in_nI (by decide) (by decide)) dL_resume_8 (fun H locs hP hD hS => ?_)
    refine lv_goto (tgt := 15) hx hb dL_resume_9 (by decide) ?_
    refine lv_iconst (v := nI 0) hx hb dL_resume_15 (by decide) ?_
    refine W.widen (k := 1) (n := 6) (Nat.le_of_ble_eq_true rfl) (Nat.le_of_ble_eq_true rfl) ?_
    exact W.iret (v := nI 0) hx hb hr (fun t ht hW9 => ⟨⟨nI 0, (vp_updL f0 (nI 0).toNatClampNeg r.toInt64, B u), rfl, ⟨by rw [hw.1], fun _ => ⟨r, u, hw.2, vp_upd0 f0 r.toInt64, rfl⟩, fun h9 => absurd hw.1 h9⟩, by rw [ht]; exact hP, va_K.moved hW9.alike hK, hD⟩, hS.F ht⟩) hS.2.2 dL_resume_16

set_option maxHeartbeats 4000000 in
set_option maxRecDepth 100000 in
theorem h_L_row (l : Launch) (D : va_G) (cI cZ cR cJ : ClassId) (ao a0 : Nat) (f0 : Nat → Int64) (w : va_W) (fs0 : List Value) (hw0 : w[0]? = some (a0, .inr (3, fs0))) {S : Type} (post : Int32 → S → Prop) (B : S → va_W) (cd sz : Nat) (p1 p2 : Int32) (hcd2 : ¬ cd = 2) (hM : ∀ sz : Nat, vx_Met l yX3_row wsX3_row ({ frames := 7, cells := 2, slots := 12, locals := 102 } : Room) (va_Pc [.ref a0, .int p1, .int p2] (wPre D vwCl (sT cI cZ cR) w sz (eX (va_A w sz)))) (va_Qi (fun r u => cd = 0 ∧ post r u) (wPost D vwCl (sT cI cZ cR) B (va_A w sz)) (va_A w sz)) (wXc D vwCl (sT cI cZ cR) w (va_A w sz) cd) 2 12 (va_A w sz)) : Met l yL_row wsL_row ({ frames := 8, cells := 2, slots := 12, locals := 125 } : Room) (va_Pc [.ref a0, .int p1, .int p2, .ref ao] (wPre D vwCl (lT cI cZ cR cJ) (hW cJ ao f0 w) sz (eL (va_A (hW cJ ao f0 w) sz)))) (va_Qi (hQ cd w post B) (wPost D vwCl (lT cI cZ cR cJ) (fun u => hW cJ ao u.1 u.2) (va_A (hW cJ ao f0 w) sz)) (va_A (hW cJ ao f0 w) sz)) 2 12 (va_A (hW cJ ao f0 w) sz) := by
  refine va_MetW (cc := cL_row) (maxL := 5) (ret := some .int) (hh := [(0, 10, 13, 13)]) (by decide) rfl ?_
  intro p e s m args below meth c s₁ Bd hml hv
  obtain ⟨rfl, hsz, hP, hK, hD0, hE⟩ := hv
  have hx := Bd.exec
  have hb := Bd.bytes
  have hr := Bd.returns
  have hts := atoms_spec (ws := wsL_row) Bd.pre
  have hown : s.vm.findClass RL = some m.cls := findClass_of_methodNamed Bd.named
  have hlocks := Bd.notSynchronized
  have htab : c.exceptionTable.toList = tableOf [(0, 10, 13, 13)] := vx_table (x := yL_row) Bd (hts (.codeWith yL_row cL_row 5 (some .int) [(0, 10, 13, 13)]) List.mem_cons_self)
  subst hsz
  have hD := hD0.self (sz := s.heap.size)
  generalize hAe : va_A (hW cJ ao f0 w) s.heap.size = A at hD hE ⊢
  have hA : ∀ q : Nat, s.heap.size ≤ q → A q := fun q h => by rw [← hAe]; exact Or.inr h
  have hS : va_S A s.heap s.heap [] := va_S.rf
  have hl := lv_entry ([.ref a0, .int p1, .int p2, .ref ao]) (n := 5) (Nat.le_of_ble_eq_true rfl)
  rw [lg_entry_eq]
  generalize (lg_sl ([.ref a0, .int p1, .int p2, .ref ao]) ++ List.replicate (5 - (lg_sl ([.ref a0, .int p1, .int p2, .ref ao])).length) Slot.unset).toArray = ls at hl ⊢
  have hl : lv_has ls 5 [(0, .ref a0), (1, .int p1), (2, .int p2), (3, .ref ao)] := hl
  obtain ⟨hE, hNc⟩ := hE
  obtain ⟨eN1, eA, eS, eR⟩ := id hE
  have hP3 : va_P D vwCl ([(ao, .inl (cJ, 1, .inr (.inl f0)))] ++ (w ++ [])) s.heap := by rw [List.append_nil]; exact hP
  have hD3 : va_D A ([(ao, .inl (cJ, 1, .inr (.inl f0)))] ++ (w ++ [])) := by rw [List.append_nil]; exact hD
  have hPw := w_midP hP3
  have hDw := w_midD hD3
  have hKw : va_K D vwCl (sT cI cZ cR) s := hK.sub [0, 1, 2] rfl
  refine lv_aload_n hx hb dL_row_0 rfl (lv_at hl 3 rfl) ?_
  refine lv_iconst (v := nI 0) hx hb dL_row_1 (by decide) ?_
  refine lv_aload_n hx hb dL_row_2 rfl (lv_at hl 0 rfl) ?_
  refine lv_iload_n hx hb dL_row_3 rfl (lv_at hl 1 rfl) ?_
  refine lv_iload_n hx hb dL_row_4 rfl (lv_at hl 2 rfl) ?_
  refine w_callxiX (X := [(ao, .inl (cJ, 1, .inr (.inl f0)))]) (w := w) (Y := []) hS hA hP3 hD3 (vx_runV (As := [.int p1, .int p2]) (rest := [.int (nI 0), .ref ao]) ⟨hx, hb, hml, hown, hts⟩ (hM s.heap.size) (cwV 2 hts gL_row_X3_row rfl rfl rfl (by decide +kernel) ⟨Nat.le_of_ble_eq_true rfl, Nat.le_of_ble_eq_true rfl⟩) ⟨(w_pre hPw hKw hDw (eX_env hE hS (w_free hDw hS hA))).1, va_recv hKw hPw (show vwCl[3]? = some (RX3, TX3, 4) from rfl) hw0, (w_pre hPw hKw hDw (eX_env hE hS (w_free hDw hS hA))).2⟩ rfl rfl hl.1 rfl (lv_room (Nat.le_of_ble_eq_true rfl)) dL_row_5 ⟨Nat.le_of_ble_eq_true rfl, Nat.le_of_ble_eq_true rfl⟩) (fun E9 ce q9 H locs hxc hP hS hce hcv hcl => ?_) (fun r u H locs hw hP hD hS => ?_)
  · rw [List.append_nil] at hP
    rcases hxc with ⟨rfl, hc9⟩ | ⟨rfl, hc9⟩
    · refine vx_catch (name := "java/lang/IllegalArgumentException") hown [] ⟨0, 10, 13, 13⟩ [] (by rw [htab]; rfl) (fun z hz => absurd hz List.not_mem_nil) (by decide) (by decide) (hts (.classLink RL 13 "java/lang/IllegalArgumentException") (by decide +kernel)) (va_Nw.use rfl eA) hce hcv hcl ?_
      refine lv_astore (lv' := [(4, .ref q9), (0, .ref a0), (1, .int p1), (2, .int p2), (3, .ref ao)]) hx hb dL_row_13 hl (by decide) rfl (fun ls hl => ?_)
      refine lv_iconst (v := nI 1) hx hb dL_row_15 (by decide) ?_
      refine W.widen (k := 2) (n := 12) (Nat.le_of_ble_eq_true rfl) (Nat.le_of_ble_eq_true rfl) ?_
      exact W.iret (v := nI 1) hx hb hr (fun t ht hW9 => ⟨⟨nI 1, (f0, w), rfl, ⟨by rw [hc9], fun h9 => absurd (hc9.symm.trans h9) (by decide), fun _ => rfl⟩, by rw [ht]; exact hP, va_K.moved hW9.alike hK, hD⟩, hS.F ht⟩) hS.2.2 dL_row_16
    · exact absurd hc9 hcd2
  · rw [List.append_nil] at hP hD
    refine lv_i2l (v := r.toInt64) hx hb dL_row_8 rfl ?_
    refine va_last hx hb hK hP hD hS 0 3 rfl rfl (vp_in_nI (by decide) (by decide)) dL_row_9 (fun H locs hP hD hS => ?_)
    refine lv_goto (tgt := 17) hx hb dL_row_10 (by decide) ?_
    refine lv_iconst (v := nI 0) hx hb dL_row_17 (by decide) ?_
    refine W.widen (k := 2) (n := 12) (Nat.le_of_ble_eq_true rfl) (Nat.le_of_ble_eq_true rfl) ?_
    exact W.iret (v := nI 0) hx hb hr (fun t ht hW9 => ⟨⟨nI 0, (vp_updL f0 (nI 0).toNatClampNeg r.toInt64, B u), rfl, ⟨by rw [hw.1], fun _ => ⟨r, u, hw.2, vp_upd0 f0 r.toInt64, rfl⟩, fun h9 => absurd hw.1 h9⟩, by rw [ht]; exact hP, va_K.moved hW9.alike hK, hD⟩, hS.F ht⟩) hS.2.2 dL_row_18

set_option maxHeartbeats 4000000 in
set_option maxRecDepth 100000 in
theorem h_L_about (l : Launch) (D : va_G) (cI cZ cR cJ : ClassId) (ao a0 : Nat) (f0 : Nat → Int64) (w : va_W) (fs0 : List Value) (hw0 : w[0]? = some (a0, .inr (3, fs0))) {S : Type} (post : Int32 → S → Prop) (B : S → va_W) (cd sz : Nat) (p1 p2 : Int32) (hcd2 : ¬ cd = 2) (hM : ∀ sz : Nat, vx_Met l yX3_about wsX3_about ({ frames := 7, cells := 2, slots := 12, locals := 106 } : Room) (va_Pc [.ref a0, .int p1, .int p2] (wPre D vwCl (sT cI cZ cR) w sz (eX (va_A w sz)))) (va_Qi (fun r u => cd = 0 ∧ post r u) (wPost D vwCl (sT cI cZ cR) B (va_A w sz)) (va_A w sz)) (wXc D vwCl (sT cI cZ cR) w (va_A w sz) cd) 2 12 (va_A w sz)) : Met l yL_about wsL_about ({ frames := 8, cells := 2, slots := 12, locals := 129 } : Room) (va_Pc [.ref a0, .int p1, .int p2, .ref ao] (wPre D vwCl (lT cI cZ cR cJ) (hW cJ ao f0 w) sz (eL (va_A (hW cJ ao f0 w) sz)))) (va_Qi (hQ cd w post B) (wPost D vwCl (lT cI cZ cR cJ) (fun u => hW cJ ao u.1 u.2) (va_A (hW cJ ao f0 w) sz)) (va_A (hW cJ ao f0 w) sz)) 2 12 (va_A (hW cJ ao f0 w) sz) := by
  refine va_MetW (cc := cL_about) (maxL := 5) (ret := some .int) (hh := [(0, 10, 13, 13)]) (by decide) rfl ?_
  intro p e s m args below meth c s₁ Bd hml hv
  obtain ⟨rfl, hsz, hP, hK, hD0, hE⟩ := hv
  have hx := Bd.exec
  have hb := Bd.bytes
  have hr := Bd.returns
  have hts := atoms_spec (ws := wsL_about) Bd.pre
  have hown : s.vm.findClass RL = some m.cls := findClass_of_methodNamed Bd.named
  have hlocks := Bd.notSynchronized
  have htab : c.exceptionTable.toList = tableOf [(0, 10, 13, 13)] := vx_table (x := yL_about) Bd (hts (.codeWith yL_about cL_about 5 (some .int) [(0, 10, 13, 13)]) List.mem_cons_self)
  subst hsz
  have hD := hD0.self (sz := s.heap.size)
  generalize hAe : va_A (hW cJ ao f0 w) s.heap.size = A at hD hE ⊢
  have hA : ∀ q : Nat, s.heap.size ≤ q → A q := fun q h => by rw [← hAe]; exact Or.inr h
  have hS : va_S A s.heap s.heap [] := va_S.rf
  have hl := lv_entry ([.ref a0, .int p1, .int p2, .ref ao]) (n := 5) (Nat.le_of_ble_eq_true rfl)
  rw [lg_entry_eq]
  generalize (lg_sl ([.ref a0, .int p1, .int p2, .ref ao]) ++ List.replicate (5 - (lg_sl ([.ref a0, .int p1, .int p2, .ref ao])).length) Slot.unset).toArray = ls at hl ⊢
  have hl : lv_has ls 5 [(0, .ref a0), (1, .int p1), (2, .int p2), (3, .ref ao)] := hl
  obtain ⟨hE, hNc⟩ := hE
  obtain ⟨eN1, eA, eS, eR⟩ := id hE
  have hP3 : va_P D vwCl ([(ao, .inl (cJ, 1, .inr (.inl f0)))] ++ (w ++ [])) s.heap := by rw [List.append_nil]; exact hP
  have hD3 : va_D A ([(ao, .inl (cJ, 1, .inr (.inl f0)))] ++ (w ++ [])) := by rw [List.append_nil]; exact hD
  have hPw := w_midP hP3
  have hDw := w_midD hD3
  have hKw : va_K D vwCl (sT cI cZ cR) s := hK.sub [0, 1, 2] rfl
  refine lv_aload_n hx hb dL_about_0 rfl (lv_at hl 3 rfl) ?_
  refine lv_iconst (v := nI 0) hx hb dL_about_1 (by decide) ?_
  refine lv_aload_n hx hb dL_about_2 rfl (lv_at hl 0 rfl) ?_
  refine lv_iload_n hx hb dL_about_3 rfl (lv_at hl 1 rfl) ?_
  refine lv_iload_n hx hb dL_about_4 rfl (lv_at hl 2 rfl) ?_
  refine w_callxiX (X := [(ao, .inl (cJ, 1, .inr (.inl f0)))]) (w := w) (Y := []) hS hA hP3 hD3 (vx_runV (As := [.int p1, .int p2]) (rest := [.int (nI 0), .ref ao]) ⟨hx, hb, hml, hown, hts⟩ (hM s.heap.size) (cwV 2 hts gL_about_X3_about rfl rfl rfl (by decide +kernel) ⟨Nat.le_of_ble_eq_true rfl, Nat.le_of_ble_eq_true rfl⟩) ⟨(w_pre hPw hKw hDw (eX_env hE hS (w_free hDw hS hA))).1, va_recv hKw hPw (show vwCl[3]? = some (RX3, TX3, 4) from rfl) hw0, (w_pre hPw hKw hDw (eX_env hE hS (w_free hDw hS hA))).2⟩ rfl rfl hl.1 rfl (lv_room (Nat.le_of_ble_eq_true rfl)) dL_about_5 ⟨Nat.le_of_ble_eq_true rfl, Nat.le_of_ble_eq_true rfl⟩) (fun E9 ce q9 H locs hxc hP hS hce hcv hcl => ?_) (fun r u H locs hw hP hD hS => ?_)
  · rw [List.append_nil] at hP
    rcases hxc with ⟨rfl, hc9⟩ | ⟨rfl, hc9⟩
    · refine vx_catch (name := "java/lang/IllegalArgumentException") hown [] ⟨0, 10, 13, 13⟩ [] (by rw [htab]; rfl) (fun z hz => absurd hz List.not_mem_nil) (by decide) (by decide) (hts (.classLink RL 13 "java/lang/IllegalArgumentException") (by decide +kernel)) (va_Nw.use rfl eA) hce hcv hcl ?_
      refine lv_astore (lv' := [(4, .ref q9), (0, .ref a0), (1, .int p1), (2, .int p2), (3, .ref ao)]) hx hb dL_about_13 hl (by decide) rfl (fun ls hl => ?_)
      refine lv_iconst (v := nI 1) hx hb dL_about_15 (by decide) ?_
      refine W.widen (k := 2) (n := 12) (Nat.le_of_ble_eq_true rfl) (Nat.le_of_ble_eq_true rfl) ?_
      exact W.iret (v := nI 1) hx hb hr (fun t ht hW9 => ⟨⟨nI 1, (f0, w), rfl, ⟨by rw [hc9], fun h9 => absurd (hc9.symm.trans h9) (by decide), fun _ => rfl⟩, by rw [ht]; exact hP, va_K.moved hW9.alike hK, hD⟩, hS.F ht⟩) hS.2.2 dL_about_16
    · exact absurd hc9 hcd2
  · rw [List.append_nil] at hP hD
    refine lv_i2l (v := r.toInt64) hx hb dL_about_8 rfl ?_
    refine va_last hx hb hK hP hD hS 0 3 rfl rfl (vp_in_nI (by decide) (by decide)) dL_about_9 (fun H locs hP hD hS => ?_)
    refine lv_goto (tgt := 17) hx hb dL_about_10 (by decide) ?_
    refine lv_iconst (v := nI 0) hx hb dL_about_17 (by decide) ?_
    refine W.widen (k := 2) (n := 12) (Nat.le_of_ble_eq_true rfl) (Nat.le_of_ble_eq_true rfl) ?_
    exact W.iret (v := nI 0) hx hb hr (fun t ht hW9 => ⟨⟨nI 0, (vp_updL f0 (nI 0).toNatClampNeg r.toInt64, B u), rfl, ⟨by rw [hw.1], fun _ => ⟨r, u, hw.2, vp_upd0 f0 r.toInt64, rfl⟩, fun h9 => absurd hw.1 h9⟩, by rw [ht]; exact hP, va_K.moved hW9.alike hK, hD⟩, hS.F ht⟩) hS.2.2 dL_about_18

set_option maxHeartbeats 4000000 in
set_option maxRecDepth 100000 in
theorem h_L_told (l : Launch) (D : va_G) (cI cZ cR cJ : ClassId) (ao a0 : Nat) (f0 : Nat → Int64) (w : va_W) (fs0 : List Value) (hw0 : w[0]? = some (a0, .inr (3, fs0))) {S : Type} (post : Int32 → S → Prop) (B : S → va_W) (cd sz : Nat) (p1 : Int32) (hcd2 : ¬ cd = 2) (hM : ∀ sz : Nat, vx_Met l yX3_told wsX3_told ({ frames := 7, cells := 1, slots := 6, locals := 102 } : Room) (va_Pc [.ref a0, .int p1] (wPre D vwCl (sT cI cZ cR) w sz (eX (va_A w sz)))) (va_Qi (fun r u => cd = 0 ∧ post r u) (wPost D vwCl (sT cI cZ cR) B (va_A w sz)) (va_A w sz)) (wXc D vwCl (sT cI cZ cR) w (va_A w sz) cd) 1 6 (va_A w sz)) : Met l yL_told wsL_told ({ frames := 8, cells := 1, slots := 6, locals := 123 } : Room) (va_Pc [.ref a0, .int p1, .ref ao] (wPre D vwCl (lT cI cZ cR cJ) (hW cJ ao f0 w) sz (eL (va_A (hW cJ ao f0 w) sz)))) (va_Qi (hQ cd w post B) (wPost D vwCl (lT cI cZ cR cJ) (fun u => hW cJ ao u.1 u.2) (va_A (hW cJ ao f0 w) sz)) (va_A (hW cJ ao f0 w) sz)) 1 6 (va_A (hW cJ ao f0 w) sz) := by
  refine va_MetW (cc := cL_told) (maxL := 4) (ret := some .int) (hh := [(0, 9, 12, 13)]) (by decide) rfl ?_
  intro p e s m args below meth c s₁ Bd hml hv
  obtain ⟨rfl, hsz, hP, hK, hD0, hE⟩ := hv
  have hx := Bd.exec
  have hb := Bd.bytes
  have hr := Bd.returns
  have hts := atoms_spec (ws := wsL_told) Bd.pre
  have hown : s.vm.findClass RL = some m.cls := findClass_of_methodNamed Bd.named
  have hlocks := Bd.notSynchronized
  have htab : c.exceptionTable.toList = tableOf [(0, 9, 12, 13)] := vx_table (x := yL_told) Bd (hts (.codeWith yL_told cL_told 4 (some .int) [(0, 9, 12, 13)]) List.mem_cons_self)
  subst hsz
  have hD := hD0.self (sz := s.heap.size)
  generalize hAe : va_A (hW cJ ao f0 w) s.heap.size = A at hD hE ⊢
  have hA : ∀ q : Nat, s.heap.size ≤ q → A q := fun q h => by rw [← hAe]; exact Or.inr h
  have hS : va_S A s.heap s.heap [] := va_S.rf
  have hl := lv_entry ([.ref a0, .int p1, .ref ao]) (n := 4) (Nat.le_of_ble_eq_true rfl)
  rw [lg_entry_eq]
  generalize (lg_sl ([.ref a0, .int p1, .ref ao]) ++ List.replicate (4 - (lg_sl ([.ref a0, .int p1, .ref ao])).length) Slot.unset).toArray = ls at hl ⊢
  have hl : lv_has ls 4 [(0, .ref a0), (1, .int p1), (2, .ref ao)] := hl
  obtain ⟨hE, hNc⟩ := hE
  obtain ⟨eN1, eA, eS, eR⟩ := id hE
  have hP3 : va_P D vwCl ([(ao, .inl (cJ, 1, .inr (.inl f0)))] ++ (w ++ [])) s.heap := by rw [List.append_nil]; exact hP
  have hD3 : va_D A ([(ao, .inl (cJ, 1, .inr (.inl f0)))] ++ (w ++ [])) := by rw [List.append_nil]; exact hD
  have hPw := w_midP hP3
  have hDw := w_midD hD3
  have hKw : va_K D vwCl (sT cI cZ cR) s := hK.sub [0, 1, 2] rfl
  refine lv_aload_n hx hb dL_told_0 rfl (lv_at hl 2 rfl) ?_
  refine lv_iconst (v := nI 0) hx hb dL_told_1 (by decide) ?_
  refine lv_aload_n hx hb dL_told_2 rfl (lv_at hl 0 rfl) ?_
  refine lv_iload_n hx hb dL_told_3 rfl (lv_at hl 1 rfl) ?_
  refine w_callxiX (X := [(ao, .inl (cJ, 1, .inr (.inl f0)))]) (w := w) (Y := []) hS hA hP3 hD3 (vx_runV (As := [.int p1]) (rest := [.int (nI 0), .ref ao]) ⟨hx, hb, hml, hown, hts⟩ (hM s.heap.size) (cwV 1 hts gL_told_X3_told rfl rfl rfl (by decide +kernel) ⟨Nat.le_of_ble_eq_true rfl, Nat.le_of_ble_eq_true rfl⟩) ⟨(w_pre hPw hKw hDw (eX_env hE hS (w_free hDw hS hA))).1, va_recv hKw hPw (show vwCl[3]? = some (RX3, TX3, 4) from rfl) hw0, (w_pre hPw hKw hDw (eX_env hE hS (w_free hDw hS hA))).2⟩ rfl rfl hl.1 rfl (lv_room (Nat.le_of_ble_eq_true rfl)) dL_told_4 ⟨Nat.le_of_ble_eq_true rfl, Nat.le_of_ble_eq_true rfl⟩) (fun E9 ce q9 H locs hxc hP hS hce hcv hcl => ?_) (fun r u H locs hw hP hD hS => ?_)
  · rw [List.append_nil] at hP
    rcases hxc with ⟨rfl, hc9⟩ | ⟨rfl, hc9⟩
    · refine vx_catch (name := "java/lang/IllegalArgumentException") hown [] ⟨0, 9, 12, 13⟩ [] (by rw [htab]; rfl) (fun z hz => absurd hz List.not_mem_nil) (by decide) (by decide) (hts (.classLink RL 13 "java/lang/IllegalArgumentException") (by decide +kernel)) (va_Nw.use rfl eA) hce hcv hcl ?_
      refine lv_astore_n (lv' := [(3, .ref q9), (0, .ref a0), (1, .int p1), (2, .ref ao)]) hx hb dL_told_12 rfl hl (by decide) rfl (fun ls hl => ?_)
      refine lv_iconst (v := nI 1) hx hb dL_told_13 (by decide) ?_
      refine W.widen (k := 1) (n := 6) (Nat.le_of_ble_eq_true rfl) (Nat.le_of_ble_eq_true rfl) ?_
      exact W.iret (v := nI 1) hx hb hr (fun t ht hW9 => ⟨⟨nI 1, (f0, w), rfl, ⟨by rw [hc9], fun h9 => absurd (hc9.symm.trans h9) (by decide), fun _ => rfl⟩, by rw [ht]; exact hP, va_K.moved hW9.alike hK, hD⟩, hS.F ht⟩) hS.2.2 dL_told_14
    · exact absurd hc9 hcd2
  · rw [List.append_nil] at hP hD
    refine lv_i2l (v := r.toInt64) hx hb dL_told_7 rfl ?_
    refine va_last hx hb hK hP hD hS 0 3 rfl rfl (vp_in_nI (by decide) (by decide)) dL_told_8 (fun H locs hP hD hS => ?_)
    refine lv_goto (tgt := 15) hx hb dL_told_9 (by decide) ?_
    refine lv_iconst (v := nI 0) hx hb dL_told_15 (by decide) ?_
    refine W.widen (k := 1) (n := 6) (Nat.le_of_ble_eq_true rfl) (Nat.le_of_ble_eq_true rfl) ?_
    exact W.iret (v := nI 0) hx hb hr (fun t ht hW9 => ⟨⟨nI 0, (vp_updL f0 (nI 0).toNatClampNeg r.toInt64, B u), rfl, ⟨by rw [hw.1], fun _ => ⟨r, u, hw.2, vp_upd0 f0 r.toInt64, rfl⟩, fun h9 => absurd hw.1 h9⟩, by rw [ht]; exact hP, va_K.moved hW9.alike hK, hD⟩, hS.F ht⟩) hS.2.2 dL_told_16
