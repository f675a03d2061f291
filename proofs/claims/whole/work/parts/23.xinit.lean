/-- what the class's constructor needs of the tables -/
def eI (U : State) : Prop := va_Nw (.methodLinkNest RX3 9 yX2_init RX3) U ∧ va_Nw (.methodLinkNest RX3 18 yX0_init RX3) U ∧ va_AO RX1 U
theorem eI_env {s : State} {H : Heap} (h : eI s) : wEnv eI s H := ⟨fun U g mk a hU => ⟨va_Nw.same rfl rfl hU.1, va_Nw.same rfl rfl hU.2.1, va_AO.moved (Vm.Alike.refl U.vm) hU.2.2⟩, fun U hU hW => ⟨va_Nw.warmM hW h.1, va_Nw.warmM hW h.2.1, va_AO.moved hW.alike h.2.2⟩⟩
def I0 : Nat → Nat → Int32 := fun r k => match r, k with
  | 6, 3 => nI 10
  | 6, 5 => nI 1
  | _, _ => nI 0
def V0 : Nat → Nat → Int32 := fun _ _ => 0

set_option maxHeartbeats 4000000 in
set_option maxRecDepth 100000 in
theorem c_X3_init (l : Launch) (D : va_G) (cI cZ cR : ClassId) (h0 sz : Nat) : Met l yX3_init wsX3_init ({ frames := 2, cells := 10, slots := 2220, locals := 32 } : Room) (va_Pc [.ref h0] (wPre D vwCl (sT cI cZ cR) [(h0, .inr (3, [.null, .null, .null, .int 0]))] sz eI)) (va_Qv (fun (z : Nat → Nat) => z 0 = h0) (wPost D vwCl (sT cI cZ cR) (fun z => sW cI cZ cR z 0 11 I0 V0) (va_A [(h0, .inr (3, [.null, .null, .null, .int 0]))] sz)) (va_A [(h0, .inr (3, [.null, .null, .null, .int 0]))] sz)) 10 2220 (va_A [(h0, .inr (3, [.null, .null, .null, .int 0]))] sz) := by
  refine Met.ofW (cc := cX3_init) (maxL := 1) (ret := none) (by decide) rfl ?_
  intro p e s m args below meth c s₁ B hml hv
  obtain ⟨rfl, hsz, hP, hK, hD0, hE⟩ := hv
  have hx := B.exec
  have hb := B.bytes
  have hr := B.returns
  have hts := atoms_spec (ws := wsX3_init) B.pre
  have hown : s.vm.findClass RX3 = some m.cls := findClass_of_methodNamed B.named
  have hlocks := B.notSynchronized
  have hin : meth.name = "<init>" := (name_of_methodNamed B.named B.method).1
  subst hsz
  have hD := hD0.self (sz := s.heap.size)
  generalize hAe : va_A [(h0, .inr (3, [.null, .null, .null, .int 0]))] s.heap.size = A at hD ⊢
  have hA : ∀ q : Nat, s.heap.size ≤ q → A q := fun q h => by rw [← hAe]; exact Or.inr h
  have hS : va_S A s.heap s.heap [] := va_S.rf
  have hinX0 : ∀ w ∈ wsX00, w ∈ wsX3_init := by decide +kernel
  have hinX2 : ∀ w ∈ wsX20, w ∈ wsX3_init := by decide +kernel
  have hinX3 : ∀ w ∈ wsX30, w ∈ wsX3_init := by decide +kernel
  have hl := lv_entry ([.ref h0]) (n := 1) (Nat.le_of_ble_eq_true rfl)
  rw [lg_entry_eq]
  generalize (lg_sl ([.ref h0]) ++ List.replicate (1 - (lg_sl ([.ref h0])).length) Slot.unset).toArray = ls at hl ⊢
  have hl : lv_has ls 1 [(0, .ref h0)] := hl
  refine lv_aload_n hx hb dX3_init_0 rfl (lv_at hl 0 rfl) ?_
  refine W.objInit hx hb hown (hts (.methodLink RX3 1 objectInit) (by decide +kernel)) (hts (.instanceMethod objectInit) (by decide +kernel)) (hts (.code objectInit ⟨#[0xb1]⟩ 1 none) (by decide +kernel)) rfl (by rw [hml]; exact hl.1) rfl dX3_init_1 (Nat.le_of_ble_eq_true rfl) (Nat.le_of_ble_eq_true rfl) ?_
  refine W.eq (g2 := F0 m 4 ls []) rfl ?_
  refine lv_aload_n hx hb dX3_init_4 rfl (lv_at hl 0 rfl) ?_
  refine va_new (ci := 2) (fs := [.null, .null, .null, .null, .int 0, .int 0]) (C := RX2) (T := TX2) (N := 6) hx hb hts hinX2 tyX2 tyX2_ok hown (hts (.classLink RX3 7 RX2) (by decide +kernel)) (hts (.instantiable RX2 6) (by decide +kernel)) (hts (.initialized RX2) (by decide +kernel)) hK hP hD hS hA rfl (by decide +kernel) (by decide) (by decide) dX3_init_5 (fun qs H hP hD hS => ?_)
  have hP : va_P D vwCl [(h0, .inr (3, [.null, .null, .null, .int 0])), (qs, .inr (2, [.null, .null, .null, .null, .int 0, .int 0]))] H := hP
  have hD : va_D A [(h0, .inr (3, [.null, .null, .null, .int 0])), (qs, .inr (2, [.null, .null, .null, .null, .int 0, .int 0]))] := hD
  refine lv_dup hx hb dX3_init_8 rfl ?_
  have hPc : va_P D vwCl [(qs, .inr (2, [.null, .null, .null, .null, .int 0, .int 0]))] H := hP.sub [1] rfl
  have hDc : va_D A [(qs, .inr (2, [.null, .null, .null, .null, .int 0, .int 0]))] := hD.sub [1] (by decide) rfl
  have hFc := w_free hDc hS hA
  refine va_callv (va_runIN (As := []) (rest := [.ref qs, .ref h0]) ⟨hx, hb, hml, hown, hts⟩ (c_X2_init l D cI cZ cR qs H.size) ⟨va_cnB 0 hts gX3_init_X2_init_n9 rfl rfl rfl hE.1 (hts (.initialized RX2) (by decide +kernel)) (by decide +kernel) ⟨Nat.le_of_ble_eq_true rfl, Nat.le_of_ble_eq_true rfl⟩, rfl, (hts (.instanceMethod yX2_init) (by decide +kernel))⟩ (w_pre hPc hK hDc wEnv_true) rfl rfl hl.1 rfl (lv_room (Nat.le_of_ble_eq_true rfl)) dX3_init_9 ⟨Nat.le_of_ble_eq_true rfl, Nat.le_of_ble_eq_true rfl⟩) hS (fun q _ h => hFc q h) hFc (fun u t H1 locs ht hvm hw hB hz1 hk1 hS => ?_)
  obtain ⟨hP1, hK1, hD1⟩ := hB
  rw [ht] at hP1
  obtain ⟨hP7, hD7⟩ := va_join (wr := [(h0, .inr (3, [.null, .null, .null, .int 0]))]) hP hD [1] [0] rfl rfl (by decide) (by decide) hk1 hFc hP1 hD1
  generalize H1 = H at hP7 hS ⊢
  subst hw
  have hP : va_P D vwCl [(h0, .inr (3, [.null, .null, .null, .int 0])), ((u 0), .inr (2, [.ref (u 1), .ref (u 2), .ref (u 3), .ref (u 4), .int (nI 0), .int (nI 0)])), ((u 1), .inl (cI, 100, .inl (fun _ => 0))), ((u 2), .inl (cI, 100, .inl (fun _ => 0))), ((u 3), .inl (cZ, 100, .inl (fun _ => 0))), ((u 4), .inl (cZ, 100, .inl (fun _ => 0)))] H := hP7
  have hD : va_D A [(h0, .inr (3, [.null, .null, .null, .int 0])), ((u 0), .inr (2, [.ref (u 1), .ref (u 2), .ref (u 3), .ref (u 4), .int (nI 0), .int (nI 0)])), ((u 1), .inl (cI, 100, .inl (fun _ => 0))), ((u 2), .inl (cI, 100, .inl (fun _ => 0))), ((u 3), .inl (cZ, 100, .inl (fun _ => 0))), ((u 4), .inl (cZ, 100, .inl (fun _ => 0)))] := hD7
  refine va_putF (D := D) (ci := 3) (v := .ref (u 0)) (ty := .object "ChangeStream$Store") (C := RX3) (T := TX3) (N := 4) hx hb hts hinX3 tyX3 tyX3_ok nmX3 hown hK hP hD hS 0 rfl rfl 0 (by decide) (hts (.fieldLink RX3 10 "ChangeStream" "store" "LChangeStream$Store;") (by decide +kernel)) (fun _ h9 => h9) rfl hin rfl (by decide +kernel) rfl rfl (Nat.le_of_ble_eq_true rfl) dX3_init_12 (fun H locs hP hD hS => ?_)
  have hP : va_P D vwCl [(h0, .inr (3, [.ref (u 0), .null, .null, .int 0])), ((u 0), .inr (2, [.ref (u 1), .ref (u 2), .ref (u 3), .ref (u 4), .int (nI 0), .int (nI 0)])), ((u 1), .inl (cI, 100, .inl (fun _ => 0))), ((u 2), .inl (cI, 100, .inl (fun _ => 0))), ((u 3), .inl (cZ, 100, .inl (fun _ => 0))), ((u 4), .inl (cZ, 100, .inl (fun _ => 0)))] H := hP
  have hD : va_D A [(h0, .inr (3, [.ref (u 0), .null, .null, .int 0])), ((u 0), .inr (2, [.ref (u 1), .ref (u 2), .ref (u 3), .ref (u 4), .int (nI 0), .int (nI 0)])), ((u 1), .inl (cI, 100, .inl (fun _ => 0))), ((u 2), .inl (cI, 100, .inl (fun _ => 0))), ((u 3), .inl (cZ, 100, .inl (fun _ => 0))), ((u 4), .inl (cZ, 100, .inl (fun _ => 0)))] := hD
  refine lv_aload_n hx hb dX3_init_15 rfl (lv_at hl 0 rfl) ?_
  refine va_new (ci := 0) (fs := [.null, .null, .null, .int 0, .int 0, .int 0, .int 0, .int 0]) (C := RX0) (T := TX0) (N := 8) hx hb hts hinX0 tyX0 tyX0_ok hown (hts (.classLink RX3 16 RX0) (by decide +kernel)) (hts (.instantiable RX0 8) (by decide +kernel)) (hts (.initialized RX0) (by decide +kernel)) hK hP hD hS hA rfl (by decide +kernel) (by decide) (by decide) dX3_init_16 (fun ql H hP hD hS => ?_)
  have hP : va_P D vwCl [(h0, .inr (3, [.ref (u 0), .null, .null, .int 0])), ((u 0), .inr (2, [.ref (u 1), .ref (u 2), .ref (u 3), .ref (u 4), .int (nI 0), .int (nI 0)])), ((u 1), .inl (cI, 100, .inl (fun _ => 0))), ((u 2), .inl (cI, 100, .inl (fun _ => 0))), ((u 3), .inl (cZ, 100, .inl (fun _ => 0))), ((u 4), .inl (cZ, 100, .inl (fun _ => 0))), (ql, .inr (0, [.null, .null, .null, .int 0, .int 0, .int 0, .int 0, .int 0]))] H := hP
  have hD : va_D A [(h0, .inr (3, [.ref (u 0), .null, .null, .int 0])), ((u 0), .inr (2, [.ref (u 1), .ref (u 2), .ref (u 3), .ref (u 4), .int (nI 0), .int (nI 0)])), ((u 1), .inl (cI, 100, .inl (fun _ => 0))), ((u 2), .inl (cI, 100, .inl (fun _ => 0))), ((u 3), .inl (cZ, 100, .inl (fun _ => 0))), ((u 4), .inl (cZ, 100, .inl (fun _ => 0))), (ql, .inr (0, [.null, .null, .null, .int 0, .int 0, .int 0, .int 0, .int 0]))] := hD
  refine lv_dup hx hb dX3_init_19 rfl ?_
  have hPc : va_P D vwCl [(ql, .inr (0, [.null, .null, .null, .int 0, .int 0, .int 0, .int 0, .int 0]))] H := hP.sub [6] rfl
  have hDc : va_D A [(ql, .inr (0, [.null, .null, .null, .int 0, .int 0, .int 0, .int 0, .int 0]))] := hD.sub [6] (by decide) rfl
  have hFc := w_free hDc hS hA
  refine va_callv (va_runIN (As := []) (rest := [.ref ql, .ref h0]) ⟨hx, hb, hml, hown, hts⟩ (c_X0_init l D cI cZ cR ql H.size) ⟨va_cnB 0 hts gX3_init_X0_init_n18 rfl rfl rfl hE.2.1 (hts (.initialized RX0) (by decide +kernel)) (by decide +kernel) ⟨Nat.le_of_ble_eq_true rfl, Nat.le_of_ble_eq_true rfl⟩, rfl, (hts (.instanceMethod yX0_init) (by decide +kernel))⟩ (w_pre hPc hK hDc wEnv_true) rfl rfl hl.1 rfl (lv_room (Nat.le_of_ble_eq_true rfl)) dX3_init_20 ⟨Nat.le_of_ble_eq_true rfl, Nat.le_of_ble_eq_true rfl⟩) hS (fun q _ h => hFc q h) hFc (fun v t H1 locs ht hvm hw hB hz1 hk1 hS => ?_)
  obtain ⟨hP1, hK1, hD1⟩ := hB
  rw [ht] at hP1
  obtain ⟨hP7, hD7⟩ := va_join (wr := [(h0, .inr (3, [.ref (u 0), .null, .null, .int 0])), ((u 0), .inr (2, [.ref (u 1), .ref (u 2), .ref (u 3), .ref (u 4), .int (nI 0), .int (nI 0)])), ((u 1), .inl (cI, 100, .inl (fun _ => 0))), ((u 2), .inl (cI, 100, .inl (fun _ => 0))), ((u 3), .inl (cZ, 100, .inl (fun _ => 0))), ((u 4), .inl (cZ, 100, .inl (fun _ => 0)))]) hP hD [6] [0, 1, 2, 3, 4, 5] rfl rfl (by decide) (by decide) hk1 hFc hP1 hD1
  generalize H1 = H at hP7 hS ⊢
  subst hw
  have hP : va_P D vwCl [(h0, .inr (3, [.ref (u 0), .null, .null, .int 0])), ((u 0), .inr (2, [.ref (u 1), .ref (u 2), .ref (u 3), .ref (u 4), .int (nI 0), .int (nI 0)])), ((u 1), .inl (cI, 100, .inl (fun _ => 0))), ((u 2), .inl (cI, 100, .inl (fun _ => 0))), ((u 3), .inl (cZ, 100, .inl (fun _ => 0))), ((u 4), .inl (cZ, 100, .inl (fun _ => 0))), ((v 0), .inr (0, [.ref (v 1), .ref (v 2), .ref (v 3), .int (nI 10), .int (nI 0), .int (nI 1), .int (nI 0), .int (nI 0)])), ((v 1), .inl (cI, 600, .inl (fun _ => 0))), ((v 2), .inl (cI, 600, .inl (fun _ => 0))), ((v 3), .inl (cZ, 600, .inl (fun _ => 0)))] H := hP7
  have hD : va_D A [(h0, .inr (3, [.ref (u 0), .null, .null, .int 0])), ((u 0), .inr (2, [.ref (u 1), .ref (u 2), .ref (u 3), .ref (u 4), .int (nI 0), .int (nI 0)])), ((u 1), .inl (cI, 100, .inl (fun _ => 0))), ((u 2), .inl (cI, 100, .inl (fun _ => 0))), ((u 3), .inl (cZ, 100, .inl (fun _ => 0))), ((u 4), .inl (cZ, 100, .inl (fun _ => 0))), ((v 0), .inr (0, [.ref (v 1), .ref (v 2), .ref (v 3), .int (nI 10), .int (nI 0), .int (nI 1), .int (nI 0), .int (nI 0)])), ((v 1), .inl (cI, 600, .inl (fun _ => 0))), ((v 2), .inl (cI, 600, .inl (fun _ => 0))), ((v 3), .inl (cZ, 600, .inl (fun _ => 0)))] := hD7
  refine va_putF (D := D) (ci := 3) (v := .ref (v 0)) (ty := .object "ChangeStream$Log") (C := RX3) (T := TX3) (N := 4) hx hb hts hinX3 tyX3 tyX3_ok nmX3 hown hK hP hD hS 0 rfl rfl 1 (by decide) (hts (.fieldLink RX3 19 "ChangeStream" "log" "LChangeStream$Log;") (by decide +kernel)) (fun _ h9 => h9) rfl hin rfl (by decide +kernel) rfl rfl (Nat.le_of_ble_eq_true rfl) dX3_init_23 (fun H locs hP hD hS => ?_)
  have hP : va_P D vwCl [(h0, .inr (3, [.ref (u 0), .ref (v 0), .null, .int 0])), ((u 0), .inr (2, [.ref (u 1), .ref (u 2), .ref (u 3), .ref (u 4), .int (nI 0), .int (nI 0)])), ((u 1), .inl (cI, 100, .inl (fun _ => 0))), ((u 2), .inl (cI, 100, .inl (fun _ => 0))), ((u 3), .inl (cZ, 100, .inl (fun _ => 0))), ((u 4), .inl (cZ, 100, .inl (fun _ => 0))), ((v 0), .inr (0, [.ref (v 1), .ref (v 2), .ref (v 3), .int (nI 10), .int (nI 0), .int (nI 1), .int (nI 0), .int (nI 0)])), ((v 1), .inl (cI, 600, .inl (fun _ => 0))), ((v 2), .inl (cI, 600, .inl (fun _ => 0))), ((v 3), .inl (cZ, 600, .inl (fun _ => 0)))] H := hP
  have hD : va_D A [(h0, .inr (3, [.ref (u 0), .ref (v 0), .null, .int 0])), ((u 0), .inr (2, [.ref (u 1), .ref (u 2), .ref (u 3), .ref (u 4), .int (nI 0), .int (nI 0)])), ((u 1), .inl (cI, 100, .inl (fun _ => 0))), ((u 2), .inl (cI, 100, .inl (fun _ => 0))), ((u 3), .inl (cZ, 100, .inl (fun _ => 0))), ((u 4), .inl (cZ, 100, .inl (fun _ => 0))), ((v 0), .inr (0, [.ref (v 1), .ref (v 2), .ref (v 3), .int (nI 10), .int (nI 0), .int (nI 1), .int (nI 0), .int (nI 0)])), ((v 1), .inl (cI, 600, .inl (fun _ => 0))), ((v 2), .inl (cI, 600, .inl (fun _ => 0))), ((v 3), .inl (cZ, 600, .inl (fun _ => 0)))] := hD
  refine lv_aload_n hx hb dX3_init_26 rfl (lv_at hl 0 rfl) ?_
  refine lv_bipush (v := nI 6) hx hb dX3_init_27 (by decide) ?_
  refine va_newq (N' := 6) hx hb hown (hts (.classLink RX3 23 RX1) (by decide +kernel)) hE.2.2 hK hP hD hS hA (by decide) (by decide) (by decide) (by decide) (by decide) dX3_init_29 (fun qr cA H hK9 hP hD hS => ?_)
  have hcA : cA = cR := k_uniq hK9 2 rfl (fun c h => h.elim (fun kA h => h.elim (fun cp h => h.2.2.2)))
  subst hcA
  have hP : va_P D vwCl [(h0, .inr (3, [.ref (u 0), .ref (v 0), .null, .int 0])), ((u 0), .inr (2, [.ref (u 1), .ref (u 2), .ref (u 3), .ref (u 4), .int (nI 0), .int (nI 0)])), ((u 1), .inl (cI, 100, .inl (fun _ => 0))), ((u 2), .inl (cI, 100, .inl (fun _ => 0))), ((u 3), .inl (cZ, 100, .inl (fun _ => 0))), ((u 4), .inl (cZ, 100, .inl (fun _ => 0))), ((v 0), .inr (0, [.ref (v 1), .ref (v 2), .ref (v 3), .int (nI 10), .int (nI 0), .int (nI 1), .int (nI 0), .int (nI 0)])), ((v 1), .inl (cI, 600, .inl (fun _ => 0))), ((v 2), .inl (cI, 600, .inl (fun _ => 0))), ((v 3), .inl (cZ, 600, .inl (fun _ => 0))), (qr, .inl (cA, 6, .inr (.inr (.inr (.inr (fun _ => none))))))] H := hP
  have hD : va_D A [(h0, .inr (3, [.ref (u 0), .ref (v 0), .null, .int 0])), ((u 0), .inr (2, [.ref (u 1), .ref (u 2), .ref (u 3), .ref (u 4), .int (nI 0), .int (nI 0)])), ((u 1), .inl (cI, 100, .inl (fun _ => 0))), ((u 2), .inl (cI, 100, .inl (fun _ => 0))), ((u 3), .inl (cZ, 100, .inl (fun _ => 0))), ((u 4), .inl (cZ, 100, .inl (fun _ => 0))), ((v 0), .inr (0, [.ref (v 1), .ref (v 2), .ref (v 3), .int (nI 10), .int (nI 0), .int (nI 1), .int (nI 0), .int (nI 0)])), ((v 1), .inl (cI, 600, .inl (fun _ => 0))), ((v 2), .inl (cI, 600, .inl (fun _ => 0))), ((v 3), .inl (cZ, 600, .inl (fun _ => 0))), (qr, .inl (cA, 6, .inr (.inr (.inr (.inr (fun _ => none))))))] := hD
  refine va_putF (D := D) (ci := 3) (v := .ref qr) (ty := .array (.object "ChangeStream$Reader")) (C := RX3) (T := TX3) (N := 4) hx hb hts hinX3 tyX3 tyX3_ok nmX3 hown hK hP hD hS 0 rfl rfl 2 (by decide) (hts (.fieldLink RX3 25 "ChangeStream" "readers" "[LChangeStream$Reader;") (by decide +kernel)) (fun _ h9 => h9) rfl hin rfl (by decide +kernel) rfl rfl (Nat.le_of_ble_eq_true rfl) dX3_init_32 (fun H locs hP hD hS => ?_)
  have hP : va_P D vwCl [(h0, .inr (3, [.ref (u 0), .ref (v 0), .ref qr, .int 0])), ((u 0), .inr (2, [.ref (u 1), .ref (u 2), .ref (u 3), .ref (u 4), .int (nI 0), .int (nI 0)])), ((u 1), .inl (cI, 100, .inl (fun _ => 0))), ((u 2), .inl (cI, 100, .inl (fun _ => 0))), ((u 3), .inl (cZ, 100, .inl (fun _ => 0))), ((u 4), .inl (cZ, 100, .inl (fun _ => 0))), ((v 0), .inr (0, [.ref (v 1), .ref (v 2), .ref (v 3), .int (nI 10), .int (nI 0), .int (nI 1), .int (nI 0), .int (nI 0)])), ((v 1), .inl (cI, 600, .inl (fun _ => 0))), ((v 2), .inl (cI, 600, .inl (fun _ => 0))), ((v 3), .inl (cZ, 600, .inl (fun _ => 0))), (qr, .inl (cA, 6, .inr (.inr (.inr (.inr (fun _ => none))))))] H := hP
  have hD : va_D A [(h0, .inr (3, [.ref (u 0), .ref (v 0), .ref qr, .int 0])), ((u 0), .inr (2, [.ref (u 1), .ref (u 2), .ref (u 3), .ref (u 4), .int (nI 0), .int (nI 0)])), ((u 1), .inl (cI, 100, .inl (fun _ => 0))), ((u 2), .inl (cI, 100, .inl (fun _ => 0))), ((u 3), .inl (cZ, 100, .inl (fun _ => 0))), ((u 4), .inl (cZ, 100, .inl (fun _ => 0))), ((v 0), .inr (0, [.ref (v 1), .ref (v 2), .ref (v 3), .int (nI 10), .int (nI 0), .int (nI 1), .int (nI 0), .int (nI 0)])), ((v 1), .inl (cI, 600, .inl (fun _ => 0))), ((v 2), .inl (cI, 600, .inl (fun _ => 0))), ((v 3), .inl (cZ, 600, .inl (fun _ => 0))), (qr, .inl (cA, 6, .inr (.inr (.inr (.inr (fun _ => none))))))] := hD
  refine lv_aload_n hx hb dX3_init_35 rfl (lv_at hl 0 rfl) ?_
  refine lv_iconst (v := nI 0) hx hb dX3_init_36 (by decide) ?_
  refine va_put (D := D) (ci := 3) (v := .int (nI 0)) (ty := .int) (C := RX3) (T := TX3) (N := 4) hx hb hts hinX3 tyX3 tyX3_ok nmX3 hown hK hP hD hS 0 rfl rfl 3 (by decide) (hts (.fieldLink RX3 29 "ChangeStream" "readerCount" "I") (by decide +kernel)) (fun _ h9 => h9) rfl (by decide +kernel) rfl rfl (Nat.le_of_ble_eq_true rfl) dX3_init_37 (fun H locs hP hD hS => ?_)
  have hP : va_P D vwCl [(h0, .inr (3, [.ref (u 0), .ref (v 0), .ref qr, .int (nI 0)])), ((u 0), .inr (2, [.ref (u 1), .ref (u 2), .ref (u 3), .ref (u 4), .int (nI 0), .int (nI 0)])), ((u 1), .inl (cI, 100, .inl (fun _ => 0))), ((u 2), .inl (cI, 100, .inl (fun _ => 0))), ((u 3), .inl (cZ, 100, .inl (fun _ => 0))), ((u 4), .inl (cZ, 100, .inl (fun _ => 0))), ((v 0), .inr (0, [.ref (v 1), .ref (v 2), .ref (v 3), .int (nI 10), .int (nI 0), .int (nI 1), .int (nI 0), .int (nI 0)])), ((v 1), .inl (cI, 600, .inl (fun _ => 0))), ((v 2), .inl (cI, 600, .inl (fun _ => 0))), ((v 3), .inl (cZ, 600, .inl (fun _ => 0))), (qr, .inl (cA, 6, .inr (.inr (.inr (.inr (fun _ => none))))))] H := hP
  have hD : va_D A [(h0, .inr (3, [.ref (u 0), .ref (v 0), .ref qr, .int (nI 0)])), ((u 0), .inr (2, [.ref (u 1), .ref (u 2), .ref (u 3), .ref (u 4), .int (nI 0), .int (nI 0)])), ((u 1), .inl (cI, 100, .inl (fun _ => 0))), ((u 2), .inl (cI, 100, .inl (fun _ => 0))), ((u 3), .inl (cZ, 100, .inl (fun _ => 0))), ((u 4), .inl (cZ, 100, .inl (fun _ => 0))), ((v 0), .inr (0, [.ref (v 1), .ref (v 2), .ref (v 3), .int (nI 10), .int (nI 0), .int (nI 1), .int (nI 0), .int (nI 0)])), ((v 1), .inl (cI, 600, .inl (fun _ => 0))), ((v 2), .inl (cI, 600, .inl (fun _ => 0))), ((v 3), .inl (cZ, 600, .inl (fun _ => 0))), (qr, .inl (cA, 6, .inr (.inr (.inr (.inr (fun _ => none))))))] := hD
  obtain ⟨z, hz⟩ : ∃ z : Nat → Nat, z = (fun (k : Nat) => match k with | 0 => h0 | 1 => u 0 | 2 => u 1 | 3 => u 2 | 4 => u 3 | 5 => u 4 | 6 => v 0 | 7 => v 1 | 8 => v 2 | 9 => v 3 | 10 => qr | _ => 0) := ⟨_, rfl⟩
  have hq0 : (fun _ => none : Nat → Option Nat) = sC_q z 0 := by funext j; simp [sC_q]
  rw [hq0] at hP hD
  have hP : va_P D vwCl (sW cI cZ cA z 0 11 I0 V0) H := by subst hz; exact hP
  have hD : va_D A (sW cI cZ cA z 0 11 I0 V0) := by subst hz; exact hD
  refine W.widen (k := 10) (n := 2220) (by decide) (by decide) ?_
  exact W.vret hx hb hr (fun t ht hW => ⟨⟨z, rfl, (by rw [hz]; rfl), by rw [ht]; exact hP, va_K.moved hW.alike hK, hD⟩, hS.F ht⟩) hS.2.2 dX3_init_40
