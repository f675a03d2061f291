/-! ===== the law's start ===== -/
section WNewJ
variable {p : Program} {l : Launch} {e : Env} {R : Room} {s : State} {m : MethodId} {args : Array Value} {below : List Frame} {meth : Method} {c : Code} {H : Heap} {locs : List Loc} {cells slots : Nat} {Q : State → Prop}
variable {cc : ByteArray} {pc : Nat} {ls : Array Slot} {rest : List Value} {D : va_G} {cl : List vw_C} {A : Nat → Prop} {tys : List (ClassId × FieldType)} {ws : va_W} {H0 : Heap}
theorem w_newJ (hexec : p.tables.exec = Jvm.exec) (hb : c.code = cc) (harr : (Cond.arrayClass .long).before args s = true) (hK : va_K D cl tys s) (hP : va_P D cl ws H) (hD : va_D A ws) (hS : va_S A H0 H locs) (hA : ∀ q, H0.size ≤ q → A q) (t0 : Nat) {cI : ClassId} (ht : tys[t0]? = some (cI, .long)) {N : Nat} (hN : N ≤ 100000) (hcells : cells + 1 ≤ R.cells) (hslots : slots + N ≤ R.slots) (hdg : decode cc pc = .ok (.newarray .long, 2))
    (kk : ∀ (q : Nat) (H1 : Heap), va_P D cl (ws ++ [(q, .inl (cI, N, .inr (.inl (fun _ => 0))))]) H1 → va_D A (ws ++ [(q, .inl (cI, N, .inr (.inl (fun _ => 0))))]) → va_S A H0 H1 locs → W p l e R s m args below meth c H1 locs (cells + 1) (slots + N) Q (F0 m (pc + 2) ls (.ref q :: rest))) : W p l e R s m args below meth c H locs cells slots Q (F0 m pc ls (.int (nI N) :: rest)) := by
  refine va_newa (atype := .long) (ty := .long) (a0 := (N, .inr (.inl (fun _ => 0)))) hexec hb harr rfl hK hP hD hS hA (fun cA => by rw [vp_cell_l]; rfl) (nI_pos (by omega)) (nI_clamp (by omega)) (by show N * 8 ≤ _; omega) hcells hslots hdg (fun q cA H1 h1 h2 h3 h4 => ?_)
  have := k_uniq h1 t0 ht (fun c h => h)
  subst this
  exact kk q H1 h2 h3 h4
end WNewJ
theorem w_rotP {D : va_G} {cl : List vw_C} {w : va_W} {x : Nat × va_E} {H : Heap} (h : va_P D cl (w ++ [x]) H) : va_P D cl (x :: w) H := by
  intro k q hk
  match k, hk with
  | 0, hk => cases hk; exact h w.length _ (by simp)
  | k + 1, hk => exact h k q (by rw [List.getElem?_append_left (List.getElem?_eq_some_iff.mp (show w[k]? = some q from hk)).1]; exact hk)
theorem w_rotD {A : Nat → Prop} {w : va_W} {x : Nat × va_E} (h : va_D A (w ++ [x])) : va_D A (x :: w) := by
  have h0 : (w ++ [x])[w.length]? = some x := by simp
  have h1 : ∀ (k : Nat) (q : Nat × va_E), w[k]? = some q → (w ++ [x])[k]? = some q ∧ k < w.length := fun k q hk => ⟨by rw [List.getElem?_append_left (List.getElem?_eq_some_iff.mp hk).1]; exact hk, (List.getElem?_eq_some_iff.mp hk).1⟩
  refine ⟨fun i j a b hi hj hab => ?_, fun k q hk => ?_⟩
  · match i, j, hi, hj with
    | 0, 0, _, _ => rfl
    | 0, j + 1, hi, hj =>
      cases hi
      have h2 := h1 j b hj
      have := h.1 _ _ _ _ h0 h2.1 hab
      omega
    | i + 1, 0, hi, hj =>
      cases hj
      have h2 := h1 i a hi
      have := h.1 _ _ _ _ h2.1 h0 hab
      omega
    | i + 1, j + 1, hi, hj =>
      have := h.1 _ _ _ _ (h1 i a hi).1 (h1 j b hj).1 hab
      omega
  · match k, hk with
    | 0, hk => cases hk; exact h.2 _ _ h0
    | k + 1, hk => exact h.2 _ _ (h1 k q hk).1
set_option maxHeartbeats 4000000 in
set_option maxRecDepth 100000 in
/-- THE LAW, from its entry -/
theorem whole_start {p : Program} {e : Env} {s : State} {m : MethodId} {below : List Frame} {meth : Method} {c : Code} (l : Launch) (hlt : l.stackTraces = false) {b L : Nat} {xs : Nat → Int32} (hL : L ≤ 2048) (C0 : lw_At p s m meth c b L xs) : W p l e room_1 s m #[Value.ref b] below meth c s.heap [] 0 0 (lw_Z below #[Value.ref b] s) (entryFrame m ([Value.ref b] : List Value).toArray 7) := by
  obtain ⟨hx, hb, hr, hml, hown0, htl, hX, hbl, hlocks, hgv⟩ := C0
  have hb : c.code = cL_law := hb
  have hown : s.vm.findClass RL = some m.cls := hown0
  have hts : ∀ w ∈ wsL_law, w.before #[Value.ref b] s = true := fun w h => htl w (wsL_law_in w h)
  have hA : ∀ q : Nat, s.heap.size ≤ q → (fun q : Nat => s.heap.size ≤ q) q := fun _ h => h
  obtain ⟨hE, hI⟩ := l_env htl hgv
  obtain ⟨D, cI, cZ, cR, cJ, hK⟩ := l_K htl
  have hKs : va_K D vwCl (sT cI cZ cR) s := hK.sub [0, 1, 2] rfl
  have hKm : va_K D vwCl (mT cI cZ) s := hK.sub [0, 1] rfl
  have hS : va_S (fun q : Nat => s.heap.size ≤ q) s.heap s.heap [] := va_S.rf
  have hP : va_P D vwCl [] s.heap := fun k q h => by simp at h
  have hD : va_D (fun q : Nat => s.heap.size ≤ q) [] := ⟨fun i j p q h => by simp at h, fun k q h => by simp at h⟩
  have hl := lv_entry ([.ref b]) (n := 7) (Nat.le_of_ble_eq_true rfl)
  rw [lg_entry_eq]
  generalize (lg_sl ([.ref b]) ++ List.replicate (7 - (lg_sl ([.ref b])).length) Slot.unset).toArray = ls at hl ⊢
  have hl : lv_has ls 7 [(0, .ref b)] := hl
  refine va_new (ci := 3) (fs := [.null, .null, .null, .int 0]) (C := RX3) (T := TX3) (N := 4) hx hb hts inlX3 tyX3 tyX3_ok hown (hts (.classLink RL 8 RX3) (by decide +kernel)) (hts (.instantiable RX3 4) (by decide +kernel)) (hts (.initialized RX3) (by decide +kernel)) hK hP hD hS hA rfl (fun j hj => by rcases (show j = 0 ∨ j = 1 ∨ j = 2 ∨ j = 3 by omega) with rfl | rfl | rfl | rfl <;> rfl) (Nat.le_of_ble_eq_true rfl) (Nat.le_of_ble_eq_true rfl) dL_law_0 (fun q0 H hPa hDa hS => ?_)
  have hP3 := w_addP (X := []) (w := [(q0, .inr (3, [.null, .null, .null, .int 0]))]) hPa
  have hD3 := w_addD (X := []) (w := [(q0, .inr (3, [.null, .null, .null, .int 0]))]) hDa
  refine lv_dup hx hb dL_law_3 rfl ?_
  refine w_callvX (X := []) (w := [(q0, .inr (3, [.null, .null, .null, .int 0]))]) (Y := []) hS hA hP3 hD3 (va_runI (As := []) (rest := [.ref q0]) ⟨hx, hb, hml, hown, hts⟩ (c_X3_init l D cI cZ cR q0 H.size) (cwI 0 hts gL_law_X3_init rfl rfl rfl (hts (.initialized RX3) (by decide +kernel)) (hts (.methodLink RL 62 yX3_init) (by decide +kernel)) (hts (.instanceMethod yX3_init) (by decide +kernel)) rfl (by decide +kernel) ⟨Nat.le_of_ble_eq_true rfl, Nat.le_of_ble_eq_true rfl⟩) (w_pre (w_midP hP3) hKs (w_midD hD3) (eI_env hI)) rfl rfl hl.1 rfl (lv_room (Nat.le_of_ble_eq_true rfl)) dL_law_4 ⟨Nat.le_of_ble_eq_true rfl, Nat.le_of_ble_eq_true rfl⟩) (fun z H locs hz hP hD hS => ?_)
  rw [List.append_nil] at hP hD
  have hP : va_P D vwCl (sW cI cZ cR z 0 11 I0 V0) H := hP
  have hD : va_D (fun q : Nat => s.heap.size ≤ q) (sW cI cZ cR z 0 11 I0 V0) := hD
  subst hz
  refine lv_astore_n (lv' := [(1, .ref (z 0)), (0, .ref b)]) hx hb dL_law_7 rfl hl (by decide) rfl (fun ls hl => ?_)
  refine va_new (ci := 4) (fs := [.int 0, .int 0, .null, .null, .null, .int 0, .null, .int 0, .null, .int 0, .null, .int 0, .int 0, .int 0, .null, .null, .null, .null]) (C := RX4) (T := TX4) (N := 18) hx hb hts inlX4 tyX4 tyX4_ok hown (hts (.classLink RL 63 RX4) (by decide +kernel)) (hts (.instantiable RX4 18) (by decide +kernel)) (hts (.initialized RX4) (by decide +kernel)) hK hP hD hS hA rfl (fun j hj => by rcases (show j = 0 ∨ j = 1 ∨ j = 2 ∨ j = 3 ∨ j = 4 ∨ j = 5 ∨ j = 6 ∨ j = 7 ∨ j = 8 ∨ j = 9 ∨ j = 10 ∨ j = 11 ∨ j = 12 ∨ j = 13 ∨ j = 14 ∨ j = 15 ∨ j = 16 ∨ j = 17 by omega) with rfl | rfl | rfl | rfl | rfl | rfl | rfl | rfl | rfl | rfl | rfl | rfl | rfl | rfl | rfl | rfl | rfl | rfl <;> rfl) (Nat.le_of_ble_eq_true rfl) (Nat.le_of_ble_eq_true rfl) dL_law_8 (fun q1 H hPb hDb hS => ?_)
  have hP3 := w_addP (X := sW cI cZ cR z 0 11 I0 V0) (w := [(q1, .inr (4, [.int 0, .int 0, .null, .null, .null, .int 0, .null, .int 0, .null, .int 0, .null, .int 0, .int 0, .int 0, .null, .null, .null, .null]))]) hPb
  have hD3 := w_addD (X := sW cI cZ cR z 0 11 I0 V0) (w := [(q1, .inr (4, [.int 0, .int 0, .null, .null, .null, .int 0, .null, .int 0, .null, .int 0, .null, .int 0, .int 0, .int 0, .null, .null, .null, .null]))]) hDb
  refine lv_dup hx hb dL_law_11 rfl ?_
  refine w_callvX (X := sW cI cZ cR z 0 11 I0 V0) (w := [(q1, .inr (4, [.int 0, .int 0, .null, .null, .null, .int 0, .null, .int 0, .null, .int 0, .null, .int 0, .int 0, .int 0, .null, .null, .null, .null]))]) (Y := []) hS hA hP3 hD3 (va_runI (As := []) (rest := [.ref q1]) ⟨hx, hb, hml, hown, hts⟩ (c_X4_init l D cI cZ q1 H.size) (cwI 0 hts gL_law_X4_init rfl rfl rfl (hts (.initialized RX4) (by decide +kernel)) (hts (.methodLink RL 65 yX4_init) (by decide +kernel)) (hts (.instanceMethod yX4_init) (by decide +kernel)) rfl (by decide +kernel) ⟨Nat.le_of_ble_eq_true rfl, Nat.le_of_ble_eq_true rfl⟩) (w_pre (w_midP hP3) hKm (w_midD hD3) wEnv_true) rfl rfl hl.1 rfl (lv_room (Nat.le_of_ble_eq_true rfl)) dL_law_12 ⟨Nat.le_of_ble_eq_true rfl, Nat.le_of_ble_eq_true rfl⟩) (fun md H locs hz hP hD hS => ?_)
  rw [List.append_nil] at hP hD
  have hP : va_P D vwCl (sW cI cZ cR z 0 11 I0 V0 ++ mW cI cZ md J0 U0) H := hP
  have hD : va_D (fun q : Nat => s.heap.size ≤ q) (sW cI cZ cR z 0 11 I0 V0 ++ mW cI cZ md J0 U0) := hD
  subst hz
  refine lv_astore_n (lv' := [(2, .ref (md 0)), (1, .ref (z 0)), (0, .ref b)]) hx hb dL_law_15 rfl hl (by decide) rfl (fun ls hl => ?_)
  refine lv_iconst (v := nI 1) hx hb dL_law_16 (by decide) ?_
  refine w_newJ (N := 1) hx hb (hts (.arrayClass .long) (by decide +kernel)) hK hP hD hS hA 3 rfl (by decide) (Nat.le_of_ble_eq_true rfl) (Nat.le_of_ble_eq_true rfl) dL_law_17 (fun ao H hP hD hS => ?_)
  have hP : va_P D vwCl (lW cI cZ cR cJ ao (fun _ => 0) z 0 11 I0 V0 md J0 U0) H := w_rotP hP
  have hD : va_D (fun q : Nat => s.heap.size ≤ q) (lW cI cZ cR cJ ao (fun _ => 0) z 0 11 I0 V0 md J0 U0) := w_rotD hD
  refine lv_astore_n (lv' := [(3, .ref ao), (2, .ref (md 0)), (1, .ref (z 0)), (0, .ref b)]) hx hb dL_law_19 rfl hl (by decide) rfl (fun ls hl => ?_)
  refine lv_iconst (v := nI 0) hx hb dL_law_20 (by decide) ?_
  refine lv_istore (lv' := [(4, .int (nI 0)), (3, .ref ao), (2, .ref (md 0)), (1, .ref (z 0)), (0, .ref b)]) hx hb dL_law_21 hl (by decide) rfl (fun ls hl => ?_)
  refine W.widen (k := 100 + 10 * 0) (n := 10000 + 201 * 0) (Nat.le_of_ble_eq_true rfl) (Nat.le_of_ble_eq_true rfl) ?_
  exact law_loop hlt hL ⟨hx, hb, hml, hown, hts, hX, hbl⟩ hr hlocks D cI cZ cR cJ hE hK ao md (L + 1) 0 0 11 z I0 V0 J0 U0 (fun _ => 0) H locs ls (by omega) (by omega) rfl st_init hP hD hS (lv_sub hl [4, 3, 2, 1, 0] rfl)
