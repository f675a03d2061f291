set_option maxHeartbeats 4000000 in
set_option maxRecDepth 100000 in
theorem cs_fact {p : Program} {l : Launch} {e : Env} {s : State} {m : MethodId} {below : List Frame} {meth : Method} {c : Code} {b L : Nat} {xs : Nat → Int32} {Q : State → Prop} (hlt : l.stackTraces = false) (C0 : lwC p s m c b L xs) (D : va_G) (cI cZ cR cJ : ClassId) (hE : eL (fun q : Nat => s.heap.size ≤ q) s) (hK : va_K D vwCl (lT cI cZ cR cJ) s) (ao : Nat) (md : Nat → Nat) (i : Nat) (hi : i + 4 ≤ L) (hL : L ≤ 2048) (cn : Nat) (hcn : cn < 512) (na n : Nat) (hn : n = 11 + 6 * na) (ad : Nat → Nat) (I V J U : Nat → Nat → Int32) (f : Nat → Int64) (hrel : rel cn na I V J U) (cells slots : Nat) (hce : cells + 10 ≤ 601024) (hsl : slots + 201 ≤ 7293034) (H : Heap) (locs : List Loc) (ls : Array Slot) (hP : va_P D vwCl (lW cI cZ cR cJ ao f ad na n I V md J U) H) (hD : va_D (fun q : Nat => s.heap.size ≤ q) (lW cI cZ cR cJ ao f ad na n I V md J U)) (hS : va_S (fun q : Nat => s.heap.size ≤ q) s.heap H locs) (hl : lv_has ls 7 [(0, .ref b), (1, .ref (ad 0)), (2, .ref (md 0)), (3, .ref ao), (4, .int (nI i))]) (kk : ∀ (na' n' : Nat) (ad' : Nat → Nat) (I' V' J' U' : Nat → Nat → Int32) (f' : Nat → Int64) (H : Heap) (locs : List Loc) (ls : Array Slot), n' = 11 + 6 * na' → rel (cn + 1) na' I' V' J' U' → va_P D vwCl (lW cI cZ cR cJ ao f' ad' na' n' I' V' md J' U') H → va_D (fun q : Nat => s.heap.size ≤ q) (lW cI cZ cR cJ ao f' ad' na' n' I' V' md J' U') → va_S (fun q : Nat => s.heap.size ≤ q) s.heap H locs → lv_has ls 7 [(0, .ref b), (1, .ref (ad' 0)), (2, .ref (md 0)), (3, .ref ao), (4, .int (nI i))] → W p l e room_1 s m #[Value.ref b] below meth c H locs (cells + 10) (slots + 201) Q (F0 m 1069 ls [])) : W p l e room_1 s m #[Value.ref b] below meth c H locs cells slots Q (F0 m 116 ls []) := by
  obtain ⟨hx, hb, hml, hown, hts, hX, hbl⟩ := C0
  have hA : ∀ q : Nat, s.heap.size ≤ q → (fun q : Nat => s.heap.size ≤ q) q := fun _ h => h
  have hbA : ¬ (fun q : Nat => s.heap.size ≤ q) b := Nat.not_le.mpr hbl
  obtain ⟨hna, hna6⟩ := rel_na hrel
  have hKs : va_K D vwCl (sT cI cZ cR) s := hK.sub [0, 1, 2] rfl
  have hKm : va_K D vwCl (mT cI cZ) s := hK.sub [0, 1] rfl
  obtain ⟨k, ⟨e1, e2, e3⟩, hst⟩ := st_fact hrel (xs (i + 1)) (xs (i + 2))
  obtain ⟨cd, hcd⟩ : ∃ cd : Nat, cd = if ¬ (0 ≤ (xs (i + 1)).toInt ∧ (xs (i + 1)).toInt ≤ 7) ∨ ¬ (0 ≤ (xs (i + 2)).toInt ∧ (xs (i + 2)).toInt ≤ 15) then 1 else if k = 100 then 2 else 0 := ⟨_, rfl⟩
  have hcd9 : cd ≤ 2 := by rw [hcd]; split <;> first | decide | (split <;> decide)
  have hst := hst cd hcd
  refine lv_aload_n hx hb dL_law_116 rfl (lv_at hl 1 rfl) ?_
  refine lv_aload_n hx hb dL_law_117 rfl (lv_at hl 0 rfl) ?_
  refine lv_iload hx hb dL_law_118 (lv_at hl 4 rfl) ?_
  refine lv_iconst (v := nI 1) hx hb dL_law_120 (by decide) ?_
  refine lv_iadd hx hb dL_law_121 ?_
  rw [nI_add]
  refine w_sld hx hb hX hbl hbA hS (k := i + 1) (by omega) hL dL_law_122 ?_
  refine lv_aload_n hx hb dL_law_123 rfl (lv_at hl 0 rfl) ?_
  refine lv_iload hx hb dL_law_124 (lv_at hl 4 rfl) ?_
  refine lv_iconst (v := nI 2) hx hb dL_law_126 (by decide) ?_
  refine lv_iadd hx hb dL_law_127 ?_
  rw [nI_add]
  refine w_sld hx hb hX hbl hbA hS (k := i + 2) (by omega) hL dL_law_128 ?_
  refine lv_aload_n hx hb dL_law_129 rfl (lv_at hl 3 rfl) ?_
  have hP3 : va_P D vwCl ([] ++ ((hW cJ ao f (sW cI cZ cR ad na n I V)) ++ (mW cI cZ md J U))) H := hP
  have hD3 : va_D (fun q : Nat => s.heap.size ≤ q) ([] ++ ((hW cJ ao f (sW cI cZ cR ad na n I V)) ++ (mW cI cZ md J U))) := hD
  refine w_calliX (X := []) (w := (hW cJ ao f (sW cI cZ cR ad na n I V))) (Y := (mW cI cZ md J U)) hS hA hP3 hD3 (vx_runSW (As := [.ref (ad 0), .int (xs (i + 1)), .int (xs (i + 2)), .ref ao]) (rest := []) ⟨hx, hb, hml, hown, hts⟩ (h_L_fact l D cI cZ cR cJ ao (ad 0) f (sW cI cZ cR ad na n I V) _ (wR_at (r := 0) (by omega) rfl) _ _ cd H.size (xs (i + 1)) (xs (i + 2)) (fun sz => c_X3_fact l D cI cZ cR ad na n I V sz hlt hn hna hna6 k e1 e3 _ _ cd hcd)) (vx_cwSW 4 hts gL_law_L_fact rfl rfl rfl (by decide +kernel) ⟨Nat.le_of_ble_eq_true rfl, Nat.le_of_ble_eq_true rfl⟩) (w_pre (w_midP hP3) hK (w_midD hD3) (eL_env hE hS (w_free (w_midD hD3) hS hA))) rfl rfl hl.1 rfl (lv_room (Nat.le_of_ble_eq_true rfl)) dL_law_130 ⟨(by show cells + 3 ≤ 601024; omega), (by show slots + 18 ≤ 7293034; omega)⟩) (fun kr u H locs hw hP hD hS => ?_)
  obtain ⟨f', w'⟩ := u
  obtain ⟨hkr, hans, hw2⟩ := hQ_fix hw
  subst hkr
  have hw2 : w' = _ := hw2
  subst hw2
  have hans : cd = 0 → f' 0 = _ := hans
  have hP : va_P D vwCl (lW cI cZ cR cJ ao f' ad na n _ _ md J U) H := hP
  have hD : va_D (fun q : Nat => s.heap.size ≤ q) (lW cI cZ cR cJ ao f' ad na n _ _ md J U) := hD
  refine lv_istore (lv' := [(5, .int (nI cd)), (0, .ref b), (1, .ref (ad 0)), (2, .ref (md 0)), (3, .ref ao), (4, .int (nI i))]) hx hb dL_law_133 hl (by decide) rfl (fun ls hl => ?_)
  refine lv_aload_n hx hb dL_law_135 rfl (lv_at hl 3 rfl) ?_
  refine lv_aload_n hx hb dL_law_136 rfl (lv_at hl 1 rfl) ?_
  refine lv_iload hx hb dL_law_137 (lv_at hl 5 rfl) ?_
  refine lv_iconst (v := nI 1) hx hb dL_law_139 (by decide) ?_
  refine lv_iadd hx hb dL_law_140 ?_
  rw [nI_add]
  refine w_sld hx hb hX hbl hbA hS (k := i + 1) (by omega) hL dL_law_141 ?_
  refine lv_aload_n hx hb dL_law_142 rfl (lv_at hl 1 rfl) ?_
  refine lv_iload hx hb dL_law_143 (lv_at hl 5 rfl) ?_
  refine lv_iconst (v := nI 2) hx hb dL_law_145 (by decide) ?_
  refine lv_iadd hx hb dL_law_146 ?_
  rw [nI_add]
  refine w_sld hx hb hX hbl hbA hS (k := i + 2) (by omega) hL dL_law_147 ?_
  have hP3 := w_addP (X := hW cJ ao f' (sW cI cZ cR ad na n _ _)) (w := mW cI cZ md _ _) hP
  have hD3 := w_addD (X := hW cJ ao f' (sW cI cZ cR ad na n _ _)) (w := mW cI cZ md _ _) hD
  refine w_calliX (Y := []) hS hA hP3 hD3 (va_runV (As := [.int (xs (i + 1)), .int (xs (i + 2))]) (rest := []) ⟨hx, hb, hml, hown, hts⟩ (c_X4_fact l D cI cZ md J U H.size k e2 e3 _ _ cd hcd) (cwV 2 hts gL_law_X4_fact rfl rfl rfl (by decide +kernel) ⟨Nat.le_of_ble_eq_true rfl, Nat.le_of_ble_eq_true rfl⟩) ⟨(w_pre (w_midP hP3) hKm (w_midD hD3) wEnv_true).1, wR_recv (C := RX4) (T := TX4) (N := 18) hKm (w_midP hP3) (ci := 4) rfl 0 (by decide) rfl, (w_pre (w_midP hP3) hKm (w_midD hD3) wEnv_true).2⟩ rfl rfl hl.1 rfl (lv_room (Nat.le_of_ble_eq_true rfl)) dL_law_148 ⟨(by show (cells + 3) + 0 ≤ 601024; omega), (by show (slots + 18) + 0 ≤ 7293034; omega)⟩) (fun br u H locs hm9 hP hD hS => ?_)
  rw [List.append_nil] at hP hD
  refine lv_istore (lv' := [(6, .int br), (5, .int (nI cd)), (0, .ref b), (1, .ref (ad 0)), (2, .ref (md 0)), (3, .ref ao), (4, .int (nI i))]) hx hb dL_law_151 hl (by decide) rfl (fun ls hl => ?_)
  refine lv_aload_n hx hb dL_law_153 rfl (lv_at hl 4 rfl) ?_
  have hP3 := w_addP (X := hW cJ ao f' (sW cI cZ cR ad na n _ _)) (w := mW cI cZ md _ _) hP
  have hD3 := w_addD (X := hW cJ ao f' (sW cI cZ cR ad na n _ _)) (w := mW cI cZ md _ _) hD
  refine w_calliX (Y := []) hS hA hP3 hD3 (va_runV (As := []) (rest := []) ⟨hx, hb, hml, hown, hts⟩ (c_X4_thrown l D cI cZ md _ _ H.size) (cwV 0 hts gL_law_X4_thrown rfl rfl rfl (by decide +kernel) ⟨Nat.le_of_ble_eq_true rfl, Nat.le_of_ble_eq_true rfl⟩) ⟨(w_pre (w_midP hP3) hKm (w_midD hD3) wEnv_true).1, wR_recv (C := RX4) (T := TX4) (N := 18) hKm (w_midP hP3) (ci := 4) rfl 0 (by decide) rfl, (w_pre (w_midP hP3) hKm (w_midD hD3) wEnv_true).2⟩ rfl rfl hl.1 rfl (lv_room (Nat.le_of_ble_eq_true rfl)) dL_law_154 ⟨(by show (cells + 3 + 0) + 0 ≤ 601024; omega), (by show (slots + 18 + 0) + 0 ≤ 7293034; omega)⟩) (fun tr9 u H locs ht9 hP hD hS => ?_)
  rw [List.append_nil] at hP hD
  have ht9 : tr9 = nI cd := ht9.trans (jc_if (fun _ => rfl))
  refine lv_iload hx hb dL_law_157 (lv_at hl 1 rfl) ?_
  refine lv_icmp_eq (tgt := 164) hx hb dL_law_159 (by decide) (fun _ => ?_) (fun c9 => absurd ht9 c9)
  refine lv_iload hx hb dL_law_164 (lv_at hl 1 rfl) ?_
  refine lv_if_ne (tgt := 181) hx hb dL_law_166 (by decide) (fun _ => ?_) (fun c9 => ?_)
  · refine lv_goto (tgt := 1069) hx hb dL_law_181 (by decide) ?_
    refine W.widen (k := cells + 10) (n := slots + 201) (by omega) (by omega) ?_
    exact kk na n ad _ _ _ _ f' H locs ls hn hst hP hD hS (lv_sub hl [2, 3, 4, 5, 6] rfl)
  · have hc9 : cd = 0 := cd_z0 c9 hcd9
    have hfb : f' 0 = br.toInt64 := (hans hc9).trans (congrArg Int32.toInt64 ((rfl).trans (hm9 hc9).symm))
    refine lv_aload_n hx hb dL_law_169 rfl (lv_at hl 5 rfl) ?_
    refine lv_iconst (v := nI 0) hx hb dL_law_170 (by decide) ?_
    refine va_lald hx hb hK hP 0 3 rfl rfl (vp_in_nI (by decide) (by decide)) dL_law_171 ?_
    rw [nI_clamp (show 0 < 2 ^ 31 by decide), hfb]
    refine lv_iload hx hb dL_law_172 (lv_at hl 0 rfl) ?_
    refine lv_i2l (v := br.toInt64) hx hb dL_law_174 rfl ?_
    refine W.lcmp hx hb dL_law_175 ?_
    refine lv_if_eq (tgt := 181) hx hb dL_law_176 (by decide) (fun _ => ?_) (fun c8 => absurd (lg_same _) c8)
    refine lv_goto (tgt := 1069) hx hb dL_law_181 (by decide) ?_
    refine W.widen (k := cells + 10) (n := slots + 201) (by omega) (by omega) ?_
    exact kk na n ad _ _ _ _ f' H locs ls hn hst hP hD hS (lv_sub hl [2, 3, 4, 5, 6] rfl)

set_option maxHeartbeats 4000000 in
set_option maxRecDepth 100000 in
theorem cs_change {p : Program} {l : Launch} {e : Env} {s : State} {m : MethodId} {below : List Frame} {meth : Method} {c : Code} {b L : Nat} {xs : Nat → Int32} {Q : State → Prop} (hlt : l.stackTraces = false) (C0 : lwC p s m c b L xs) (D : va_G) (cI cZ cR cJ : ClassId) (hE : eL (fun q : Nat => s.heap.size ≤ q) s) (hK : va_K D vwCl (lT cI cZ cR cJ) s) (ao : Nat) (md : Nat → Nat) (i : Nat) (hi : i + 4 ≤ L) (hL : L ≤ 2048) (cn : Nat) (hcn : cn < 512) (na n : Nat) (hn : n = 11 + 6 * na) (ad : Nat → Nat) (I V J U : Nat → Nat → Int32) (f : Nat → Int64) (hrel : rel cn na I V J U) (cells slots : Nat) (hce : cells + 10 ≤ 601024) (hsl : slots + 201 ≤ 7293034) (H : Heap) (locs : List Loc) (ls : Array Slot) (hP : va_P D vwCl (lW cI cZ cR cJ ao f ad na n I V md J U) H) (hD : va_D (fun q : Nat => s.heap.size ≤ q) (lW cI cZ cR cJ ao f ad na n I V md J U)) (hS : va_S (fun q : Nat => s.heap.size ≤ q) s.heap H locs) (hl : lv_has ls 7 [(0, .ref b), (1, .ref (ad 0)), (2, .ref (md 0)), (3, .ref ao), (4, .int (nI i))]) (kk : ∀ (na' n' : Nat) (ad' : Nat → Nat) (I' V' J' U' : Nat → Nat → Int32) (f' : Nat → Int64) (H : Heap) (locs : List Loc) (ls : Array Slot), n' = 11 + 6 * na' → rel (cn + 1) na' I' V' J' U' → va_P D vwCl (lW cI cZ cR cJ ao f' ad' na' n' I' V' md J' U') H → va_D (fun q : Nat => s.heap.size ≤ q) (lW cI cZ cR cJ ao f' ad' na' n' I' V' md J' U') → va_S (fun q : Nat => s.heap.size ≤ q) s.heap H locs → lv_has ls 7 [(0, .ref b), (1, .ref (ad' 0)), (2, .ref (md 0)), (3, .ref ao), (4, .int (nI i))] → W p l e room_1 s m #[Value.ref b] below meth c H locs (cells + 10) (slots + 201) Q (F0 m 1069 ls [])) : W p l e room_1 s m #[Value.ref b] below meth c H locs cells slots Q (F0 m 184 ls []) := by
  obtain ⟨hx, hb, hml, hown, hts, hX, hbl⟩ := C0
  have hA : ∀ q : Nat, s.heap.size ≤ q → (fun q : Nat => s.heap.size ≤ q) q := fun _ h => h
  have hbA : ¬ (fun q : Nat => s.heap.size ≤ q) b := Nat.not_le.mpr hbl
  obtain ⟨hna, hna6⟩ := rel_na hrel
  have hKs : va_K D vwCl (sT cI cZ cR) s := hK.sub [0, 1, 2] rfl
  have hKm : va_K D vwCl (mT cI cZ) s := hK.sub [0, 1] rfl
  obtain ⟨k, q, ⟨e1, e2, e3⟩, ⟨e4, e5, e6⟩, hst⟩ := st_change hrel (xs (i + 1)) (if xs (i + 2) = 0 then nI 0 else nI 1) (w_b01 _) _ rfl
  obtain ⟨cd, hcd⟩ : ∃ cd : Nat, cd = if ¬ (0 ≤ (xs (i + 1)).toInt ∧ (xs (i + 1)).toInt ≤ ((k : Nat) : Int) - 1) then 1 else if q = 20 then 2 else 0 := ⟨_, rfl⟩
  have hcd9 : cd ≤ 2 := by rw [hcd]; split <;> first | decide | (split <;> decide)
  have hst := hst cd hcd
  refine lv_aload_n hx hb dL_law_184 rfl (lv_at hl 1 rfl) ?_
  refine lv_aload_n hx hb dL_law_185 rfl (lv_at hl 0 rfl) ?_
  refine lv_iload hx hb dL_law_186 (lv_at hl 4 rfl) ?_
  refine lv_iconst (v := nI 1) hx hb dL_law_188 (by decide) ?_
  refine lv_iadd hx hb dL_law_189 ?_
  rw [nI_add]
  refine w_sld hx hb hX hbl hbA hS (k := i + 1) (by omega) hL dL_law_190 ?_
  refine lv_aload_n hx hb dL_law_191 rfl (lv_at hl 0 rfl) ?_
  refine lv_iload hx hb dL_law_192 (lv_at hl 4 rfl) ?_
  refine lv_iconst (v := nI 2) hx hb dL_law_194 (by decide) ?_
  refine lv_iadd hx hb dL_law_195 ?_
  rw [nI_add]
  refine w_sld hx hb hX hbl hbA hS (k := i + 2) (by omega) hL dL_law_196 ?_
  refine w_bool hx hb dL_law_197 dL_law_200 dL_law_201 dL_law_204 ?_
  refine lv_aload_n hx hb dL_law_205 rfl (lv_at hl 3 rfl) ?_
  have hP3 : va_P D vwCl ([] ++ ((hW cJ ao f (sW cI cZ cR ad na n I V)) ++ (mW cI cZ md J U))) H := hP
  have hD3 : va_D (fun q : Nat => s.heap.size ≤ q) ([] ++ ((hW cJ ao f (sW cI cZ cR ad na n I V)) ++ (mW cI cZ md J U))) := hD
  refine w_calliX (X := []) (w := (hW cJ ao f (sW cI cZ cR ad na n I V))) (Y := (mW cI cZ md J U)) hS hA hP3 hD3 (vx_runSW (As := [.ref (ad 0), .int (xs (i + 1)), .int (if xs (i + 2) = 0 then nI 0 else nI 1), .ref ao]) (rest := []) ⟨hx, hb, hml, hown, hts⟩ (h_L_change l D cI cZ cR cJ ao (ad 0) f (sW cI cZ cR ad na n I V) _ (wR_at (r := 0) (by omega) rfl) _ _ cd H.size (xs (i + 1)) (if xs (i + 2) = 0 then nI 0 else nI 1) (fun sz => c_X3_change l D cI cZ cR ad na n I V sz hlt hn hna hna6 k e1 e3 q e4 e6 _ _ (w_b01 _) _ rfl cd hcd)) (vx_cwSW 4 hts gL_law_L_change rfl rfl rfl (by decide +kernel) ⟨Nat.le_of_ble_eq_true rfl, Nat.le_of_ble_eq_true rfl⟩) (w_pre (w_midP hP3) hK (w_midD hD3) (eL_env hE hS (w_free (w_midD hD3) hS hA))) rfl rfl hl.1 rfl (lv_room (Nat.le_of_ble_eq_true rfl)) dL_law_206 ⟨(by show cells + 2 ≤ 601024; omega), (by show slots + 12 ≤ 7293034; omega)⟩) (fun kr u H locs hw hP hD hS => ?_)
  obtain ⟨f', w'⟩ := u
  obtain ⟨hkr, hans, hw2⟩ := hQ_fix hw
  subst hkr
  have hw2 : w' = _ := hw2
  subst hw2
  have hans : cd = 0 → f' 0 = _ := hans
  have hP : va_P D vwCl (lW cI cZ cR cJ ao f' ad na n _ _ md J U) H := hP
  have hD : va_D (fun q : Nat => s.heap.size ≤ q) (lW cI cZ cR cJ ao f' ad na n _ _ md J U) := hD
  refine lv_istore (lv' := [(5, .int (nI cd)), (0, .ref b), (1, .ref (ad 0)), (2, .ref (md 0)), (3, .ref ao), (4, .int (nI i))]) hx hb dL_law_209 hl (by decide) rfl (fun ls hl => ?_)
  refine lv_aload_n hx hb dL_law_211 rfl (lv_at hl 3 rfl) ?_
  refine lv_aload_n hx hb dL_law_212 rfl (lv_at hl 1 rfl) ?_
  refine lv_iload hx hb dL_law_213 (lv_at hl 5 rfl) ?_
  refine lv_iconst (v := nI 1) hx hb dL_law_215 (by decide) ?_
  refine lv_iadd hx hb dL_law_216 ?_
  rw [nI_add]
  refine w_sld hx hb hX hbl hbA hS (k := i + 1) (by omega) hL dL_law_217 ?_
  refine lv_aload_n hx hb dL_law_218 rfl (lv_at hl 1 rfl) ?_
  refine lv_iload hx hb dL_law_219 (lv_at hl 5 rfl) ?_
  refine lv_iconst (v := nI 2) hx hb dL_law_221 (by decide) ?_
  refine lv_iadd hx hb dL_law_222 ?_
  rw [nI_add]
  refine w_sld hx hb hX hbl hbA hS (k := i + 2) (by omega) hL dL_law_223 ?_
  refine w_bool hx hb dL_law_224 dL_law_227 dL_law_228 dL_law_231 ?_
  have hP3 := w_addP (X := hW cJ ao f' (sW cI cZ cR ad na n _ _)) (w := mW cI cZ md _ _) hP
  have hD3 := w_addD (X := hW cJ ao f' (sW cI cZ cR ad na n _ _)) (w := mW cI cZ md _ _) hD
  refine w_calliX (Y := []) hS hA hP3 hD3 (va_runV (As := [.int (xs (i + 1)), .int (if xs (i + 2) = 0 then nI 0 else nI 1)]) (rest := []) ⟨hx, hb, hml, hown, hts⟩ (c_X4_change l D cI cZ md J U H.size k e2 e3 q e5 e6 _ _ (w_b01 _) _ rfl cd hcd) (cwV 2 hts gL_law_X4_change rfl rfl rfl (by decide +kernel) ⟨Nat.le_of_ble_eq_true rfl, Nat.le_of_ble_eq_true rfl⟩) ⟨(w_pre (w_midP hP3) hKm (w_midD hD3) wEnv_true).1, wR_recv (C := RX4) (T := TX4) (N := 18) hKm (w_midP hP3) (ci := 4) rfl 0 (by decide) rfl, (w_pre (w_midP hP3) hKm (w_midD hD3) wEnv_true).2⟩ rfl rfl hl.1 rfl (lv_room (Nat.le_of_ble_eq_true rfl)) dL_law_232 ⟨(by show (cells + 2) + 0 ≤ 601024; omega), (by show (slots + 12) + 0 ≤ 7293034; omega)⟩) (fun br u H locs hm9 hP hD hS => ?_)
  rw [List.append_nil] at hP hD
  refine lv_istore (lv' := [(6, .int br), (5, .int (nI cd)), (0, .ref b), (1, .ref (ad 0)), (2, .ref (md 0)), (3, .ref ao), (4, .int (nI i))]) hx hb dL_law_235 hl (by decide) rfl (fun ls hl => ?_)
  refine lv_aload_n hx hb dL_law_237 rfl (lv_at hl 4 rfl) ?_
  have hP3 := w_addP (X := hW cJ ao f' (sW cI cZ cR ad na n _ _)) (w := mW cI cZ md _ _) hP
  have hD3 := w_addD (X := hW cJ ao f' (sW cI cZ cR ad na n _ _)) (w := mW cI cZ md _ _) hD
  refine w_calliX (Y := []) hS hA hP3 hD3 (va_runV (As := []) (rest := []) ⟨hx, hb, hml, hown, hts⟩ (c_X4_thrown l D cI cZ md _ _ H.size) (cwV 0 hts gL_law_X4_thrown rfl rfl rfl (by decide +kernel) ⟨Nat.le_of_ble_eq_true rfl, Nat.le_of_ble_eq_true rfl⟩) ⟨(w_pre (w_midP hP3) hKm (w_midD hD3) wEnv_true).1, wR_recv (C := RX4) (T := TX4) (N := 18) hKm (w_midP hP3) (ci := 4) rfl 0 (by decide) rfl, (w_pre (w_midP hP3) hKm (w_midD hD3) wEnv_true).2⟩ rfl rfl hl.1 rfl (lv_room (Nat.le_of_ble_eq_true rfl)) dL_law_238 ⟨(by show (cells + 2 + 0) + 0 ≤ 601024; omega), (by show (slots + 12 + 0) + 0 ≤ 7293034; omega)⟩) (fun tr9 u H locs ht9 hP hD hS => ?_)
  rw [List.append_nil] at hP hD
  have ht9 : tr9 = nI cd := ht9.trans (jc_if (fun _ => rfl))
  refine lv_iload hx hb dL_law_241 (lv_at hl 1 rfl) ?_
  refine lv_icmp_eq (tgt := 248) hx hb dL_law_243 (by decide) (fun _ => ?_) (fun c9 => absurd ht9 c9)
  refine lv_iload hx hb dL_law_248 (lv_at hl 1 rfl) ?_
  refine lv_if_ne (tgt := 265) hx hb dL_law_250 (by decide) (fun _ => ?_) (fun c9 => ?_)
  · refine lv_goto (tgt := 1069) hx hb dL_law_265 (by decide) ?_
    refine W.widen (k := cells + 10) (n := slots + 201) (by omega) (by omega) ?_
    exact kk na n ad _ _ _ _ f' H locs ls hn hst hP hD hS (lv_sub hl [2, 3, 4, 5, 6] rfl)
  · have hc9 : cd = 0 := cd_z0 c9 hcd9
    have hfb : f' 0 = br.toInt64 := (hans hc9).trans (congrArg Int32.toInt64 ((rfl).trans (hm9 hc9).symm))
    refine lv_aload_n hx hb dL_law_253 rfl (lv_at hl 5 rfl) ?_
    refine lv_iconst (v := nI 0) hx hb dL_law_254 (by decide) ?_
    refine va_lald hx hb hK hP 0 3 rfl rfl (vp_in_nI (by decide) (by decide)) dL_law_255 ?_
    rw [nI_clamp (show 0 < 2 ^ 31 by decide), hfb]
    refine lv_iload hx hb dL_law_256 (lv_at hl 0 rfl) ?_
    refine lv_i2l (v := br.toInt64) hx hb dL_law_258 rfl ?_
    refine W.lcmp hx hb dL_law_259 ?_
    refine lv_if_eq (tgt := 265) hx hb dL_law_260 (by decide) (fun _ => ?_) (fun c8 => absurd (lg_same _) c8)
    refine lv_goto (tgt := 1069) hx hb dL_law_265 (by decide) ?_
    refine W.widen (k := cells + 10) (n := slots + 201) (by omega) (by omega) ?_
    exact kk na n ad _ _ _ _ f' H locs ls hn hst hP hD hS (lv_sub hl [2, 3, 4, 5, 6] rfl)

set_option maxHeartbeats 4000000 in
set_option maxRecDepth 100000 in
theorem cs_commit {p : Program} {l : Launch} {e : Env} {s : State} {m : MethodId} {below : List Frame} {meth : Method} {c : Code} {b L : Nat} {xs : Nat → Int32} {Q : State → Prop} (hlt : l.stackTraces = false) (C0 : lwC p s m c b L xs) (D : va_G) (cI cZ cR cJ : ClassId) (hE : eL (fun q : Nat => s.heap.size ≤ q) s) (hK : va_K D vwCl (lT cI cZ cR cJ) s) (ao : Nat) (md : Nat → Nat) (i : Nat) (hi : i + 4 ≤ L) (hL : L ≤ 2048) (cn : Nat) (hcn : cn < 512) (na n : Nat) (hn : n = 11 + 6 * na) (ad : Nat → Nat) (I V J U : Nat → Nat → Int32) (f : Nat → Int64) (hrel : rel cn na I V J U) (cells slots : Nat) (hce : cells + 10 ≤ 601024) (hsl : slots + 201 ≤ 7293034) (H : Heap) (locs : List Loc) (ls : Array Slot) (hP : va_P D vwCl (lW cI cZ cR cJ ao f ad na n I V md J U) H) (hD : va_D (fun q : Nat => s.heap.size ≤ q) (lW cI cZ cR cJ ao f ad na n I V md J U)) (hS : va_S (fun q : Nat => s.heap.size ≤ q) s.heap H locs) (hl : lv_has ls 7 [(0, .ref b), (1, .ref (ad 0)), (2, .ref (md 0)), (3, .ref ao), (4, .int (nI i))]) (kk : ∀ (na' n' : Nat) (ad' : Nat → Nat) (I' V' J' U' : Nat → Nat → Int32) (f' : Nat → Int64) (H : Heap) (locs : List Loc) (ls : Array Slot), n' = 11 + 6 * na' → rel (cn + 1) na' I' V' J' U' → va_P D vwCl (lW cI cZ cR cJ ao f' ad' na' n' I' V' md J' U') H → va_D (fun q : Nat => s.heap.size ≤ q) (lW cI cZ cR cJ ao f' ad' na' n' I' V' md J' U') → va_S (fun q : Nat => s.heap.size ≤ q) s.heap H locs → lv_has ls 7 [(0, .ref b), (1, .ref (ad' 0)), (2, .ref (md 0)), (3, .ref ao), (4, .int (nI i))] → W p l e room_1 s m #[Value.ref b] below meth c H locs (cells + 10) (slots + 201) Q (F0 m 1069 ls [])) : W p l e room_1 s m #[Value.ref b] below meth c H locs cells slots Q (F0 m 268 ls []) := by
  obtain ⟨hx, hb, hml, hown, hts, hX, hbl⟩ := C0
  have hA : ∀ q : Nat, s.heap.size ≤ q → (fun q : Nat => s.heap.size ≤ q) q := fun _ h => h
  have hbA : ¬ (fun q : Nat => s.heap.size ≤ q) b := Nat.not_le.mpr hbl
  obtain ⟨hna, hna6⟩ := rel_na hrel
  have hKs : va_K D vwCl (sT cI cZ cR) s := hK.sub [0, 1, 2] rfl
  have hKm : va_K D vwCl (mT cI cZ) s := hK.sub [0, 1] rfl
  refine lv_aload_n hx hb dL_law_268 rfl (lv_at hl 1 rfl) ?_
  obtain ⟨k, q, kp, T, lst, rc, fk, fa, ⟨e1, e2, e3⟩, ⟨e4, e5, e6⟩, ⟨⟨g1, g2, g3, g4, g5⟩, ⟨g6, g7, g8, g9, g10⟩, g11, g12, g13, g14, g15, g16, g17⟩, e7, e8, e9, f1, f2, hst⟩ := st_commit hrel hcn
  have hP3 : va_P D vwCl ([(ao, .inl (cJ, 1, .inr (.inl f)))] ++ ((sW cI cZ cR ad na n I V) ++ (mW cI cZ md J U))) H := hP
  have hD3 : va_D (fun q : Nat => s.heap.size ≤ q) ([(ao, .inl (cJ, 1, .inr (.inl f)))] ++ ((sW cI cZ cR ad na n I V) ++ (mW cI cZ md J U))) := hD
  refine w_calliX (X := [(ao, .inl (cJ, 1, .inr (.inl f)))]) (w := (sW cI cZ cR ad na n I V)) (Y := (mW cI cZ md J U)) hS hA hP3 hD3 (va_runV (As := []) (rest := []) ⟨hx, hb, hml, hown, hts⟩ (c_X3_commit l D cI cZ cR ad na n I V H.size hn hna hna6 k e1 e3 kp T lst rc fk g1 g2 g3 g4 g5 g11 (by omega) g13 (by omega) g15 (by omega) (by omega) e9) (cwV 0 hts gL_law_X3_commit rfl rfl rfl (by decide +kernel) ⟨Nat.le_of_ble_eq_true rfl, Nat.le_of_ble_eq_true rfl⟩) ⟨(w_pre (w_midP hP3) hKs (w_midD hD3) wEnv_true).1, wR_recv (C := RX3) (T := TX3) (N := 4) hKs (w_midP hP3) (ci := 3) rfl 0 (by omega) rfl, (w_pre (w_midP hP3) hKs (w_midD hD3) wEnv_true).2⟩ rfl rfl hl.1 rfl (lv_room (Nat.le_of_ble_eq_true rfl)) dL_law_269 ⟨(by show cells + 0 ≤ 601024; omega), (by show slots + 0 ≤ 7293034; omega)⟩) (fun kr u H locs hw hP hD hS => ?_)
  have hP : va_P D vwCl (lW cI cZ cR cJ ao f ad na n _ _ md J U) H := hP
  have hD : va_D (fun q : Nat => s.heap.size ≤ q) (lW cI cZ cR cJ ao f ad na n _ _ md J U) := hD
  refine lv_aload_n hx hb dL_law_272 rfl (lv_at hl 2 rfl) ?_
  have hP3 := w_addP (X := hW cJ ao f (sW cI cZ cR ad na n _ _)) (w := mW cI cZ md _ _) hP
  have hD3 := w_addD (X := hW cJ ao f (sW cI cZ cR ad na n _ _)) (w := mW cI cZ md _ _) hD
  refine w_calliX (Y := []) hS hA hP3 hD3 (va_runV (As := []) (rest := [.int kr]) ⟨hx, hb, hml, hown, hts⟩ (c_X4_commit l D cI cZ md J U H.size k e2 e3 q e5 e6 T lst rc kp na g6 g7 g8 g9 g10 g12 g14 g13 g15 g16 g17 e7 fa f1 f2) (cwV 0 hts gL_law_X4_commit rfl rfl rfl (by decide +kernel) ⟨Nat.le_of_ble_eq_true rfl, Nat.le_of_ble_eq_true rfl⟩) ⟨(w_pre (w_midP hP3) hKm (w_midD hD3) wEnv_true).1, wR_recv (C := RX4) (T := TX4) (N := 18) hKm (w_midP hP3) (ci := 4) rfl 0 (by decide) rfl, (w_pre (w_midP hP3) hKm (w_midD hD3) wEnv_true).2⟩ rfl rfl hl.1 rfl (lv_room (Nat.le_of_ble_eq_true rfl)) dL_law_273 ⟨(by show (cells + 0) + 0 ≤ 601024; omega), (by show (slots + 0) + 0 ≤ 7293034; omega)⟩) (fun br u H locs hm9 hP hD hS => ?_)
  rw [List.append_nil] at hP hD
  refine lv_icmp_eq (tgt := 1069) hx hb dL_law_276 (by decide) (fun c9 => ?_) (fun c9 => ?_)
  · refine W.widen (k := cells + 10) (n := slots + 201) (by omega) (by omega) ?_
    exact kk na n ad _ _ _ _ f H locs ls hn hst hP hD hS (lv_sub hl [0, 1, 2, 3, 4] rfl)
  · exact absurd (hw.trans hm9.symm) c9

set_option maxHeartbeats 4000000 in
set_option maxRecDepth 100000 in
theorem cs_abort {p : Program} {l : Launch} {e : Env} {s : State} {m : MethodId} {below : List Frame} {meth : Method} {c : Code} {b L : Nat} {xs : Nat → Int32} {Q : State → Prop} (hlt : l.stackTraces = false) (C0 : lwC p s m c b L xs) (D : va_G) (cI cZ cR cJ : ClassId) (hE : eL (fun q : Nat => s.heap.size ≤ q) s) (hK : va_K D vwCl (lT cI cZ cR cJ) s) (ao : Nat) (md : Nat → Nat) (i : Nat) (hi : i + 4 ≤ L) (hL : L ≤ 2048) (cn : Nat) (hcn : cn < 512) (na n : Nat) (hn : n = 11 + 6 * na) (ad : Nat → Nat) (I V J U : Nat → Nat → Int32) (f : Nat → Int64) (hrel : rel cn na I V J U) (cells slots : Nat) (hce : cells + 10 ≤ 601024) (hsl : slots + 201 ≤ 7293034) (H : Heap) (locs : List Loc) (ls : Array Slot) (hP : va_P D vwCl (lW cI cZ cR cJ ao f ad na n I V md J U) H) (hD : va_D (fun q : Nat => s.heap.size ≤ q) (lW cI cZ cR cJ ao f ad na n I V md J U)) (hS : va_S (fun q : Nat => s.heap.size ≤ q) s.heap H locs) (hl : lv_has ls 7 [(0, .ref b), (1, .ref (ad 0)), (2, .ref (md 0)), (3, .ref ao), (4, .int (nI i))]) (kk : ∀ (na' n' : Nat) (ad' : Nat → Nat) (I' V' J' U' : Nat → Nat → Int32) (f' : Nat → Int64) (H : Heap) (locs : List Loc) (ls : Array Slot), n' = 11 + 6 * na' → rel (cn + 1) na' I' V' J' U' → va_P D vwCl (lW cI cZ cR cJ ao f' ad' na' n' I' V' md J' U') H → va_D (fun q : Nat => s.heap.size ≤ q) (lW cI cZ cR cJ ao f' ad' na' n' I' V' md J' U') → va_S (fun q : Nat => s.heap.size ≤ q) s.heap H locs → lv_has ls 7 [(0, .ref b), (1, .ref (ad' 0)), (2, .ref (md 0)), (3, .ref ao), (4, .int (nI i))] → W p l e room_1 s m #[Value.ref b] below meth c H locs (cells + 10) (slots + 201) Q (F0 m 1069 ls [])) : W p l e room_1 s m #[Value.ref b] below meth c H locs cells slots Q (F0 m 281 ls []) := by
  obtain ⟨hx, hb, hml, hown, hts, hX, hbl⟩ := C0
  have hA : ∀ q : Nat, s.heap.size ≤ q → (fun q : Nat => s.heap.size ≤ q) q := fun _ h => h
  have hbA : ¬ (fun q : Nat => s.heap.size ≤ q) b := Nat.not_le.mpr hbl
  obtain ⟨hna, hna6⟩ := rel_na hrel
  have hKs : va_K D vwCl (sT cI cZ cR) s := hK.sub [0, 1, 2] rfl
  have hKm : va_K D vwCl (mT cI cZ) s := hK.sub [0, 1] rfl
  refine lv_aload_n hx hb dL_law_281 rfl (lv_at hl 1 rfl) ?_
  obtain ⟨k, q, ⟨e1, e3⟩, ⟨e4, e5, e6⟩, e7, hst⟩ := st_abort hrel
  have hP3 : va_P D vwCl ([(ao, .inl (cJ, 1, .inr (.inl f)))] ++ ((sW cI cZ cR ad na n I V) ++ (mW cI cZ md J U))) H := hP
  have hD3 : va_D (fun q : Nat => s.heap.size ≤ q) ([(ao, .inl (cJ, 1, .inr (.inl f)))] ++ ((sW cI cZ cR ad na n I V) ++ (mW cI cZ md J U))) := hD
  refine w_calliX (X := [(ao, .inl (cJ, 1, .inr (.inl f)))]) (w := (sW cI cZ cR ad na n I V)) (Y := (mW cI cZ md J U)) hS hA hP3 hD3 (va_runV (As := []) (rest := []) ⟨hx, hb, hml, hown, hts⟩ (c_X3_abort l D cI cZ cR ad na n I V H.size hn hna hna6 k e1 e3 q e4 e7) (cwV 0 hts gL_law_X3_abort rfl rfl rfl (by decide +kernel) ⟨Nat.le_of_ble_eq_true rfl, Nat.le_of_ble_eq_true rfl⟩) ⟨(w_pre (w_midP hP3) hKs (w_midD hD3) wEnv_true).1, wR_recv (C := RX3) (T := TX3) (N := 4) hKs (w_midP hP3) (ci := 3) rfl 0 (by omega) rfl, (w_pre (w_midP hP3) hKs (w_midD hD3) wEnv_true).2⟩ rfl rfl hl.1 rfl (lv_room (Nat.le_of_ble_eq_true rfl)) dL_law_282 ⟨(by show cells + 0 ≤ 601024; omega), (by show slots + 0 ≤ 7293034; omega)⟩) (fun kr u H locs hw hP hD hS => ?_)
  have hP : va_P D vwCl (lW cI cZ cR cJ ao f ad na n _ _ md J U) H := hP
  have hD : va_D (fun q : Nat => s.heap.size ≤ q) (lW cI cZ cR cJ ao f ad na n _ _ md J U) := hD
  refine lv_aload_n hx hb dL_law_285 rfl (lv_at hl 2 rfl) ?_
  have hP3 := w_addP (X := hW cJ ao f (sW cI cZ cR ad na n _ _)) (w := mW cI cZ md _ _) hP
  have hD3 := w_addD (X := hW cJ ao f (sW cI cZ cR ad na n _ _)) (w := mW cI cZ md _ _) hD
  refine w_calliX (Y := []) hS hA hP3 hD3 (va_runV (As := []) (rest := [.int kr]) ⟨hx, hb, hml, hown, hts⟩ (c_X4_abort l D cI cZ md J U H.size q e5 e6) (cwV 0 hts gL_law_X4_abort rfl rfl rfl (by decide +kernel) ⟨Nat.le_of_ble_eq_true rfl, Nat.le_of_ble_eq_true rfl⟩) ⟨(w_pre (w_midP hP3) hKm (w_midD hD3) wEnv_true).1, wR_recv (C := RX4) (T := TX4) (N := 18) hKm (w_midP hP3) (ci := 4) rfl 0 (by decide) rfl, (w_pre (w_midP hP3) hKm (w_midD hD3) wEnv_true).2⟩ rfl rfl hl.1 rfl (lv_room (Nat.le_of_ble_eq_true rfl)) dL_law_286 ⟨(by show (cells + 0) + 0 ≤ 601024; omega), (by show (slots + 0) + 0 ≤ 7293034; omega)⟩) (fun br u H locs hm9 hP hD hS => ?_)
  rw [List.append_nil] at hP hD
  refine lv_icmp_eq (tgt := 1069) hx hb dL_law_289 (by decide) (fun c9 => ?_) (fun c9 => ?_)
  · refine W.widen (k := cells + 10) (n := slots + 201) (by omega) (by omega) ?_
    exact kk na n ad _ _ _ _ f H locs ls hn hst hP hD hS (lv_sub hl [0, 1, 2, 3, 4] rfl)
  · exact absurd (hw.trans hm9.symm) c9

set_option maxHeartbeats 4000000 in
set_option maxRecDepth 100000 in
theorem cs_contains {p : Program} {l : Launch} {e : Env} {s : State} {m : MethodId} {below : List Frame} {meth : Method} {c : Code} {b L : Nat} {xs : Nat → Int32} {Q : State → Prop} (hlt : l.stackTraces = false) (C0 : lwC p s m c b L xs) (D : va_G) (cI cZ cR cJ : ClassId) (hE : eL (fun q : Nat => s.heap.size ≤ q) s) (hK : va_K D vwCl (lT cI cZ cR cJ) s) (ao : Nat) (md : Nat → Nat) (i : Nat) (hi : i + 4 ≤ L) (hL : L ≤ 2048) (cn : Nat) (hcn : cn < 512) (na n : Nat) (hn : n = 11 + 6 * na) (ad : Nat → Nat) (I V J U : Nat → Nat → Int32) (f : Nat → Int64) (hrel : rel cn na I V J U) (cells slots : Nat) (hce : cells + 10 ≤ 601024) (hsl : slots + 201 ≤ 7293034) (H : Heap) (locs : List Loc) (ls : Array Slot) (hP : va_P D vwCl (lW cI cZ cR cJ ao f ad na n I V md J U) H) (hD : va_D (fun q : Nat => s.heap.size ≤ q) (lW cI cZ cR cJ ao f ad na n I V md J U)) (hS : va_S (fun q : Nat => s.heap.size ≤ q) s.heap H locs) (hl : lv_has ls 7 [(0, .ref b), (1, .ref (ad 0)), (2, .ref (md 0)), (3, .ref ao), (4, .int (nI i))]) (kk : ∀ (na' n' : Nat) (ad' : Nat → Nat) (I' V' J' U' : Nat → Nat → Int32) (f' : Nat → Int64) (H : Heap) (locs : List Loc) (ls : Array Slot), n' = 11 + 6 * na' → rel (cn + 1) na' I' V' J' U' → va_P D vwCl (lW cI cZ cR cJ ao f' ad' na' n' I' V' md J' U') H → va_D (fun q : Nat => s.heap.size ≤ q) (lW cI cZ cR cJ ao f' ad' na' n' I' V' md J' U') → va_S (fun q : Nat => s.heap.size ≤ q) s.heap H locs → lv_has ls 7 [(0, .ref b), (1, .ref (ad' 0)), (2, .ref (md 0)), (3, .ref ao), (4, .int (nI i))] → W p l e room_1 s m #[Value.ref b] below meth c H locs (cells + 10) (slots + 201) Q (F0 m 1069 ls [])) : W p l e room_1 s m #[Value.ref b] below meth c H locs cells slots Q (F0 m 294 ls []) := by
  obtain ⟨hx, hb, hml, hown, hts, hX, hbl⟩ := C0
  have hA : ∀ q : Nat, s.heap.size ≤ q → (fun q : Nat => s.heap.size ≤ q) q := fun _ h => h
  have hbA : ¬ (fun q : Nat => s.heap.size ≤ q) b := Nat.not_le.mpr hbl
  obtain ⟨hna, hna6⟩ := rel_na hrel
  have hKs : va_K D vwCl (sT cI cZ cR) s := hK.sub [0, 1, 2] rfl
  have hKm : va_K D vwCl (mT cI cZ) s := hK.sub [0, 1] rfl
  obtain ⟨k, ⟨e1, e2, e3⟩, e4, e5, hab⟩ := st_contains hrel (xs (i + 1)) _ rfl
  obtain ⟨cd, hcd⟩ : ∃ cd : Nat, cd = if ¬ (0 ≤ (xs (i + 1)).toInt ∧ (xs (i + 1)).toInt ≤ ((k : Nat) : Int) - 1) then 1 else 0 := ⟨_, rfl⟩
  have hcd9 : cd ≤ 2 := by rw [hcd]; split <;> first | decide | (split <;> decide)
  have hcd2 : ¬ cd = 2 := by rw [hcd]; split <;> decide
  have hst := st_code (cd := cd) hrel
  refine lv_aload_n hx hb dL_law_294 rfl (lv_at hl 1 rfl) ?_
  refine lv_aload_n hx hb dL_law_295 rfl (lv_at hl 0 rfl) ?_
  refine lv_iload hx hb dL_law_296 (lv_at hl 4 rfl) ?_
  refine lv_iconst (v := nI 1) hx hb dL_law_298 (by decide) ?_
  refine lv_iadd hx hb dL_law_299 ?_
  rw [nI_add]
  refine w_sld hx hb hX hbl hbA hS (k := i + 1) (by omega) hL dL_law_300 ?_
  refine lv_aload_n hx hb dL_law_301 rfl (lv_at hl 3 rfl) ?_
  have hP3 : va_P D vwCl ([] ++ ((hW cJ ao f (sW cI cZ cR ad na n I V)) ++ (mW cI cZ md J U))) H := hP
  have hD3 : va_D (fun q : Nat => s.heap.size ≤ q) ([] ++ ((hW cJ ao f (sW cI cZ cR ad na n I V)) ++ (mW cI cZ md J U))) := hD
  refine w_calliX (X := []) (w := (hW cJ ao f (sW cI cZ cR ad na n I V))) (Y := (mW cI cZ md J U)) hS hA hP3 hD3 (vx_runSW (As := [.ref (ad 0), .int (xs (i + 1)), .ref ao]) (rest := []) ⟨hx, hb, hml, hown, hts⟩ (h_L_contains l D cI cZ cR cJ ao (ad 0) f (sW cI cZ cR ad na n I V) _ (wR_at (r := 0) (by omega) rfl) _ _ cd H.size (xs (i + 1)) hcd2 (fun r u h9 => by rw [h9]; exact e4 _) (fun sz => c_X3_contains l D cI cZ cR ad na n I V sz hlt hn hna hna6 k e1 e3 _ e4 _ rfl cd hcd)) (vx_cwSW 3 hts gL_law_L_contains rfl rfl rfl (by decide +kernel) ⟨Nat.le_of_ble_eq_true rfl, Nat.le_of_ble_eq_true rfl⟩) (w_pre (w_midP hP3) hK (w_midD hD3) (eL_env hE hS (w_free (w_midD hD3) hS hA))) rfl rfl hl.1 rfl (lv_room (Nat.le_of_ble_eq_true rfl)) dL_law_302 ⟨(by show cells + 1 ≤ 601024; omega), (by show slots + 6 ≤ 7293034; omega)⟩) (fun kr u H locs hw hP hD hS => ?_)
  obtain ⟨f', w'⟩ := u
  obtain ⟨hkr, hans, hw2⟩ := hQ_fix hw
  subst hkr
  have hw2 : w' = _ := hw2
  subst hw2
  have hans : cd = 0 → f' 0 = _ := hans
  have hP : va_P D vwCl (lW cI cZ cR cJ ao f' ad na n _ _ md J U) H := hP
  have hD : va_D (fun q : Nat => s.heap.size ≤ q) (lW cI cZ cR cJ ao f' ad na n _ _ md J U) := hD
  rw [ite_self, ite_self] at hP hD
  refine lv_istore (lv' := [(5, .int (nI cd)), (0, .ref b), (1, .ref (ad 0)), (2, .ref (md 0)), (3, .ref ao), (4, .int (nI i))]) hx hb dL_law_305 hl (by decide) rfl (fun ls hl => ?_)
  refine lv_aload_n hx hb dL_law_307 rfl (lv_at hl 3 rfl) ?_
  refine lv_aload_n hx hb dL_law_308 rfl (lv_at hl 1 rfl) ?_
  refine lv_iload hx hb dL_law_309 (lv_at hl 5 rfl) ?_
  refine lv_iconst (v := nI 1) hx hb dL_law_311 (by decide) ?_
  refine lv_iadd hx hb dL_law_312 ?_
  rw [nI_add]
  refine w_sld hx hb hX hbl hbA hS (k := i + 1) (by omega) hL dL_law_313 ?_
  have hP3 := w_addP (X := hW cJ ao f' (sW cI cZ cR ad na n _ _)) (w := mW cI cZ md _ _) hP
  have hD3 := w_addD (X := hW cJ ao f' (sW cI cZ cR ad na n _ _)) (w := mW cI cZ md _ _) hD
  refine w_calliX (Y := []) hS hA hP3 hD3 (va_runV (As := [.int (xs (i + 1))]) (rest := []) ⟨hx, hb, hml, hown, hts⟩ (c_X4_contains l D cI cZ md J U H.size k e2 e3 _ e5 _ rfl cd hcd) (cwV 1 hts gL_law_X4_contains rfl rfl rfl (by decide +kernel) ⟨Nat.le_of_ble_eq_true rfl, Nat.le_of_ble_eq_true rfl⟩) ⟨(w_pre (w_midP hP3) hKm (w_midD hD3) wEnv_true).1, wR_recv (C := RX4) (T := TX4) (N := 18) hKm (w_midP hP3) (ci := 4) rfl 0 (by decide) rfl, (w_pre (w_midP hP3) hKm (w_midD hD3) wEnv_true).2⟩ rfl rfl hl.1 rfl (lv_room (Nat.le_of_ble_eq_true rfl)) dL_law_314 ⟨(by show (cells + 1) + 0 ≤ 601024; omega), (by show (slots + 6) + 0 ≤ 7293034; omega)⟩) (fun br u H locs hm9 hP hD hS => ?_)
  rw [List.append_nil] at hP hD
  refine lv_istore (lv' := [(6, .int br), (5, .int (nI cd)), (0, .ref b), (1, .ref (ad 0)), (2, .ref (md 0)), (3, .ref ao), (4, .int (nI i))]) hx hb dL_law_317 hl (by decide) rfl (fun ls hl => ?_)
  refine lv_aload_n hx hb dL_law_319 rfl (lv_at hl 4 rfl) ?_
  have hP3 := w_addP (X := hW cJ ao f' (sW cI cZ cR ad na n _ _)) (w := mW cI cZ md _ _) hP
  have hD3 := w_addD (X := hW cJ ao f' (sW cI cZ cR ad na n _ _)) (w := mW cI cZ md _ _) hD
  refine w_calliX (Y := []) hS hA hP3 hD3 (va_runV (As := []) (rest := []) ⟨hx, hb, hml, hown, hts⟩ (c_X4_thrown l D cI cZ md _ _ H.size) (cwV 0 hts gL_law_X4_thrown rfl rfl rfl (by decide +kernel) ⟨Nat.le_of_ble_eq_true rfl, Nat.le_of_ble_eq_true rfl⟩) ⟨(w_pre (w_midP hP3) hKm (w_midD hD3) wEnv_true).1, wR_recv (C := RX4) (T := TX4) (N := 18) hKm (w_midP hP3) (ci := 4) rfl 0 (by decide) rfl, (w_pre (w_midP hP3) hKm (w_midD hD3) wEnv_true).2⟩ rfl rfl hl.1 rfl (lv_room (Nat.le_of_ble_eq_true rfl)) dL_law_320 ⟨(by show (cells + 1 + 0) + 0 ≤ 601024; omega), (by show (slots + 6 + 0) + 0 ≤ 7293034; omega)⟩) (fun tr9 u H locs ht9 hP hD hS => ?_)
  rw [List.append_nil] at hP hD
  have ht9 : tr9 = nI cd := ht9.trans (jc_if (fun _ => rfl))
  refine lv_iload hx hb dL_law_323 (lv_at hl 1 rfl) ?_
  refine lv_icmp_eq (tgt := 330) hx hb dL_law_325 (by decide) (fun _ => ?_) (fun c9 => absurd ht9 c9)
  refine lv_iload hx hb dL_law_330 (lv_at hl 1 rfl) ?_
  refine lv_if_ne (tgt := 354) hx hb dL_law_332 (by decide) (fun _ => ?_) (fun c9 => ?_)
  · refine lv_goto (tgt := 1069) hx hb dL_law_354 (by decide) ?_
    refine W.widen (k := cells + 10) (n := slots + 201) (by omega) (by omega) ?_
    exact kk na n ad _ _ _ _ f' H locs ls hn hst hP hD hS (lv_sub hl [2, 3, 4, 5, 6] rfl)
  · have hc9 : cd = 0 := cd_z0 c9 hcd9
    have hfb : f' 0 = br.toInt64 := (hans hc9).trans (congrArg Int32.toInt64 ((hab cd hcd hc9).trans (hm9 hc9).symm))
    refine lv_aload_n hx hb dL_law_335 rfl (lv_at hl 5 rfl) ?_
    refine lv_iconst (v := nI 0) hx hb dL_law_336 (by decide) ?_
    refine va_lald hx hb hK hP 0 3 rfl rfl (vp_in_nI (by decide) (by decide)) dL_law_337 ?_
    rw [nI_clamp (show 0 < 2 ^ 31 by decide), hfb]
    refine lv_iload hx hb dL_law_338 (lv_at hl 0 rfl) ?_
    have hbr : br = 0 ∨ br = 1 := by rw [hm9 hc9]; exact e5 _
    refine lv_if_eq (tgt := 347) hx hb dL_law_340 (by decide) (fun c7 => ?_) (fun c7 => ?_)
    · refine lv_lconst (v := 0) hx hb dL_law_347 (by decide) ?_
      refine W.lcmp hx hb dL_law_348 ?_
      refine lv_if_eq (tgt := 354) hx hb dL_law_349 (by decide) (fun _ => ?_) (fun c8 => absurd (by rw [c7]; exact lg_same 0) c8)
      refine lv_goto (tgt := 1069) hx hb dL_law_354 (by decide) ?_
      refine W.widen (k := cells + 10) (n := slots + 201) (by omega) (by omega) ?_
      exact kk na n ad _ _ _ _ f' H locs ls hn hst hP hD hS (lv_sub hl [2, 3, 4, 5, 6] rfl)
    · refine lv_lconst (v := 1) hx hb dL_law_343 (by decide) ?_
      refine lv_goto (tgt := 348) hx hb dL_law_344 (by decide) ?_
      refine W.lcmp hx hb dL_law_348 ?_
      refine lv_if_eq (tgt := 354) hx hb dL_law_349 (by decide) (fun _ => ?_) (fun c8 => absurd (by rw [hbr.resolve_left c7]; exact lg_same 1) c8)
      refine lv_goto (tgt := 1069) hx hb dL_law_354 (by decide) ?_
      refine W.widen (k := cells + 10) (n := slots + 201) (by omega) (by omega) ?_
      exact kk na n ad _ _ _ _ f' H locs ls hn hst hP hD hS (lv_sub hl [2, 3, 4, 5, 6] rfl)

set_option maxHeartbeats 4000000 in
set_option maxRecDepth 100000 in
theorem cs_keep {p : Program} {l : Launch} {e : Env} {s : State} {m : MethodId} {below : List Frame} {meth : Method} {c : Code} {b L : Nat} {xs : Nat → Int32} {Q : State → Prop} (hlt : l.stackTraces = false) (C0 : lwC p s m c b L xs) (D : va_G) (cI cZ cR cJ : ClassId) (hE : eL (fun q : Nat => s.heap.size ≤ q) s) (hK : va_K D vwCl (lT cI cZ cR cJ) s) (ao : Nat) (md : Nat → Nat) (i : Nat) (hi : i + 4 ≤ L) (hL : L ≤ 2048) (cn : Nat) (hcn : cn < 512) (na n : Nat) (hn : n = 11 + 6 * na) (ad : Nat → Nat) (I V J U : Nat → Nat → Int32) (f : Nat → Int64) (hrel : rel cn na I V J U) (cells slots : Nat) (hce : cells + 10 ≤ 601024) (hsl : slots + 201 ≤ 7293034) (H : Heap) (locs : List Loc) (ls : Array Slot) (hP : va_P D vwCl (lW cI cZ cR cJ ao f ad na n I V md J U) H) (hD : va_D (fun q : Nat => s.heap.size ≤ q) (lW cI cZ cR cJ ao f ad na n I V md J U)) (hS : va_S (fun q : Nat => s.heap.size ≤ q) s.heap H locs) (hl : lv_has ls 7 [(0, .ref b), (1, .ref (ad 0)), (2, .ref (md 0)), (3, .ref ao), (4, .int (nI i))]) (kk : ∀ (na' n' : Nat) (ad' : Nat → Nat) (I' V' J' U' : Nat → Nat → Int32) (f' : Nat → Int64) (H : Heap) (locs : List Loc) (ls : Array Slot), n' = 11 + 6 * na' → rel (cn + 1) na' I' V' J' U' → va_P D vwCl (lW cI cZ cR cJ ao f' ad' na' n' I' V' md J' U') H → va_D (fun q : Nat => s.heap.size ≤ q) (lW cI cZ cR cJ ao f' ad' na' n' I' V' md J' U') → va_S (fun q : Nat => s.heap.size ≤ q) s.heap H locs → lv_has ls 7 [(0, .ref b), (1, .ref (ad' 0)), (2, .ref (md 0)), (3, .ref ao), (4, .int (nI i))] → W p l e room_1 s m #[Value.ref b] below meth c H locs (cells + 10) (slots + 201) Q (F0 m 1069 ls [])) : W p l e room_1 s m #[Value.ref b] below meth c H locs cells slots Q (F0 m 357 ls []) := by
  obtain ⟨hx, hb, hml, hown, hts, hX, hbl⟩ := C0
  have hA : ∀ q : Nat, s.heap.size ≤ q → (fun q : Nat => s.heap.size ≤ q) q := fun _ h => h
  have hbA : ¬ (fun q : Nat => s.heap.size ≤ q) b := Nat.not_le.mpr hbl
  obtain ⟨hna, hna6⟩ := rel_na hrel
  have hKs : va_K D vwCl (sT cI cZ cR) s := hK.sub [0, 1, 2] rfl
  have hKm : va_K D vwCl (mT cI cZ) s := hK.sub [0, 1] rfl
  obtain ⟨kp, T, lst, rc, fk, ⟨⟨g1, g2, g3, g4, g5⟩, ⟨g6, g7, g8, g9, g10⟩, g11, g12, g13, g14, g15, g16, g17⟩, hst⟩ := st_keep hrel hcn (xs (i + 1)) _ rfl
  obtain ⟨cd, hcd⟩ : ∃ cd : Nat, cd = if ¬ (1 ≤ (xs (i + 1)).toInt ∧ (xs (i + 1)).toInt ≤ 30) then 1 else 0 := ⟨_, rfl⟩
  have hcd9 : cd ≤ 2 := by rw [hcd]; split <;> first | decide | (split <;> decide)
  have hcd2 : ¬ cd = 2 := by rw [hcd]; split <;> decide
  have hst := hst cd hcd
  rw [show (if cd = 0 then U else U) = U from ite_self _] at hst
  refine lv_aload_n hx hb dL_law_357 rfl (lv_at hl 1 rfl) ?_
  refine lv_aload_n hx hb dL_law_358 rfl (lv_at hl 0 rfl) ?_
  refine lv_iload hx hb dL_law_359 (lv_at hl 4 rfl) ?_
  refine lv_iconst (v := nI 1) hx hb dL_law_361 (by decide) ?_
  refine lv_iadd hx hb dL_law_362 ?_
  rw [nI_add]
  refine w_sld hx hb hX hbl hbA hS (k := i + 1) (by omega) hL dL_law_363 ?_
  refine lv_aload_n hx hb dL_law_364 rfl (lv_at hl 3 rfl) ?_
  have hP3 : va_P D vwCl ([] ++ ((hW cJ ao f (sW cI cZ cR ad na n I V)) ++ (mW cI cZ md J U))) H := hP
  have hD3 : va_D (fun q : Nat => s.heap.size ≤ q) ([] ++ ((hW cJ ao f (sW cI cZ cR ad na n I V)) ++ (mW cI cZ md J U))) := hD
  refine w_calliX (X := []) (w := (hW cJ ao f (sW cI cZ cR ad na n I V))) (Y := (mW cI cZ md J U)) hS hA hP3 hD3 (vx_runSW (As := [.ref (ad 0), .int (xs (i + 1)), .ref ao]) (rest := []) ⟨hx, hb, hml, hown, hts⟩ (h_L_keep l D cI cZ cR cJ ao (ad 0) f (sW cI cZ cR ad na n I V) _ (wR_at (r := 0) (by omega) rfl) _ _ cd H.size (xs (i + 1)) hcd2 (fun sz => c_X3_keep l D cI cZ cR ad na n I V sz hlt hn hna hna6 kp T lst rc fk g1 g2 g3 g4 g5 g11 (by omega) g13 (by omega) g15 (by omega) _ _ rfl cd hcd)) (vx_cwSW 3 hts gL_law_L_keep rfl rfl rfl (by decide +kernel) ⟨Nat.le_of_ble_eq_true rfl, Nat.le_of_ble_eq_true rfl⟩) (w_pre (w_midP hP3) hK (w_midD hD3) (eL_env hE hS (w_free (w_midD hD3) hS hA))) rfl rfl hl.1 rfl (lv_room (Nat.le_of_ble_eq_true rfl)) dL_law_365 ⟨(by show cells + 1 ≤ 601024; omega), (by show slots + 6 ≤ 7293034; omega)⟩) (fun kr u H locs hw hP hD hS => ?_)
  obtain ⟨f', w'⟩ := u
  obtain ⟨hkr, hans, hw2⟩ := hQ_fix hw
  subst hkr
  have hw2 : w' = _ := hw2
  subst hw2
  have hans : cd = 0 → f' 0 = _ := hans
  have hP : va_P D vwCl (lW cI cZ cR cJ ao f' ad na n _ _ md J U) H := hP
  have hD : va_D (fun q : Nat => s.heap.size ≤ q) (lW cI cZ cR cJ ao f' ad na n _ _ md J U) := hD
  refine lv_istore (lv' := [(5, .int (nI cd)), (0, .ref b), (1, .ref (ad 0)), (2, .ref (md 0)), (3, .ref ao), (4, .int (nI i))]) hx hb dL_law_368 hl (by decide) rfl (fun ls hl => ?_)
  refine lv_aload_n hx hb dL_law_370 rfl (lv_at hl 3 rfl) ?_
  refine lv_aload_n hx hb dL_law_371 rfl (lv_at hl 1 rfl) ?_
  refine lv_iload hx hb dL_law_372 (lv_at hl 5 rfl) ?_
  refine lv_iconst (v := nI 1) hx hb dL_law_374 (by decide) ?_
  refine lv_iadd hx hb dL_law_375 ?_
  rw [nI_add]
  refine w_sld hx hb hX hbl hbA hS (k := i + 1) (by omega) hL dL_law_376 ?_
  have hP3 := w_addP (X := hW cJ ao f' (sW cI cZ cR ad na n _ _)) (w := mW cI cZ md _ _) hP
  have hD3 := w_addD (X := hW cJ ao f' (sW cI cZ cR ad na n _ _)) (w := mW cI cZ md _ _) hD
  refine w_calliX (Y := []) hS hA hP3 hD3 (va_runV (As := [.int (xs (i + 1))]) (rest := []) ⟨hx, hb, hml, hown, hts⟩ (c_X4_keep l D cI cZ md J U H.size T lst rc kp na g6 g7 g8 g9 g10 g12 g14 g13 g15 g16 g17 _ _ rfl cd hcd) (cwV 1 hts gL_law_X4_keep rfl rfl rfl (by decide +kernel) ⟨Nat.le_of_ble_eq_true rfl, Nat.le_of_ble_eq_true rfl⟩) ⟨(w_pre (w_midP hP3) hKm (w_midD hD3) wEnv_true).1, wR_recv (C := RX4) (T := TX4) (N := 18) hKm (w_midP hP3) (ci := 4) rfl 0 (by decide) rfl, (w_pre (w_midP hP3) hKm (w_midD hD3) wEnv_true).2⟩ rfl rfl hl.1 rfl (lv_room (Nat.le_of_ble_eq_true rfl)) dL_law_377 ⟨(by show (cells + 1) + 0 ≤ 601024; omega), (by show (slots + 6) + 0 ≤ 7293034; omega)⟩) (fun br u H locs hm9 hP hD hS => ?_)
  rw [List.append_nil] at hP hD
  refine lv_istore (lv' := [(6, .int br), (5, .int (nI cd)), (0, .ref b), (1, .ref (ad 0)), (2, .ref (md 0)), (3, .ref ao), (4, .int (nI i))]) hx hb dL_law_380 hl (by decide) rfl (fun ls hl => ?_)
  refine lv_aload_n hx hb dL_law_382 rfl (lv_at hl 4 rfl) ?_
  have hP3 := w_addP (X := hW cJ ao f' (sW cI cZ cR ad na n _ _)) (w := mW cI cZ md _ _) hP
  have hD3 := w_addD (X := hW cJ ao f' (sW cI cZ cR ad na n _ _)) (w := mW cI cZ md _ _) hD
  refine w_calliX (Y := []) hS hA hP3 hD3 (va_runV (As := []) (rest := []) ⟨hx, hb, hml, hown, hts⟩ (c_X4_thrown l D cI cZ md _ _ H.size) (cwV 0 hts gL_law_X4_thrown rfl rfl rfl (by decide +kernel) ⟨Nat.le_of_ble_eq_true rfl, Nat.le_of_ble_eq_true rfl⟩) ⟨(w_pre (w_midP hP3) hKm (w_midD hD3) wEnv_true).1, wR_recv (C := RX4) (T := TX4) (N := 18) hKm (w_midP hP3) (ci := 4) rfl 0 (by decide) rfl, (w_pre (w_midP hP3) hKm (w_midD hD3) wEnv_true).2⟩ rfl rfl hl.1 rfl (lv_room (Nat.le_of_ble_eq_true rfl)) dL_law_383 ⟨(by show (cells + 1 + 0) + 0 ≤ 601024; omega), (by show (slots + 6 + 0) + 0 ≤ 7293034; omega)⟩) (fun tr9 u H locs ht9 hP hD hS => ?_)
  rw [List.append_nil] at hP hD
  have ht9 : tr9 = nI cd := ht9.trans (jc_if (fun _ => rfl))
  refine lv_iload hx hb dL_law_386 (lv_at hl 1 rfl) ?_
  refine lv_icmp_eq (tgt := 393) hx hb dL_law_388 (by decide) (fun _ => ?_) (fun c9 => absurd ht9 c9)
  refine lv_iload hx hb dL_law_393 (lv_at hl 1 rfl) ?_
  refine lv_if_ne (tgt := 410) hx hb dL_law_395 (by decide) (fun _ => ?_) (fun c9 => ?_)
  · refine lv_goto (tgt := 1069) hx hb dL_law_410 (by decide) ?_
    refine W.widen (k := cells + 10) (n := slots + 201) (by omega) (by omega) ?_
    exact kk na n ad _ _ _ _ f' H locs ls hn hst hP hD hS (lv_sub hl [2, 3, 4, 5, 6] rfl)
  · have hc9 : cd = 0 := cd_z0 c9 hcd9
    have hfb : f' 0 = br.toInt64 := (hans hc9).trans (congrArg Int32.toInt64 ((rfl).trans (hm9 hc9).symm))
    refine lv_aload_n hx hb dL_law_398 rfl (lv_at hl 5 rfl) ?_
    refine lv_iconst (v := nI 0) hx hb dL_law_399 (by decide) ?_
    refine va_lald hx hb hK hP 0 3 rfl rfl (vp_in_nI (by decide) (by decide)) dL_law_400 ?_
    rw [nI_clamp (show 0 < 2 ^ 31 by decide), hfb]
    refine lv_iload hx hb dL_law_401 (lv_at hl 0 rfl) ?_
    refine lv_i2l (v := br.toInt64) hx hb dL_law_403 rfl ?_
    refine W.lcmp hx hb dL_law_404 ?_
    refine lv_if_eq (tgt := 410) hx hb dL_law_405 (by decide) (fun _ => ?_) (fun c8 => absurd (lg_same _) c8)
    refine lv_goto (tgt := 1069) hx hb dL_law_410 (by decide) ?_
    refine W.widen (k := cells + 10) (n := slots + 201) (by omega) (by omega) ?_
    exact kk na n ad _ _ _ _ f' H locs ls hn hst hP hD hS (lv_sub hl [2, 3, 4, 5, 6] rfl)

set_option maxHeartbeats 4000000 in
set_option maxRecDepth 100000 in
theorem cs_reader {p : Program} {l : Launch} {e : Env} {s : State} {m : MethodId} {below : List Frame} {meth : Method} {c : Code} {b L : Nat} {xs : Nat → Int32} {Q : State → Prop} (hlt : l.stackTraces = false) (C0 : lwC p s m c b L xs) (D : va_G) (cI cZ cR cJ : ClassId) (hE : eL (fun q : Nat => s.heap.size ≤ q) s) (hK : va_K D vwCl (lT cI cZ cR cJ) s) (ao : Nat) (md : Nat → Nat) (i : Nat) (hi : i + 4 ≤ L) (hL : L ≤ 2048) (cn : Nat) (hcn : cn < 512) (na n : Nat) (hn : n = 11 + 6 * na) (ad : Nat → Nat) (I V J U : Nat → Nat → Int32) (f : Nat → Int64) (hrel : rel cn na I V J U) (cells slots : Nat) (hce : cells + 10 ≤ 601024) (hsl : slots + 201 ≤ 7293034) (H : Heap) (locs : List Loc) (ls : Array Slot) (hP : va_P D vwCl (lW cI cZ cR cJ ao f ad na n I V md J U) H) (hD : va_D (fun q : Nat => s.heap.size ≤ q) (lW cI cZ cR cJ ao f ad na n I V md J U)) (hS : va_S (fun q : Nat => s.heap.size ≤ q) s.heap H locs) (hl : lv_has ls 7 [(0, .ref b), (1, .ref (ad 0)), (2, .ref (md 0)), (3, .ref ao), (4, .int (nI i))]) (kk : ∀ (na' n' : Nat) (ad' : Nat → Nat) (I' V' J' U' : Nat → Nat → Int32) (f' : Nat → Int64) (H : Heap) (locs : List Loc) (ls : Array Slot), n' = 11 + 6 * na' → rel (cn + 1) na' I' V' J' U' → va_P D vwCl (lW cI cZ cR cJ ao f' ad' na' n' I' V' md J' U') H → va_D (fun q : Nat => s.heap.size ≤ q) (lW cI cZ cR cJ ao f' ad' na' n' I' V' md J' U') → va_S (fun q : Nat => s.heap.size ≤ q) s.heap H locs → lv_has ls 7 [(0, .ref b), (1, .ref (ad' 0)), (2, .ref (md 0)), (3, .ref ao), (4, .int (nI i))] → W p l e room_1 s m #[Value.ref b] below meth c H locs (cells + 10) (slots + 201) Q (F0 m 1069 ls [])) : W p l e room_1 s m #[Value.ref b] below meth c H locs cells slots Q (F0 m 413 ls []) := by
  obtain ⟨hx, hb, hml, hown, hts, hX, hbl⟩ := C0
  have hA : ∀ q : Nat, s.heap.size ≤ q → (fun q : Nat => s.heap.size ≤ q) q := fun _ h => h
  have hbA : ¬ (fun q : Nat => s.heap.size ≤ q) b := Nat.not_le.mpr hbl
  obtain ⟨hna, hna6⟩ := rel_na hrel
  have hKs : va_K D vwCl (sT cI cZ cR) s := hK.sub [0, 1, 2] rfl
  have hKm : va_K D vwCl (mT cI cZ) s := hK.sub [0, 1] rfl
  obtain ⟨kp, T, lst, rc, fk, ⟨⟨g1, g2, g3, g4, g5⟩, ⟨g6, g7, g8, g9, g10⟩, g11, g12, g13, g14, g15, g16, g17⟩, hst⟩ := st_reader hrel (by omega) (xs (i + 1)) (xs (i + 2)) (xs (i + 3)) n hn
  obtain ⟨cd, hcd⟩ : ∃ cd : Nat, cd = if ¬ (1 ≤ (xs (i + 1)).toInt ∧ (xs (i + 1)).toInt ≤ ((T + 1 : Nat) : Int)) ∨ ¬ (-1 ≤ (xs (i + 2)).toInt ∧ (xs (i + 2)).toInt ≤ 7) ∨ ¬ (-1 ≤ (xs (i + 3)).toInt ∧ (xs (i + 3)).toInt ≤ 15) then 1 else if na = 6 then 2 else 0 := ⟨_, rfl⟩
  have hcd9 : cd ≤ 2 := by rw [hcd]; split <;> first | decide | (split <;> decide)
  have hst := hst cd hcd
  refine lv_aload_n hx hb dL_law_413 rfl (lv_at hl 1 rfl) ?_
  refine lv_aload_n hx hb dL_law_414 rfl (lv_at hl 0 rfl) ?_
  refine lv_iload hx hb dL_law_415 (lv_at hl 4 rfl) ?_
  refine lv_iconst (v := nI 1) hx hb dL_law_417 (by decide) ?_
  refine lv_iadd hx hb dL_law_418 ?_
  rw [nI_add]
  refine w_sld hx hb hX hbl hbA hS (k := i + 1) (by omega) hL dL_law_419 ?_
  refine lv_aload_n hx hb dL_law_420 rfl (lv_at hl 0 rfl) ?_
  refine lv_iload hx hb dL_law_421 (lv_at hl 4 rfl) ?_
  refine lv_iconst (v := nI 2) hx hb dL_law_423 (by decide) ?_
  refine lv_iadd hx hb dL_law_424 ?_
  rw [nI_add]
  refine w_sld hx hb hX hbl hbA hS (k := i + 2) (by omega) hL dL_law_425 ?_
  refine lv_aload_n hx hb dL_law_426 rfl (lv_at hl 0 rfl) ?_
  refine lv_iload hx hb dL_law_427 (lv_at hl 4 rfl) ?_
  refine lv_iconst (v := nI 3) hx hb dL_law_429 (by decide) ?_
  refine lv_iadd hx hb dL_law_430 ?_
  rw [nI_add]
  refine w_sld hx hb hX hbl hbA hS (k := i + 3) (by omega) hL dL_law_431 ?_
  refine lv_aload_n hx hb dL_law_432 rfl (lv_at hl 3 rfl) ?_
  have hP3 : va_P D vwCl ([] ++ ((hW cJ ao f (sW cI cZ cR ad na n I V)) ++ (mW cI cZ md J U))) H := hP
  have hD3 : va_D (fun q : Nat => s.heap.size ≤ q) ([] ++ ((hW cJ ao f (sW cI cZ cR ad na n I V)) ++ (mW cI cZ md J U))) := hD
  refine w_calliX (X := []) (w := (hW cJ ao f (sW cI cZ cR ad na n I V))) (Y := (mW cI cZ md J U)) hS hA hP3 hD3 (vx_runSW (As := [.ref (ad 0), .int (xs (i + 1)), .int (xs (i + 2)), .int (xs (i + 3)), .ref ao]) (rest := []) ⟨hx, hb, hml, hown, hts⟩ (h_L_reader l D cI cZ cR cJ ao (ad 0) f (sW cI cZ cR ad na n I V) _ (wR_at (r := 0) (by omega) rfl) _ _ cd H.size (xs (i + 1)) (xs (i + 2)) (xs (i + 3)) (fun sz => c_X3_reader l D cI cZ cR ad na n I V sz hlt hn hna hna6 kp T lst rc fk g1 g2 g3 g4 g5 g11 (by omega) g13 (by omega) g15 (by omega) _ _ _ cd hcd)) (vx_cwSW 5 hts gL_law_L_reader rfl rfl rfl (by decide +kernel) ⟨Nat.le_of_ble_eq_true rfl, Nat.le_of_ble_eq_true rfl⟩) (w_pre (w_midP hP3) hK (w_midD hD3) (eL_env hE hS (w_free (w_midD hD3) hS hA))) rfl rfl hl.1 rfl (lv_room (Nat.le_of_ble_eq_true rfl)) dL_law_433 ⟨(by show cells + 10 ≤ 601024; omega), (by show slots + 201 ≤ 7293034; omega)⟩) (fun kr u H locs hw hP hD hS => ?_)
  obtain ⟨f', w'⟩ := u
  obtain ⟨hkr, hans, na', n', ad', I', V', hn', had, hw2, hst⟩ : kr = nI cd ∧ (cd = 0 → f' 0 = (nI na).toInt64) ∧ ∃ (na' n' : Nat) (ad' : Nat → Nat) (I' V' : Nat → Nat → Int32), n' = 11 + 6 * na' ∧ ad' 0 = ad 0 ∧ w' = sW cI cZ cR ad' na' n' I' V' ∧ rel (cn + 1) na' I' V' (if cd = 0 then va_up J 0 (va_up (va_up (J 0) 0 (nI 0)) 13 (nI (na + 1))) else va_up J 0 (va_up (J 0) 0 (nI cd))) (if cd = 0 then va_up (va_up U 7 (va_up (va_up (va_up (va_up (zr (U 7) (12 * na) 12) (12 * na) (xs (i + 1))) (12 * na + 2) (xs (i + 2))) (12 * na + 3) (xs (i + 3))) (12 * na + 6) (nI 5))) 10 (va_up (U 10) na (nI 0)) else U) := by
    obtain ⟨h1, h2, h3⟩ := hw
    by_cases hc : cd = 0
    · obtain ⟨r, v, ⟨hr, hv⟩, hf, hw⟩ := h2 hc
      refine ⟨h1, fun _ => hf.trans (by rw [hr]), na + 1, n + 6, v, _, _, by omega, hv 0 (by omega), hw, ?_⟩
      rw [if_pos hc, if_pos hc]
      exact hst hc
    · refine ⟨h1, fun h9 => absurd h9 hc, na, n, ad, I, V, hn, rfl, h3 hc, ?_⟩
      rw [if_neg hc, if_neg hc]
      exact rel_code hrel _
  subst hkr
  subst hw2
  have hP : va_P D vwCl (lW cI cZ cR cJ ao f' ad' na' n' I' V' md J U) H := hP
  have hD : va_D (fun q : Nat => s.heap.size ≤ q) (lW cI cZ cR cJ ao f' ad' na' n' I' V' md J U) := hD
  refine lv_istore (lv' := [(5, .int (nI cd)), (0, .ref b), (1, .ref (ad 0)), (2, .ref (md 0)), (3, .ref ao), (4, .int (nI i))]) hx hb dL_law_436 hl (by decide) rfl (fun ls hl => ?_)
  refine lv_aload_n hx hb dL_law_438 rfl (lv_at hl 3 rfl) ?_
  refine lv_aload_n hx hb dL_law_439 rfl (lv_at hl 1 rfl) ?_
  refine lv_iload hx hb dL_law_440 (lv_at hl 5 rfl) ?_
  refine lv_iconst (v := nI 1) hx hb dL_law_442 (by decide) ?_
  refine lv_iadd hx hb dL_law_443 ?_
  rw [nI_add]
  refine w_sld hx hb hX hbl hbA hS (k := i + 1) (by omega) hL dL_law_444 ?_
  refine lv_aload_n hx hb dL_law_445 rfl (lv_at hl 1 rfl) ?_
  refine lv_iload hx hb dL_law_446 (lv_at hl 5 rfl) ?_
  refine lv_iconst (v := nI 2) hx hb dL_law_448 (by decide) ?_
  refine lv_iadd hx hb dL_law_449 ?_
  rw [nI_add]
  refine w_sld hx hb hX hbl hbA hS (k := i + 2) (by omega) hL dL_law_450 ?_
  refine lv_aload_n hx hb dL_law_451 rfl (lv_at hl 1 rfl) ?_
  refine lv_iload hx hb dL_law_452 (lv_at hl 5 rfl) ?_
  refine lv_iconst (v := nI 3) hx hb dL_law_454 (by decide) ?_
  refine lv_iadd hx hb dL_law_455 ?_
  rw [nI_add]
  refine w_sld hx hb hX hbl hbA hS (k := i + 3) (by omega) hL dL_law_456 ?_
  have hP3 := w_addP (X := hW cJ ao f' (sW cI cZ cR ad' na' n' I' V')) (w := mW cI cZ md _ _) hP
  have hD3 := w_addD (X := hW cJ ao f' (sW cI cZ cR ad' na' n' I' V')) (w := mW cI cZ md _ _) hD
  refine w_calliX (Y := []) hS hA hP3 hD3 (va_runV (As := [.int (xs (i + 1)), .int (xs (i + 2)), .int (xs (i + 3))]) (rest := []) ⟨hx, hb, hml, hown, hts⟩ (c_X4_reader l D cI cZ md J U H.size T lst rc kp na g6 g7 g8 g9 g10 g12 g14 g13 g15 g16 g17 _ _ _ cd hcd) (cwV 3 hts gL_law_X4_reader rfl rfl rfl (by decide +kernel) ⟨Nat.le_of_ble_eq_true rfl, Nat.le_of_ble_eq_true rfl⟩) ⟨(w_pre (w_midP hP3) hKm (w_midD hD3) wEnv_true).1, wR_recv (C := RX4) (T := TX4) (N := 18) hKm (w_midP hP3) (ci := 4) rfl 0 (by decide) rfl, (w_pre (w_midP hP3) hKm (w_midD hD3) wEnv_true).2⟩ rfl rfl hl.1 rfl (lv_room (Nat.le_of_ble_eq_true rfl)) dL_law_457 ⟨(by show (cells + 10) + 0 ≤ 601024; omega), (by show (slots + 201) + 0 ≤ 7293034; omega)⟩) (fun br u H locs hm9 hP hD hS => ?_)
  rw [List.append_nil] at hP hD
  refine lv_istore (lv' := [(6, .int br), (5, .int (nI cd)), (0, .ref b), (1, .ref (ad 0)), (2, .ref (md 0)), (3, .ref ao), (4, .int (nI i))]) hx hb dL_law_460 hl (by decide) rfl (fun ls hl => ?_)
  refine lv_aload_n hx hb dL_law_462 rfl (lv_at hl 4 rfl) ?_
  have hP3 := w_addP (X := hW cJ ao f' (sW cI cZ cR ad' na' n' I' V')) (w := mW cI cZ md _ _) hP
  have hD3 := w_addD (X := hW cJ ao f' (sW cI cZ cR ad' na' n' I' V')) (w := mW cI cZ md _ _) hD
  refine w_calliX (Y := []) hS hA hP3 hD3 (va_runV (As := []) (rest := []) ⟨hx, hb, hml, hown, hts⟩ (c_X4_thrown l D cI cZ md _ _ H.size) (cwV 0 hts gL_law_X4_thrown rfl rfl rfl (by decide +kernel) ⟨Nat.le_of_ble_eq_true rfl, Nat.le_of_ble_eq_true rfl⟩) ⟨(w_pre (w_midP hP3) hKm (w_midD hD3) wEnv_true).1, wR_recv (C := RX4) (T := TX4) (N := 18) hKm (w_midP hP3) (ci := 4) rfl 0 (by decide) rfl, (w_pre (w_midP hP3) hKm (w_midD hD3) wEnv_true).2⟩ rfl rfl hl.1 rfl (lv_room (Nat.le_of_ble_eq_true rfl)) dL_law_463 ⟨(by show (cells + 10 + 0) + 0 ≤ 601024; omega), (by show (slots + 201 + 0) + 0 ≤ 7293034; omega)⟩) (fun tr9 u H locs ht9 hP hD hS => ?_)
  rw [List.append_nil] at hP hD
  have ht9 : tr9 = nI cd := ht9.trans (jc_if (fun _ => rfl))
  refine lv_iload hx hb dL_law_466 (lv_at hl 1 rfl) ?_
  refine lv_icmp_eq (tgt := 473) hx hb dL_law_468 (by decide) (fun _ => ?_) (fun c9 => absurd ht9 c9)
  refine lv_iload hx hb dL_law_473 (lv_at hl 1 rfl) ?_
  refine lv_if_ne (tgt := 490) hx hb dL_law_475 (by decide) (fun _ => ?_) (fun c9 => ?_)
  · refine lv_goto (tgt := 1069) hx hb dL_law_490 (by decide) ?_
    refine W.widen (k := cells + 10) (n := slots + 201) (by omega) (by omega) ?_
    rw [← had] at hl
    exact kk na' n' ad' _ _ _ _ f' H locs ls hn' hst hP hD hS (lv_sub hl [2, 3, 4, 5, 6] rfl)
  · have hc9 : cd = 0 := cd_z0 c9 hcd9
    have hfb : f' 0 = br.toInt64 := (hans hc9).trans (congrArg Int32.toInt64 ((rfl).trans (hm9 hc9).symm))
    refine lv_aload_n hx hb dL_law_478 rfl (lv_at hl 5 rfl) ?_
    refine lv_iconst (v := nI 0) hx hb dL_law_479 (by decide) ?_
    refine va_lald hx hb hK hP 0 3 rfl rfl (vp_in_nI (by decide) (by decide)) dL_law_480 ?_
    rw [nI_clamp (show 0 < 2 ^ 31 by decide), hfb]
    refine lv_iload hx hb dL_law_481 (lv_at hl 0 rfl) ?_
    refine lv_i2l (v := br.toInt64) hx hb dL_law_483 rfl ?_
    refine W.lcmp hx hb dL_law_484 ?_
    refine lv_if_eq (tgt := 490) hx hb dL_law_485 (by decide) (fun _ => ?_) (fun c8 => absurd (lg_same _) c8)
    refine lv_goto (tgt := 1069) hx hb dL_law_490 (by decide) ?_
    refine W.widen (k := cells + 10) (n := slots + 201) (by omega) (by omega) ?_
    rw [← had] at hl
    exact kk na' n' ad' _ _ _ _ f' H locs ls hn' hst hP hD hS (lv_sub hl [2, 3, 4, 5, 6] rfl)

set_option maxHeartbeats 4000000 in
set_option maxRecDepth 100000 in
theorem cs_filter {p : Program} {l : Launch} {e : Env} {s : State} {m : MethodId} {below : List Frame} {meth : Method} {c : Code} {b L : Nat} {xs : Nat → Int32} {Q : State → Prop} (hlt : l.stackTraces = false) (C0 : lwC p s m c b L xs) (D : va_G) (cI cZ cR cJ : ClassId) (hE : eL (fun q : Nat => s.heap.size ≤ q) s) (hK : va_K D vwCl (lT cI cZ cR cJ) s) (ao : Nat) (md : Nat → Nat) (i : Nat) (hi : i + 4 ≤ L) (hL : L ≤ 2048) (cn : Nat) (hcn : cn < 512) (na n : Nat) (hn : n = 11 + 6 * na) (ad : Nat → Nat) (I V J U : Nat → Nat → Int32) (f : Nat → Int64) (hrel : rel cn na I V J U) (cells slots : Nat) (hce : cells + 10 ≤ 601024) (hsl : slots + 201 ≤ 7293034) (H : Heap) (locs : List Loc) (ls : Array Slot) (hP : va_P D vwCl (lW cI cZ cR cJ ao f ad na n I V md J U) H) (hD : va_D (fun q : Nat => s.heap.size ≤ q) (lW cI cZ cR cJ ao f ad na n I V md J U)) (hS : va_S (fun q : Nat => s.heap.size ≤ q) s.heap H locs) (hl : lv_has ls 7 [(0, .ref b), (1, .ref (ad 0)), (2, .ref (md 0)), (3, .ref ao), (4, .int (nI i))]) (kk : ∀ (na' n' : Nat) (ad' : Nat → Nat) (I' V' J' U' : Nat → Nat → Int32) (f' : Nat → Int64) (H : Heap) (locs : List Loc) (ls : Array Slot), n' = 11 + 6 * na' → rel (cn + 1) na' I' V' J' U' → va_P D vwCl (lW cI cZ cR cJ ao f' ad' na' n' I' V' md J' U') H → va_D (fun q : Nat => s.heap.size ≤ q) (lW cI cZ cR cJ ao f' ad' na' n' I' V' md J' U') → va_S (fun q : Nat => s.heap.size ≤ q) s.heap H locs → lv_has ls 7 [(0, .ref b), (1, .ref (ad' 0)), (2, .ref (md 0)), (3, .ref ao), (4, .int (nI i))] → W p l e room_1 s m #[Value.ref b] below meth c H locs (cells + 10) (slots + 201) Q (F0 m 1069 ls [])) : W p l e room_1 s m #[Value.ref b] below meth c H locs cells slots Q (F0 m 493 ls []) := by
  obtain ⟨hx, hb, hml, hown, hts, hX, hbl⟩ := C0
  have hA : ∀ q : Nat, s.heap.size ≤ q → (fun q : Nat => s.heap.size ≤ q) q := fun _ h => h
  have hbA : ¬ (fun q : Nat => s.heap.size ≤ q) b := Nat.not_le.mpr hbl
  obtain ⟨hna, hna6⟩ := rel_na hrel
  have hKs : va_K D vwCl (sT cI cZ cR) s := hK.sub [0, 1, 2] rfl
  have hKm : va_K D vwCl (mT cI cZ) s := hK.sub [0, 1] rfl
  obtain ⟨⟨e1, e2, e3⟩, hst⟩ := st_filter hrel (xs (i + 1)) (xs (i + 2)) (xs (i + 3)) _ rfl
  obtain ⟨cd, hcd⟩ : ∃ cd : Nat, cd = if ¬ (0 ≤ (xs (i + 1)).toInt ∧ (xs (i + 1)).toInt ≤ ((na : Nat) : Int) - 1) ∨ ¬ (0 ≤ (xs (i + 2)).toInt ∧ (xs (i + 2)).toInt ≤ 4) then 1 else 0 := ⟨_, rfl⟩
  have hcd9 : cd ≤ 2 := by rw [hcd]; split <;> first | decide | (split <;> decide)
  have hcd2 : ¬ cd = 2 := by rw [hcd]; split <;> decide
  have hst := hst cd hcd
  refine lv_aload_n hx hb dL_law_493 rfl (lv_at hl 1 rfl) ?_
  refine lv_aload_n hx hb dL_law_494 rfl (lv_at hl 0 rfl) ?_
  refine lv_iload hx hb dL_law_495 (lv_at hl 4 rfl) ?_
  refine lv_iconst (v := nI 1) hx hb dL_law_497 (by decide) ?_
  refine lv_iadd hx hb dL_law_498 ?_
  rw [nI_add]
  refine w_sld hx hb hX hbl hbA hS (k := i + 1) (by omega) hL dL_law_499 ?_
  refine lv_aload_n hx hb dL_law_500 rfl (lv_at hl 0 rfl) ?_
  refine lv_iload hx hb dL_law_501 (lv_at hl 4 rfl) ?_
  refine lv_iconst (v := nI 2) hx hb dL_law_503 (by decide) ?_
  refine lv_iadd hx hb dL_law_504 ?_
  rw [nI_add]
  refine w_sld hx hb hX hbl hbA hS (k := i + 2) (by omega) hL dL_law_505 ?_
  refine lv_aload_n hx hb dL_law_506 rfl (lv_at hl 0 rfl) ?_
  refine lv_iload hx hb dL_law_507 (lv_at hl 4 rfl) ?_
  refine lv_iconst (v := nI 3) hx hb dL_law_509 (by decide) ?_
  refine lv_iadd hx hb dL_law_510 ?_
  rw [nI_add]
  refine w_sld hx hb hX hbl hbA hS (k := i + 3) (by omega) hL dL_law_511 ?_
  have hP3 : va_P D vwCl ([(ao, .inl (cJ, 1, .inr (.inl f)))] ++ ((sW cI cZ cR ad na n I V) ++ (mW cI cZ md J U))) H := hP
  have hD3 : va_D (fun q : Nat => s.heap.size ≤ q) ([(ao, .inl (cJ, 1, .inr (.inl f)))] ++ ((sW cI cZ cR ad na n I V) ++ (mW cI cZ md J U))) := hD
  refine w_calliX (X := [(ao, .inl (cJ, 1, .inr (.inl f)))]) (w := (sW cI cZ cR ad na n I V)) (Y := (mW cI cZ md J U)) hS hA hP3 hD3 (vx_runSW (As := [.ref (ad 0), .int (xs (i + 1)), .int (xs (i + 2)), .int (xs (i + 3))]) (rest := []) ⟨hx, hb, hml, hown, hts⟩ (h_L_filter l D cI cZ cR (ad 0) (sW cI cZ cR ad na n I V) _ (wR_at (r := 0) (by omega) rfl) _ _ cd H.size (xs (i + 1)) (xs (i + 2)) (xs (i + 3)) hcd2 (fun sz => c_X3_filter l D cI cZ cR ad na n I V sz hlt hn hna hna6 _ _ rfl _ _ cd hcd)) (vx_cwSW 4 hts gL_law_L_filter rfl rfl rfl (by decide +kernel) ⟨Nat.le_of_ble_eq_true rfl, Nat.le_of_ble_eq_true rfl⟩) (w_pre (w_midP hP3) hKs (w_midD hD3) (eL_env hE hS (w_free (w_midD hD3) hS hA))) rfl rfl hl.1 rfl (lv_room (Nat.le_of_ble_eq_true rfl)) dL_law_512 ⟨(by show cells + 2 ≤ 601024; omega), (by show slots + 12 ≤ 7293034; omega)⟩) (fun kr u H locs hw hP hD hS => ?_)
  obtain ⟨hkr, hw2⟩ := hV_fix hw
  subst hkr
  subst hw2
  have hP : va_P D vwCl (lW cI cZ cR cJ ao f ad na n _ _ md J U) H := hP
  have hD : va_D (fun q : Nat => s.heap.size ≤ q) (lW cI cZ cR cJ ao f ad na n _ _ md J U) := hD
  refine lv_istore (lv' := [(5, .int (nI cd)), (0, .ref b), (1, .ref (ad 0)), (2, .ref (md 0)), (3, .ref ao), (4, .int (nI i))]) hx hb dL_law_515 hl (by decide) rfl (fun ls hl => ?_)
  refine lv_aload_n hx hb dL_law_517 rfl (lv_at hl 3 rfl) ?_
  refine lv_aload_n hx hb dL_law_518 rfl (lv_at hl 1 rfl) ?_
  refine lv_iload hx hb dL_law_519 (lv_at hl 5 rfl) ?_
  refine lv_iconst (v := nI 1) hx hb dL_law_521 (by decide) ?_
  refine lv_iadd hx hb dL_law_522 ?_
  rw [nI_add]
  refine w_sld hx hb hX hbl hbA hS (k := i + 1) (by omega) hL dL_law_523 ?_
  refine lv_aload_n hx hb dL_law_524 rfl (lv_at hl 1 rfl) ?_
  refine lv_iload hx hb dL_law_525 (lv_at hl 5 rfl) ?_
  refine lv_iconst (v := nI 2) hx hb dL_law_527 (by decide) ?_
  refine lv_iadd hx hb dL_law_528 ?_
  rw [nI_add]
  refine w_sld hx hb hX hbl hbA hS (k := i + 2) (by omega) hL dL_law_529 ?_
  refine lv_aload_n hx hb dL_law_530 rfl (lv_at hl 1 rfl) ?_
  refine lv_iload hx hb dL_law_531 (lv_at hl 5 rfl) ?_
  refine lv_iconst (v := nI 3) hx hb dL_law_533 (by decide) ?_
  refine lv_iadd hx hb dL_law_534 ?_
  rw [nI_add]
  refine w_sld hx hb hX hbl hbA hS (k := i + 3) (by omega) hL dL_law_535 ?_
  have hP3 := w_addP (X := hW cJ ao f (sW cI cZ cR ad na n _ _)) (w := mW cI cZ md _ _) hP
  have hD3 := w_addD (X := hW cJ ao f (sW cI cZ cR ad na n _ _)) (w := mW cI cZ md _ _) hD
  refine w_callvX (Y := []) hS hA hP3 hD3 (va_runV (As := [.int (xs (i + 1)), .int (xs (i + 2)), .int (xs (i + 3))]) (rest := []) ⟨hx, hb, hml, hown, hts⟩ (c_X4_filter l D cI cZ md J U H.size na e2 e3 _ _ rfl _ _ cd hcd) (cwV 3 hts gL_law_X4_filter rfl rfl rfl (by decide +kernel) ⟨Nat.le_of_ble_eq_true rfl, Nat.le_of_ble_eq_true rfl⟩) ⟨(w_pre (w_midP hP3) hKm (w_midD hD3) wEnv_true).1, wR_recv (C := RX4) (T := TX4) (N := 18) hKm (w_midP hP3) (ci := 4) rfl 0 (by decide) rfl, (w_pre (w_midP hP3) hKm (w_midD hD3) wEnv_true).2⟩ rfl rfl hl.1 rfl (lv_room (Nat.le_of_ble_eq_true rfl)) dL_law_536 ⟨(by show (cells + 2) + 0 ≤ 601024; omega), (by show (slots + 12) + 0 ≤ 7293034; omega)⟩) (fun u H locs hm9 hP hD hS => ?_)
  rw [List.append_nil] at hP hD
  refine lv_aload_n hx hb dL_law_539 rfl (lv_at hl 3 rfl) ?_
  have hP3 := w_addP (X := hW cJ ao f (sW cI cZ cR ad na n _ _)) (w := mW cI cZ md _ _) hP
  have hD3 := w_addD (X := hW cJ ao f (sW cI cZ cR ad na n _ _)) (w := mW cI cZ md _ _) hD
  refine w_calliX (Y := []) hS hA hP3 hD3 (va_runV (As := []) (rest := []) ⟨hx, hb, hml, hown, hts⟩ (c_X4_thrown l D cI cZ md _ _ H.size) (cwV 0 hts gL_law_X4_thrown rfl rfl rfl (by decide +kernel) ⟨Nat.le_of_ble_eq_true rfl, Nat.le_of_ble_eq_true rfl⟩) ⟨(w_pre (w_midP hP3) hKm (w_midD hD3) wEnv_true).1, wR_recv (C := RX4) (T := TX4) (N := 18) hKm (w_midP hP3) (ci := 4) rfl 0 (by decide) rfl, (w_pre (w_midP hP3) hKm (w_midD hD3) wEnv_true).2⟩ rfl rfl hl.1 rfl (lv_room (Nat.le_of_ble_eq_true rfl)) dL_law_540 ⟨(by show (cells + 2 + 0) + 0 ≤ 601024; omega), (by show (slots + 12 + 0) + 0 ≤ 7293034; omega)⟩) (fun tr9 u H locs ht9 hP hD hS => ?_)
  rw [List.append_nil] at hP hD
  have ht9 : tr9 = nI cd := ht9.trans (rfl)
  refine lv_iload hx hb dL_law_543 (lv_at hl 0 rfl) ?_
  refine lv_icmp_eq (tgt := 550) hx hb dL_law_545 (by decide) (fun _ => ?_) (fun c9 => absurd ht9 c9)
  refine lv_goto (tgt := 1069) hx hb dL_law_550 (by decide) ?_
  refine W.widen (k := cells + 10) (n := slots + 201) (by omega) (by omega) ?_
  exact kk na n ad _ _ _ _ f H locs ls hn hst hP hD hS (lv_sub hl [1, 2, 3, 4, 5] rfl)
