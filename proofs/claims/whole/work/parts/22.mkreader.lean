theorem sC_nane {cI cZ cR : ClassId} {ad : Nat → Nat} {na nb r : Nat} {f g : Nat → Int32} (h : r ≠ 10) : sC cI cZ cR ad na r f g = sC cI cZ cR ad nb r f g := by
  match r, h with
  | 0, _ => rfl
  | 1, _ => rfl
  | 2, _ => rfl
  | 3, _ => rfl
  | 4, _ => rfl
  | 5, _ => rfl
  | 6, _ => rfl
  | 7, _ => rfl
  | 8, _ => rfl
  | 9, _ => rfl
  | 10, h => exact absurd rfl h
  | (k + 11), _ => rfl
theorem sC_qs (ad : Nat → Nat) (na : Nat) : va_up (sC_q ad na) na (some (ad (11 + 6 * na))) = sC_q ad (na + 1) := by
  funext j
  simp only [va_up, sC_q]
  by_cases h : j = na
  · subst h; simp
  · rw [if_neg h]
    by_cases h2 : j < na
    · rw [if_pos h2, if_pos (by omega)]
    · rw [if_neg h2, if_neg (by omega)]
theorem wR_nas {cI cZ cR : ClassId} {ad : Nat → Nat} {na nb n : Nat} {I V : Nat → Nat → Int32} {e : va_E} (he : sC cI cZ cR ad nb 10 (I 10) (V 10) = e) : (sW cI cZ cR ad na n I V).set 10 (ad 10, e) = sW cI cZ cR ad nb n I V := by
  subst he
  apply List.ext_getElem?
  intro i
  rw [List.getElem?_set]
  by_cases hi : 10 = i
  · subst hi
    by_cases hr : 10 < n
    · simp [wR, hr]
    · simp [wR, hr]
  · by_cases hr : i < n
    · simp only [wR, hi, if_false, List.getElem?_map, List.getElem?_range hr, Option.map_some, reduceIte]
      rw [sC_nane (Ne.symm hi)]
    · simp [wR, hr, hi]
section WNa
variable {p : Program} {l : Launch} {e : Env} {R : Room} {s : State} {m : MethodId} {args : Array Value} {below : List Frame} {meth : Method} {c : Code} {H : Heap} {locs : List Loc} {cells slots : Nat} {Q : State → Prop}
variable {cc : ByteArray} {pc : Nat} {ls : Array Slot} {rest : List Value} {D : va_G} {A : Nat → Prop} {H0 : Heap}
/-- readers[na] = the new reader -/
theorem wR_na {cI cZ cR : ClassId} {ad : Nat → Nat} {na n : Nat} {I V : Nat → Nat → Int32} (hexec : p.tables.exec = Jvm.exec) (hb : c.code = cc) (hK : va_K D vwCl (sT cI cZ cR) s) (hP : va_P D vwCl (sW cI cZ cR ad na n I V) H) (hD : va_D A (sW cI cZ cR ad na n I V)) (hS : va_S A H0 H locs) (hna : na < 6) {r : Nat} (hr0 : r = 11 + 6 * na) (hrn : r < n) (hdg : decode cc pc = .ok (.aastore, 1))
    (kk : ∀ (H1 : Heap) (locs1 : List Loc), va_P D vwCl (sW cI cZ cR ad (na + 1) n I V) H1 → va_D A (sW cI cZ cR ad (na + 1) n I V) → va_S A H0 H1 locs1 → W p l e R s m args below meth c H1 locs1 cells slots Q (F0 m (pc + 1) ls rest)) : W p l e R s m args below meth c H locs cells slots Q (F0 m pc ls (.ref (ad r) :: .int (nI na) :: .ref (ad 10) :: rest)) := by
  have hrd : sC_r r := ⟨na, hr0⟩
  refine va_astq (n := 6) (f := sC_q ad na) (r := (RX1, TX1, 17)) hexec hb hK hP hD hS 10 2 r 1 (wR_at (by omega) rfl) rfl (wR_at hrn (sC_rd hrd)) rfl (vp_in_nI hna (by decide)) hdg (fun H1 locs1 h1 h2 h3 => ?_)
  rw [nI_clamp (by omega), hr0, sC_qs] at h1 h2
  exact kk H1 locs1 (by rw [← wR_nas rfl]; exact h1) (by rw [← wR_nas rfl]; exact h2) h3
end WNa

set_option maxHeartbeats 4000000 in
set_option maxRecDepth 100000 in
theorem sg_X3_reader {p : Program} (l : Launch) {e : Env} {s : State} {m : MethodId} {args : Array Value} {below : List Frame} {meth : Method} {c : Code} {Q : State → Prop} {A : Nat → Prop} (D : va_G) (cI cZ cR : ClassId) (ad : Nat → Nat) (na n : Nat) (I V : Nat → Nat → Int32) (r rc fk : Nat) (x y z : Int32) (hx : p.tables.exec = Jvm.exec) (hb : c.code = cX3_reader) (hml : c.maxLocals = 5) (hts : ∀ w ∈ wsX3_reader, w.before args s = true) (hown : s.vm.findClass RX3 = some m.cls) (hK : va_K D vwCl (sT cI cZ cR) s) (hA : ∀ q : Nat, s.heap.size ≤ q → A q) (hr0 : r = 11 + 6 * na) (hna6 : na < 6) (hn : n = 17 + 6 * na) (hna : I 0 3 = nI na) (hrc : I 6 6 = nI rc) (hfk : I 6 7 = nI fk) (hle : fk ≤ rc) (hr6 : rc ≤ 600) (H : Heap) (locs : List Loc) (ls : Array Slot) (hP : va_P D vwCl (sW cI cZ cR ad na n I V) H) (hD : va_D A (sW cI cZ cR ad na n I V)) (hS : va_S A s.heap H locs) (hl : lv_has ls 5 [(0, .ref (ad 0)), (1, .int x), (2, .int y), (3, .int z)]) (kk : ∀ (H : Heap) (locs : List Loc) (ls : Array Slot), va_P D vwCl (sW cI cZ cR ad (na + 1) n (va_up (va_up I r (va_up (va_up (I r) 7 x) 8 (nI (fRow (V 7) x (rc - fk) fk)))) 0 (va_up (I 0) 3 (nI (na + 1)))) V) H → va_D A (sW cI cZ cR ad (na + 1) n (va_up (va_up I r (va_up (va_up (I r) 7 x) 8 (nI (fRow (V 7) x (rc - fk) fk)))) 0 (va_up (I 0) 3 (nI (na + 1)))) V) → va_S A s.heap H locs → lv_has ls 5 [(0, .ref (ad 0))] → W p l e ({ frames := 7, cells := 10, slots := 201, locals := 102 } : Room) s m args below meth c H locs 9 195 Q (F0 m 108 ls [.int (nI na)])) : W p l e ({ frames := 7, cells := 10, slots := 201, locals := 102 } : Room) s m args below meth c H locs 9 195 Q (F0 m 65 ls [.ref (ad r)]) := by
  have hinX3 : ∀ w ∈ wsX30, w ∈ wsX3_reader := by decide +kernel
  have hrd : sC_r r := ⟨na, hr0⟩
  refine lv_astore (lv' := [(4, .ref (ad r)), (0, .ref (ad 0)), (1, .int x), (2, .int y), (3, .int z)]) hx hb dX3_reader_65 hl (by decide) rfl (fun ls hl => ?_)
  refine lv_aload hx hb dX3_reader_67 (lv_at hl 0 rfl) ?_
  refine lv_iload_n hx hb dX3_reader_69 rfl (lv_at hl 2 rfl) ?_
  refine lv_aload_n hx hb dX3_reader_70 rfl (lv_at hl 1 rfl) ?_
  refine wR_get (v := .ref (ad 6)) (C := RX3) (T := TX3) (N := 4) (ci := 3) hx hb hts hinX3 hown hK hP 0 (by omega) rfl rfl 1 (by decide) (hts (.fieldLink RX3 19 "ChangeStream" "log" "LChangeStream$Log;") (by decide +kernel)) rfl rfl dX3_reader_71 ?_
  refine lv_iload_n hx hb dX3_reader_74 rfl (lv_at hl 2 rfl) ?_
  refine w_calli (w := sW cI cZ cR ad na n I V) hS hA hK hD (va_runV (As := [.int x]) (rest := [.int x, .ref (ad r)]) ⟨hx, hb, hml, hown, hts⟩ (c_X0_firstRowFrom l D cI cZ cR ad na n I V H.size (by omega) x rc fk hrc hfk hle hr6) (cwV 1 hts gX3_reader_X0_firstRowFrom rfl rfl rfl (by decide +kernel) ⟨Nat.le_of_ble_eq_true rfl, Nat.le_of_ble_eq_true rfl⟩) ⟨(w_pre hP hK hD wEnv_true).1, wR_recv (C := RX0) (T := TX0) (N := 8) hK hP (ci := 0) rfl 6 (by omega) rfl, (w_pre hP hK hD wEnv_true).2⟩ rfl rfl hl.1 rfl (lv_room (Nat.le_of_ble_eq_true rfl)) dX3_reader_75 ⟨Nat.le_of_ble_eq_true rfl, Nat.le_of_ble_eq_true rfl⟩) (fun r_1 u H locs hw hP hD hS hz => ?_)
  rw [show r_1 = nI (fRow (V 7) x (rc - fk) fk) from hw]
  refine w_callv (w := sW cI cZ cR ad na n I V) hS hA hK hD (va_runV (As := [.int x, .int (nI (fRow (V 7) x (rc - fk) fk))]) (rest := []) ⟨hx, hb, hml, hown, hts⟩ (c_X1_moveTo l D cI cZ cR ad na n I V H.size r (by omega) hrd x (nI (fRow (V 7) x (rc - fk) fk))) (cwV 2 hts gX3_reader_X1_moveTo rfl rfl rfl (by decide +kernel) ⟨Nat.le_of_ble_eq_true rfl, Nat.le_of_ble_eq_true rfl⟩) ⟨(w_pre hP hK hD wEnv_true).1, wR_recv (C := RX1) (T := TX1) (N := 17) hK hP (ci := 1) rfl r (by omega) (sC_rd hrd), (w_pre hP hK hD wEnv_true).2⟩ rfl rfl hl.1 rfl (lv_room (Nat.le_of_ble_eq_true rfl)) dX3_reader_78 ⟨Nat.le_of_ble_eq_true rfl, Nat.le_of_ble_eq_true rfl⟩) (fun  u H locs hw hP hD hS hz => ?_)
  refine lv_aload_n hx hb dX3_reader_81 rfl (lv_at hl 1 rfl) ?_
  have he_3 : sC cI cZ cR ad na 0 ((va_up I r (va_up (va_up (I r) 7 x) 8 (nI (fRow (V 7) x (rc - fk) fk)))) 0) (V 0) = .inr (3, [.ref (ad 1), .ref (ad 6), .ref (ad 10), .int ((I 0) 3)]) := by rw [va_up_ne _ _ (show (0 : Nat) ≠ r by omega)]; rfl
  refine wR_get (v := .ref (ad 10)) (C := RX3) (T := TX3) (N := 4) (ci := 3) hx hb hts hinX3 hown hK hP 0 (by omega) he_3 rfl 2 (by decide) (hts (.fieldLink RX3 25 "ChangeStream" "readers" "[LChangeStream$Reader;") (by decide +kernel)) rfl rfl dX3_reader_82 ?_
  refine lv_aload_n hx hb dX3_reader_85 rfl (lv_at hl 1 rfl) ?_
  have he_4 : sC cI cZ cR ad na 0 ((va_up I r (va_up (va_up (I r) 7 x) 8 (nI (fRow (V 7) x (rc - fk) fk)))) 0) (V 0) = .inr (3, [.ref (ad 1), .ref (ad 6), .ref (ad 10), .int ((I 0) 3)]) := by rw [va_up_ne _ _ (show (0 : Nat) ≠ r by omega)]; rfl
  refine wR_get (v := .int (nI na)) (C := RX3) (T := TX3) (N := 4) (ci := 3) hx hb hts hinX3 hown hK hP 0 (by omega) he_4 rfl 3 (by decide) (hts (.fieldLink RX3 29 "ChangeStream" "readerCount" "I") (by decide +kernel)) rfl (congrArg (fun z => some (Value.int z)) hna) dX3_reader_86 ?_
  refine lv_aload hx hb dX3_reader_89 (lv_at hl 0 rfl) ?_
  refine wR_na hx hb hK hP hD hS (by omega) hr0 (by omega) dX3_reader_91 (fun H locs hP hD hS => ?_)
  refine lv_aload_n hx hb dX3_reader_92 rfl (lv_at hl 1 rfl) ?_
  refine lv_dup hx hb dX3_reader_93 rfl ?_
  have he_5 : sC cI cZ cR ad na 0 ((va_up I r (va_up (va_up (I r) 7 x) 8 (nI (fRow (V 7) x (rc - fk) fk)))) 0) (V 0) = .inr (3, [.ref (ad 1), .ref (ad 6), .ref (ad 10), .int ((I 0) 3)]) := by rw [va_up_ne _ _ (show (0 : Nat) ≠ r by omega)]; rfl
  refine wR_get (v := .int (nI na)) (C := RX3) (T := TX3) (N := 4) (ci := 3) hx hb hts hinX3 hown hK hP 0 (by omega) he_5 rfl 3 (by decide) (hts (.fieldLink RX3 29 "ChangeStream" "readerCount" "I") (by decide +kernel)) rfl (congrArg (fun z => some (Value.int z)) hna) dX3_reader_94 ?_
  refine lv_iconst (v := nI 1) hx hb dX3_reader_97 (by decide) ?_
  refine lv_iadd hx hb dX3_reader_98 ?_
  rw [nI_add]
  have he_6 : sC cI cZ cR ad na 0 ((va_up I r (va_up (va_up (I r) 7 x) 8 (nI (fRow (V 7) x (rc - fk) fk)))) 0) (V 0) = .inr (3, [.ref (ad 1), .ref (ad 6), .ref (ad 10), .int ((I 0) 3)]) := by rw [va_up_ne _ _ (show (0 : Nat) ≠ r by omega)]; rfl
  refine wR_put (C := RX3) (T := TX3) (N := 4) (ci := 3) hx hb hts hinX3 tyX3 tyX3_ok nmX3 hown hK hP hD hS 0 (by omega) he_6 rfl 3 (by decide) (hts (.fieldLink RX3 29 "ChangeStream" "readerCount" "I") (by decide +kernel)) rfl rfl (by decide +kernel) (by simp) (va_up (I 0) 3 (nI (na + 1))) (by exact (rfl).trans rfl) dX3_reader_99 (fun H locs hP hD hS => ?_)
  refine lv_aload_n hx hb dX3_reader_102 rfl (lv_at hl 1 rfl) ?_
  have he_7 : sC cI cZ cR ad na 0 ((va_up (va_up I r (va_up (va_up (I r) 7 x) 8 (nI (fRow (V 7) x (rc - fk) fk)))) 0 (va_up (I 0) 3 (nI (na + 1)))) 0) (V 0) = .inr (3, [.ref (ad 1), .ref (ad 6), .ref (ad 10), .int ((va_up (I 0) 3 (nI (na + 1))) 3)]) := by rw [va_up_self]; rfl
  refine wR_get (v := .int (nI (na + 1))) (C := RX3) (T := TX3) (N := 4) (ci := 3) hx hb hts hinX3 hown hK hP 0 (by omega) he_7 rfl 3 (by decide) (hts (.fieldLink RX3 29 "ChangeStream" "readerCount" "I") (by decide +kernel)) rfl rfl dX3_reader_103 ?_
  refine lv_iconst (v := nI 1) hx hb dX3_reader_106 (by decide) ?_
  refine lv_isub hx hb dX3_reader_107 ?_
  rw [show (nI (na + 1)) - (nI 1) = nI na from nI_pred na]
  exact kk H locs ls hP hD hS (lv_sub hl [1] rfl)

/-- a new reader's numbers -/
def rdF (y z : Int32) : Nat → Int32 := fun k => match k with
  | 0 => y
  | 1 => z
  | 7 => nI 1
  | 11 => nI 5
  | _ => nI 0
def adX (ad : Nat → Nat) (n : Nat) (u : Nat → Nat) : Nat → Nat := fun r => if r < n then ad r else u (r - n)
def vExt (V : Nat → Nat → Int32) (n : Nat) : Nat → Nat → Int32 := fun r => if r < n then V r else fun _ => 0
theorem adX_lt {ad : Nat → Nat} {n : Nat} {u : Nat → Nat} {r : Nat} (h : r < n) : adX ad n u r = ad r := if_pos h
theorem adX_ge {ad : Nat → Nat} {n : Nat} {u : Nat → Nat} (k : Nat) : adX ad n u (n + k) = u k := by
  rw [adX, if_neg (by omega), show n + k - n = k by omega]
theorem sC_adx {cI cZ cR : ClassId} {ad u : Nat → Nat} {na n : Nat} (hn : n = 11 + 6 * na) {r : Nat} (hr : r < n) (f g : Nat → Int32) : sC cI cZ cR (adX ad n u) na r f g = sC cI cZ cR ad na r f g := by
  have a : ∀ k, k < 11 → adX ad n u k = ad k := fun k hk => adX_lt (by omega)
  match r, hr with
  | 0, _ => simp only [sC, a 1 (by decide), a 6 (by decide), a 10 (by decide)]
  | 1, _ => simp only [sC, a 2 (by decide), a 3 (by decide), a 4 (by decide), a 5 (by decide)]
  | 2, _ => rfl
  | 3, _ => rfl
  | 4, _ => rfl
  | 5, _ => rfl
  | 6, _ => simp only [sC, a 7 (by decide), a 8 (by decide), a 9 (by decide)]
  | 7, _ => rfl
  | 8, _ => rfl
  | 9, _ => rfl
  | 10, _ =>
    have : sC_q (adX ad n u) na = sC_q ad na := by
      funext j
      simp only [sC_q]
      by_cases h : j < na
      · rw [if_pos h, if_pos h, adX_lt (by omega)]
      · rw [if_neg h, if_neg h]
    simp only [sC, this]
  | (k + 11), hr =>
    show sC_b cI cZ (adX ad n u) (k + 11) f g (k % 6) = sC_b cI cZ ad (k + 11) f g (k % 6)
    by_cases h : k % 6 = 0
    · rw [h]
      simp only [sC_b, rdL]
      rw [adX_lt (show k + 11 + 1 < n by omega), adX_lt (show k + 11 + 2 < n by omega), adX_lt (show k + 11 + 3 < n by omega), adX_lt (show k + 11 + 4 < n by omega), adX_lt (show k + 11 + 5 < n by omega)]
    · have h2 : k % 6 = 1 ∨ k % 6 = 2 ∨ k % 6 = 3 ∨ k % 6 = 4 ∨ k % 6 = 5 := by omega
      rcases h2 with h2 | h2 | h2 | h2 | h2 <;> rw [h2] <;> rfl
theorem sW_ext {cI cZ cR : ClassId} {ad u : Nat → Nat} {na n : Nat} {I V : Nat → Nat → Int32} {y z : Int32} (hn : n = 11 + 6 * na) : sW cI cZ cR ad na n I V ++ [((u 0), .inr (1, [.int y, .int z, .ref (u 1), .ref (u 2), .ref (u 3), .ref (u 4), .ref (u 5), .int (nI 1), .int (nI 0), .int (nI 0), .int (nI 0), .int (nI 5), .int (nI 0), .int (nI 0), .int (nI 0), .int (nI 0), .int (nI 0)])), ((u 1), .inl (cI, 20, .inl (fun _ => 0))), ((u 2), .inl (cI, 20, .inl (fun _ => 0))), ((u 3), .inl (cI, 40, .inl (fun _ => 0))), ((u 4), .inl (cI, 40, .inl (fun _ => 0))), ((u 5), .inl (cZ, 40, .inl (fun _ => 0)))] = sW cI cZ cR (adX ad n u) na (n + 6) (va_up I n (rdF y z)) (vExt V n) := by
  have hrd : sC_r n := ⟨na, hn⟩
  have hlen : (sW cI cZ cR ad na n I V).length = n := by simp [wR]
  have hv : ∀ k, vExt V n (n + k) = fun _ => 0 := fun k => if_neg (by omega)
  have h1 := adX_ge (ad := ad) (n := n) (u := u) 1
  have h2 := adX_ge (ad := ad) (n := n) (u := u) 2
  have h3 := adX_ge (ad := ad) (n := n) (u := u) 3
  have h4 := adX_ge (ad := ad) (n := n) (u := u) 4
  have h5 := adX_ge (ad := ad) (n := n) (u := u) 5
  apply List.ext_getElem?
  intro i
  by_cases hi : i < n
  · rw [List.getElem?_append_left (by rw [hlen]; exact hi), wR_at hi rfl, wR_at (by omega) rfl, sC_adx hn hi, adX_lt hi, va_up_ne _ _ (by omega), show vExt V n i = V i from if_pos hi]
  · by_cases hi2 : i < n + 6
    · rw [List.getElem?_append_right (by rw [hlen]; omega), hlen, wR_at hi2 rfl]
      obtain ⟨k, hk⟩ : ∃ k, i = n + k := ⟨i - n, by omega⟩
      subst hk
      rw [show n + k - n = k by omega, adX_ge, sC_rk hrd k (by omega), hv]
      have hk6 : k = 0 ∨ k = 1 ∨ k = 2 ∨ k = 3 ∨ k = 4 ∨ k = 5 := by omega
      rcases hk6 with rfl | rfl | rfl | rfl | rfl | rfl
      · rw [Nat.add_zero, va_up_self]
        simp only [sC_b, rdL, h1, h2, h3, h4, h5]
        rfl
      all_goals rfl
    · rw [List.getElem?_eq_none (by simp [wR]; omega), List.getElem?_eq_none (by simp [wR]; omega)]

set_option maxHeartbeats 4000000 in
set_option maxRecDepth 100000 in
/-- reader(x, y, z) -/
theorem c_X3_reader (l : Launch) (D : va_G) (cI cZ cR : ClassId) (ad : Nat → Nat) (na n : Nat) (I V : Nat → Nat → Int32) (sz : Nat) (hlt : l.stackTraces = false) (hn : n = 11 + 6 * na) (hna : I 0 3 = nI na) (hna6 : na ≤ 6) (kp TT lst rc fk : Nat) (hkp : I 6 3 = nI kp) (hT : I 6 4 = nI TT) (hls : I 6 5 = nI lst) (hrc : I 6 6 = nI rc) (hfk : I 6 7 = nI fk) (hle : fk ≤ rc) (hr6 : rc ≤ 600) (hkp1 : kp ≤ 30) (hT1 : TT < 100000) (hls0 : 0 < lst) (hls1 : lst ≤ 100000) (x y z : Int32) (cd : Nat) (hcd : cd = if ¬ (1 ≤ x.toInt ∧ x.toInt ≤ ((TT + 1 : Nat) : Int)) ∨ ¬ (-1 ≤ y.toInt ∧ y.toInt ≤ 7) ∨ ¬ (-1 ≤ z.toInt ∧ z.toInt ≤ 15) then 1 else if na = 6 then 2 else 0) : vx_Met l yX3_reader wsX3_reader ({ frames := 7, cells := 10, slots := 201, locals := 102 } : Room) (va_Pc [.ref (ad 0), .int x, .int y, .int z] (wPre D vwCl (sT cI cZ cR) (sW cI cZ cR ad na n I V) sz (eX (va_A (sW cI cZ cR ad na n I V) sz)))) (va_Qi (fun (r : Int32) (u : Nat → Nat) => cd = 0 ∧ r = nI na ∧ ∀ q, q < n → u q = ad q) (wPost D vwCl (sT cI cZ cR) (fun (u : Nat → Nat) => sW cI cZ cR u (na + 1) (n + 6) (va_up (va_up (va_up I n (rdF y z)) n (va_up (va_up ((va_up I n (rdF y z)) n) 7 x) 8 (nI (fRow (vExt V n 7) x (rc - fk) fk)))) 0 (va_up ((va_up I n (rdF y z)) 0) 3 (nI (na + 1)))) (vExt V n)) (va_A (sW cI cZ cR ad na n I V) sz)) (va_A (sW cI cZ cR ad na n I V) sz)) (wXc D vwCl (sT cI cZ cR) (sW cI cZ cR ad na n I V) (va_A (sW cI cZ cR ad na n I V) sz) cd) 10 201 (va_A (sW cI cZ cR ad na n I V) sz) := by
  refine vx_ofW (cc := cX3_reader) (maxL := 5) (ret := (some .int)) (by decide) rfl ?_
  intro p e s m args below meth c s₁ B hml htab hv
  obtain ⟨rfl, hsz, hP, hK, hD0, hE⟩ := hv
  have hx := B.exec
  have hb := B.bytes
  have hr := B.returns
  have hts := atoms_spec (ws := wsX3_reader) B.pre
  have hown : s.vm.findClass RX3 = some m.cls := findClass_of_methodNamed B.named
  have hlocks := B.notSynchronized
  subst hsz
  have hD := hD0.self (sz := s.heap.size)
  generalize hAe : va_A (sW cI cZ cR ad na n I V) s.heap.size = A at hD hE ⊢
  have hA : ∀ q : Nat, s.heap.size ≤ q → A q := fun q h => by rw [← hAe]; exact Or.inr h
  have hS : va_S A s.heap s.heap [] := va_S.rf
  have hinX0 : ∀ w ∈ wsX00, w ∈ wsX3_reader := by decide +kernel
  have hinX1 : ∀ w ∈ wsX10, w ∈ wsX3_reader := by decide +kernel
  have hinX3 : ∀ w ∈ wsX30, w ∈ wsX3_reader := by decide +kernel
  have hl := lv_entry ([.ref (ad 0), .int x, .int y, .int z]) (n := 5) (Nat.le_of_ble_eq_true rfl)
  rw [lg_entry_eq]
  generalize (lg_sl ([.ref (ad 0), .int x, .int y, .int z]) ++ List.replicate (5 - (lg_sl ([.ref (ad 0), .int x, .int y, .int z])).length) Slot.unset).toArray = ls at hl ⊢
  have hl : lv_has ls 5 [(0, .ref (ad 0)), (1, .int x), (2, .int y), (3, .int z)] := hl
  obtain ⟨eN1, eA, eS, ej1, ej2, ej3, ⟨s46, e46⟩, ⟨s62, e62⟩, ⟨s94, e94⟩, ⟨s122, e122⟩, ⟨s187, e187⟩, ⟨s190, e190⟩, eU, eV⟩ := id hE
  refine lv_iload_n hx hb dX3_reader_0 rfl (lv_at hl 1 rfl) ?_
  refine lv_iconst (v := nI 1) hx hb dX3_reader_1 (by decide) ?_
  refine lv_aload_n hx hb dX3_reader_2 rfl (lv_at hl 0 rfl) ?_
  refine wR_get (v := .ref (ad 6)) (C := RX3) (T := TX3) (N := 4) (ci := 3) hx hb hts hinX3 hown hK hP 0 (by omega) rfl rfl 1 (by decide) (hts (.fieldLink RX3 19 "ChangeStream" "log" "LChangeStream$Log;") (by decide +kernel)) rfl rfl dX3_reader_3 ?_
  refine wR_get (v := .int (nI TT)) (C := RX0) (T := TX0) (N := 8) (ci := 0) hx hb hts hinX0 hown hK hP 6 (by omega) rfl rfl 4 (by decide) (hts (.fieldLink RX3 77 "ChangeStream$Log" "transactions" "I") (by decide +kernel)) rfl (congrArg (fun z => some (Value.int z)) hT) dX3_reader_6 ?_
  refine lv_iconst (v := nI 1) hx hb dX3_reader_9 (by decide) ?_
  refine lv_iadd hx hb dX3_reader_10 ?_
  rw [nI_add]
  refine w_calli (w := sW cI cZ cR ad na n I V) hS hA hK hD (va_runS (As := [.int x, .int (nI 1), .int (nI (TT + 1))]) (rest := []) ⟨hx, hb, hml, hown, hts⟩ (c_X3_isWithin l D (sT cI cZ cR) (sW cI cZ cR ad na n I V) wTrue s.heap.size x (nI 1) (nI (TT + 1))) (va_cwS 3 hts gX3_reader_X3_isWithin rfl rfl rfl (by decide +kernel) ⟨Nat.le_of_ble_eq_true rfl, Nat.le_of_ble_eq_true rfl⟩) (w_pre hP hK hD wEnv_true) rfl rfl hl.1 rfl (lv_room (Nat.le_of_ble_eq_true rfl)) dX3_reader_11 ⟨Nat.le_of_ble_eq_true rfl, Nat.le_of_ble_eq_true rfl⟩) (fun r_2 u H locs hw hP hD hS hz => ?_)
  have hw_1 : r_2 = wI x (1) (((TT + 1 : Nat) : Int)) := by rw [hw, nI_toInt (n := 1) (by decide), nI_toInt (n := TT + 1) (by omega)]; rfl
  refine w_callxv (w := sW cI cZ cR ad na n I V) hS hA hK hD (vx_runS (As := [.int r_2]) (rest := []) ⟨hx, hb, hml, hown, hts⟩ (c_X3_demand l D (sT cI cZ cR) (sW cI cZ cR ad na n I V) H.size hlt r_2 (if r_2 = 0 then 1 else 0) rfl) (va_cwS 1 hts gX3_reader_X3_demand rfl rfl rfl (by decide +kernel) ⟨Nat.le_of_ble_eq_true rfl, Nat.le_of_ble_eq_true rfl⟩) (w_pre hP hK hD (eX_env hE hS (w_free hD hS hA))) rfl rfl hl.1 rfl (lv_room (Nat.le_of_ble_eq_true rfl)) dX3_reader_14 ⟨Nat.le_of_ble_eq_true rfl, Nat.le_of_ble_eq_true rfl⟩) (fun E9 ce q9 H locs hxc hP hS hce hcv hcl => ?_) (fun u H locs hw hP hD hS hz => ?_)
  · obtain ⟨hE1, hb0⟩ := xC_1 hxc
    have hq_3 := wI_out hw_1 hb0
    exact w_out htab hlocks hce hcv hcl hP hK hD hS (Or.inl ⟨hE1, (by rw [hcd, if_pos (by omega)])⟩) (by decide) (by decide)
  · have hq_3 := wI_in hw_1 hw.2
    refine lv_iload_n hx hb dX3_reader_17 rfl (lv_at hl 2 rfl) ?_
    refine lv_iconst (v := (-1)) hx hb dX3_reader_18 (by decide) ?_
    refine lv_bipush (v := nI 7) hx hb dX3_reader_19 (by decide) ?_
    refine w_calli (w := sW cI cZ cR ad na n I V) hS hA hK hD (va_runS (As := [.int y, .int (-1), .int (nI 7)]) (rest := []) ⟨hx, hb, hml, hown, hts⟩ (c_X3_isWithin l D (sT cI cZ cR) (sW cI cZ cR ad na n I V) wTrue H.size y (-1) (nI 7)) (va_cwS 3 hts gX3_reader_X3_isWithin rfl rfl rfl (by decide +kernel) ⟨Nat.le_of_ble_eq_true rfl, Nat.le_of_ble_eq_true rfl⟩) (w_pre hP hK hD wEnv_true) rfl rfl hl.1 rfl (lv_room (Nat.le_of_ble_eq_true rfl)) dX3_reader_21 ⟨Nat.le_of_ble_eq_true rfl, Nat.le_of_ble_eq_true rfl⟩) (fun r_6 u H locs hw hP hD hS hz => ?_)
    have hw_5 : r_6 = wI y (-1) (7) := by rw [hw, (show ((-1) : Int32).toInt = -1 by decide), nI_toInt (n := 7) (by decide)]; rfl
    refine w_callxv (w := sW cI cZ cR ad na n I V) hS hA hK hD (vx_runS (As := [.int r_6]) (rest := []) ⟨hx, hb, hml, hown, hts⟩ (c_X3_demand l D (sT cI cZ cR) (sW cI cZ cR ad na n I V) H.size hlt r_6 (if r_6 = 0 then 1 else 0) rfl) (va_cwS 1 hts gX3_reader_X3_demand rfl rfl rfl (by decide +kernel) ⟨Nat.le_of_ble_eq_true rfl, Nat.le_of_ble_eq_true rfl⟩) (w_pre hP hK hD (eX_env hE hS (w_free hD hS hA))) rfl rfl hl.1 rfl (lv_room (Nat.le_of_ble_eq_true rfl)) dX3_reader_24 ⟨Nat.le_of_ble_eq_true rfl, Nat.le_of_ble_eq_true rfl⟩) (fun E9 ce q9 H locs hxc hP hS hce hcv hcl => ?_) (fun u H locs hw hP hD hS hz => ?_)
    · obtain ⟨hE1, hb0⟩ := xC_1 hxc
      have hq_7 := wI_out hw_5 hb0
      exact w_out htab hlocks hce hcv hcl hP hK hD hS (Or.inl ⟨hE1, (by rw [hcd, if_pos (by omega)])⟩) (by decide) (by decide)
    · have hq_7 := wI_in hw_5 hw.2
      refine lv_iload_n hx hb dX3_reader_27 rfl (lv_at hl 3 rfl) ?_
      refine lv_iconst (v := (-1)) hx hb dX3_reader_28 (by decide) ?_
      refine lv_bipush (v := nI 15) hx hb dX3_reader_29 (by decide) ?_
      refine w_calli (w := sW cI cZ cR ad na n I V) hS hA hK hD (va_runS (As := [.int z, .int (-1), .int (nI 15)]) (rest := []) ⟨hx, hb, hml, hown, hts⟩ (c_X3_isWithin l D (sT cI cZ cR) (sW cI cZ cR ad na n I V) wTrue H.size z (-1) (nI 15)) (va_cwS 3 hts gX3_reader_X3_isWithin rfl rfl rfl (by decide +kernel) ⟨Nat.le_of_ble_eq_true rfl, Nat.le_of_ble_eq_true rfl⟩) (w_pre hP hK hD wEnv_true) rfl rfl hl.1 rfl (lv_room (Nat.le_of_ble_eq_true rfl)) dX3_reader_31 ⟨Nat.le_of_ble_eq_true rfl, Nat.le_of_ble_eq_true rfl⟩) (fun r_10 u H locs hw hP hD hS hz => ?_)
      have hw_9 : r_10 = wI z (-1) (15) := by rw [hw, (show ((-1) : Int32).toInt = -1 by decide), nI_toInt (n := 15) (by decide)]; rfl
      refine w_callxv (w := sW cI cZ cR ad na n I V) hS hA hK hD (vx_runS (As := [.int r_10]) (rest := []) ⟨hx, hb, hml, hown, hts⟩ (c_X3_demand l D (sT cI cZ cR) (sW cI cZ cR ad na n I V) H.size hlt r_10 (if r_10 = 0 then 1 else 0) rfl) (va_cwS 1 hts gX3_reader_X3_demand rfl rfl rfl (by decide +kernel) ⟨Nat.le_of_ble_eq_true rfl, Nat.le_of_ble_eq_true rfl⟩) (w_pre hP hK hD (eX_env hE hS (w_free hD hS hA))) rfl rfl hl.1 rfl (lv_room (Nat.le_of_ble_eq_true rfl)) dX3_reader_34 ⟨Nat.le_of_ble_eq_true rfl, Nat.le_of_ble_eq_true rfl⟩) (fun E9 ce q9 H locs hxc hP hS hce hcv hcl => ?_) (fun u H locs hw hP hD hS hz => ?_)
      · obtain ⟨hE1, hb0⟩ := xC_1 hxc
        have hq_11 := wI_out hw_9 hb0
        exact w_out htab hlocks hce hcv hcl hP hK hD hS (Or.inl ⟨hE1, (by rw [hcd, if_pos (by omega)])⟩) (by decide) (by decide)
      · have hq_11 := wI_in hw_9 hw.2
        refine lv_aload_n hx hb dX3_reader_37 rfl (lv_at hl 0 rfl) ?_
        refine wR_get (v := .int (nI na)) (C := RX3) (T := TX3) (N := 4) (ci := 3) hx hb hts hinX3 hown hK hP 0 (by omega) rfl rfl 3 (by decide) (hts (.fieldLink RX3 29 "ChangeStream" "readerCount" "I") (by decide +kernel)) rfl (congrArg (fun z => some (Value.int z)) hna) dX3_reader_38 ?_
        refine lv_bipush (v := nI 6) hx hb dX3_reader_41 (by decide) ?_
        refine lv_icmp_lt (tgt := 56) hx hb dX3_reader_43 (by decide) (fun c_13 => ?_) (fun c_13 => ?_)
        · have c_13 : na < 6 := (nI_ltI (a := na) (b := 6) (by omega) (by omega)).mp c_13
          refine va_new (ci := 1) (fs := [.int 0, .int 0, .null, .null, .null, .null, .null, .int 0, .int 0, .int 0, .int 0, .int 0, .int 0, .int 0, .int 0, .int 0, .int 0]) (C := RX1) (T := TX1) (N := 17) hx hb hts hinX1 tyX1 tyX1_ok hown (hts (.classLink RX3 23 RX1) (by decide +kernel)) (hts (.instantiable RX1 17) (by decide +kernel)) (hts (.initialized RX1) (by decide +kernel)) hK hP hD hS hA rfl (by decide +kernel) (by decide) (by decide) dX3_reader_56 (fun q9 H hP hD hS => ?_)
          refine lv_dup hx hb dX3_reader_59 rfl ?_
          refine lv_iload_n hx hb dX3_reader_60 rfl (lv_at hl 2 rfl) ?_
          refine lv_iload_n hx hb dX3_reader_61 rfl (lv_at hl 3 rfl) ?_
          have hP2 : va_P D vwCl ([(q9, .inr (1, [.int 0, .int 0, .null, .null, .null, .null, .null, .int 0, .int 0, .int 0, .int 0, .int 0, .int 0, .int 0, .int 0, .int 0, .int 0]))] ++ sW cI cZ cR ad na n I V) H := va_P.swap (a := []) hP
          have hD2 : va_D A ([(q9, .inr (1, [.int 0, .int 0, .null, .null, .null, .null, .null, .int 0, .int 0, .int 0, .int 0, .int 0, .int 0, .int 0, .int 0, .int 0, .int 0]))] ++ sW cI cZ cR ad na n I V) := va_D.swap (a := []) hD
          have hPc : va_P D vwCl [(q9, .inr (1, [.int 0, .int 0, .null, .null, .null, .null, .null, .int 0, .int 0, .int 0, .int 0, .int 0, .int 0, .int 0, .int 0, .int 0, .int 0]))] H := hP2.sub [0] rfl
          have hDc : va_D A [(q9, .inr (1, [.int 0, .int 0, .null, .null, .null, .null, .null, .int 0, .int 0, .int 0, .int 0, .int 0, .int 0, .int 0, .int 0, .int 0, .int 0]))] := hD2.sub [0] (by decide) rfl
          have hFc := w_free hDc hS hA
          refine va_callv (va_runI (As := [.int y, .int z]) (rest := [.ref q9]) ⟨hx, hb, hml, hown, hts⟩ (c_X1_init l D cI cZ cR q9 H.size y z) (cwI 2 hts gX3_reader_X1_init rfl rfl rfl (hts (.initialized RX1) (by decide +kernel)) (hts (.methodLink RX3 96 yX1_init) (by decide +kernel)) (hts (.instanceMethod yX1_init) (by decide +kernel)) rfl (by decide +kernel) ⟨Nat.le_of_ble_eq_true rfl, Nat.le_of_ble_eq_true rfl⟩) (w_pre hPc hK hDc wEnv_true) rfl rfl hl.1 rfl (lv_room (Nat.le_of_ble_eq_true rfl)) dX3_reader_62 ⟨Nat.le_of_ble_eq_true rfl, Nat.le_of_ble_eq_true rfl⟩) hS (fun q _ h => hFc q h) hFc (fun u t H1 locs ht hvm hw hB hz1 hk1 hS => ?_)
          obtain ⟨hP1, hK1, hD1⟩ := hB
          rw [ht] at hP1
          obtain ⟨hP3, hD3⟩ := va_joinQ (X := [(q9, .inr (1, [.int 0, .int 0, .null, .null, .null, .null, .null, .int 0, .int 0, .int 0, .int 0, .int 0, .int 0, .int 0, .int 0, .int 0, .int 0]))]) (wr := []) (pl := sW cI cZ cR ad na n I V) hP2 hD2 [0] [] rfl rfl (by decide) (by decide) hk1 hFc hP1 hD1
          have hP : va_P D vwCl (sW cI cZ cR (adX ad n u) na (n + 6) (va_up I n (rdF y z)) (vExt V n)) H1 := by rw [← sW_ext hn]; exact va_P.swap (a := []) hP3
          have hD : va_D A (sW cI cZ cR (adX ad n u) na (n + 6) (va_up I n (rdF y z)) (vExt V n)) := by rw [← sW_ext hn]; exact va_D.swap (a := []) hD3
          have hq : q9 = adX ad n u n := by rw [← hw]; exact (adX_ge 0).symm
          rw [hq]
          have hl : lv_has ls 5 [(0, .ref (adX ad n u 0)), (1, .int x), (2, .int y), (3, .int z)] := by rw [adX_lt (show 0 < n by omega)]; exact lv_sub hl [0, 1, 2, 3] rfl
          refine sg_X3_reader l D cI cZ cR (adX ad n u) na (n + 6) (va_up I n (rdF y z)) (vExt V n) n rc fk x y z hx hb hml hts hown hK hA hn (by omega) (by omega) (by rw [va_up_ne _ _ (show (0 : Nat) ≠ n by omega)]; exact hna) (by rw [va_up_ne _ _ (show (6 : Nat) ≠ n by omega)]; exact hrc) (by rw [va_up_ne _ _ (show (6 : Nat) ≠ n by omega)]; exact hfk) hle hr6 H1 locs ls hP hD hS hl (fun H locs ls hP hD hS hl => ?_)
          refine vx_ret ?_
          refine W.widen (k := 10) (n := 201) (by decide) (by decide) ?_
          exact W.iret (v := nI na) hx hb hr (fun t ht hW => ⟨⟨nI na, adX ad n u, rfl, ⟨(by rw [hcd, if_neg (by omega), if_neg (by omega)]), rfl, fun q hq => adX_lt hq⟩, by rw [ht]; exact hP, va_K.moved hW.alike hK, hD⟩, hS.F ht⟩) hS.2.2 dX3_reader_108
        · have c_13 : ¬ (na < 6) := fun h9 => c_13 ((nI_ltI (a := na) (b := 6) (by omega) (by omega)).mpr h9)
          exact w_throw (own := RX3) (cls := "java/lang/IllegalStateException") (names := ["java/lang/RuntimeException", "java/lang/Exception"]) (text := "no more readers") hx hb hlt hts hown (by decide) (by decide) (by decide +kernel) (by decide +kernel) e94 (by decide +kernel) x_IS (xB_of eS ej1 ej2 ej3) x_gS eU eV hP hK hD hS (hl.1.trans hml.symm) dX3_reader_46 dX3_reader_49 dX3_reader_50 dX3_reader_52 dX3_reader_55 htab (by decide) (by decide) (by decide) (by decide) hlocks (Or.inr ⟨rfl, (by rw [hcd, if_neg (by omega), if_pos (by omega)])⟩) (by decide) (by decide)
