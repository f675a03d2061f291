/-! ===== the law's loop ===== -/
theorem nI_sub4 {L : Nat} (h : 4 ≤ L) : nI L - nI 4 = nI (L - 4) := by
  have h1 : nI L = nI (L - 4) + nI 4 := by rw [nI_add, show L - 4 + 4 = L by omega]
  rw [h1, Int32.add_sub_cancel]
theorem l_go {L i : Nat} (hL : L ≤ 2048) (hi : i ≤ L) (h : ¬ nI L - nI 4 < nI i) : i + 4 ≤ L := by
  by_cases h4 : 4 ≤ L
  · rw [nI_sub4 h4, nI_ltI (by omega) (by omega)] at h
    omega
  · exfalso
    apply h
    have h5 : L = 0 ∨ L = 1 ∨ L = 2 ∨ L = 3 := by omega
    have h6 : i = 0 ∨ i = 1 ∨ i = 2 ∨ i = 3 := by omega
    rcases h5 with rfl | rfl | rfl | rfl <;> rcases h6 with rfl | rfl | rfl | rfl <;> decide +kernel
set_option maxHeartbeats 4000000 in
set_option maxRecDepth 100000 in
theorem law_loop {p : Program} {l : Launch} {e : Env} {s : State} {m : MethodId} {below : List Frame} {meth : Method} {c : Code} {b L : Nat} {xs : Nat → Int32} (hlt : l.stackTraces = false) (hL : L ≤ 2048) (C0 : lwC p s m c b L xs) (hr : meth.sig.returnType = ret) (hlocks : meth.locks = false) (D : va_G) (cI cZ cR cJ : ClassId) (hE : eL (fun q : Nat => s.heap.size ≤ q) s) (hK : va_K D vwCl (lT cI cZ cR cJ) s) (ao : Nat) (md : Nat → Nat) :
    ∀ (fuel cn na n : Nat) (ad : Nat → Nat) (I V J U : Nat → Nat → Int32) (f : Nat → Int64) (H : Heap) (locs : List Loc) (ls : Array Slot), 4 * cn ≤ L → L < 4 * cn + 4 * fuel → n = 11 + 6 * na → rel cn na I V J U → va_P D vwCl (lW cI cZ cR cJ ao f ad na n I V md J U) H → va_D (fun q : Nat => s.heap.size ≤ q) (lW cI cZ cR cJ ao f ad na n I V md J U) → va_S (fun q : Nat => s.heap.size ≤ q) s.heap H locs → lv_has ls 7 [(0, .ref b), (1, .ref (ad 0)), (2, .ref (md 0)), (3, .ref ao), (4, .int (nI (4 * cn)))] → W p l e room_1 s m #[Value.ref b] below meth c H locs (100 + 10 * cn) (10000 + 201 * cn) (lw_Z below #[Value.ref b] s) (F0 m 23 ls []) := by
  obtain ⟨hx, hb, hml, hown, hts, hX, hbl⟩ := id C0
  have hbA : ¬ (fun q : Nat => s.heap.size ≤ q) b := Nat.not_le.mpr hbl
  intro fuel
  induction fuel with
  | zero =>
    intro cn na n ad I V J U f H locs ls h1 h2
    exact absurd h2 (by omega)
  | succ fuel ih =>
    intro cn na n ad I V J U f H locs ls h1 h2 hn hrel hP hD hS hl
    refine lv_iload hx hb dL_law_23 (lv_at hl 4 rfl) ?_
    refine lv_aload_n hx hb dL_law_25 rfl (lv_at hl 0 rfl) ?_
    refine va_slen hx hb hX hbl hbA hS dL_law_26 ?_
    refine lv_iconst (v := nI 4) hx hb dL_law_27 (by decide) ?_
    refine lv_isub hx hb dL_law_28 ?_
    refine lv_icmp_gt (tgt := 1075) hx hb dL_law_29 (by decide) (fun c9 => ?_) (fun c9 => ?_)
    · refine lv_iconst (v := 1) hx hb dL_law_1075 (by decide) ?_
      refine va_forget (fun q hq => hS.2.2 q hq) ?_
      refine W.widen (k := 601024) (n := 7293034) (by omega) (by omega) ?_
      exact lw_ret hx hb hr hlocks dL_law_1076
    · have hi : 4 * cn + 4 ≤ L := l_go hL h1 c9
      have KK : ∀ (na' n' : Nat) (ad' : Nat → Nat) (I' V' J' U' : Nat → Nat → Int32) (f' : Nat → Int64) (H : Heap) (locs : List Loc) (ls : Array Slot), n' = 11 + 6 * na' → rel (cn + 1) na' I' V' J' U' → va_P D vwCl (lW cI cZ cR cJ ao f' ad' na' n' I' V' md J' U') H → va_D (fun q : Nat => s.heap.size ≤ q) (lW cI cZ cR cJ ao f' ad' na' n' I' V' md J' U') → va_S (fun q : Nat => s.heap.size ≤ q) s.heap H locs → lv_has ls 7 [(0, .ref b), (1, .ref (ad' 0)), (2, .ref (md 0)), (3, .ref ao), (4, .int (nI (4 * cn)))] → W p l e room_1 s m #[Value.ref b] below meth c H locs (100 + 10 * cn + 10) (10000 + 201 * cn + 201) (lw_Z below #[Value.ref b] s) (F0 m 1069 ls []) := by
        intro na' n' ad' I' V' J' U' f' H locs ls hn' hrel' hP hD hS hl
        refine lv_iinc (v := nI (4 * (cn + 1))) (lv' := [(4, .int (nI (4 * (cn + 1)))), (0, .ref b), (1, .ref (ad' 0)), (2, .ref (md 0)), (3, .ref ao)]) hx hb dL_law_1069 hl (k := 4) rfl (nI_add _ 4) (by decide) rfl (fun ls hl => ?_)
        refine lv_goto (tgt := 23) hx hb dL_law_1072 (by decide) ?_
        refine W.widen (k := 100 + 10 * (cn + 1)) (n := 10000 + 201 * (cn + 1)) (by omega) (by omega) ?_
        exact ih (cn + 1) na' n' ad' I' V' J' U' f' H locs ls (by omega) (by omega) hn' hrel' hP hD hS (lv_sub hl [1, 2, 3, 4, 0] rfl)
      refine lv_aload_n hx hb dL_law_32 rfl (lv_at hl 0 rfl) ?_
      refine lv_iload hx hb dL_law_33 (lv_at hl 4 rfl) ?_
      refine w_sld hx hb hX hbl hbA hS (k := 4 * cn) (by omega) hL dL_law_35 ?_
      refine lv_bipush (v := nI 15) hx hb dL_law_36 (by decide) ?_
      refine lv_iand hx hb dL_law_38 ?_
      obtain ⟨k, hk, hke⟩ := and15 (xs (4 * cn))
      rw [hke]
      have hk16 : k = 0 ∨ k = 1 ∨ k = 2 ∨ k = 3 ∨ k = 4 ∨ k = 5 ∨ k = 6 ∨ k = 7 ∨ k = 8 ∨ k = 9 ∨ k = 10 ∨ k = 11 ∨ k = 12 ∨ k = 13 ∨ k = 14 ∨ k = 15 := by omega
      rcases hk16 with rfl | rfl | rfl | rfl | rfl | rfl | rfl | rfl | rfl | rfl | rfl | rfl | rfl | rfl | rfl | rfl
      · refine lv_tableIn (off := 77) (tgt := 116) hx hb dL_law_39 (by decide) (by decide) (by decide) (by decide) ?_
        exact cs_fact hlt C0 D cI cZ cR cJ hE hK ao md (4 * cn) hi hL cn (by omega) na n hn ad I V J U f hrel (100 + 10 * cn) (10000 + 201 * cn) (by omega) (by omega) H locs ls hP hD hS (lv_sub hl [0, 1, 2, 3, 4] rfl) KK
      · refine lv_tableIn (off := 145) (tgt := 184) hx hb dL_law_39 (by decide) (by decide) (by decide) (by decide) ?_
        exact cs_change hlt C0 D cI cZ cR cJ hE hK ao md (4 * cn) hi hL cn (by omega) na n hn ad I V J U f hrel (100 + 10 * cn) (10000 + 201 * cn) (by omega) (by omega) H locs ls hP hD hS (lv_sub hl [0, 1, 2, 3, 4] rfl) KK
      · refine lv_tableIn (off := 229) (tgt := 268) hx hb dL_law_39 (by decide) (by decide) (by decide) (by decide) ?_
        exact cs_commit hlt C0 D cI cZ cR cJ hE hK ao md (4 * cn) hi hL cn (by omega) na n hn ad I V J U f hrel (100 + 10 * cn) (10000 + 201 * cn) (by omega) (by omega) H locs ls hP hD hS (lv_sub hl [0, 1, 2, 3, 4] rfl) KK
      · refine lv_tableIn (off := 242) (tgt := 281) hx hb dL_law_39 (by decide) (by decide) (by decide) (by decide) ?_
        exact cs_abort hlt C0 D cI cZ cR cJ hE hK ao md (4 * cn) hi hL cn (by omega) na n hn ad I V J U f hrel (100 + 10 * cn) (10000 + 201 * cn) (by omega) (by omega) H locs ls hP hD hS (lv_sub hl [0, 1, 2, 3, 4] rfl) KK
      · refine lv_tableIn (off := 255) (tgt := 294) hx hb dL_law_39 (by decide) (by decide) (by decide) (by decide) ?_
        exact cs_contains hlt C0 D cI cZ cR cJ hE hK ao md (4 * cn) hi hL cn (by omega) na n hn ad I V J U f hrel (100 + 10 * cn) (10000 + 201 * cn) (by omega) (by omega) H locs ls hP hD hS (lv_sub hl [0, 1, 2, 3, 4] rfl) KK
      · refine lv_tableIn (off := 318) (tgt := 357) hx hb dL_law_39 (by decide) (by decide) (by decide) (by decide) ?_
        exact cs_keep hlt C0 D cI cZ cR cJ hE hK ao md (4 * cn) hi hL cn (by omega) na n hn ad I V J U f hrel (100 + 10 * cn) (10000 + 201 * cn) (by omega) (by omega) H locs ls hP hD hS (lv_sub hl [0, 1, 2, 3, 4] rfl) KK
      · refine lv_tableIn (off := 374) (tgt := 413) hx hb dL_law_39 (by decide) (by decide) (by decide) (by decide) ?_
        exact cs_reader hlt C0 D cI cZ cR cJ hE hK ao md (4 * cn) hi hL cn (by omega) na n hn ad I V J U f hrel (100 + 10 * cn) (10000 + 201 * cn) (by omega) (by omega) H locs ls hP hD hS (lv_sub hl [0, 1, 2, 3, 4] rfl) KK
      · refine lv_tableIn (off := 454) (tgt := 493) hx hb dL_law_39 (by decide) (by decide) (by decide) (by decide) ?_
        exact cs_filter hlt C0 D cI cZ cR cJ hE hK ao md (4 * cn) hi hL cn (by omega) na n hn ad I V J U f hrel (100 + 10 * cn) (10000 + 201 * cn) (by omega) (by omega) H locs ls hP hD hS (lv_sub hl [0, 1, 2, 3, 4] rfl) KK
      · refine lv_tableIn (off := 514) (tgt := 553) hx hb dL_law_39 (by decide) (by decide) (by decide) (by decide) ?_
        exact cs_throttle hlt C0 D cI cZ cR cJ hE hK ao md (4 * cn) hi hL cn (by omega) na n hn ad I V J U f hrel (100 + 10 * cn) (10000 + 201 * cn) (by omega) (by omega) H locs ls hP hD hS (lv_sub hl [0, 1, 2, 3, 4] rfl) KK
      · refine lv_tableIn (off := 582) (tgt := 621) hx hb dL_law_39 (by decide) (by decide) (by decide) (by decide) ?_
        exact cs_right hlt C0 D cI cZ cR cJ hE hK ao md (4 * cn) hi hL cn (by omega) na n hn ad I V J U f hrel (100 + 10 * cn) (10000 + 201 * cn) (by omega) (by omega) H locs ls hP hD hS (lv_sub hl [0, 1, 2, 3, 4] rfl) KK
      · refine lv_tableIn (off := 658) (tgt := 697) hx hb dL_law_39 (by decide) (by decide) (by decide) (by decide) ?_
        exact cs_next hlt C0 D cI cZ cR cJ hE hK ao md (4 * cn) hi hL cn (by omega) na n hn ad I V J U f hrel (100 + 10 * cn) (10000 + 201 * cn) (by omega) (by omega) H locs ls hP hD hS (lv_sub hl [0, 1, 2, 3, 4] rfl) KK
      · refine lv_tableIn (off := 714) (tgt := 753) hx hb dL_law_39 (by decide) (by decide) (by decide) (by decide) ?_
        exact cs_done hlt C0 D cI cZ cR cJ hE hK ao md (4 * cn) hi hL cn (by omega) na n hn ad I V J U f hrel (100 + 10 * cn) (10000 + 201 * cn) (by omega) (by omega) H locs ls hP hD hS (lv_sub hl [0, 1, 2, 3, 4] rfl) KK
      · refine lv_tableIn (off := 782) (tgt := 821) hx hb dL_law_39 (by decide) (by decide) (by decide) (by decide) ?_
        exact cs_resume hlt C0 D cI cZ cR cJ hE hK ao md (4 * cn) hi hL cn (by omega) na n hn ad I V J U f hrel (100 + 10 * cn) (10000 + 201 * cn) (by omega) (by omega) H locs ls hP hD hS (lv_sub hl [0, 1, 2, 3, 4] rfl) KK
      · refine lv_tableIn (off := 838) (tgt := 877) hx hb dL_law_39 (by decide) (by decide) (by decide) (by decide) ?_
        exact cs_row hlt C0 D cI cZ cR cJ hE hK ao md (4 * cn) hi hL cn (by omega) na n hn ad I V J U f hrel (100 + 10 * cn) (10000 + 201 * cn) (by omega) (by omega) H locs ls hP hD hS (lv_sub hl [0, 1, 2, 3, 4] rfl) KK
      · refine lv_tableIn (off := 906) (tgt := 945) hx hb dL_law_39 (by decide) (by decide) (by decide) (by decide) ?_
        exact cs_about hlt C0 D cI cZ cR cJ hE hK ao md (4 * cn) hi hL cn (by omega) na n hn ad I V J U f hrel (100 + 10 * cn) (10000 + 201 * cn) (by omega) (by omega) H locs ls hP hD hS (lv_sub hl [0, 1, 2, 3, 4] rfl) KK
      · refine lv_tableIn (off := 974) (tgt := 1013) hx hb dL_law_39 (by decide) (by decide) (by decide) (by decide) ?_
        exact cs_told hlt C0 D cI cZ cR cJ hE hK ao md (4 * cn) hi hL cn (by omega) na n hn ad I V J U f hrel (100 + 10 * cn) (10000 + 201 * cn) (by omega) (by omega) H locs ls hP hD hS (lv_sub hl [0, 1, 2, 3, 4] rfl) KK
