/-- k places from a on are 0 -/
def zr (f : Nat → Int32) (a k : Nat) : Nat → Int32 := fun j => if a ≤ j ∧ j < a + k then nI 0 else f j
theorem zr_0 (f : Nat → Int32) (a : Nat) : zr f a 0 = f := by funext j; rw [zr, if_neg (by omega)]
theorem zr_s (f : Nat → Int32) (a k : Nat) : va_up (zr f a k) (a + k) (nI 0) = zr f a (k + 1) := by
  funext j
  simp only [va_up, zr]
  by_cases h : j = a + k
  · subst h; simp
  · rw [if_neg h]
    by_cases h2 : a ≤ j ∧ j < a + k
    · rw [if_pos h2, if_pos (by omega)]
    · rw [if_neg h2, if_neg (by omega)]
/-- the places b, b + 1, .. hold the numbers g k of those k for which Z holds -/
def dnA (Z : Nat → Bool) (g a : Nat → Int32) (b : Nat) : Nat → Nat → Int32
  | 0 => a
  | k + 1 => if Z k = true then va_up (dnA Z g a b k) (b + lgN Z k) (g k) else dnA Z g a b k
theorem dnA_f {Z : Nat → Bool} {k : Nat} (h : Z k = false) (g a : Nat → Int32) (b : Nat) : dnA Z g a b (k + 1) = dnA Z g a b k := by simp [dnA, h]
theorem dnA_t {Z : Nat → Bool} {k : Nat} (h : Z k = true) (g a : Nat → Int32) (b : Nat) : dnA Z g a b (k + 1) = va_up (dnA Z g a b k) (b + lgN Z k) (g k) := by simp [dnA, h]
theorem lgN_k (Z : Nat → Bool) : ∀ k, lgN Z k ≤ k
  | 0 => Nat.le_refl _
  | k + 1 => by have := lgN_k Z k; unfold lgN; split <;> omega
theorem dnA_o (Z : Nat → Bool) (g a : Nat → Int32) (b : Nat) : ∀ k j, b + k ≤ j → dnA Z g a b k j = a j
  | 0, _, _ => rfl
  | k + 1, j, h => by
    have h1 := lgN_k Z k
    unfold dnA
    split
    · rw [va_up_ne _ _ (by omega)]; exact dnA_o Z g a b k j (by omega)
    · exact dnA_o Z g a b k j (by omega)

set_option maxHeartbeats 4000000 in
set_option maxRecDepth 100000 in
theorem lp_X4_reader {p : Program} (l : Launch) {e : Env} {s : State} {m : MethodId} {args : Array Value} {below : List Frame} {meth : Method} {c : Code} {Q : State → Prop} {A : Nat → Prop} (D : va_G) (cI cZ : ClassId) (ad : Nat → Nat) (I V : Nat → Nat → Int32) (x y z : Int32) (nr : Nat) (hx : p.tables.exec = Jvm.exec) (hb : c.code = cX4_reader) (hml : c.maxLocals = 6) (hts : ∀ w ∈ wsX4_reader, w.before args s = true) (hown : s.vm.findClass RX4 = some m.cls) (hK : va_K D vwCl (mT cI cZ) s) (hA : ∀ q : Nat, s.heap.size ≤ q → A q) (hnr6 : nr < 6)  (kk : ∀ (H : Heap) (locs : List Loc) (ls : Array Slot), va_P D vwCl (mW cI cZ ad I (va_up V 7 (zr (V 7) (12 * nr) 12))) H → va_D A (mW cI cZ ad I (va_up V 7 (zr (V 7) (12 * nr) 12))) → va_S A s.heap H locs → lv_has ls 6 [(0, .ref (ad 0)), (1, .int x), (2, .int y), (3, .int z), (4, .int (nI (12 * nr)))] → W p l e ({ frames := 1, cells := 0, slots := 0, locals := 22 } : Room) s m args below meth c H locs 0 0 Q (F0 m 97 ls [])) : ∀ (fuel : Nat) (k : Nat) (H : Heap) (locs : List Loc) (ls : Array Slot), k ≤ 12 → 12 - k < fuel → va_P D vwCl (mW cI cZ ad I (va_up V 7 (zr (V 7) (12 * nr) k))) H → va_D A (mW cI cZ ad I (va_up V 7 (zr (V 7) (12 * nr) k))) → va_S A s.heap H locs → lv_has ls 6 [(0, .ref (ad 0)), (1, .int x), (2, .int y), (3, .int z), (4, .int (nI (12 * nr))), (5, .int (nI k))] → W p l e ({ frames := 1, cells := 0, slots := 0, locals := 22 } : Room) s m args below meth c H locs 0 0 Q (F0 m 73 ls []) := by
  intro fuel
  induction fuel with
  | zero =>
    intro k H locs ls hk hfu
    exact absurd hfu (Nat.not_lt_zero _)
  | succ fuel ih =>
    intro k H locs ls hk hfu hP hD hS hl
    have hinX4 : ∀ w ∈ wsX40, w ∈ wsX4_reader := by decide +kernel
    refine lv_iload hx hb dX4_reader_73 (lv_at hl 5 rfl) ?_
    refine lv_bipush (v := nI 12) hx hb dX4_reader_75 (by decide) ?_
    refine lv_icmp_ge (tgt := 97) hx hb dX4_reader_77 (by decide) (fun c_1 => ?_) (fun c_1 => ?_)
    · have c_1 : 12 ≤ k := (nI_leI (a := 12) (b := k) (by omega) (by omega)).mp c_1
      have hk12 : k = 12 := by omega
      subst hk12
      exact kk  H locs ls  hP hD hS (lv_sub hl [0, 1, 2, 3, 4] rfl)
    · have c_1 : ¬ (12 ≤ k) := fun h9 => c_1 ((nI_leI (a := 12) (b := k) (by omega) (by omega)).mpr h9)
      refine lv_aload_n hx hb dX4_reader_80 rfl (lv_at hl 0 rfl) ?_
      refine wR_get (v := .ref (ad 7)) (C := RX4) (T := TX4) (N := 18) (ci := 4) hx hb hts hinX4 hown hK hP 0 (by decide) rfl rfl 14 (by decide) (hts (.fieldLink RX4 36 "ChangeStreamModel" "of" "[I") (by decide +kernel)) rfl rfl dX4_reader_81 ?_
      refine lv_iload hx hb dX4_reader_84 (lv_at hl 4 rfl) ?_
      refine lv_iload hx hb dX4_reader_86 (lv_at hl 5 rfl) ?_
      refine lv_iadd hx hb dX4_reader_88 ?_
      rw [nI_add]
      refine lv_iconst (v := nI 0) hx hb dX4_reader_89 (by decide) ?_
      refine wR_ist (f := zr (V 7) (12 * nr) k) hx hb hK hP hD hS 7 0 (by decide) rfl rfl (nx_in (k := 12 * nr + k) rfl (by omega) (by decide)) (j := 12 * nr + k) (nx_cl rfl (by omega)) rfl dX4_reader_90 (fun H locs hP hD hS => ?_)
      rw [bx_uu] at hP hD
      refine lv_iinc (v := nI (k + 1)) (lv' := [(5, .int (nI (k + 1))), (0, .ref (ad 0)), (1, .int x), (2, .int y), (3, .int z), (4, .int (nI (12 * nr)))]) hx hb dX4_reader_91 hl (k := 5) rfl (nI_add _ 1) (by decide) rfl (fun ls hl => ?_)
      refine lv_goto (tgt := 73) hx hb dX4_reader_94 (by decide) ?_
      rw [zr_s] at hP hD
      exact ih (k + 1) H locs ls (by omega) (by omega) hP hD hS (lv_sub hl [1, 2, 3, 4, 5, 0] rfl)

set_option maxHeartbeats 4000000 in
set_option maxRecDepth 100000 in
/-- reader(x, y, z) -/
theorem c_X4_reader (l : Launch) (D : va_G) (cI cZ : ClassId) (ad : Nat → Nat) (I V : Nat → Nat → Int32) (sz : Nat) (TT lst rc kp nr : Nat) (hrc : I 0 7 = nI rc) (hT : I 0 9 = nI TT) (hkp : I 0 11 = nI kp) (hls : I 0 12 = nI lst) (hnr : I 0 13 = nI nr) (hr6 : rc ≤ 512) (hT1 : TT ≤ 512) (hkp1 : kp ≤ 30) (hls0 : 0 < lst) (hls1 : lst ≤ 513) (hnr6 : nr ≤ 6) (x y z : Int32) (cd : Nat) (hcd : cd = if ¬ (1 ≤ x.toInt ∧ x.toInt ≤ ((TT + 1 : Nat) : Int)) ∨ ¬ (-1 ≤ y.toInt ∧ y.toInt ≤ 7) ∨ ¬ (-1 ≤ z.toInt ∧ z.toInt ≤ 15) then 1 else if nr = 6 then 2 else 0) : Met l yX4_reader wsX4_reader ({ frames := 1, cells := 0, slots := 0, locals := 22 } : Room) (va_Pc [.ref (ad 0), .int x, .int y, .int z] (wPre D vwCl (mT cI cZ) (mW cI cZ ad I V) sz wTrue)) (va_Qi (fun (r : Int32) (u : Unit) => cd = 0 → r = nI nr) (wPost D vwCl (mT cI cZ) (fun (u : Unit) => mW cI cZ ad (if cd = 0 then va_up I 0 (va_up (va_up (I 0) 0 (nI 0)) 13 (nI (nr + 1))) else va_up I 0 (va_up (I 0) 0 (nI cd))) (if cd = 0 then va_up (va_up V 7 (va_up (va_up (va_up (va_up (zr (V 7) (12 * nr) 12) (12 * nr) x) (12 * nr + 2) y) (12 * nr + 3) z) (12 * nr + 6) (nI 5))) 10 (va_up (V 10) nr (nI 0)) else V)) (va_A (mW cI cZ ad I V) sz)) (va_A (mW cI cZ ad I V) sz)) 0 0 (va_A (mW cI cZ ad I V) sz) := by
  refine Met.ofW (cc := cX4_reader) (maxL := 6) (ret := (some .int)) (by decide) rfl ?_
  intro p e s m args below meth c s₁ B hml hv
  obtain ⟨rfl, hsz, hP, hK, hD0, hE⟩ := hv
  have hx := B.exec
  have hb := B.bytes
  have hr := B.returns
  have hts := atoms_spec (ws := wsX4_reader) B.pre
  have hown : s.vm.findClass RX4 = some m.cls := findClass_of_methodNamed B.named
  have hlocks := B.notSynchronized
  subst hsz
  have hD := hD0.self (sz := s.heap.size)
  generalize hAe : va_A (mW cI cZ ad I V) s.heap.size = A at hD ⊢
  have hA : ∀ q : Nat, s.heap.size ≤ q → A q := fun q h => by rw [← hAe]; exact Or.inr h
  have hS : va_S A s.heap s.heap [] := va_S.rf
  have hinX4 : ∀ w ∈ wsX40, w ∈ wsX4_reader := by decide +kernel
  have hl := lv_entry ([.ref (ad 0), .int x, .int y, .int z]) (n := 6) (Nat.le_of_ble_eq_true rfl)
  rw [lg_entry_eq]
  generalize (lg_sl ([.ref (ad 0), .int x, .int y, .int z]) ++ List.replicate (6 - (lg_sl ([.ref (ad 0), .int x, .int y, .int z])).length) Slot.unset).toArray = ls at hl ⊢
  have hl : lv_has ls 6 [(0, .ref (ad 0)), (1, .int x), (2, .int y), (3, .int z)] := hl
  refine lv_aload_n hx hb dX4_reader_0 rfl (lv_at hl 0 rfl) ?_
  refine lv_iload_n hx hb dX4_reader_1 rfl (lv_at hl 1 rfl) ?_
  refine lv_iconst (v := nI 1) hx hb dX4_reader_2 (by decide) ?_
  refine lv_aload_n hx hb dX4_reader_3 rfl (lv_at hl 0 rfl) ?_
  refine wR_get (v := .int (nI TT)) (C := RX4) (T := TX4) (N := 18) (ci := 4) hx hb hts hinX4 hown hK hP 0 (by decide) rfl rfl 9 (by decide) (hts (.fieldLink RX4 65 "ChangeStreamModel" "transactions" "I") (by decide +kernel)) rfl (congrArg (fun z => some (Value.int z)) hT) dX4_reader_4 ?_
  refine lv_iconst (v := nI 1) hx hb dX4_reader_7 (by decide) ?_
  refine lv_iadd hx hb dX4_reader_8 ?_
  rw [nI_add]
  refine w_calli (w := mW cI cZ ad I V) hS hA hK hD (va_runS (As := [.int x, .int (nI 1), .int (nI (TT + 1))]) (rest := [.ref (ad 0)]) ⟨hx, hb, hml, hown, hts⟩ (c_X4_within l D (mT cI cZ) (mW cI cZ ad I V) wTrue s.heap.size x (nI 1) (nI (TT + 1))) (va_cwS 3 hts gX4_reader_X4_within rfl rfl rfl (by decide +kernel) ⟨Nat.le_of_ble_eq_true rfl, Nat.le_of_ble_eq_true rfl⟩) (w_pre hP hK hD wEnv_true) rfl rfl hl.1 rfl (lv_room (Nat.le_of_ble_eq_true rfl)) dX4_reader_9 ⟨Nat.le_of_ble_eq_true rfl, Nat.le_of_ble_eq_true rfl⟩) (fun r_2 u H locs hw hP hD hS hz => ?_)
  have hw_1 : r_2 = wI x (1) (((TT + 1 : Nat) : Int)) := by rw [hw, nI_toInt (n := 1) (by decide), nI_toInt (n := TT + 1) (by omega)]; rfl
  refine lv_if_eq (tgt := 35) hx hb dX4_reader_12 (by decide) (fun c_3 => ?_) (fun c_3 => ?_)
  · have qhw_1 := wI_out hw_1 c_3
    refine lv_iconst (v := nI 1) hx hb dX4_reader_35 (by decide) ?_
    refine lv_goto (tgt := 53) hx hb dX4_reader_36 (by decide) ?_
    refine w_calli (w := mW cI cZ ad I V) hS hA hK hD (va_runV (As := [.int (nI 1)]) (rest := []) ⟨hx, hb, hml, hown, hts⟩ (c_X4_refuses l D cI cZ ad I V H.size 1 (by decide)) (cwV 1 hts gX4_reader_X4_refuses rfl rfl rfl (by decide +kernel) ⟨Nat.le_of_ble_eq_true rfl, Nat.le_of_ble_eq_true rfl⟩) ⟨(w_pre hP hK hD wEnv_true).1, wR_recv (C := RX4) (T := TX4) (N := 18) hK hP (ci := 4) rfl 0 (by decide) rfl, (w_pre hP hK hD wEnv_true).2⟩ rfl rfl hl.1 rfl (lv_room (Nat.le_of_ble_eq_true rfl)) dX4_reader_53 ⟨Nat.le_of_ble_eq_true rfl, Nat.le_of_ble_eq_true rfl⟩) (fun r_4 u H locs hw hP hD hS hz => ?_)
    rw [show r_4 = nI 1 from hw]
    refine lv_if_eq (tgt := 61) hx hb dX4_reader_56 (by decide) (fun c_5 => ?_) (fun c_5 => ?_)
    · exact absurd c_5 (by decide)
    · refine lv_iconst (v := nI 0) hx hb dX4_reader_59 (by decide) ?_
      have hcdv : cd = 1 := (by rw [hcd, if_pos (by omega)])
      subst hcdv
      have hEI : (va_up I 0 (va_up (I 0) 0 (nI 1)) : Nat → Nat → Int32) = if 1 = 0 then va_up I 0 (va_up (va_up (I 0) 0 (nI 0)) 13 (nI (nr + 1))) else va_up I 0 (va_up (I 0) 0 (nI 1)) := by first | rfl | (simp only [bx_uu, wR_same]; done)
      have hEV : (V : Nat → Nat → Int32) = if 1 = 0 then va_up (va_up V 7 (va_up (va_up (va_up (va_up (zr (V 7) (12 * nr) 12) (12 * nr) x) (12 * nr + 2) y) (12 * nr + 3) z) (12 * nr + 6) (nI 5))) 10 (va_up (V 10) nr (nI 0)) else V := by first | rfl | (simp only [bx_uu, wR_same]; done)
      have hP : va_P D vwCl (mW cI cZ ad (if 1 = 0 then va_up I 0 (va_up (va_up (I 0) 0 (nI 0)) 13 (nI (nr + 1))) else va_up I 0 (va_up (I 0) 0 (nI 1))) (if 1 = 0 then va_up (va_up V 7 (va_up (va_up (va_up (va_up (zr (V 7) (12 * nr) 12) (12 * nr) x) (12 * nr + 2) y) (12 * nr + 3) z) (12 * nr + 6) (nI 5))) 10 (va_up (V 10) nr (nI 0)) else V)) H := by rw [← hEI, ← hEV]; exact hP
      have hD : va_D A (mW cI cZ ad (if 1 = 0 then va_up I 0 (va_up (va_up (I 0) 0 (nI 0)) 13 (nI (nr + 1))) else va_up I 0 (va_up (I 0) 0 (nI 1))) (if 1 = 0 then va_up (va_up V 7 (va_up (va_up (va_up (va_up (zr (V 7) (12 * nr) 12) (12 * nr) x) (12 * nr + 2) y) (12 * nr + 3) z) (12 * nr + 6) (nI 5))) 10 (va_up (V 10) nr (nI 0)) else V)) := by rw [← hEI, ← hEV]; exact hD
      exact W.iret (v := nI 0) hx hb hr (fun t ht hW => ⟨⟨nI 0, (), rfl, (fun h9 => absurd h9 (by decide)), by rw [ht]; exact hP, va_K.moved hW.alike hK, hD⟩, hS.F ht⟩) hS.2.2 dX4_reader_60
  · have qhw_1 := wI_in hw_1 c_3
    refine lv_iload_n hx hb dX4_reader_15 rfl (lv_at hl 2 rfl) ?_
    refine lv_iconst (v := (-1)) hx hb dX4_reader_16 (by decide) ?_
    refine lv_bipush (v := nI 7) hx hb dX4_reader_17 (by decide) ?_
    refine w_calli (w := mW cI cZ ad I V) hS hA hK hD (va_runS (As := [.int y, .int (-1), .int (nI 7)]) (rest := [.ref (ad 0)]) ⟨hx, hb, hml, hown, hts⟩ (c_X4_within l D (mT cI cZ) (mW cI cZ ad I V) wTrue H.size y (-1) (nI 7)) (va_cwS 3 hts gX4_reader_X4_within rfl rfl rfl (by decide +kernel) ⟨Nat.le_of_ble_eq_true rfl, Nat.le_of_ble_eq_true rfl⟩) (w_pre hP hK hD wEnv_true) rfl rfl hl.1 rfl (lv_room (Nat.le_of_ble_eq_true rfl)) dX4_reader_19 ⟨Nat.le_of_ble_eq_true rfl, Nat.le_of_ble_eq_true rfl⟩) (fun r_7 u H locs hw hP hD hS hz => ?_)
    have hw_6 : r_7 = wI y (-1) (7) := by rw [hw, (show ((-1) : Int32).toInt = -1 by decide), nI_toInt (n := 7) (by decide)]; rfl
    refine lv_if_eq (tgt := 35) hx hb dX4_reader_22 (by decide) (fun c_8 => ?_) (fun c_8 => ?_)
    · have qhw_6 := wI_out hw_6 c_8
      refine lv_iconst (v := nI 1) hx hb dX4_reader_35 (by decide) ?_
      refine lv_goto (tgt := 53) hx hb dX4_reader_36 (by decide) ?_
      refine w_calli (w := mW cI cZ ad I V) hS hA hK hD (va_runV (As := [.int (nI 1)]) (rest := []) ⟨hx, hb, hml, hown, hts⟩ (c_X4_refuses l D cI cZ ad I V H.size 1 (by decide)) (cwV 1 hts gX4_reader_X4_refuses rfl rfl rfl (by decide +kernel) ⟨Nat.le_of_ble_eq_true rfl, Nat.le_of_ble_eq_true rfl⟩) ⟨(w_pre hP hK hD wEnv_true).1, wR_recv (C := RX4) (T := TX4) (N := 18) hK hP (ci := 4) rfl 0 (by decide) rfl, (w_pre hP hK hD wEnv_true).2⟩ rfl rfl hl.1 rfl (lv_room (Nat.le_of_ble_eq_true rfl)) dX4_reader_53 ⟨Nat.le_of_ble_eq_true rfl, Nat.le_of_ble_eq_true rfl⟩) (fun r_9 u H locs hw hP hD hS hz => ?_)
      rw [show r_9 = nI 1 from hw]
      refine lv_if_eq (tgt := 61) hx hb dX4_reader_56 (by decide) (fun c_10 => ?_) (fun c_10 => ?_)
      · exact absurd c_10 (by decide)
      · refine lv_iconst (v := nI 0) hx hb dX4_reader_59 (by decide) ?_
        have hcdv : cd = 1 := (by rw [hcd, if_pos (by omega)])
        subst hcdv
        have hEI : (va_up I 0 (va_up (I 0) 0 (nI 1)) : Nat → Nat → Int32) = if 1 = 0 then va_up I 0 (va_up (va_up (I 0) 0 (nI 0)) 13 (nI (nr + 1))) else va_up I 0 (va_up (I 0) 0 (nI 1)) := by first | rfl | (simp only [bx_uu, wR_same]; done)
        have hEV : (V : Nat → Nat → Int32) = if 1 = 0 then va_up (va_up V 7 (va_up (va_up (va_up (va_up (zr (V 7) (12 * nr) 12) (12 * nr) x) (12 * nr + 2) y) (12 * nr + 3) z) (12 * nr + 6) (nI 5))) 10 (va_up (V 10) nr (nI 0)) else V := by first | rfl | (simp only [bx_uu, wR_same]; done)
        have hP : va_P D vwCl (mW cI cZ ad (if 1 = 0 then va_up I 0 (va_up (va_up (I 0) 0 (nI 0)) 13 (nI (nr + 1))) else va_up I 0 (va_up (I 0) 0 (nI 1))) (if 1 = 0 then va_up (va_up V 7 (va_up (va_up (va_up (va_up (zr (V 7) (12 * nr) 12) (12 * nr) x) (12 * nr + 2) y) (12 * nr + 3) z) (12 * nr + 6) (nI 5))) 10 (va_up (V 10) nr (nI 0)) else V)) H := by rw [← hEI, ← hEV]; exact hP
        have hD : va_D A (mW cI cZ ad (if 1 = 0 then va_up I 0 (va_up (va_up (I 0) 0 (nI 0)) 13 (nI (nr + 1))) else va_up I 0 (va_up (I 0) 0 (nI 1))) (if 1 = 0 then va_up (va_up V 7 (va_up (va_up (va_up (va_up (zr (V 7) (12 * nr) 12) (12 * nr) x) (12 * nr + 2) y) (12 * nr + 3) z) (12 * nr + 6) (nI 5))) 10 (va_up (V 10) nr (nI 0)) else V)) := by rw [← hEI, ← hEV]; exact hD
        exact W.iret (v := nI 0) hx hb hr (fun t ht hW => ⟨⟨nI 0, (), rfl, (fun h9 => absurd h9 (by decide)), by rw [ht]; exact hP, va_K.moved hW.alike hK, hD⟩, hS.F ht⟩) hS.2.2 dX4_reader_60
    · have qhw_6 := wI_in hw_6 c_8
      refine lv_iload_n hx hb dX4_reader_25 rfl (lv_at hl 3 rfl) ?_
      refine lv_iconst (v := (-1)) hx hb dX4_reader_26 (by decide) ?_
      refine lv_bipush (v := nI 15) hx hb dX4_reader_27 (by decide) ?_
      refine w_calli (w := mW cI cZ ad I V) hS hA hK hD (va_runS (As := [.int z, .int (-1), .int (nI 15)]) (rest := [.ref (ad 0)]) ⟨hx, hb, hml, hown, hts⟩ (c_X4_within l D (mT cI cZ) (mW cI cZ ad I V) wTrue H.size z (-1) (nI 15)) (va_cwS 3 hts gX4_reader_X4_within rfl rfl rfl (by decide +kernel) ⟨Nat.le_of_ble_eq_true rfl, Nat.le_of_ble_eq_true rfl⟩) (w_pre hP hK hD wEnv_true) rfl rfl hl.1 rfl (lv_room (Nat.le_of_ble_eq_true rfl)) dX4_reader_29 ⟨Nat.le_of_ble_eq_true rfl, Nat.le_of_ble_eq_true rfl⟩) (fun r_12 u H locs hw hP hD hS hz => ?_)
      have hw_11 : r_12 = wI z (-1) (15) := by rw [hw, (show ((-1) : Int32).toInt = -1 by decide), nI_toInt (n := 15) (by decide)]; rfl
      refine lv_if_ne (tgt := 39) hx hb dX4_reader_32 (by decide) (fun c_13 => ?_) (fun c_13 => ?_)
      · have qhw_11 := wI_in hw_11 c_13
        refine lv_aload_n hx hb dX4_reader_39 rfl (lv_at hl 0 rfl) ?_
        refine wR_get (v := .int (nI nr)) (C := RX4) (T := TX4) (N := 18) (ci := 4) hx hb hts hinX4 hown hK hP 0 (by decide) rfl rfl 13 (by decide) (hts (.fieldLink RX4 74 "ChangeStreamModel" "readers" "I") (by decide +kernel)) rfl (congrArg (fun z => some (Value.int z)) hnr) dX4_reader_40 ?_
        refine lv_bipush (v := nI 6) hx hb dX4_reader_43 (by decide) ?_
        refine lv_icmp_ne (tgt := 52) hx hb dX4_reader_45 (by decide) (fun c_14 => ?_) (fun c_14 => ?_)
        · have c_14 : ¬ (nr = 6) := fun h9 => c_14 ((nI_eq (a := nr) (b := 6) (by omega) (by omega)).mpr h9)
          refine lv_iconst (v := nI 0) hx hb dX4_reader_52 (by decide) ?_
          refine w_calli (w := mW cI cZ ad I V) hS hA hK hD (va_runV (As := [.int (nI 0)]) (rest := []) ⟨hx, hb, hml, hown, hts⟩ (c_X4_refuses l D cI cZ ad I V H.size 0 (by decide)) (cwV 1 hts gX4_reader_X4_refuses rfl rfl rfl (by decide +kernel) ⟨Nat.le_of_ble_eq_true rfl, Nat.le_of_ble_eq_true rfl⟩) ⟨(w_pre hP hK hD wEnv_true).1, wR_recv (C := RX4) (T := TX4) (N := 18) hK hP (ci := 4) rfl 0 (by decide) rfl, (w_pre hP hK hD wEnv_true).2⟩ rfl rfl hl.1 rfl (lv_room (Nat.le_of_ble_eq_true rfl)) dX4_reader_53 ⟨Nat.le_of_ble_eq_true rfl, Nat.le_of_ble_eq_true rfl⟩) (fun r_15 u H locs hw hP hD hS hz => ?_)
          rw [show r_15 = nI 0 from hw]
          refine lv_if_eq (tgt := 61) hx hb dX4_reader_56 (by decide) (fun c_16 => ?_) (fun c_16 => ?_)
          · refine lv_bipush (v := nI 12) hx hb dX4_reader_61 (by decide) ?_
            refine lv_aload_n hx hb dX4_reader_63 rfl (lv_at hl 0 rfl) ?_
            refine wR_get (v := .int (nI nr)) (C := RX4) (T := TX4) (N := 18) (ci := 4) hx hb hts hinX4 hown hK hP 0 (by decide) rfl rfl 13 (by decide) (hts (.fieldLink RX4 74 "ChangeStreamModel" "readers" "I") (by decide +kernel)) rfl (congrArg (fun z => some (Value.int z)) hnr) dX4_reader_64 ?_
            refine lv_imul hx hb dX4_reader_67 ?_
            rw [pk_mul]
            refine lv_istore (lv' := [(4, .int (nI (12 * nr))), (0, .ref (ad 0)), (1, .int x), (2, .int y), (3, .int z)]) hx hb dX4_reader_68 hl (by decide) rfl (fun ls hl => ?_)
            refine lv_iconst (v := nI 0) hx hb dX4_reader_70 (by decide) ?_
            refine lv_istore (lv' := [(5, .int (nI 0)), (4, .int (nI (12 * nr))), (0, .ref (ad 0)), (1, .int x), (2, .int y), (3, .int z)]) hx hb dX4_reader_71 hl (by decide) rfl (fun ls hl => ?_)
            have hZ : V = va_up V 7 (zr (V 7) (12 * nr) 0) := by rw [zr_0, wR_same]
            rw [hZ] at hP hD
            refine lp_X4_reader l D cI cZ ad (va_up I 0 (va_up (I 0) 0 (nI 0))) V x y z nr hx hb hml hts hown hK hA (by omega) (fun  H locs ls  hP hD hS hl => ?_) (13) 0 H locs ls (by omega) (by omega) hP hD hS (lv_sub hl [2, 3, 4, 5, 1, 0] rfl)
            refine lv_aload_n hx hb dX4_reader_97 rfl (lv_at hl 0 rfl) ?_
            refine wR_get (v := .ref (ad 7)) (C := RX4) (T := TX4) (N := 18) (ci := 4) hx hb hts hinX4 hown hK hP 0 (by decide) rfl rfl 14 (by decide) (hts (.fieldLink RX4 36 "ChangeStreamModel" "of" "[I") (by decide +kernel)) rfl rfl dX4_reader_98 ?_
            refine lv_iload hx hb dX4_reader_101 (lv_at hl 4 rfl) ?_
            refine lv_iload_n hx hb dX4_reader_103 rfl (lv_at hl 1 rfl) ?_
            refine wR_ist (f := zr (V 7) (12 * nr) 12) hx hb hK hP hD hS 7 0 (by decide) rfl rfl (nx_in (k := 12 * nr) rfl (by omega) (by decide)) (j := 12 * nr) (nx_cl rfl (by omega)) rfl dX4_reader_104 (fun H locs hP hD hS => ?_)
            rw [bx_uu] at hP hD
            refine lv_aload_n hx hb dX4_reader_105 rfl (lv_at hl 0 rfl) ?_
            refine wR_get (v := .ref (ad 7)) (C := RX4) (T := TX4) (N := 18) (ci := 4) hx hb hts hinX4 hown hK hP 0 (by decide) rfl rfl 14 (by decide) (hts (.fieldLink RX4 36 "ChangeStreamModel" "of" "[I") (by decide +kernel)) rfl rfl dX4_reader_106 ?_
            refine lv_iload hx hb dX4_reader_109 (lv_at hl 4 rfl) ?_
            refine lv_iconst (v := nI 2) hx hb dX4_reader_111 (by decide) ?_
            refine lv_iadd hx hb dX4_reader_112 ?_
            rw [nI_add]
            refine lv_iload_n hx hb dX4_reader_113 rfl (lv_at hl 2 rfl) ?_
            refine wR_ist (f := va_up (zr (V 7) (12 * nr) 12) (12 * nr) x) hx hb hK hP hD hS 7 0 (by decide) rfl rfl (nx_in (k := 12 * nr + 2) rfl (by omega) (by decide)) (j := 12 * nr + 2) (nx_cl rfl (by omega)) rfl dX4_reader_114 (fun H locs hP hD hS => ?_)
            rw [bx_uu] at hP hD
            refine lv_aload_n hx hb dX4_reader_115 rfl (lv_at hl 0 rfl) ?_
            refine wR_get (v := .ref (ad 7)) (C := RX4) (T := TX4) (N := 18) (ci := 4) hx hb hts hinX4 hown hK hP 0 (by decide) rfl rfl 14 (by decide) (hts (.fieldLink RX4 36 "ChangeStreamModel" "of" "[I") (by decide +kernel)) rfl rfl dX4_reader_116 ?_
            refine lv_iload hx hb dX4_reader_119 (lv_at hl 4 rfl) ?_
            refine lv_iconst (v := nI 3) hx hb dX4_reader_121 (by decide) ?_
            refine lv_iadd hx hb dX4_reader_122 ?_
            rw [nI_add]
            refine lv_iload_n hx hb dX4_reader_123 rfl (lv_at hl 3 rfl) ?_
            refine wR_ist (f := va_up (va_up (zr (V 7) (12 * nr) 12) (12 * nr) x) (12 * nr + 2) y) hx hb hK hP hD hS 7 0 (by decide) rfl rfl (nx_in (k := 12 * nr + 3) rfl (by omega) (by decide)) (j := 12 * nr + 3) (nx_cl rfl (by omega)) rfl dX4_reader_124 (fun H locs hP hD hS => ?_)
            rw [bx_uu] at hP hD
            refine lv_aload_n hx hb dX4_reader_125 rfl (lv_at hl 0 rfl) ?_
            refine wR_get (v := .ref (ad 7)) (C := RX4) (T := TX4) (N := 18) (ci := 4) hx hb hts hinX4 hown hK hP 0 (by decide) rfl rfl 14 (by decide) (hts (.fieldLink RX4 36 "ChangeStreamModel" "of" "[I") (by decide +kernel)) rfl rfl dX4_reader_126 ?_
            refine lv_iload hx hb dX4_reader_129 (lv_at hl 4 rfl) ?_
            refine lv_bipush (v := nI 6) hx hb dX4_reader_131 (by decide) ?_
            refine lv_iadd hx hb dX4_reader_133 ?_
            rw [nI_add]
            refine lv_iconst (v := nI 5) hx hb dX4_reader_134 (by decide) ?_
            refine wR_ist (f := va_up (va_up (va_up (zr (V 7) (12 * nr) 12) (12 * nr) x) (12 * nr + 2) y) (12 * nr + 3) z) hx hb hK hP hD hS 7 0 (by decide) rfl rfl (nx_in (k := 12 * nr + 6) rfl (by omega) (by decide)) (j := 12 * nr + 6) (nx_cl rfl (by omega)) rfl dX4_reader_135 (fun H locs hP hD hS => ?_)
            rw [bx_uu] at hP hD
            refine lv_aload_n hx hb dX4_reader_136 rfl (lv_at hl 0 rfl) ?_
            refine wR_get (v := .ref (ad 10)) (C := RX4) (T := TX4) (N := 18) (ci := 4) hx hb hts hinX4 hown hK hP 0 (by decide) rfl rfl 17 (by decide) (hts (.fieldLink RX4 45 "ChangeStreamModel" "many" "[I") (by decide +kernel)) rfl rfl dX4_reader_137 ?_
            refine lv_aload_n hx hb dX4_reader_140 rfl (lv_at hl 0 rfl) ?_
            refine wR_get (v := .int (nI nr)) (C := RX4) (T := TX4) (N := 18) (ci := 4) hx hb hts hinX4 hown hK hP 0 (by decide) rfl rfl 13 (by decide) (hts (.fieldLink RX4 74 "ChangeStreamModel" "readers" "I") (by decide +kernel)) rfl (congrArg (fun z => some (Value.int z)) hnr) dX4_reader_141 ?_
            refine lv_iconst (v := nI 0) hx hb dX4_reader_144 (by decide) ?_
            refine wR_ist (f := V 10) hx hb hK hP hD hS 10 0 (by decide) rfl rfl (nx_in (k := nr) rfl (by omega) (by decide)) (j := nr) (nx_cl rfl (by omega)) rfl dX4_reader_145 (fun H locs hP hD hS => ?_)
            refine lv_aload_n hx hb dX4_reader_146 rfl (lv_at hl 0 rfl) ?_
            refine lv_dup hx hb dX4_reader_147 rfl ?_
            refine wR_get (v := .int (nI nr)) (C := RX4) (T := TX4) (N := 18) (ci := 4) hx hb hts hinX4 hown hK hP 0 (by decide) rfl rfl 13 (by decide) (hts (.fieldLink RX4 74 "ChangeStreamModel" "readers" "I") (by decide +kernel)) rfl (congrArg (fun z => some (Value.int z)) hnr) dX4_reader_148 ?_
            refine lv_iconst (v := nI 1) hx hb dX4_reader_151 (by decide) ?_
            refine lv_iadd hx hb dX4_reader_152 ?_
            rw [nI_add]
            refine wR_put (C := RX4) (T := TX4) (N := 18) (ci := 4) hx hb hts hinX4 tyX4 tyX4_ok nmX4 hown hK hP hD hS 0 (by decide) rfl rfl 13 (by decide) (hts (.fieldLink RX4 74 "ChangeStreamModel" "readers" "I") (by decide +kernel)) rfl rfl (by decide +kernel) (by simp) (va_up (va_up (I 0) 0 (nI 0)) 13 (nI (nr + 1))) rfl dX4_reader_153 (fun H locs hP hD hS => ?_)
            rw [bx_uu] at hP hD
            refine lv_aload_n hx hb dX4_reader_156 rfl (lv_at hl 0 rfl) ?_
            refine wR_get (v := .int (nI (nr + 1))) (C := RX4) (T := TX4) (N := 18) (ci := 4) hx hb hts hinX4 hown hK hP 0 (by decide) rfl rfl 13 (by decide) (hts (.fieldLink RX4 74 "ChangeStreamModel" "readers" "I") (by decide +kernel)) rfl rfl dX4_reader_157 ?_
            refine lv_iconst (v := nI 1) hx hb dX4_reader_160 (by decide) ?_
            refine lv_isub hx hb dX4_reader_161 ?_
            rw [show (nI (nr + 1)) - (nI 1) = nI nr from nI_pred nr]
            have hcdv : cd = 0 := (by rw [hcd, if_neg (by omega), if_neg (by omega)])
            subst hcdv
            have hEI : (va_up I 0 (va_up (va_up (I 0) 0 (nI 0)) 13 (nI (nr + 1))) : Nat → Nat → Int32) = if 0 = 0 then va_up I 0 (va_up (va_up (I 0) 0 (nI 0)) 13 (nI (nr + 1))) else va_up I 0 (va_up (I 0) 0 (nI 0)) := by first | rfl | (simp only [bx_uu, wR_same]; done)
            have hEV : (va_up (va_up V 7 (va_up (va_up (va_up (va_up (zr (V 7) (12 * nr) 12) (12 * nr) x) (12 * nr + 2) y) (12 * nr + 3) z) (12 * nr + 6) (nI 5))) 10 (va_up (V 10) nr (nI 0)) : Nat → Nat → Int32) = if 0 = 0 then va_up (va_up V 7 (va_up (va_up (va_up (va_up (zr (V 7) (12 * nr) 12) (12 * nr) x) (12 * nr + 2) y) (12 * nr + 3) z) (12 * nr + 6) (nI 5))) 10 (va_up (V 10) nr (nI 0)) else V := by first | rfl | (simp only [bx_uu, wR_same]; done)
            have hP : va_P D vwCl (mW cI cZ ad (if 0 = 0 then va_up I 0 (va_up (va_up (I 0) 0 (nI 0)) 13 (nI (nr + 1))) else va_up I 0 (va_up (I 0) 0 (nI 0))) (if 0 = 0 then va_up (va_up V 7 (va_up (va_up (va_up (va_up (zr (V 7) (12 * nr) 12) (12 * nr) x) (12 * nr + 2) y) (12 * nr + 3) z) (12 * nr + 6) (nI 5))) 10 (va_up (V 10) nr (nI 0)) else V)) H := by rw [← hEI, ← hEV]; exact hP
            have hD : va_D A (mW cI cZ ad (if 0 = 0 then va_up I 0 (va_up (va_up (I 0) 0 (nI 0)) 13 (nI (nr + 1))) else va_up I 0 (va_up (I 0) 0 (nI 0))) (if 0 = 0 then va_up (va_up V 7 (va_up (va_up (va_up (va_up (zr (V 7) (12 * nr) 12) (12 * nr) x) (12 * nr + 2) y) (12 * nr + 3) z) (12 * nr + 6) (nI 5))) 10 (va_up (V 10) nr (nI 0)) else V)) := by rw [← hEI, ← hEV]; exact hD
            exact W.iret (v := nI nr) hx hb hr (fun t ht hW => ⟨⟨nI nr, (), rfl, (fun _ => rfl), by rw [ht]; exact hP, va_K.moved hW.alike hK, hD⟩, hS.F ht⟩) hS.2.2 dX4_reader_162
          · exact absurd (by decide) c_16
        · have c_14 : nr = 6 := (nI_eq (a := nr) (b := 6) (by omega) (by omega)).mp c_14
          refine lv_iconst (v := nI 2) hx hb dX4_reader_48 (by decide) ?_
          refine lv_goto (tgt := 53) hx hb dX4_reader_49 (by decide) ?_
          refine w_calli (w := mW cI cZ ad I V) hS hA hK hD (va_runV (As := [.int (nI 2)]) (rest := []) ⟨hx, hb, hml, hown, hts⟩ (c_X4_refuses l D cI cZ ad I V H.size 2 (by decide)) (cwV 1 hts gX4_reader_X4_refuses rfl rfl rfl (by decide +kernel) ⟨Nat.le_of_ble_eq_true rfl, Nat.le_of_ble_eq_true rfl⟩) ⟨(w_pre hP hK hD wEnv_true).1, wR_recv (C := RX4) (T := TX4) (N := 18) hK hP (ci := 4) rfl 0 (by decide) rfl, (w_pre hP hK hD wEnv_true).2⟩ rfl rfl hl.1 rfl (lv_room (Nat.le_of_ble_eq_true rfl)) dX4_reader_53 ⟨Nat.le_of_ble_eq_true rfl, Nat.le_of_ble_eq_true rfl⟩) (fun r_17 u H locs hw hP hD hS hz => ?_)
          rw [show r_17 = nI 1 from hw]
          refine lv_if_eq (tgt := 61) hx hb dX4_reader_56 (by decide) (fun c_18 => ?_) (fun c_18 => ?_)
          · exact absurd c_18 (by decide)
          · refine lv_iconst (v := nI 0) hx hb dX4_reader_59 (by decide) ?_
            have hcdv : cd = 2 := (by rw [hcd, if_neg (by omega), if_pos (by omega)])
            subst hcdv
            have hEI : (va_up I 0 (va_up (I 0) 0 (nI 2)) : Nat → Nat → Int32) = if 2 = 0 then va_up I 0 (va_up (va_up (I 0) 0 (nI 0)) 13 (nI (nr + 1))) else va_up I 0 (va_up (I 0) 0 (nI 2)) := by first | rfl | (simp only [bx_uu, wR_same]; done)
            have hEV : (V : Nat → Nat → Int32) = if 2 = 0 then va_up (va_up V 7 (va_up (va_up (va_up (va_up (zr (V 7) (12 * nr) 12) (12 * nr) x) (12 * nr + 2) y) (12 * nr + 3) z) (12 * nr + 6) (nI 5))) 10 (va_up (V 10) nr (nI 0)) else V := by first | rfl | (simp only [bx_uu, wR_same]; done)
            have hP : va_P D vwCl (mW cI cZ ad (if 2 = 0 then va_up I 0 (va_up (va_up (I 0) 0 (nI 0)) 13 (nI (nr + 1))) else va_up I 0 (va_up (I 0) 0 (nI 2))) (if 2 = 0 then va_up (va_up V 7 (va_up (va_up (va_up (va_up (zr (V 7) (12 * nr) 12) (12 * nr) x) (12 * nr + 2) y) (12 * nr + 3) z) (12 * nr + 6) (nI 5))) 10 (va_up (V 10) nr (nI 0)) else V)) H := by rw [← hEI, ← hEV]; exact hP
            have hD : va_D A (mW cI cZ ad (if 2 = 0 then va_up I 0 (va_up (va_up (I 0) 0 (nI 0)) 13 (nI (nr + 1))) else va_up I 0 (va_up (I 0) 0 (nI 2))) (if 2 = 0 then va_up (va_up V 7 (va_up (va_up (va_up (va_up (zr (V 7) (12 * nr) 12) (12 * nr) x) (12 * nr + 2) y) (12 * nr + 3) z) (12 * nr + 6) (nI 5))) 10 (va_up (V 10) nr (nI 0)) else V)) := by rw [← hEI, ← hEV]; exact hD
            exact W.iret (v := nI 0) hx hb hr (fun t ht hW => ⟨⟨nI 0, (), rfl, (fun h9 => absurd h9 (by decide)), by rw [ht]; exact hP, va_K.moved hW.alike hK, hD⟩, hS.F ht⟩) hS.2.2 dX4_reader_60
      · have qhw_11 := wI_out hw_11 c_13
        refine lv_iconst (v := nI 1) hx hb dX4_reader_35 (by decide) ?_
        refine lv_goto (tgt := 53) hx hb dX4_reader_36 (by decide) ?_
        refine w_calli (w := mW cI cZ ad I V) hS hA hK hD (va_runV (As := [.int (nI 1)]) (rest := []) ⟨hx, hb, hml, hown, hts⟩ (c_X4_refuses l D cI cZ ad I V H.size 1 (by decide)) (cwV 1 hts gX4_reader_X4_refuses rfl rfl rfl (by decide +kernel) ⟨Nat.le_of_ble_eq_true rfl, Nat.le_of_ble_eq_true rfl⟩) ⟨(w_pre hP hK hD wEnv_true).1, wR_recv (C := RX4) (T := TX4) (N := 18) hK hP (ci := 4) rfl 0 (by decide) rfl, (w_pre hP hK hD wEnv_true).2⟩ rfl rfl hl.1 rfl (lv_room (Nat.le_of_ble_eq_true rfl)) dX4_reader_53 ⟨Nat.le_of_ble_eq_true rfl, Nat.le_of_ble_eq_true rfl⟩) (fun r_19 u H locs hw hP hD hS hz => ?_)
        rw [show r_19 = nI 1 from hw]
        refine lv_if_eq (tgt := 61) hx hb dX4_reader_56 (by decide) (fun c_20 => ?_) (fun c_20 => ?_)
        · exact absurd c_20 (by decide)
        · refine lv_iconst (v := nI 0) hx hb dX4_reader_59 (by decide) ?_
          have hcdv : cd = 1 := (by rw [hcd, if_pos (by omega)])
          subst hcdv
          have hEI : (va_up I 0 (va_up (I 0) 0 (nI 1)) : Nat → Nat → Int32) = if 1 = 0 then va_up I 0 (va_up (va_up (I 0) 0 (nI 0)) 13 (nI (nr + 1))) else va_up I 0 (va_up (I 0) 0 (nI 1)) := by first | rfl | (simp only [bx_uu, wR_same]; done)
          have hEV : (V : Nat → Nat → Int32) = if 1 = 0 then va_up (va_up V 7 (va_up (va_up (va_up (va_up (zr (V 7) (12 * nr) 12) (12 * nr) x) (12 * nr + 2) y) (12 * nr + 3) z) (12 * nr + 6) (nI 5))) 10 (va_up (V 10) nr (nI 0)) else V := by first | rfl | (simp only [bx_uu, wR_same]; done)
          have hP : va_P D vwCl (mW cI cZ ad (if 1 = 0 then va_up I 0 (va_up (va_up (I 0) 0 (nI 0)) 13 (nI (nr + 1))) else va_up I 0 (va_up (I 0) 0 (nI 1))) (if 1 = 0 then va_up (va_up V 7 (va_up (va_up (va_up (va_up (zr (V 7) (12 * nr) 12) (12 * nr) x) (12 * nr + 2) y) (12 * nr + 3) z) (12 * nr + 6) (nI 5))) 10 (va_up (V 10) nr (nI 0)) else V)) H := by rw [← hEI, ← hEV]; exact hP
          have hD : va_D A (mW cI cZ ad (if 1 = 0 then va_up I 0 (va_up (va_up (I 0) 0 (nI 0)) 13 (nI (nr + 1))) else va_up I 0 (va_up (I 0) 0 (nI 1))) (if 1 = 0 then va_up (va_up V 7 (va_up (va_up (va_up (va_up (zr (V 7) (12 * nr) 12) (12 * nr) x) (12 * nr + 2) y) (12 * nr + 3) z) (12 * nr + 6) (nI 5))) 10 (va_up (V 10) nr (nI 0)) else V)) := by rw [← hEI, ← hEV]; exact hD
          exact W.iret (v := nI 0) hx hb hr (fun t ht hW => ⟨⟨nI 0, (), rfl, (fun h9 => absurd h9 (by decide)), by rw [ht]; exact hP, va_K.moved hW.alike hK, hD⟩, hS.F ht⟩) hS.2.2 dX4_reader_60

set_option maxHeartbeats 4000000 in
set_option maxRecDepth 100000 in
theorem lp_X4_done {p : Program} (l : Launch) {e : Env} {s : State} {m : MethodId} {args : Array Value} {below : List Frame} {meth : Method} {c : Code} {Q : State → Prop} {A : Nat → Prop} (D : va_G) (cI cZ : ClassId) (ad : Nat → Nat) (I V : Nat → Nat → Int32) (y : Int32) (j tc rc : Nat) (tk : Nat → Nat) (hx : p.tables.exec = Jvm.exec) (hb : c.code = cX4_done) (hml : c.maxLocals = 7) (hts : ∀ w ∈ wsX4_done, w.before args s = true) (hown : s.vm.findClass RX4 = some m.cls) (hK : va_K D vwCl (mT cI cZ) s) (hA : ∀ q : Nat, s.heap.size ≤ q → A q) (hj : j < 6) (htc : tc ≤ 20) (hr6 : rc ≤ 512) (htk : ∀ k, k < tc → V 9 (20 * j + k) = nI (tk k) ∧ tk k < rc)  (kk : ∀ (H : Heap) (locs : List Loc) (ls : Array Slot), va_P D vwCl (mW cI cZ ad I (va_up V 9 (dnA (fun k => decide (y < V 5 (3 * tk k))) (fun k => nI (tk k)) (V 9) (20 * j) tc))) H → va_D A (mW cI cZ ad I (va_up V 9 (dnA (fun k => decide (y < V 5 (3 * tk k))) (fun k => nI (tk k)) (V 9) (20 * j) tc))) → va_S A s.heap H locs → lv_has ls 7 [(0, .ref (ad 0)), (1, .int (nI j)), (2, .int y), (3, .int (nI (lgN (fun k => decide (y < V 5 (3 * tk k))) tc))), (4, .int (nI tc))] → W p l e ({ frames := 2, cells := 0, slots := 0, locals := 43 } : Room) s m args below meth c H locs 0 0 Q (F0 m 103 ls [])) : ∀ (fuel : Nat) (k : Nat) (H : Heap) (locs : List Loc) (ls : Array Slot), k ≤ tc → tc - k < fuel → va_P D vwCl (mW cI cZ ad I (va_up V 9 (dnA (fun k => decide (y < V 5 (3 * tk k))) (fun k => nI (tk k)) (V 9) (20 * j) k))) H → va_D A (mW cI cZ ad I (va_up V 9 (dnA (fun k => decide (y < V 5 (3 * tk k))) (fun k => nI (tk k)) (V 9) (20 * j) k))) → va_S A s.heap H locs → lv_has ls 7 [(0, .ref (ad 0)), (1, .int (nI j)), (2, .int y), (3, .int (nI (lgN (fun k => decide (y < V 5 (3 * tk k))) k))), (4, .int (nI tc)), (5, .int (nI k))] → W p l e ({ frames := 2, cells := 0, slots := 0, locals := 43 } : Room) s m args below meth c H locs 0 0 Q (F0 m 47 ls []) := by
  intro fuel
  induction fuel with
  | zero =>
    intro k H locs ls hk hfu
    exact absurd hfu (Nat.not_lt_zero _)
  | succ fuel ih =>
    intro k H locs ls hk hfu hP hD hS hl
    have hinX4 : ∀ w ∈ wsX40, w ∈ wsX4_done := by decide +kernel
    refine lv_iload hx hb dX4_done_47 (lv_at hl 5 rfl) ?_
    refine lv_iload hx hb dX4_done_49 (lv_at hl 4 rfl) ?_
    refine lv_icmp_ge (tgt := 103) hx hb dX4_done_51 (by decide) (fun c_1 => ?_) (fun c_1 => ?_)
    · have c_1 : tc ≤ k := (nI_leI (a := tc) (b := k) (by omega) (by omega)).mp c_1
      have hkt : k = tc := by omega
      subst hkt
      exact kk  H locs ls  hP hD hS (lv_sub hl [0, 1, 2, 3, 4] rfl)
    · have c_1 : ¬ (tc ≤ k) := fun h9 => c_1 ((nI_leI (a := tc) (b := k) (by omega) (by omega)).mpr h9)
      obtain ⟨ht1, ht2⟩ := htk k (by omega)
      have hlk := lgN_k (fun k => decide (y < V 5 (3 * tk k))) k
      refine lv_aload_n hx hb dX4_done_54 rfl (lv_at hl 0 rfl) ?_
      refine wR_get (v := .ref (ad 9)) (C := RX4) (T := TX4) (N := 18) (ci := 4) hx hb hts hinX4 hown hK hP 0 (by decide) rfl rfl 16 (by decide) (hts (.fieldLink RX4 42 "ChangeStreamModel" "taken" "[I") (by decide +kernel)) rfl rfl dX4_done_55 ?_
      refine lv_bipush (v := nI 20) hx hb dX4_done_58 (by decide) ?_
      refine lv_iload_n hx hb dX4_done_60 rfl (lv_at hl 1 rfl) ?_
      refine lv_imul hx hb dX4_done_61 ?_
      rw [pk_mul]
      refine lv_iload hx hb dX4_done_62 (lv_at hl 5 rfl) ?_
      refine lv_iadd hx hb dX4_done_64 ?_
      rw [nI_add]
      refine wR_ild (f := dnA (fun k => decide (y < V 5 (3 * tk k))) (fun k => nI (tk k)) (V 9) (20 * j) k) (v := nI (tk k)) hx hb hK hP 9 0 (by decide) rfl rfl (nx_in (k := 20 * j + k) rfl (by omega) (by decide)) (j := 20 * j + k) (nx_cl rfl (by omega)) ((dnA_o _ _ _ _ k _ (Nat.le_refl _)).trans ht1) dX4_done_65 ?_
      refine lv_istore (lv' := [(6, .int (nI (tk k))), (0, .ref (ad 0)), (1, .int (nI j)), (2, .int y), (3, .int (nI (lgN (fun k => decide (y < V 5 (3 * tk k))) k))), (4, .int (nI tc)), (5, .int (nI k))]) hx hb dX4_done_66 hl (by decide) rfl (fun ls hl => ?_)
      refine lv_aload_n hx hb dX4_done_68 rfl (lv_at hl 1 rfl) ?_
      refine wR_get (v := .ref (ad 5)) (C := RX4) (T := TX4) (N := 18) (ci := 4) hx hb hts hinX4 hown hK hP 0 (by decide) rfl rfl 8 (by decide) (hts (.fieldLink RX4 23 "ChangeStreamModel" "table" "[I") (by decide +kernel)) rfl rfl dX4_done_69 ?_
      refine lv_iconst (v := nI 3) hx hb dX4_done_72 (by decide) ?_
      refine lv_iload hx hb dX4_done_73 (lv_at hl 0 rfl) ?_
      refine lv_imul hx hb dX4_done_75 ?_
      rw [pk_mul]
      refine wR_ild (f := V 5) (v := (V 5) (3 * (tk k))) hx hb hK hP 5 0 (by decide) rfl rfl (nx_in (k := 3 * (tk k)) rfl (by omega) (by decide)) (j := 3 * (tk k)) (nx_cl rfl (by omega)) rfl dX4_done_76 ?_
      refine lv_iload_n hx hb dX4_done_77 rfl (lv_at hl 3 rfl) ?_
      refine lv_icmp_le (tgt := 97) hx hb dX4_done_78 (by decide) (fun c_2 => ?_) (fun c_2 => ?_)
      · refine lv_iinc (v := nI (k + 1)) (lv' := [(5, .int (nI (k + 1))), (6, .int (nI (tk k))), (0, .ref (ad 0)), (1, .int (nI j)), (2, .int y), (3, .int (nI (lgN (fun k => decide (y < V 5 (3 * tk k))) k))), (4, .int (nI tc))]) hx hb dX4_done_97 hl (k := 6) rfl (nI_add _ 1) (by decide) rfl (fun ls hl => ?_)
        refine lv_goto (tgt := 47) hx hb dX4_done_100 (by decide) ?_
        have hz9 : decide (y < V 5 (3 * tk k)) = false := decide_eq_false (Int32.not_lt.mpr c_2)
        have hz9 : (fun k => decide (y < V 5 (3 * tk k))) k = false := hz9
        have hP : va_P D vwCl (mW cI cZ ad I (va_up V 9 (dnA (fun k => decide (y < V 5 (3 * tk k))) (fun k => nI (tk k)) (V 9) (20 * j) (k + 1)))) H := by rw [dnA_f hz9]; exact hP
        have hD : va_D A (mW cI cZ ad I (va_up V 9 (dnA (fun k => decide (y < V 5 (3 * tk k))) (fun k => nI (tk k)) (V 9) (20 * j) (k + 1)))) := by rw [dnA_f hz9]; exact hD
        have hl : lv_has ls 7 [(5, .int (nI (k + 1))), (3, .int (nI (lgN (fun k => decide (y < V 5 (3 * tk k))) (k + 1)))), (0, .ref (ad 0)), (1, .int (nI j)), (2, .int y), (4, .int (nI tc))] := by rw [lgN_f hz9]; exact lv_sub hl [0, 5, 2, 3, 4, 6] rfl
        exact ih (k + 1) H locs ls (by omega) (by omega) hP hD hS (lv_sub hl [2, 3, 4, 1, 5, 0] rfl)
      · refine lv_aload_n hx hb dX4_done_81 rfl (lv_at hl 1 rfl) ?_
        refine wR_get (v := .ref (ad 9)) (C := RX4) (T := TX4) (N := 18) (ci := 4) hx hb hts hinX4 hown hK hP 0 (by decide) rfl rfl 16 (by decide) (hts (.fieldLink RX4 42 "ChangeStreamModel" "taken" "[I") (by decide +kernel)) rfl rfl dX4_done_82 ?_
        refine lv_bipush (v := nI 20) hx hb dX4_done_85 (by decide) ?_
        refine lv_iload_n hx hb dX4_done_87 rfl (lv_at hl 2 rfl) ?_
        refine lv_imul hx hb dX4_done_88 ?_
        rw [pk_mul]
        refine lv_iload_n hx hb dX4_done_89 rfl (lv_at hl 4 rfl) ?_
        refine lv_iadd hx hb dX4_done_90 ?_
        rw [nI_add]
        refine lv_iload hx hb dX4_done_91 (lv_at hl 0 rfl) ?_
        refine wR_ist (f := dnA (fun k => decide (y < V 5 (3 * tk k))) (fun k => nI (tk k)) (V 9) (20 * j) k) hx hb hK hP hD hS 9 0 (by decide) rfl rfl (nx_in (k := 20 * j + (lgN (fun k => decide (y < V 5 (3 * tk k))) k)) rfl (by omega) (by decide)) (j := 20 * j + (lgN (fun k => decide (y < V 5 (3 * tk k))) k)) (nx_cl rfl (by omega)) rfl dX4_done_93 (fun H locs hP hD hS => ?_)
        rw [bx_uu] at hP hD
        refine lv_iinc (v := nI (lgN (fun k => decide (y < V 5 (3 * tk k))) k + 1)) (lv' := [(3, .int (nI (lgN (fun k => decide (y < V 5 (3 * tk k))) k + 1))), (6, .int (nI (tk k))), (0, .ref (ad 0)), (1, .int (nI j)), (2, .int y), (4, .int (nI tc)), (5, .int (nI k))]) hx hb dX4_done_94 hl (k := 4) rfl (nI_add _ 1) (by decide) rfl (fun ls hl => ?_)
        refine lv_iinc (v := nI (k + 1)) (lv' := [(5, .int (nI (k + 1))), (3, .int (nI (lgN (fun k => decide (y < V 5 (3 * tk k))) k + 1))), (6, .int (nI (tk k))), (0, .ref (ad 0)), (1, .int (nI j)), (2, .int y), (4, .int (nI tc))]) hx hb dX4_done_97 hl (k := 6) rfl (nI_add _ 1) (by decide) rfl (fun ls hl => ?_)
        refine lv_goto (tgt := 47) hx hb dX4_done_100 (by decide) ?_
        have hz9 : decide (y < V 5 (3 * tk k)) = true := decide_eq_true (Int32.not_le.mp c_2)
        have hz9 : (fun k => decide (y < V 5 (3 * tk k))) k = true := hz9
        have hP : va_P D vwCl (mW cI cZ ad I (va_up V 9 (dnA (fun k => decide (y < V 5 (3 * tk k))) (fun k => nI (tk k)) (V 9) (20 * j) (k + 1)))) H := by rw [dnA_t hz9]; exact hP
        have hD : va_D A (mW cI cZ ad I (va_up V 9 (dnA (fun k => decide (y < V 5 (3 * tk k))) (fun k => nI (tk k)) (V 9) (20 * j) (k + 1)))) := by rw [dnA_t hz9]; exact hD
        have hl : lv_has ls 7 [(5, .int (nI (k + 1))), (3, .int (nI (lgN (fun k => decide (y < V 5 (3 * tk k))) (k + 1)))), (0, .ref (ad 0)), (1, .int (nI j)), (2, .int y), (4, .int (nI tc))] := by rw [lgN_t hz9]; exact lv_sub hl [0, 1, 3, 4, 5, 6] rfl
        exact ih (k + 1) H locs ls (by omega) (by omega) hP hD hS (lv_sub hl [2, 3, 4, 1, 5, 0] rfl)

set_option maxHeartbeats 4000000 in
set_option maxRecDepth 100000 in
/-- done(x, y) -/
theorem c_X4_done (l : Launch) (D : va_G) (cI cZ : ClassId) (ad : Nat → Nat) (I V : Nat → Nat → Int32) (sz : Nat) (TT lst rc kp nr : Nat) (hrc : I 0 7 = nI rc) (hT : I 0 9 = nI TT) (hkp : I 0 11 = nI kp) (hls : I 0 12 = nI lst) (hnr : I 0 13 = nI nr) (hr6 : rc ≤ 512) (hT1 : TT ≤ 512) (hkp1 : kp ≤ 30) (hls0 : 0 < lst) (hls1 : lst ≤ 513) (hnr6 : nr ≤ 6) (x : Int32) (j : Nat) (hj : j = x.toNatClampNeg) (tc : Nat) (tk : Nat → Nat) (htc0 : (0 ≤ x.toInt ∧ x.toInt ≤ ((nr : Nat) : Int) - 1) → (V 10 j = nI tc ∧ tc ≤ 20) ∧ (∀ k, k < tc → V 9 (20 * j + k) = nI (tk k) ∧ tk k < rc)) (y : Int32) (cd : Nat) (hcd : cd = if ¬ (0 ≤ x.toInt ∧ x.toInt ≤ ((nr : Nat) : Int) - 1) ∨ ¬ (0 ≤ y.toInt ∧ y.toInt ≤ ((TT : Nat) : Int)) then 1 else 0) : Met l yX4_done wsX4_done ({ frames := 2, cells := 0, slots := 0, locals := 43 } : Room) (va_Pc [.ref (ad 0), .int x, .int y] (wPre D vwCl (mT cI cZ) (mW cI cZ ad I V) sz wTrue)) (va_Qi (fun (r : Int32) (u : Unit) => cd = 0 → r = nI (tc - lgN (fun k => decide (y < V 5 (3 * tk k))) tc)) (wPost D vwCl (mT cI cZ) (fun (u : Unit) => mW cI cZ ad (va_up I 0 (va_up (I 0) 0 (nI cd))) (if cd = 0 then va_up (va_up V 9 (dnA (fun k => decide (y < V 5 (3 * tk k))) (fun k => nI (tk k)) (V 9) (20 * j) tc)) 10 (va_up (V 10) j (nI (lgN (fun k => decide (y < V 5 (3 * tk k))) tc))) else V)) (va_A (mW cI cZ ad I V) sz)) (va_A (mW cI cZ ad I V) sz)) 0 0 (va_A (mW cI cZ ad I V) sz) := by
  refine Met.ofW (cc := cX4_done) (maxL := 7) (ret := (some .int)) (by decide) rfl ?_
  intro p e s m args below meth c s₁ B hml hv
  obtain ⟨rfl, hsz, hP, hK, hD0, hE⟩ := hv
  have hx := B.exec
  have hb := B.bytes
  have hr := B.returns
  have hts := atoms_spec (ws := wsX4_done) B.pre
  have hown : s.vm.findClass RX4 = some m.cls := findClass_of_methodNamed B.named
  have hlocks := B.notSynchronized
  subst hsz
  have hD := hD0.self (sz := s.heap.size)
  generalize hAe : va_A (mW cI cZ ad I V) s.heap.size = A at hD ⊢
  have hA : ∀ q : Nat, s.heap.size ≤ q → A q := fun q h => by rw [← hAe]; exact Or.inr h
  have hS : va_S A s.heap s.heap [] := va_S.rf
  have hinX4 : ∀ w ∈ wsX40, w ∈ wsX4_done := by decide +kernel
  have hl := lv_entry ([.ref (ad 0), .int x, .int y]) (n := 7) (Nat.le_of_ble_eq_true rfl)
  rw [lg_entry_eq]
  generalize (lg_sl ([.ref (ad 0), .int x, .int y]) ++ List.replicate (7 - (lg_sl ([.ref (ad 0), .int x, .int y])).length) Slot.unset).toArray = ls at hl ⊢
  have hl : lv_has ls 7 [(0, .ref (ad 0)), (1, .int x), (2, .int y)] := hl
  refine lv_aload_n hx hb dX4_done_0 rfl (lv_at hl 0 rfl) ?_
  refine lv_iload_n hx hb dX4_done_1 rfl (lv_at hl 1 rfl) ?_
  obtain ⟨cdn, hcdn⟩ : ∃ c9 : Nat, c9 = (if ¬ (0 ≤ x.toInt ∧ x.toInt ≤ ((nr : Nat) : Int) - 1) then 1 else 0) := ⟨_, rfl⟩
  have hcdn1 := m_le hcdn
  refine w_calli (w := mW cI cZ ad I V) hS hA hK hD (va_runV (As := [.int x]) (rest := []) ⟨hx, hb, hml, hown, hts⟩ (c_X4_noReader l D cI cZ ad I V s.heap.size nr hnr hnr6 x cdn hcdn) (cwV 1 hts gX4_done_X4_noReader rfl rfl rfl (by decide +kernel) ⟨Nat.le_of_ble_eq_true rfl, Nat.le_of_ble_eq_true rfl⟩) ⟨(w_pre hP hK hD wEnv_true).1, wR_recv (C := RX4) (T := TX4) (N := 18) hK hP (ci := 4) rfl 0 (by decide) rfl, (w_pre hP hK hD wEnv_true).2⟩ rfl rfl hl.1 rfl (lv_room (Nat.le_of_ble_eq_true rfl)) dX4_done_2 ⟨Nat.le_of_ble_eq_true rfl, Nat.le_of_ble_eq_true rfl⟩) (fun r_1 u H locs hw hP hD hS hz => ?_)
  rw [show r_1 = nI cdn from hw]
  refine lv_if_ne (tgt := 32) hx hb dX4_done_5 (by decide) (fun c_2 => ?_) (fun c_2 => ?_)
  · have c_2 : ¬ (cdn = 0) := fun h9 => c_2 ((nI_eq (a := cdn) (b := 0) (by omega) (by omega)).mpr h9)
    have hq9 := m_1 hcdn c_2
    have hc1 : cdn = 1 := by omega
    subst hc1
    refine lv_iconst (v := nI 0) hx hb dX4_done_32 (by decide) ?_
    have hcdv : cd = 1 := (by rw [hcd, if_pos (by omega)])
    subst hcdv
    have hEV : (V : Nat → Nat → Int32) = if 1 = 0 then va_up (va_up V 9 (dnA (fun k => decide (y < V 5 (3 * tk k))) (fun k => nI (tk k)) (V 9) (20 * j) tc)) 10 (va_up (V 10) j (nI (lgN (fun k => decide (y < V 5 (3 * tk k))) tc))) else V := by first | rfl | (simp only [bx_uu, wR_same]; done)
    have hP : va_P D vwCl (mW cI cZ ad (va_up I 0 (va_up (I 0) 0 (nI 1))) (if 1 = 0 then va_up (va_up V 9 (dnA (fun k => decide (y < V 5 (3 * tk k))) (fun k => nI (tk k)) (V 9) (20 * j) tc)) 10 (va_up (V 10) j (nI (lgN (fun k => decide (y < V 5 (3 * tk k))) tc))) else V)) H := by rw [← hEV]; exact hP
    have hD : va_D A (mW cI cZ ad (va_up I 0 (va_up (I 0) 0 (nI 1))) (if 1 = 0 then va_up (va_up V 9 (dnA (fun k => decide (y < V 5 (3 * tk k))) (fun k => nI (tk k)) (V 9) (20 * j) tc)) 10 (va_up (V 10) j (nI (lgN (fun k => decide (y < V 5 (3 * tk k))) tc))) else V)) := by rw [← hEV]; exact hD
    exact W.iret (v := nI 0) hx hb hr (fun t ht hW => ⟨⟨nI 0, (), rfl, (fun h9 => absurd h9 (by decide)), by rw [ht]; exact hP, va_K.moved hW.alike hK, hD⟩, hS.F ht⟩) hS.2.2 dX4_done_33
  · have c_2 : cdn = 0 := (nI_eq (a := cdn) (b := 0) (by omega) (by omega)).mp c_2
    have hq9 := m_0 hcdn c_2
    subst c_2
    obtain ⟨hxjx, hxix⟩ := nx_nn (x := x) (by omega)
    rw [← hj] at hxjx hxix
    rw [hxjx] at hl
    obtain ⟨⟨htc, htc2⟩, htk⟩ := htc0 hq9
    refine lv_aload_n hx hb dX4_done_8 rfl (lv_at hl 0 rfl) ?_
    refine lv_iload_n hx hb dX4_done_9 rfl (lv_at hl 2 rfl) ?_
    refine lv_iconst (v := nI 0) hx hb dX4_done_10 (by decide) ?_
    refine lv_aload_n hx hb dX4_done_11 rfl (lv_at hl 0 rfl) ?_
    refine wR_get (v := .int (nI TT)) (C := RX4) (T := TX4) (N := 18) (ci := 4) hx hb hts hinX4 hown hK hP 0 (by decide) rfl rfl 9 (by decide) (hts (.fieldLink RX4 65 "ChangeStreamModel" "transactions" "I") (by decide +kernel)) rfl (congrArg (fun z => some (Value.int z)) hT) dX4_done_12 ?_
    refine w_calli (w := mW cI cZ ad (va_up I 0 (va_up (I 0) 0 (nI 0))) V) hS hA hK hD (va_runS (As := [.int y, .int (nI 0), .int (nI TT)]) (rest := [.ref (ad 0)]) ⟨hx, hb, hml, hown, hts⟩ (c_X4_within l D (mT cI cZ) (mW cI cZ ad (va_up I 0 (va_up (I 0) 0 (nI 0))) V) wTrue H.size y (nI 0) (nI TT)) (va_cwS 3 hts gX4_done_X4_within rfl rfl rfl (by decide +kernel) ⟨Nat.le_of_ble_eq_true rfl, Nat.le_of_ble_eq_true rfl⟩) (w_pre hP hK hD wEnv_true) rfl rfl hl.1 rfl (lv_room (Nat.le_of_ble_eq_true rfl)) dX4_done_15 ⟨Nat.le_of_ble_eq_true rfl, Nat.le_of_ble_eq_true rfl⟩) (fun r_4 u H locs hw hP hD hS hz => ?_)
    have hw_3 : r_4 = wI y (0) (((TT : Nat) : Int)) := by rw [hw, nI_toInt (n := 0) (by decide), nI_toInt (n := TT) (by omega)]; rfl
    refine lv_if_eq (tgt := 25) hx hb dX4_done_18 (by decide) (fun c_5 => ?_) (fun c_5 => ?_)
    · have qhw_3 := wI_out hw_3 c_5
      refine lv_iconst (v := nI 1) hx hb dX4_done_25 (by decide) ?_
      refine w_calli (w := mW cI cZ ad (va_up I 0 (va_up (I 0) 0 (nI 0))) V) hS hA hK hD (va_runV (As := [.int (nI 1)]) (rest := []) ⟨hx, hb, hml, hown, hts⟩ (c_X4_refuses l D cI cZ ad (va_up I 0 (va_up (I 0) 0 (nI 0))) V H.size 1 (by decide)) (cwV 1 hts gX4_done_X4_refuses rfl rfl rfl (by decide +kernel) ⟨Nat.le_of_ble_eq_true rfl, Nat.le_of_ble_eq_true rfl⟩) ⟨(w_pre hP hK hD wEnv_true).1, wR_recv (C := RX4) (T := TX4) (N := 18) hK hP (ci := 4) rfl 0 (by decide) rfl, (w_pre hP hK hD wEnv_true).2⟩ rfl rfl hl.1 rfl (lv_room (Nat.le_of_ble_eq_true rfl)) dX4_done_26 ⟨Nat.le_of_ble_eq_true rfl, Nat.le_of_ble_eq_true rfl⟩) (fun r_6 u H locs hw hP hD hS hz => ?_)
      rw [show r_6 = nI 1 from hw]
      rw [bx_uu] at hP hD
      refine lv_if_eq (tgt := 34) hx hb dX4_done_29 (by decide) (fun c_7 => ?_) (fun c_7 => ?_)
      · exact absurd c_7 (by decide)
      · refine lv_iconst (v := nI 0) hx hb dX4_done_32 (by decide) ?_
        have hcdv : cd = 1 := (by rw [hcd, if_pos (by omega)])
        subst hcdv
        have hEI : (va_up I 0 (va_up (va_up (I 0) 0 (nI 0)) 0 (nI 1)) : Nat → Nat → Int32) = va_up I 0 (va_up (I 0) 0 (nI 1)) := by first | rfl | (simp only [bx_uu, wR_same]; done)
        have hEV : (V : Nat → Nat → Int32) = if 1 = 0 then va_up (va_up V 9 (dnA (fun k => decide (y < V 5 (3 * tk k))) (fun k => nI (tk k)) (V 9) (20 * j) tc)) 10 (va_up (V 10) j (nI (lgN (fun k => decide (y < V 5 (3 * tk k))) tc))) else V := by first | rfl | (simp only [bx_uu, wR_same]; done)
        have hP : va_P D vwCl (mW cI cZ ad (va_up I 0 (va_up (I 0) 0 (nI 1))) (if 1 = 0 then va_up (va_up V 9 (dnA (fun k => decide (y < V 5 (3 * tk k))) (fun k => nI (tk k)) (V 9) (20 * j) tc)) 10 (va_up (V 10) j (nI (lgN (fun k => decide (y < V 5 (3 * tk k))) tc))) else V)) H := by rw [← hEI, ← hEV]; exact hP
        have hD : va_D A (mW cI cZ ad (va_up I 0 (va_up (I 0) 0 (nI 1))) (if 1 = 0 then va_up (va_up V 9 (dnA (fun k => decide (y < V 5 (3 * tk k))) (fun k => nI (tk k)) (V 9) (20 * j) tc)) 10 (va_up (V 10) j (nI (lgN (fun k => decide (y < V 5 (3 * tk k))) tc))) else V)) := by rw [← hEI, ← hEV]; exact hD
        exact W.iret (v := nI 0) hx hb hr (fun t ht hW => ⟨⟨nI 0, (), rfl, (fun h9 => absurd h9 (by decide)), by rw [ht]; exact hP, va_K.moved hW.alike hK, hD⟩, hS.F ht⟩) hS.2.2 dX4_done_33
    · have qhw_3 := wI_in hw_3 c_5
      refine lv_iconst (v := nI 0) hx hb dX4_done_21 (by decide) ?_
      refine lv_goto (tgt := 26) hx hb dX4_done_22 (by decide) ?_
      refine w_calli (w := mW cI cZ ad (va_up I 0 (va_up (I 0) 0 (nI 0))) V) hS hA hK hD (va_runV (As := [.int (nI 0)]) (rest := []) ⟨hx, hb, hml, hown, hts⟩ (c_X4_refuses l D cI cZ ad (va_up I 0 (va_up (I 0) 0 (nI 0))) V H.size 0 (by decide)) (cwV 1 hts gX4_done_X4_refuses rfl rfl rfl (by decide +kernel) ⟨Nat.le_of_ble_eq_true rfl, Nat.le_of_ble_eq_true rfl⟩) ⟨(w_pre hP hK hD wEnv_true).1, wR_recv (C := RX4) (T := TX4) (N := 18) hK hP (ci := 4) rfl 0 (by decide) rfl, (w_pre hP hK hD wEnv_true).2⟩ rfl rfl hl.1 rfl (lv_room (Nat.le_of_ble_eq_true rfl)) dX4_done_26 ⟨Nat.le_of_ble_eq_true rfl, Nat.le_of_ble_eq_true rfl⟩) (fun r_8 u H locs hw hP hD hS hz => ?_)
      rw [show r_8 = nI 0 from hw]
      rw [bx_uu] at hP hD
      refine lv_if_eq (tgt := 34) hx hb dX4_done_29 (by decide) (fun c_9 => ?_) (fun c_9 => ?_)
      · refine lv_iconst (v := nI 0) hx hb dX4_done_34 (by decide) ?_
        refine lv_istore_n (lv' := [(3, .int (nI 0)), (0, .ref (ad 0)), (1, .int (nI j)), (2, .int y)]) hx hb dX4_done_35 rfl hl (by decide) rfl (fun ls hl => ?_)
        refine lv_aload_n hx hb dX4_done_36 rfl (lv_at hl 1 rfl) ?_
        refine wR_get (v := .ref (ad 10)) (C := RX4) (T := TX4) (N := 18) (ci := 4) hx hb hts hinX4 hown hK hP 0 (by decide) rfl rfl 17 (by decide) (hts (.fieldLink RX4 45 "ChangeStreamModel" "many" "[I") (by decide +kernel)) rfl rfl dX4_done_37 ?_
        refine lv_iload_n hx hb dX4_done_40 rfl (lv_at hl 2 rfl) ?_
        refine wR_ild (f := V 10) (v := nI tc) hx hb hK hP 10 0 (by decide) rfl rfl (nx_in (k := j) rfl (by omega) (by decide)) (j := j) (nx_cl rfl (by omega)) htc dX4_done_41 ?_
        refine lv_istore (lv' := [(4, .int (nI tc)), (3, .int (nI 0)), (0, .ref (ad 0)), (1, .int (nI j)), (2, .int y)]) hx hb dX4_done_42 hl (by decide) rfl (fun ls hl => ?_)
        refine lv_iconst (v := nI 0) hx hb dX4_done_44 (by decide) ?_
        refine lv_istore (lv' := [(5, .int (nI 0)), (4, .int (nI tc)), (3, .int (nI 0)), (0, .ref (ad 0)), (1, .int (nI j)), (2, .int y)]) hx hb dX4_done_45 hl (by decide) rfl (fun ls hl => ?_)
        refine lp_X4_done l D cI cZ ad (va_up I 0 (va_up (I 0) 0 (nI 0))) V y j tc rc tk hx hb hml hts hown hK hA (by omega) htc2 hr6 htk (fun  H locs ls  hP hD hS hl => ?_) (tc + 1) 0 H locs ls (by omega) (by omega) hP hD hS (lv_sub hl [3, 4, 5, 2, 1, 0] rfl)
        refine lv_aload_n hx hb dX4_done_103 rfl (lv_at hl 0 rfl) ?_
        refine wR_get (v := .ref (ad 10)) (C := RX4) (T := TX4) (N := 18) (ci := 4) hx hb hts hinX4 hown hK hP 0 (by decide) rfl rfl 17 (by decide) (hts (.fieldLink RX4 45 "ChangeStreamModel" "many" "[I") (by decide +kernel)) rfl rfl dX4_done_104 ?_
        refine lv_iload_n hx hb dX4_done_107 rfl (lv_at hl 1 rfl) ?_
        refine lv_iload_n hx hb dX4_done_108 rfl (lv_at hl 3 rfl) ?_
        refine wR_ist (f := V 10) hx hb hK hP hD hS 10 0 (by decide) rfl rfl (nx_in (k := j) rfl (by omega) (by decide)) (j := j) (nx_cl rfl (by omega)) rfl dX4_done_109 (fun H locs hP hD hS => ?_)
        refine lv_iload hx hb dX4_done_110 (lv_at hl 4 rfl) ?_
        refine lv_iload_n hx hb dX4_done_112 rfl (lv_at hl 3 rfl) ?_
        refine lv_isub hx hb dX4_done_113 ?_
        rw [show (nI tc) - (nI (lgN (fun k => decide (y < V 5 (3 * tk k))) tc)) = nI (tc - lgN (fun k => decide (y < V 5 (3 * tk k))) tc) from pk_sub (lgN_k (fun k => decide (y < V 5 (3 * tk k))) tc)]
        have hcdv : cd = 0 := (by rw [hcd, if_neg (by omega)])
        subst hcdv
        have hEI : (va_up I 0 (va_up (va_up (I 0) 0 (nI 0)) 0 (nI 0)) : Nat → Nat → Int32) = va_up I 0 (va_up (I 0) 0 (nI 0)) := by first | rfl | (simp only [bx_uu, wR_same]; done)
        have hEV : (va_up (va_up V 9 (dnA (fun k => decide (y < V 5 (3 * tk k))) (fun k => nI (tk k)) (V 9) (20 * j) tc)) 10 (va_up (V 10) j (nI (lgN (fun k => decide (y < V 5 (3 * tk k))) tc))) : Nat → Nat → Int32) = if 0 = 0 then va_up (va_up V 9 (dnA (fun k => decide (y < V 5 (3 * tk k))) (fun k => nI (tk k)) (V 9) (20 * j) tc)) 10 (va_up (V 10) j (nI (lgN (fun k => decide (y < V 5 (3 * tk k))) tc))) else V := by first | rfl | (simp only [bx_uu, wR_same]; done)
        have hP : va_P D vwCl (mW cI cZ ad (va_up I 0 (va_up (I 0) 0 (nI 0))) (if 0 = 0 then va_up (va_up V 9 (dnA (fun k => decide (y < V 5 (3 * tk k))) (fun k => nI (tk k)) (V 9) (20 * j) tc)) 10 (va_up (V 10) j (nI (lgN (fun k => decide (y < V 5 (3 * tk k))) tc))) else V)) H := by rw [← hEI, ← hEV]; exact hP
        have hD : va_D A (mW cI cZ ad (va_up I 0 (va_up (I 0) 0 (nI 0))) (if 0 = 0 then va_up (va_up V 9 (dnA (fun k => decide (y < V 5 (3 * tk k))) (fun k => nI (tk k)) (V 9) (20 * j) tc)) 10 (va_up (V 10) j (nI (lgN (fun k => decide (y < V 5 (3 * tk k))) tc))) else V)) := by rw [← hEI, ← hEV]; exact hD
        exact W.iret (v := nI (tc - lgN (fun k => decide (y < V 5 (3 * tk k))) tc)) hx hb hr (fun t ht hW => ⟨⟨nI (tc - lgN (fun k => decide (y < V 5 (3 * tk k))) tc), (), rfl, (fun _ => rfl), by rw [ht]; exact hP, va_K.moved hW.alike hK, hD⟩, hS.F ht⟩) hS.2.2 dX4_done_114
      · exact absurd (by decide) c_9
