/-- the reference's lists of rights: fact, from, on -/
abbrev rtF (V : Nat → Nat → Int32) (j : Nat) : Nat → Int32 := fun k => V 8 (3 * (40 * j + k))
abbrev rtG (V : Nat → Nat → Int32) (j : Nat) : Nat → Int32 := fun k => V 8 (3 * (40 * j + k) + 1)
abbrev rtO (V : Nat → Nat → Int32) (j : Nat) : Nat → Int32 := fun k => if V 8 (3 * (40 * j + k) + 2) = 1 then 1 else 0
abbrev smA (V : Nat → Nat → Int32) (j fi : Nat) : Prop := (V 7 (12 * j + 2) = -1 ∨ V 7 (12 * j + 2) = V 1 fi) ∧ (V 7 (12 * j + 3) = -1 ∨ V 7 (12 * j + 3) = V 2 fi)
abbrev smR (V : Nat → Nat → Int32) (j fi i k : Nat) : Int32 := hRt (rtF V j) (rtG V j) (rtO V j) (nI fi) (V 5 (3 * i)) k
abbrev smC (V : Nat → Nat → Int32) (i : Nat) : Int32 := if V 5 (3 * i + 2) = 1 then 1 else 0
/-- whether the reference's reader j sees row i -/
def sm (V : Nat → Nat → Int32) (j rc kd fi i : Nat) : Int32 := if smA V j fi then (if smR V j fi i rc = 0 then 0 else fLet kd (V 7 (12 * j + 5)) fi (smC V i)) else 0
def smV (V : Nat → Nat → Int32) (j rc kd fi i : Nat) : Nat → Nat → Int32 := if smA V j fi ∧ ¬ smR V j fi i rc = 0 ∧ kd = 4 then va_up V 7 (va_up (V 7) (12 * j + 9) (V 7 (12 * j + 9) + (if V 7 (12 * j + 5) = 0 then 1 else 0))) else V

set_option maxHeartbeats 4000000 in
set_option maxRecDepth 100000 in
theorem sg_X4_sees {p : Program} (l : Launch) {e : Env} {s : State} {m : MethodId} {args : Array Value} {below : List Frame} {meth : Method} {c : Code} {Q : State → Prop} {A : Nat → Prop} (D : va_G) (cI cZ : ClassId) (ad : Nat → Nat) (I V : Nat → Nat → Int32) (j i fi : Nat) (cm : Int32) (hx : p.tables.exec = Jvm.exec) (hb : c.code = cX4_sees) (hml : c.maxLocals = 10) (hts : ∀ w ∈ wsX4_sees, w.before args s = true) (hown : s.vm.findClass RX4 = some m.cls) (hK : va_K D vwCl (mT cI cZ) s) (hA : ∀ q : Nat, s.heap.size ≤ q → A q) (hj : j < 6) (hi : i < 520) (hf2 : fi < 100)  (k1 : ∀ (H : Heap) (locs : List Loc) (ls : Array Slot), smA V j fi → va_P D vwCl (mW cI cZ ad I V) H → va_D A (mW cI cZ ad I V) → va_S A s.heap H locs → lv_has ls 10 [(0, .ref (ad 0)), (1, .int (nI j)), (2, .int (nI i)), (3, .int (nI (12 * j))), (4, .int (V 5 (3 * i))), (5, .int (nI fi)), (6, .int cm)] → W p l e ({ frames := 0, cells := 0, slots := 0, locals := 0 } : Room) s m args below meth c H locs 0 0 Q (F0 m 110 ls [])) (k2 : ∀ (H : Heap) (locs : List Loc) (ls : Array Slot), ¬ smA V j fi → va_P D vwCl (mW cI cZ ad I V) H → va_D A (mW cI cZ ad I V) → va_S A s.heap H locs → lv_has ls 10 [(0, .ref (ad 0)), (1, .int (nI j)), (2, .int (nI i)), (3, .int (nI (12 * j))), (4, .int (V 5 (3 * i))), (5, .int (nI fi))] → W p l e ({ frames := 0, cells := 0, slots := 0, locals := 0 } : Room) s m args below meth c H locs 0 0 Q (F0 m 108 ls [])) (H : Heap) (locs : List Loc) (ls : Array Slot) (hP : va_P D vwCl (mW cI cZ ad I V) H) (hD : va_D A (mW cI cZ ad I V)) (hS : va_S A s.heap H locs) (hl : lv_has ls 10 [(0, .ref (ad 0)), (1, .int (nI j)), (2, .int (nI i)), (3, .int (nI (12 * j))), (4, .int (V 5 (3 * i))), (5, .int (nI fi))]) : W p l e ({ frames := 0, cells := 0, slots := 0, locals := 0 } : Room) s m args below meth c H locs 0 0 Q (F0 m 46 ls [.int cm]) := by
  have hinX4 : ∀ w ∈ wsX40, w ∈ wsX4_sees := by decide +kernel
  refine lv_istore (lv' := [(6, .int cm), (0, .ref (ad 0)), (1, .int (nI j)), (2, .int (nI i)), (3, .int (nI (12 * j))), (4, .int (V 5 (3 * i))), (5, .int (nI fi))]) hx hb dX4_sees_46 hl (by decide) rfl (fun ls hl => ?_)
  refine lv_aload_n hx hb dX4_sees_48 rfl (lv_at hl 1 rfl) ?_
  refine wR_get (v := .ref (ad 7)) (C := RX4) (T := TX4) (N := 18) (ci := 4) hx hb hts hinX4 hown hK hP 0 (by decide) rfl rfl 14 (by decide) (hts (.fieldLink RX4 36 "ChangeStreamModel" "of" "[I") (by decide +kernel)) rfl rfl dX4_sees_49 ?_
  refine lv_iload_n hx hb dX4_sees_52 rfl (lv_at hl 4 rfl) ?_
  refine lv_iconst (v := nI 2) hx hb dX4_sees_53 (by decide) ?_
  refine lv_iadd hx hb dX4_sees_54 ?_
  rw [nI_add]
  refine wR_ild (f := V 7) (v := (V 7) (12 * j + 2)) hx hb hK hP 7 0 (by decide) rfl rfl (nx_in (k := 12 * j + 2) rfl (by omega) (by decide)) (j := 12 * j + 2) (nx_cl rfl (by omega)) rfl dX4_sees_55 ?_
  refine lv_iconst (v := (-1)) hx hb dX4_sees_56 (by decide) ?_
  refine lv_icmp_eq (tgt := 78) hx hb dX4_sees_57 (by decide) (fun c_1 => ?_) (fun c_1 => ?_)
  · refine lv_aload_n hx hb dX4_sees_78 rfl (lv_at hl 1 rfl) ?_
    refine wR_get (v := .ref (ad 7)) (C := RX4) (T := TX4) (N := 18) (ci := 4) hx hb hts hinX4 hown hK hP 0 (by decide) rfl rfl 14 (by decide) (hts (.fieldLink RX4 36 "ChangeStreamModel" "of" "[I") (by decide +kernel)) rfl rfl dX4_sees_79 ?_
    refine lv_iload_n hx hb dX4_sees_82 rfl (lv_at hl 4 rfl) ?_
    refine lv_iconst (v := nI 3) hx hb dX4_sees_83 (by decide) ?_
    refine lv_iadd hx hb dX4_sees_84 ?_
    rw [nI_add]
    refine wR_ild (f := V 7) (v := (V 7) (12 * j + 3)) hx hb hK hP 7 0 (by decide) rfl rfl (nx_in (k := 12 * j + 3) rfl (by omega) (by decide)) (j := 12 * j + 3) (nx_cl rfl (by omega)) rfl dX4_sees_85 ?_
    refine lv_iconst (v := (-1)) hx hb dX4_sees_86 (by decide) ?_
    refine lv_icmp_eq (tgt := 110) hx hb dX4_sees_87 (by decide) (fun c_2 => ?_) (fun c_2 => ?_)
    · exact k1  H locs ls ⟨(by first | exact Or.inl (by assumption) | exact Or.inr (by assumption)), (by first | exact Or.inl (by assumption) | exact Or.inr (by assumption))⟩ hP hD hS (lv_sub hl [1, 2, 3, 4, 5, 6, 0] rfl)
    · refine lv_aload_n hx hb dX4_sees_90 rfl (lv_at hl 1 rfl) ?_
      refine wR_get (v := .ref (ad 7)) (C := RX4) (T := TX4) (N := 18) (ci := 4) hx hb hts hinX4 hown hK hP 0 (by decide) rfl rfl 14 (by decide) (hts (.fieldLink RX4 36 "ChangeStreamModel" "of" "[I") (by decide +kernel)) rfl rfl dX4_sees_91 ?_
      refine lv_iload_n hx hb dX4_sees_94 rfl (lv_at hl 4 rfl) ?_
      refine lv_iconst (v := nI 3) hx hb dX4_sees_95 (by decide) ?_
      refine lv_iadd hx hb dX4_sees_96 ?_
      rw [nI_add]
      refine wR_ild (f := V 7) (v := (V 7) (12 * j + 3)) hx hb hK hP 7 0 (by decide) rfl rfl (nx_in (k := 12 * j + 3) rfl (by omega) (by decide)) (j := 12 * j + 3) (nx_cl rfl (by omega)) rfl dX4_sees_97 ?_
      refine lv_aload_n hx hb dX4_sees_98 rfl (lv_at hl 1 rfl) ?_
      refine wR_get (v := .ref (ad 2)) (C := RX4) (T := TX4) (N := 18) (ci := 4) hx hb hts hinX4 hown hK hP 0 (by decide) rfl rfl 3 (by decide) (hts (.fieldLink RX4 13 "ChangeStreamModel" "properties" "[I") (by decide +kernel)) rfl rfl dX4_sees_99 ?_
      refine lv_iload hx hb dX4_sees_102 (lv_at hl 6 rfl) ?_
      refine wR_ild (f := V 2) (v := (V 2) fi) hx hb hK hP 2 0 (by decide) rfl rfl (nx_in (k := fi) rfl (by omega) (by decide)) (j := fi) (nx_cl rfl (by omega)) rfl dX4_sees_104 ?_
      refine lv_icmp_eq (tgt := 110) hx hb dX4_sees_105 (by decide) (fun c_3 => ?_) (fun c_3 => ?_)
      · exact k1  H locs ls ⟨(by first | exact Or.inl (by assumption) | exact Or.inr (by assumption)), (by first | exact Or.inl (by assumption) | exact Or.inr (by assumption))⟩ hP hD hS (lv_sub hl [1, 2, 3, 4, 5, 6, 0] rfl)
      · exact k2  H locs ls (fun h9 => h9.2.elim c_2 c_3) hP hD hS (lv_sub hl [1, 2, 3, 4, 5, 6] rfl)
  · refine lv_aload_n hx hb dX4_sees_60 rfl (lv_at hl 1 rfl) ?_
    refine wR_get (v := .ref (ad 7)) (C := RX4) (T := TX4) (N := 18) (ci := 4) hx hb hts hinX4 hown hK hP 0 (by decide) rfl rfl 14 (by decide) (hts (.fieldLink RX4 36 "ChangeStreamModel" "of" "[I") (by decide +kernel)) rfl rfl dX4_sees_61 ?_
    refine lv_iload_n hx hb dX4_sees_64 rfl (lv_at hl 4 rfl) ?_
    refine lv_iconst (v := nI 2) hx hb dX4_sees_65 (by decide) ?_
    refine lv_iadd hx hb dX4_sees_66 ?_
    rw [nI_add]
    refine wR_ild (f := V 7) (v := (V 7) (12 * j + 2)) hx hb hK hP 7 0 (by decide) rfl rfl (nx_in (k := 12 * j + 2) rfl (by omega) (by decide)) (j := 12 * j + 2) (nx_cl rfl (by omega)) rfl dX4_sees_67 ?_
    refine lv_aload_n hx hb dX4_sees_68 rfl (lv_at hl 1 rfl) ?_
    refine wR_get (v := .ref (ad 1)) (C := RX4) (T := TX4) (N := 18) (ci := 4) hx hb hts hinX4 hown hK hP 0 (by decide) rfl rfl 2 (by decide) (hts (.fieldLink RX4 7 "ChangeStreamModel" "graphs" "[I") (by decide +kernel)) rfl rfl dX4_sees_69 ?_
    refine lv_iload hx hb dX4_sees_72 (lv_at hl 6 rfl) ?_
    refine wR_ild (f := V 1) (v := (V 1) fi) hx hb hK hP 1 0 (by decide) rfl rfl (nx_in (k := fi) rfl (by omega) (by decide)) (j := fi) (nx_cl rfl (by omega)) rfl dX4_sees_74 ?_
    refine lv_icmp_ne (tgt := 108) hx hb dX4_sees_75 (by decide) (fun c_4 => ?_) (fun c_4 => ?_)
    · exact k2  H locs ls (fun h9 => h9.1.elim c_1 c_4) hP hD hS (lv_sub hl [1, 2, 3, 4, 5, 6] rfl)
    · refine lv_aload_n hx hb dX4_sees_78 rfl (lv_at hl 1 rfl) ?_
      refine wR_get (v := .ref (ad 7)) (C := RX4) (T := TX4) (N := 18) (ci := 4) hx hb hts hinX4 hown hK hP 0 (by decide) rfl rfl 14 (by decide) (hts (.fieldLink RX4 36 "ChangeStreamModel" "of" "[I") (by decide +kernel)) rfl rfl dX4_sees_79 ?_
      refine lv_iload_n hx hb dX4_sees_82 rfl (lv_at hl 4 rfl) ?_
      refine lv_iconst (v := nI 3) hx hb dX4_sees_83 (by decide) ?_
      refine lv_iadd hx hb dX4_sees_84 ?_
      rw [nI_add]
      refine wR_ild (f := V 7) (v := (V 7) (12 * j + 3)) hx hb hK hP 7 0 (by decide) rfl rfl (nx_in (k := 12 * j + 3) rfl (by omega) (by decide)) (j := 12 * j + 3) (nx_cl rfl (by omega)) rfl dX4_sees_85 ?_
      refine lv_iconst (v := (-1)) hx hb dX4_sees_86 (by decide) ?_
      refine lv_icmp_eq (tgt := 110) hx hb dX4_sees_87 (by decide) (fun c_5 => ?_) (fun c_5 => ?_)
      · exact k1  H locs ls ⟨(by first | exact Or.inl (by assumption) | exact Or.inr (by assumption)), (by first | exact Or.inl (by assumption) | exact Or.inr (by assumption))⟩ hP hD hS (lv_sub hl [1, 2, 3, 4, 5, 6, 0] rfl)
      · refine lv_aload_n hx hb dX4_sees_90 rfl (lv_at hl 1 rfl) ?_
        refine wR_get (v := .ref (ad 7)) (C := RX4) (T := TX4) (N := 18) (ci := 4) hx hb hts hinX4 hown hK hP 0 (by decide) rfl rfl 14 (by decide) (hts (.fieldLink RX4 36 "ChangeStreamModel" "of" "[I") (by decide +kernel)) rfl rfl dX4_sees_91 ?_
        refine lv_iload_n hx hb dX4_sees_94 rfl (lv_at hl 4 rfl) ?_
        refine lv_iconst (v := nI 3) hx hb dX4_sees_95 (by decide) ?_
        refine lv_iadd hx hb dX4_sees_96 ?_
        rw [nI_add]
        refine wR_ild (f := V 7) (v := (V 7) (12 * j + 3)) hx hb hK hP 7 0 (by decide) rfl rfl (nx_in (k := 12 * j + 3) rfl (by omega) (by decide)) (j := 12 * j + 3) (nx_cl rfl (by omega)) rfl dX4_sees_97 ?_
        refine lv_aload_n hx hb dX4_sees_98 rfl (lv_at hl 1 rfl) ?_
        refine wR_get (v := .ref (ad 2)) (C := RX4) (T := TX4) (N := 18) (ci := 4) hx hb hts hinX4 hown hK hP 0 (by decide) rfl rfl 3 (by decide) (hts (.fieldLink RX4 13 "ChangeStreamModel" "properties" "[I") (by decide +kernel)) rfl rfl dX4_sees_99 ?_
        refine lv_iload hx hb dX4_sees_102 (lv_at hl 6 rfl) ?_
        refine wR_ild (f := V 2) (v := (V 2) fi) hx hb hK hP 2 0 (by decide) rfl rfl (nx_in (k := fi) rfl (by omega) (by decide)) (j := fi) (nx_cl rfl (by omega)) rfl dX4_sees_104 ?_
        refine lv_icmp_eq (tgt := 110) hx hb dX4_sees_105 (by decide) (fun c_6 => ?_) (fun c_6 => ?_)
        · exact k1  H locs ls ⟨(by first | exact Or.inl (by assumption) | exact Or.inr (by assumption)), (by first | exact Or.inl (by assumption) | exact Or.inr (by assumption))⟩ hP hD hS (lv_sub hl [1, 2, 3, 4, 5, 6, 0] rfl)
        · exact k2  H locs ls (fun h9 => h9.2.elim c_5 c_6) hP hD hS (lv_sub hl [1, 2, 3, 4, 5, 6] rfl)

set_option maxHeartbeats 4000000 in
set_option maxRecDepth 100000 in
theorem lp_X4_sees {p : Program} (l : Launch) {e : Env} {s : State} {m : MethodId} {args : Array Value} {below : List Frame} {meth : Method} {c : Code} {Q : State → Prop} {A : Nat → Prop} (D : va_G) (cI cZ : ClassId) (ad : Nat → Nat) (I V : Nat → Nat → Int32) (j i fi rc9 : Nat) (cm : Int32) (hx : p.tables.exec = Jvm.exec) (hb : c.code = cX4_sees) (hml : c.maxLocals = 10) (hts : ∀ w ∈ wsX4_sees, w.before args s = true) (hown : s.vm.findClass RX4 = some m.cls) (hK : va_K D vwCl (mT cI cZ) s) (hA : ∀ q : Nat, s.heap.size ≤ q → A q) (hj : j < 6) (hi : i < 520) (hf2 : fi < 100) (hrc : V 7 (12 * j + 7) = nI rc9) (hrc4 : rc9 ≤ 40)  (kk : ∀ (H : Heap) (locs : List Loc) (ls : Array Slot), va_P D vwCl (mW cI cZ ad I V) H → va_D A (mW cI cZ ad I V) → va_S A s.heap H locs → lv_has ls 10 [(0, .ref (ad 0)), (1, .int (nI j)), (2, .int (nI i)), (3, .int (nI (12 * j))), (4, .int (V 5 (3 * i))), (5, .int (nI fi)), (6, .int cm), (7, .int (smR V j fi i rc9))] → W p l e ({ frames := 0, cells := 0, slots := 0, locals := 0 } : Room) s m args below meth c H locs 0 0 Q (F0 m 198 ls [])) : ∀ (fuel : Nat) (k : Nat) (H : Heap) (locs : List Loc) (ls : Array Slot), k ≤ rc9 → rc9 - k < fuel → va_P D vwCl (mW cI cZ ad I V) H → va_D A (mW cI cZ ad I V) → va_S A s.heap H locs → lv_has ls 10 [(0, .ref (ad 0)), (1, .int (nI j)), (2, .int (nI i)), (3, .int (nI (12 * j))), (4, .int (V 5 (3 * i))), (5, .int (nI fi)), (6, .int cm), (7, .int (smR V j fi i k)), (8, .int (nI k))] → W p l e ({ frames := 0, cells := 0, slots := 0, locals := 0 } : Room) s m args below meth c H locs 0 0 Q (F0 m 116 ls []) := by
  intro fuel
  induction fuel with
  | zero =>
    intro k H locs ls hk hfu
    exact absurd hfu (Nat.not_lt_zero _)
  | succ fuel ih =>
    intro k H locs ls hk hfu hP hD hS hl
    have hinX4 : ∀ w ∈ wsX40, w ∈ wsX4_sees := by decide +kernel
    refine lv_iload hx hb dX4_sees_116 (lv_at hl 8 rfl) ?_
    refine lv_aload_n hx hb dX4_sees_118 rfl (lv_at hl 0 rfl) ?_
    refine wR_get (v := .ref (ad 7)) (C := RX4) (T := TX4) (N := 18) (ci := 4) hx hb hts hinX4 hown hK hP 0 (by decide) rfl rfl 14 (by decide) (hts (.fieldLink RX4 36 "ChangeStreamModel" "of" "[I") (by decide +kernel)) rfl rfl dX4_sees_119 ?_
    refine lv_iload_n hx hb dX4_sees_122 rfl (lv_at hl 3 rfl) ?_
    refine lv_bipush (v := nI 7) hx hb dX4_sees_123 (by decide) ?_
    refine lv_iadd hx hb dX4_sees_125 ?_
    rw [nI_add]
    refine wR_ild (f := V 7) (v := nI rc9) hx hb hK hP 7 0 (by decide) rfl rfl (nx_in (k := 12 * j + 7) rfl (by omega) (by decide)) (j := 12 * j + 7) (nx_cl rfl (by omega)) hrc dX4_sees_126 ?_
    refine lv_icmp_ge (tgt := 198) hx hb dX4_sees_127 (by decide) (fun c_1 => ?_) (fun c_1 => ?_)
    · have c_1 : rc9 ≤ k := (nI_leI (a := rc9) (b := k) (by omega) (by omega)).mp c_1
      have hkr : k = rc9 := by omega
      subst hkr
      exact kk  H locs ls  hP hD hS (lv_sub hl [0, 1, 2, 3, 4, 5, 6, 7] rfl)
    · have c_1 : ¬ (rc9 ≤ k) := fun h9 => c_1 ((nI_leI (a := rc9) (b := k) (by omega) (by omega)).mpr h9)
      refine lv_iconst (v := nI 3) hx hb dX4_sees_130 (by decide) ?_
      refine lv_bipush (v := nI 40) hx hb dX4_sees_131 (by decide) ?_
      refine lv_iload_n hx hb dX4_sees_133 rfl (lv_at hl 1 rfl) ?_
      refine lv_imul hx hb dX4_sees_134 ?_
      rw [pk_mul]
      refine lv_iload hx hb dX4_sees_135 (lv_at hl 8 rfl) ?_
      refine lv_iadd hx hb dX4_sees_137 ?_
      rw [nI_add]
      refine lv_imul hx hb dX4_sees_138 ?_
      rw [pk_mul]
      refine lv_istore (lv' := [(9, .int (nI (3 * (40 * j + k)))), (0, .ref (ad 0)), (1, .int (nI j)), (2, .int (nI i)), (3, .int (nI (12 * j))), (4, .int (V 5 (3 * i))), (5, .int (nI fi)), (6, .int cm), (7, .int (smR V j fi i k)), (8, .int (nI k))]) hx hb dX4_sees_139 hl (by decide) rfl (fun ls hl => ?_)
      refine lv_aload_n hx hb dX4_sees_141 rfl (lv_at hl 1 rfl) ?_
      refine wR_get (v := .ref (ad 8)) (C := RX4) (T := TX4) (N := 18) (ci := 4) hx hb hts hinX4 hown hK hP 0 (by decide) rfl rfl 15 (by decide) (hts (.fieldLink RX4 39 "ChangeStreamModel" "rights" "[I") (by decide +kernel)) rfl rfl dX4_sees_142 ?_
      refine lv_iload hx hb dX4_sees_145 (lv_at hl 0 rfl) ?_
      refine wR_ild (f := V 8) (v := (V 8) (3 * (40 * j + k))) hx hb hK hP 8 0 (by decide) rfl rfl (nx_in (k := 3 * (40 * j + k)) rfl (by omega) (by decide)) (j := 3 * (40 * j + k)) (nx_cl rfl (by omega)) rfl dX4_sees_147 ?_
      refine lv_iload hx hb dX4_sees_148 (lv_at hl 6 rfl) ?_
      refine lv_icmp_ne (tgt := 188) hx hb dX4_sees_150 (by decide) (fun c_2 => ?_) (fun c_2 => ?_)
      · refine lv_iload hx hb dX4_sees_188 (lv_at hl 8 rfl) ?_
        refine lv_istore (lv' := [(7, .int (smR V j fi i k)), (9, .int (nI (3 * (40 * j + k)))), (0, .ref (ad 0)), (1, .int (nI j)), (2, .int (nI i)), (3, .int (nI (12 * j))), (4, .int (V 5 (3 * i))), (5, .int (nI fi)), (6, .int cm), (8, .int (nI k))]) hx hb dX4_sees_190 hl (by decide) rfl (fun ls hl => ?_)
        refine lv_iinc (v := nI (k + 1)) (lv' := [(8, .int (nI (k + 1))), (7, .int (smR V j fi i k)), (9, .int (nI (3 * (40 * j + k)))), (0, .ref (ad 0)), (1, .int (nI j)), (2, .int (nI i)), (3, .int (nI (12 * j))), (4, .int (V 5 (3 * i))), (5, .int (nI fi)), (6, .int cm)]) hx hb dX4_sees_192 hl (k := 9) rfl (nI_add _ 1) (by decide) rfl (fun ls hl => ?_)
        refine lv_goto (tgt := 116) hx hb dX4_sees_195 (by decide) ?_
        have e9 : smR V j fi i (k + 1) = smR V j fi i k := if_neg (fun h9 => c_2 h9.1)
        have hl : lv_has ls 10 [(0, .ref (ad 0)), (1, .int (nI j)), (2, .int (nI i)), (3, .int (nI (12 * j))), (4, .int (V 5 (3 * i))), (5, .int (nI fi)), (6, .int cm), (7, .int (smR V j fi i (k + 1))), (8, .int (nI (k + 1)))] := by rw [e9]; exact lv_sub hl [3, 4, 5, 6, 7, 8, 9, 1, 0] rfl
        exact ih (k + 1) H locs ls (by omega) (by omega) hP hD hS (lv_sub hl [0, 1, 2, 3, 4, 5, 6, 7, 8] rfl)
      · refine lv_aload_n hx hb dX4_sees_153 rfl (lv_at hl 1 rfl) ?_
        refine wR_get (v := .ref (ad 8)) (C := RX4) (T := TX4) (N := 18) (ci := 4) hx hb hts hinX4 hown hK hP 0 (by decide) rfl rfl 15 (by decide) (hts (.fieldLink RX4 39 "ChangeStreamModel" "rights" "[I") (by decide +kernel)) rfl rfl dX4_sees_154 ?_
        refine lv_iload hx hb dX4_sees_157 (lv_at hl 0 rfl) ?_
        refine lv_iconst (v := nI 1) hx hb dX4_sees_159 (by decide) ?_
        refine lv_iadd hx hb dX4_sees_160 ?_
        rw [nI_add]
        refine wR_ild (f := V 8) (v := (V 8) (3 * (40 * j + k) + 1)) hx hb hK hP 8 0 (by decide) rfl rfl (nx_in (k := 3 * (40 * j + k) + 1) rfl (by omega) (by decide)) (j := 3 * (40 * j + k) + 1) (nx_cl rfl (by omega)) rfl dX4_sees_161 ?_
        refine lv_iload hx hb dX4_sees_162 (lv_at hl 5 rfl) ?_
        refine lv_icmp_gt (tgt := 188) hx hb dX4_sees_164 (by decide) (fun c_3 => ?_) (fun c_3 => ?_)
        · refine lv_iload hx hb dX4_sees_188 (lv_at hl 8 rfl) ?_
          refine lv_istore (lv' := [(7, .int (smR V j fi i k)), (9, .int (nI (3 * (40 * j + k)))), (0, .ref (ad 0)), (1, .int (nI j)), (2, .int (nI i)), (3, .int (nI (12 * j))), (4, .int (V 5 (3 * i))), (5, .int (nI fi)), (6, .int cm), (8, .int (nI k))]) hx hb dX4_sees_190 hl (by decide) rfl (fun ls hl => ?_)
          refine lv_iinc (v := nI (k + 1)) (lv' := [(8, .int (nI (k + 1))), (7, .int (smR V j fi i k)), (9, .int (nI (3 * (40 * j + k)))), (0, .ref (ad 0)), (1, .int (nI j)), (2, .int (nI i)), (3, .int (nI (12 * j))), (4, .int (V 5 (3 * i))), (5, .int (nI fi)), (6, .int cm)]) hx hb dX4_sees_192 hl (k := 9) rfl (nI_add _ 1) (by decide) rfl (fun ls hl => ?_)
          refine lv_goto (tgt := 116) hx hb dX4_sees_195 (by decide) ?_
          have e9 : smR V j fi i (k + 1) = smR V j fi i k := if_neg (fun h9 => Int32.not_le.mpr c_3 h9.2)
          have hl : lv_has ls 10 [(0, .ref (ad 0)), (1, .int (nI j)), (2, .int (nI i)), (3, .int (nI (12 * j))), (4, .int (V 5 (3 * i))), (5, .int (nI fi)), (6, .int cm), (7, .int (smR V j fi i (k + 1))), (8, .int (nI (k + 1)))] := by rw [e9]; exact lv_sub hl [3, 4, 5, 6, 7, 8, 9, 1, 0] rfl
          exact ih (k + 1) H locs ls (by omega) (by omega) hP hD hS (lv_sub hl [0, 1, 2, 3, 4, 5, 6, 7, 8] rfl)
        · refine lv_aload_n hx hb dX4_sees_167 rfl (lv_at hl 1 rfl) ?_
          refine wR_get (v := .ref (ad 8)) (C := RX4) (T := TX4) (N := 18) (ci := 4) hx hb hts hinX4 hown hK hP 0 (by decide) rfl rfl 15 (by decide) (hts (.fieldLink RX4 39 "ChangeStreamModel" "rights" "[I") (by decide +kernel)) rfl rfl dX4_sees_168 ?_
          refine lv_iload hx hb dX4_sees_171 (lv_at hl 0 rfl) ?_
          refine lv_iconst (v := nI 2) hx hb dX4_sees_173 (by decide) ?_
          refine lv_iadd hx hb dX4_sees_174 ?_
          rw [nI_add]
          refine wR_ild (f := V 8) (v := (V 8) (3 * (40 * j + k) + 2)) hx hb hK hP 8 0 (by decide) rfl rfl (nx_in (k := 3 * (40 * j + k) + 2) rfl (by omega) (by decide)) (j := 3 * (40 * j + k) + 2) (nx_cl rfl (by omega)) rfl dX4_sees_175 ?_
          refine lv_iconst (v := nI 1) hx hb dX4_sees_176 (by decide) ?_
          refine lv_icmp_ne (tgt := 184) hx hb dX4_sees_177 (by decide) (fun c_4 => ?_) (fun c_4 => ?_)
          · refine lv_iconst (v := nI 0) hx hb dX4_sees_184 (by decide) ?_
            refine lv_goto (tgt := 190) hx hb dX4_sees_185 (by decide) ?_
            refine lv_istore (lv' := [(7, .int (nI 0)), (9, .int (nI (3 * (40 * j + k)))), (0, .ref (ad 0)), (1, .int (nI j)), (2, .int (nI i)), (3, .int (nI (12 * j))), (4, .int (V 5 (3 * i))), (5, .int (nI fi)), (6, .int cm), (8, .int (nI k))]) hx hb dX4_sees_190 hl (by decide) rfl (fun ls hl => ?_)
            refine lv_iinc (v := nI (k + 1)) (lv' := [(8, .int (nI (k + 1))), (7, .int (nI 0)), (9, .int (nI (3 * (40 * j + k)))), (0, .ref (ad 0)), (1, .int (nI j)), (2, .int (nI i)), (3, .int (nI (12 * j))), (4, .int (V 5 (3 * i))), (5, .int (nI fi)), (6, .int cm)]) hx hb dX4_sees_192 hl (k := 9) rfl (nI_add _ 1) (by decide) rfl (fun ls hl => ?_)
            refine lv_goto (tgt := 116) hx hb dX4_sees_195 (by decide) ?_
            have e9 : smR V j fi i (k + 1) = nI 0 := (if_pos ⟨c_2, Int32.not_lt.mp c_3⟩).trans (if_neg c_4)
            have hl : lv_has ls 10 [(0, .ref (ad 0)), (1, .int (nI j)), (2, .int (nI i)), (3, .int (nI (12 * j))), (4, .int (V 5 (3 * i))), (5, .int (nI fi)), (6, .int cm), (7, .int (smR V j fi i (k + 1))), (8, .int (nI (k + 1)))] := by rw [e9]; exact lv_sub hl [3, 4, 5, 6, 7, 8, 9, 1, 0] rfl
            exact ih (k + 1) H locs ls (by omega) (by omega) hP hD hS (lv_sub hl [0, 1, 2, 3, 4, 5, 6, 7, 8] rfl)
          · refine lv_iconst (v := nI 1) hx hb dX4_sees_180 (by decide) ?_
            refine lv_goto (tgt := 190) hx hb dX4_sees_181 (by decide) ?_
            refine lv_istore (lv' := [(7, .int (nI 1)), (9, .int (nI (3 * (40 * j + k)))), (0, .ref (ad 0)), (1, .int (nI j)), (2, .int (nI i)), (3, .int (nI (12 * j))), (4, .int (V 5 (3 * i))), (5, .int (nI fi)), (6, .int cm), (8, .int (nI k))]) hx hb dX4_sees_190 hl (by decide) rfl (fun ls hl => ?_)
            refine lv_iinc (v := nI (k + 1)) (lv' := [(8, .int (nI (k + 1))), (7, .int (nI 1)), (9, .int (nI (3 * (40 * j + k)))), (0, .ref (ad 0)), (1, .int (nI j)), (2, .int (nI i)), (3, .int (nI (12 * j))), (4, .int (V 5 (3 * i))), (5, .int (nI fi)), (6, .int cm)]) hx hb dX4_sees_192 hl (k := 9) rfl (nI_add _ 1) (by decide) rfl (fun ls hl => ?_)
            refine lv_goto (tgt := 116) hx hb dX4_sees_195 (by decide) ?_
            have e9 : smR V j fi i (k + 1) = nI 1 := (if_pos ⟨c_2, Int32.not_lt.mp c_3⟩).trans (if_pos c_4)
            have hl : lv_has ls 10 [(0, .ref (ad 0)), (1, .int (nI j)), (2, .int (nI i)), (3, .int (nI (12 * j))), (4, .int (V 5 (3 * i))), (5, .int (nI fi)), (6, .int cm), (7, .int (smR V j fi i (k + 1))), (8, .int (nI (k + 1)))] := by rw [e9]; exact lv_sub hl [3, 4, 5, 6, 7, 8, 9, 1, 0] rfl
            exact ih (k + 1) H locs ls (by omega) (by omega) hP hD hS (lv_sub hl [0, 1, 2, 3, 4, 5, 6, 7, 8] rfl)

set_option maxHeartbeats 4000000 in
set_option maxRecDepth 100000 in
/-- sees(j, i) -/
theorem c_X4_sees (l : Launch) (D : va_G) (cI cZ : ClassId) (ad : Nat → Nat) (I V : Nat → Nat → Int32) (sz : Nat) (j i fi rc9 kd : Nat) (hj : j < 6) (hi : i < 520) (hf2 : fi < 100) (hf1 : V 5 (3 * i + 1) = nI fi) (hrc : V 7 (12 * j + 7) = nI rc9) (hrc4 : rc9 ≤ 40) (hkd : V 7 (12 * j + 4) = nI kd) (hkd4 : kd ≤ 4) : Met l yX4_sees wsX4_sees ({ frames := 0, cells := 0, slots := 0, locals := 0 } : Room) (va_Pc [.ref (ad 0), .int (nI j), .int (nI i)] (wPre D vwCl (mT cI cZ) (mW cI cZ ad I V) sz wTrue)) (va_Qi (fun (r : Int32) (u : Unit) => r = sm V j rc9 kd fi i) (wPost D vwCl (mT cI cZ) (fun (u : Unit) => mW cI cZ ad I (smV V j rc9 kd fi i)) (va_A (mW cI cZ ad I V) sz)) (va_A (mW cI cZ ad I V) sz)) 0 0 (va_A (mW cI cZ ad I V) sz) := by
  refine Met.ofW (cc := cX4_sees) (maxL := 10) (ret := (some .boolean)) (by decide) rfl ?_
  intro p e s m args below meth c s₁ B hml hv
  obtain ⟨rfl, hsz, hP, hK, hD0, hE⟩ := hv
  have hx := B.exec
  have hb := B.bytes
  have hr := B.returns
  have hts := atoms_spec (ws := wsX4_sees) B.pre
  have hown : s.vm.findClass RX4 = some m.cls := findClass_of_methodNamed B.named
  have hlocks := B.notSynchronized
  subst hsz
  have hD := hD0.self (sz := s.heap.size)
  generalize hAe : va_A (mW cI cZ ad I V) s.heap.size = A at hD ⊢
  have hA : ∀ q : Nat, s.heap.size ≤ q → A q := fun q h => by rw [← hAe]; exact Or.inr h
  have hS : va_S A s.heap s.heap [] := va_S.rf
  have hinX4 : ∀ w ∈ wsX40, w ∈ wsX4_sees := by decide +kernel
  have hl := lv_entry ([.ref (ad 0), .int (nI j), .int (nI i)]) (n := 10) (Nat.le_of_ble_eq_true rfl)
  rw [lg_entry_eq]
  generalize (lg_sl ([.ref (ad 0), .int (nI j), .int (nI i)]) ++ List.replicate (10 - (lg_sl ([.ref (ad 0), .int (nI j), .int (nI i)])).length) Slot.unset).toArray = ls at hl ⊢
  have hl : lv_has ls 10 [(0, .ref (ad 0)), (1, .int (nI j)), (2, .int (nI i))] := hl
  refine lv_bipush (v := nI 12) hx hb dX4_sees_0 (by decide) ?_
  refine lv_iload_n hx hb dX4_sees_2 rfl (lv_at hl 1 rfl) ?_
  refine lv_imul hx hb dX4_sees_3 ?_
  rw [pk_mul]
  refine lv_istore_n (lv' := [(3, .int (nI (12 * j))), (0, .ref (ad 0)), (1, .int (nI j)), (2, .int (nI i))]) hx hb dX4_sees_4 rfl hl (by decide) rfl (fun ls hl => ?_)
  refine lv_aload_n hx hb dX4_sees_5 rfl (lv_at hl 1 rfl) ?_
  refine wR_get (v := .ref (ad 5)) (C := RX4) (T := TX4) (N := 18) (ci := 4) hx hb hts hinX4 hown hK hP 0 (by decide) rfl rfl 8 (by decide) (hts (.fieldLink RX4 23 "ChangeStreamModel" "table" "[I") (by decide +kernel)) rfl rfl dX4_sees_6 ?_
  refine lv_iconst (v := nI 3) hx hb dX4_sees_9 (by decide) ?_
  refine lv_iload_n hx hb dX4_sees_10 rfl (lv_at hl 3 rfl) ?_
  refine lv_imul hx hb dX4_sees_11 ?_
  rw [pk_mul]
  refine wR_ild (f := V 5) (v := (V 5) (3 * i)) hx hb hK hP 5 0 (by decide) rfl rfl (nx_in (k := 3 * i) rfl (by omega) (by decide)) (j := 3 * i) (nx_cl rfl (by omega)) rfl dX4_sees_12 ?_
  refine lv_istore (lv' := [(4, .int ((V 5) (3 * i))), (3, .int (nI (12 * j))), (0, .ref (ad 0)), (1, .int (nI j)), (2, .int (nI i))]) hx hb dX4_sees_13 hl (by decide) rfl (fun ls hl => ?_)
  refine lv_aload_n hx hb dX4_sees_15 rfl (lv_at hl 2 rfl) ?_
  refine wR_get (v := .ref (ad 5)) (C := RX4) (T := TX4) (N := 18) (ci := 4) hx hb hts hinX4 hown hK hP 0 (by decide) rfl rfl 8 (by decide) (hts (.fieldLink RX4 23 "ChangeStreamModel" "table" "[I") (by decide +kernel)) rfl rfl dX4_sees_16 ?_
  refine lv_iconst (v := nI 3) hx hb dX4_sees_19 (by decide) ?_
  refine lv_iload_n hx hb dX4_sees_20 rfl (lv_at hl 4 rfl) ?_
  refine lv_imul hx hb dX4_sees_21 ?_
  rw [pk_mul]
  refine lv_iconst (v := nI 1) hx hb dX4_sees_22 (by decide) ?_
  refine lv_iadd hx hb dX4_sees_23 ?_
  rw [nI_add]
  refine wR_ild (f := V 5) (v := nI fi) hx hb hK hP 5 0 (by decide) rfl rfl (nx_in (k := 3 * i + 1) rfl (by omega) (by decide)) (j := 3 * i + 1) (nx_cl rfl (by omega)) hf1 dX4_sees_24 ?_
  refine lv_istore (lv' := [(5, .int (nI fi)), (4, .int ((V 5) (3 * i))), (3, .int (nI (12 * j))), (0, .ref (ad 0)), (1, .int (nI j)), (2, .int (nI i))]) hx hb dX4_sees_25 hl (by decide) rfl (fun ls hl => ?_)
  refine lv_aload_n hx hb dX4_sees_27 rfl (lv_at hl 3 rfl) ?_
  refine wR_get (v := .ref (ad 5)) (C := RX4) (T := TX4) (N := 18) (ci := 4) hx hb hts hinX4 hown hK hP 0 (by decide) rfl rfl 8 (by decide) (hts (.fieldLink RX4 23 "ChangeStreamModel" "table" "[I") (by decide +kernel)) rfl rfl dX4_sees_28 ?_
  refine lv_iconst (v := nI 3) hx hb dX4_sees_31 (by decide) ?_
  refine lv_iload_n hx hb dX4_sees_32 rfl (lv_at hl 5 rfl) ?_
  refine lv_imul hx hb dX4_sees_33 ?_
  rw [pk_mul]
  refine lv_iconst (v := nI 2) hx hb dX4_sees_34 (by decide) ?_
  refine lv_iadd hx hb dX4_sees_35 ?_
  rw [nI_add]
  refine wR_ild (f := V 5) (v := (V 5) (3 * i + 2)) hx hb hK hP 5 0 (by decide) rfl rfl (nx_in (k := 3 * i + 2) rfl (by omega) (by decide)) (j := 3 * i + 2) (nx_cl rfl (by omega)) rfl dX4_sees_36 ?_
  refine lv_iconst (v := nI 1) hx hb dX4_sees_37 (by decide) ?_
  refine lv_icmp_ne (tgt := 45) hx hb dX4_sees_38 (by decide) (fun c_1 => ?_) (fun c_1 => ?_)
  · refine lv_iconst (v := nI 0) hx hb dX4_sees_45 (by decide) ?_
    have hcm : smC V i = nI 0 := if_neg c_1
    refine sg_X4_sees l D cI cZ ad I V j i fi (nI 0) hx hb hml hts hown hK hA hj hi hf2 (fun H locs ls hs hP hD hS hl => ?_) (fun H locs ls hs hP hD hS hl => ?_) s.heap [] ls hP hD hS (lv_sub hl [3, 4, 5, 2, 1, 0] rfl)
    · refine lv_iconst (v := nI 1) hx hb dX4_sees_110 (by decide) ?_
      refine lv_istore (lv' := [(7, .int (nI 1)), (0, .ref (ad 0)), (1, .int (nI j)), (2, .int (nI i)), (3, .int (nI (12 * j))), (4, .int ((V 5) (3 * i))), (5, .int (nI fi)), (6, .int (nI 0))]) hx hb dX4_sees_111 hl (by decide) rfl (fun ls hl => ?_)
      refine lv_iconst (v := nI 0) hx hb dX4_sees_113 (by decide) ?_
      refine lv_istore (lv' := [(8, .int (nI 0)), (7, .int (nI 1)), (0, .ref (ad 0)), (1, .int (nI j)), (2, .int (nI i)), (3, .int (nI (12 * j))), (4, .int ((V 5) (3 * i))), (5, .int (nI fi)), (6, .int (nI 0))]) hx hb dX4_sees_114 hl (by decide) rfl (fun ls hl => ?_)
      refine lp_X4_sees l D cI cZ ad I V j i fi rc9 (nI 0) hx hb hml hts hown hK hA hj hi hf2 hrc hrc4 (fun  H locs ls  hP hD hS hl => ?_) (rc9 + 1) 0 H locs ls (by omega) (by omega) hP hD hS (lv_sub hl [2, 3, 4, 5, 6, 7, 8, 1, 0] rfl)
      refine lv_iload hx hb dX4_sees_198 (lv_at hl 7 rfl) ?_
      refine lv_if_ne (tgt := 205) hx hb dX4_sees_200 (by decide) (fun c_2 => ?_) (fun c_2 => ?_)
      · refine lv_aload_n hx hb dX4_sees_205 rfl (lv_at hl 0 rfl) ?_
        refine wR_get (v := .ref (ad 7)) (C := RX4) (T := TX4) (N := 18) (ci := 4) hx hb hts hinX4 hown hK hP 0 (by decide) rfl rfl 14 (by decide) (hts (.fieldLink RX4 36 "ChangeStreamModel" "of" "[I") (by decide +kernel)) rfl rfl dX4_sees_206 ?_
        refine lv_iload_n hx hb dX4_sees_209 rfl (lv_at hl 3 rfl) ?_
        refine lv_iconst (v := nI 5) hx hb dX4_sees_210 (by decide) ?_
        refine lv_iadd hx hb dX4_sees_211 ?_
        rw [nI_add]
        refine wR_ild (f := V 7) (v := (V 7) (12 * j + 5)) hx hb hK hP 7 0 (by decide) rfl rfl (nx_in (k := 12 * j + 5) rfl (by omega) (by decide)) (j := 12 * j + 5) (nx_cl rfl (by omega)) rfl dX4_sees_212 ?_
        refine lv_istore (lv' := [(8, .int ((V 7) (12 * j + 5))), (0, .ref (ad 0)), (1, .int (nI j)), (2, .int (nI i)), (3, .int (nI (12 * j))), (4, .int (V 5 (3 * i))), (5, .int (nI fi)), (6, .int (nI 0)), (7, .int (smR V j fi i rc9))]) hx hb dX4_sees_213 hl (by decide) rfl (fun ls hl => ?_)
        refine lv_aload_n hx hb dX4_sees_215 rfl (lv_at hl 1 rfl) ?_
        refine wR_get (v := .ref (ad 7)) (C := RX4) (T := TX4) (N := 18) (ci := 4) hx hb hts hinX4 hown hK hP 0 (by decide) rfl rfl 14 (by decide) (hts (.fieldLink RX4 36 "ChangeStreamModel" "of" "[I") (by decide +kernel)) rfl rfl dX4_sees_216 ?_
        refine lv_iload_n hx hb dX4_sees_219 rfl (lv_at hl 4 rfl) ?_
        refine lv_iconst (v := nI 4) hx hb dX4_sees_220 (by decide) ?_
        refine lv_iadd hx hb dX4_sees_221 ?_
        rw [nI_add]
        refine wR_ild (f := V 7) (v := nI kd) hx hb hK hP 7 0 (by decide) rfl rfl (nx_in (k := 12 * j + 4) rfl (by omega) (by decide)) (j := 12 * j + 4) (nx_cl rfl (by omega)) hkd dX4_sees_222 ?_
        rcases (show kd = 0 ∨ kd = 1 ∨ kd = 2 ∨ kd = 3 ∨ kd = 4 by omega) with rfl | rfl | rfl | rfl | rfl
        · refine lv_tableIn (tgt := 252) hx hb dX4_sees_223 (by decide) (by decide) (off := 29) (by decide) (by decide) ?_
          refine lv_iconst (v := nI 1) hx hb dX4_sees_252 (by decide) ?_
          have hEV : (V : Nat → Nat → Int32) = smV V j rc9 0 fi i := by unfold smV; rw [if_neg (fun h => absurd h.2.2 (by decide))]
          have hP : va_P D vwCl (mW cI cZ ad I (smV V j rc9 0 fi i)) H := by rw [← hEV]; exact hP
          have hD : va_D A (mW cI cZ ad I (smV V j rc9 0 fi i)) := by rw [← hEV]; exact hD
          exact W.zret (v := nI 1) hx hb hr rfl (fun t ht hW => ⟨⟨nI 1, (), rfl, (by unfold sm; rw [if_pos hs, if_neg c_2]; rfl), by rw [ht]; exact hP, va_K.moved hW.alike hK, hD⟩, hS.F ht⟩) hS.2.2 dX4_sees_253
        · refine lv_tableIn (tgt := 254) hx hb dX4_sees_223 (by decide) (by decide) (off := 31) (by decide) (by decide) ?_
          refine lv_iload hx hb dX4_sees_254 (lv_at hl 7 rfl) ?_
          have hEV : (V : Nat → Nat → Int32) = smV V j rc9 1 fi i := by unfold smV; rw [if_neg (fun h => absurd h.2.2 (by decide))]
          have hP : va_P D vwCl (mW cI cZ ad I (smV V j rc9 1 fi i)) H := by rw [← hEV]; exact hP
          have hD : va_D A (mW cI cZ ad I (smV V j rc9 1 fi i)) := by rw [← hEV]; exact hD
          exact W.zret (v := nI 0) hx hb hr rfl (fun t ht hW => ⟨⟨nI 0, (), rfl, (by unfold sm; rw [if_pos hs, if_neg c_2]; rw [hcm]; rfl), by rw [ht]; exact hP, va_K.moved hW.alike hK, hD⟩, hS.F ht⟩) hS.2.2 dX4_sees_256
        · refine lv_tableIn (tgt := 257) hx hb dX4_sees_223 (by decide) (by decide) (off := 34) (by decide) (by decide) ?_
          refine lv_iload hx hb dX4_sees_257 (lv_at hl 7 rfl) ?_
          refine lv_if_ne (tgt := 266) hx hb dX4_sees_259 (by decide) (fun c_3 => ?_) (fun c_3 => ?_)
          · exact absurd (by decide) c_3
          · refine lv_iconst (v := nI 1) hx hb dX4_sees_262 (by decide) ?_
            refine lv_goto (tgt := 267) hx hb dX4_sees_263 (by decide) ?_
            have hEV : (V : Nat → Nat → Int32) = smV V j rc9 2 fi i := by unfold smV; rw [if_neg (fun h => absurd h.2.2 (by decide))]
            have hP : va_P D vwCl (mW cI cZ ad I (smV V j rc9 2 fi i)) H := by rw [← hEV]; exact hP
            have hD : va_D A (mW cI cZ ad I (smV V j rc9 2 fi i)) := by rw [← hEV]; exact hD
            exact W.zret (v := nI 1) hx hb hr rfl (fun t ht hW => ⟨⟨nI 1, (), rfl, (by unfold sm; rw [if_pos hs, if_neg c_2]; rw [hcm]; rfl), by rw [ht]; exact hP, va_K.moved hW.alike hK, hD⟩, hS.F ht⟩) hS.2.2 dX4_sees_267
        · refine lv_tableIn (tgt := 268) hx hb dX4_sees_223 (by decide) (by decide) (off := 45) (by decide) (by decide) ?_
          refine lv_iload hx hb dX4_sees_268 (lv_at hl 6 rfl) ?_
          refine lv_iload hx hb dX4_sees_270 (lv_at hl 0 rfl) ?_
          refine lv_icmp_ge (tgt := 279) hx hb dX4_sees_272 (by decide) (fun c_4 => ?_) (fun c_4 => ?_)
          · refine lv_iconst (v := nI 0) hx hb dX4_sees_279 (by decide) ?_
            have hEV : (V : Nat → Nat → Int32) = smV V j rc9 3 fi i := by unfold smV; rw [if_neg (fun h => absurd h.2.2 (by decide))]
            have hP : va_P D vwCl (mW cI cZ ad I (smV V j rc9 3 fi i)) H := by rw [← hEV]; exact hP
            have hD : va_D A (mW cI cZ ad I (smV V j rc9 3 fi i)) := by rw [← hEV]; exact hD
            exact W.zret (v := nI 0) hx hb hr rfl (fun t ht hW => ⟨⟨nI 0, (), rfl, (by unfold sm; rw [if_pos hs, if_neg c_2]; show _ = if nI fi < V 7 (12 * j + 5) then (1 : Int32) else 0; rw [if_neg (Int32.not_lt.mpr c_4)]; rfl), by rw [ht]; exact hP, va_K.moved hW.alike hK, hD⟩, hS.F ht⟩) hS.2.2 dX4_sees_280
          · refine lv_iconst (v := nI 1) hx hb dX4_sees_275 (by decide) ?_
            refine lv_goto (tgt := 280) hx hb dX4_sees_276 (by decide) ?_
            have hEV : (V : Nat → Nat → Int32) = smV V j rc9 3 fi i := by unfold smV; rw [if_neg (fun h => absurd h.2.2 (by decide))]
            have hP : va_P D vwCl (mW cI cZ ad I (smV V j rc9 3 fi i)) H := by rw [← hEV]; exact hP
            have hD : va_D A (mW cI cZ ad I (smV V j rc9 3 fi i)) := by rw [← hEV]; exact hD
            exact W.zret (v := nI 1) hx hb hr rfl (fun t ht hW => ⟨⟨nI 1, (), rfl, (by unfold sm; rw [if_pos hs, if_neg c_2]; show _ = if nI fi < V 7 (12 * j + 5) then (1 : Int32) else 0; rw [if_pos (Int32.not_le.mp c_4)]; rfl), by rw [ht]; exact hP, va_K.moved hW.alike hK, hD⟩, hS.F ht⟩) hS.2.2 dX4_sees_280
        · refine lv_tableOut (tgt := 281) hx hb dX4_sees_223 (by decide) (by decide) ?_
          refine lv_aload_n hx hb dX4_sees_281 rfl (lv_at hl 1 rfl) ?_
          refine wR_get (v := .ref (ad 7)) (C := RX4) (T := TX4) (N := 18) (ci := 4) hx hb hts hinX4 hown hK hP 0 (by decide) rfl rfl 14 (by decide) (hts (.fieldLink RX4 36 "ChangeStreamModel" "of" "[I") (by decide +kernel)) rfl rfl dX4_sees_282 ?_
          refine lv_iload_n hx hb dX4_sees_285 rfl (lv_at hl 4 rfl) ?_
          refine lv_bipush (v := nI 9) hx hb dX4_sees_286 (by decide) ?_
          refine lv_iadd hx hb dX4_sees_288 ?_
          rw [nI_add]
          refine lv_dup2_11 hx hb dX4_sees_289 rfl rfl ?_
          refine wR_ild (f := V 7) (v := (V 7) (12 * j + 9)) hx hb hK hP 7 0 (by decide) rfl rfl (nx_in (k := 12 * j + 9) rfl (by omega) (by decide)) (j := 12 * j + 9) (nx_cl rfl (by omega)) rfl dX4_sees_290 ?_
          refine lv_iload hx hb dX4_sees_291 (lv_at hl 0 rfl) ?_
          refine lv_if_ne (tgt := 300) hx hb dX4_sees_293 (by decide) (fun c_5 => ?_) (fun c_5 => ?_)
          · refine lv_iconst (v := nI 0) hx hb dX4_sees_300 (by decide) ?_
            refine lv_iadd hx hb dX4_sees_301 ?_
            refine wR_ist (f := V 7) hx hb hK hP hD hS 7 0 (by decide) rfl rfl (nx_in (k := 12 * j + 9) rfl (by omega) (by decide)) (j := 12 * j + 9) (nx_cl rfl (by omega)) rfl dX4_sees_302 (fun H locs hP hD hS => ?_)
            refine lv_iload hx hb dX4_sees_303 (lv_at hl 0 rfl) ?_
            refine lv_if_eq (tgt := 316) hx hb dX4_sees_305 (by decide) (fun c_6 => ?_) (fun c_6 => ?_)
            · exact absurd c_6 c_5
            · refine lv_iload hx hb dX4_sees_308 (lv_at hl 6 rfl) ?_
              refine lv_iload hx hb dX4_sees_310 (lv_at hl 0 rfl) ?_
              refine lv_irem hx hb dX4_sees_312 c_5 ?_
              refine lv_if_ne (tgt := 320) hx hb dX4_sees_313 (by decide) (fun c_7 => ?_) (fun c_7 => ?_)
              · refine lv_iconst (v := nI 0) hx hb dX4_sees_320 (by decide) ?_
                have hEV : (va_up V 7 (va_up (V 7) (12 * j + 9) (((V 7) (12 * j + 9)) + (nI 0))) : Nat → Nat → Int32) = smV V j rc9 4 fi i := by unfold smV; rw [if_pos ⟨hs, c_2, rfl⟩, if_neg c_5]; rfl
                have hP : va_P D vwCl (mW cI cZ ad I (smV V j rc9 4 fi i)) H := by rw [← hEV]; exact hP
                have hD : va_D A (mW cI cZ ad I (smV V j rc9 4 fi i)) := by rw [← hEV]; exact hD
                exact W.zret (v := nI 0) hx hb hr rfl (fun t ht hW => ⟨⟨nI 0, (), rfl, (by unfold sm; rw [if_pos hs, if_neg c_2]; show _ = if V 7 (12 * j + 5) = 0 then (1 : Int32) else if nI fi - nI fi / V 7 (12 * j + 5) * V 7 (12 * j + 5) = 0 then 1 else 0; rw [if_neg c_5, if_neg c_7]; rfl), by rw [ht]; exact hP, va_K.moved hW.alike hK, hD⟩, hS.F ht⟩) hS.2.2 dX4_sees_321
              · refine lv_iconst (v := nI 1) hx hb dX4_sees_316 (by decide) ?_
                refine lv_goto (tgt := 321) hx hb dX4_sees_317 (by decide) ?_
                have hEV : (va_up V 7 (va_up (V 7) (12 * j + 9) (((V 7) (12 * j + 9)) + (nI 0))) : Nat → Nat → Int32) = smV V j rc9 4 fi i := by unfold smV; rw [if_pos ⟨hs, c_2, rfl⟩, if_neg c_5]; rfl
                have hP : va_P D vwCl (mW cI cZ ad I (smV V j rc9 4 fi i)) H := by rw [← hEV]; exact hP
                have hD : va_D A (mW cI cZ ad I (smV V j rc9 4 fi i)) := by rw [← hEV]; exact hD
                exact W.zret (v := nI 1) hx hb hr rfl (fun t ht hW => ⟨⟨nI 1, (), rfl, (by unfold sm; rw [if_pos hs, if_neg c_2]; show _ = if V 7 (12 * j + 5) = 0 then (1 : Int32) else if nI fi - nI fi / V 7 (12 * j + 5) * V 7 (12 * j + 5) = 0 then 1 else 0; rw [if_neg c_5, if_pos c_7]; rfl), by rw [ht]; exact hP, va_K.moved hW.alike hK, hD⟩, hS.F ht⟩) hS.2.2 dX4_sees_321
          · refine lv_iconst (v := nI 1) hx hb dX4_sees_296 (by decide) ?_
            refine lv_goto (tgt := 301) hx hb dX4_sees_297 (by decide) ?_
            refine lv_iadd hx hb dX4_sees_301 ?_
            refine wR_ist (f := V 7) hx hb hK hP hD hS 7 0 (by decide) rfl rfl (nx_in (k := 12 * j + 9) rfl (by omega) (by decide)) (j := 12 * j + 9) (nx_cl rfl (by omega)) rfl dX4_sees_302 (fun H locs hP hD hS => ?_)
            refine lv_iload hx hb dX4_sees_303 (lv_at hl 0 rfl) ?_
            refine lv_if_eq (tgt := 316) hx hb dX4_sees_305 (by decide) (fun c_8 => ?_) (fun c_8 => ?_)
            · refine lv_iconst (v := nI 1) hx hb dX4_sees_316 (by decide) ?_
              refine lv_goto (tgt := 321) hx hb dX4_sees_317 (by decide) ?_
              have hEV : (va_up V 7 (va_up (V 7) (12 * j + 9) (((V 7) (12 * j + 9)) + (nI 1))) : Nat → Nat → Int32) = smV V j rc9 4 fi i := by unfold smV; rw [if_pos ⟨hs, c_2, rfl⟩, if_pos c_5]; rfl
              have hP : va_P D vwCl (mW cI cZ ad I (smV V j rc9 4 fi i)) H := by rw [← hEV]; exact hP
              have hD : va_D A (mW cI cZ ad I (smV V j rc9 4 fi i)) := by rw [← hEV]; exact hD
              exact W.zret (v := nI 1) hx hb hr rfl (fun t ht hW => ⟨⟨nI 1, (), rfl, (by unfold sm; rw [if_pos hs, if_neg c_2]; show _ = if V 7 (12 * j + 5) = 0 then (1 : Int32) else if nI fi - nI fi / V 7 (12 * j + 5) * V 7 (12 * j + 5) = 0 then 1 else 0; rw [if_pos c_5]; rfl), by rw [ht]; exact hP, va_K.moved hW.alike hK, hD⟩, hS.F ht⟩) hS.2.2 dX4_sees_321
            · exact absurd c_5 c_8
      · refine lv_iconst (v := nI 0) hx hb dX4_sees_203 (by decide) ?_
        have hEV : (V : Nat → Nat → Int32) = smV V j rc9 kd fi i := by unfold smV; rw [if_neg (fun h => h.2.1 c_2)]
        have hP : va_P D vwCl (mW cI cZ ad I (smV V j rc9 kd fi i)) H := by rw [← hEV]; exact hP
        have hD : va_D A (mW cI cZ ad I (smV V j rc9 kd fi i)) := by rw [← hEV]; exact hD
        exact W.zret (v := nI 0) hx hb hr rfl (fun t ht hW => ⟨⟨nI 0, (), rfl, (by unfold sm; rw [if_pos hs, if_pos c_2]; rfl), by rw [ht]; exact hP, va_K.moved hW.alike hK, hD⟩, hS.F ht⟩) hS.2.2 dX4_sees_204
    · refine lv_iconst (v := nI 0) hx hb dX4_sees_108 (by decide) ?_
      have hEV : (V : Nat → Nat → Int32) = smV V j rc9 kd fi i := by unfold smV; rw [if_neg (fun h => hs h.1)]
      have hP : va_P D vwCl (mW cI cZ ad I (smV V j rc9 kd fi i)) H := by rw [← hEV]; exact hP
      have hD : va_D A (mW cI cZ ad I (smV V j rc9 kd fi i)) := by rw [← hEV]; exact hD
      exact W.zret (v := nI 0) hx hb hr rfl (fun t ht hW => ⟨⟨nI 0, (), rfl, (by unfold sm; rw [if_neg hs]; rfl), by rw [ht]; exact hP, va_K.moved hW.alike hK, hD⟩, hS.F ht⟩) hS.2.2 dX4_sees_109
  · refine lv_iconst (v := nI 1) hx hb dX4_sees_41 (by decide) ?_
    refine lv_goto (tgt := 46) hx hb dX4_sees_42 (by decide) ?_
    have hcm : smC V i = nI 1 := if_pos c_1
    refine sg_X4_sees l D cI cZ ad I V j i fi (nI 1) hx hb hml hts hown hK hA hj hi hf2 (fun H locs ls hs hP hD hS hl => ?_) (fun H locs ls hs hP hD hS hl => ?_) s.heap [] ls hP hD hS (lv_sub hl [3, 4, 5, 2, 1, 0] rfl)
    · refine lv_iconst (v := nI 1) hx hb dX4_sees_110 (by decide) ?_
      refine lv_istore (lv' := [(7, .int (nI 1)), (0, .ref (ad 0)), (1, .int (nI j)), (2, .int (nI i)), (3, .int (nI (12 * j))), (4, .int ((V 5) (3 * i))), (5, .int (nI fi)), (6, .int (nI 1))]) hx hb dX4_sees_111 hl (by decide) rfl (fun ls hl => ?_)
      refine lv_iconst (v := nI 0) hx hb dX4_sees_113 (by decide) ?_
      refine lv_istore (lv' := [(8, .int (nI 0)), (7, .int (nI 1)), (0, .ref (ad 0)), (1, .int (nI j)), (2, .int (nI i)), (3, .int (nI (12 * j))), (4, .int ((V 5) (3 * i))), (5, .int (nI fi)), (6, .int (nI 1))]) hx hb dX4_sees_114 hl (by decide) rfl (fun ls hl => ?_)
      refine lp_X4_sees l D cI cZ ad I V j i fi rc9 (nI 1) hx hb hml hts hown hK hA hj hi hf2 hrc hrc4 (fun  H locs ls  hP hD hS hl => ?_) (rc9 + 1) 0 H locs ls (by omega) (by omega) hP hD hS (lv_sub hl [2, 3, 4, 5, 6, 7, 8, 1, 0] rfl)
      refine lv_iload hx hb dX4_sees_198 (lv_at hl 7 rfl) ?_
      refine lv_if_ne (tgt := 205) hx hb dX4_sees_200 (by decide) (fun c_9 => ?_) (fun c_9 => ?_)
      · refine lv_aload_n hx hb dX4_sees_205 rfl (lv_at hl 0 rfl) ?_
        refine wR_get (v := .ref (ad 7)) (C := RX4) (T := TX4) (N := 18) (ci := 4) hx hb hts hinX4 hown hK hP 0 (by decide) rfl rfl 14 (by decide) (hts (.fieldLink RX4 36 "ChangeStreamModel" "of" "[I") (by decide +kernel)) rfl rfl dX4_sees_206 ?_
        refine lv_iload_n hx hb dX4_sees_209 rfl (lv_at hl 3 rfl) ?_
        refine lv_iconst (v := nI 5) hx hb dX4_sees_210 (by decide) ?_
        refine lv_iadd hx hb dX4_sees_211 ?_
        rw [nI_add]
        refine wR_ild (f := V 7) (v := (V 7) (12 * j + 5)) hx hb hK hP 7 0 (by decide) rfl rfl (nx_in (k := 12 * j + 5) rfl (by omega) (by decide)) (j := 12 * j + 5) (nx_cl rfl (by omega)) rfl dX4_sees_212 ?_
        refine lv_istore (lv' := [(8, .int ((V 7) (12 * j + 5))), (0, .ref (ad 0)), (1, .int (nI j)), (2, .int (nI i)), (3, .int (nI (12 * j))), (4, .int (V 5 (3 * i))), (5, .int (nI fi)), (6, .int (nI 1)), (7, .int (smR V j fi i rc9))]) hx hb dX4_sees_213 hl (by decide) rfl (fun ls hl => ?_)
        refine lv_aload_n hx hb dX4_sees_215 rfl (lv_at hl 1 rfl) ?_
        refine wR_get (v := .ref (ad 7)) (C := RX4) (T := TX4) (N := 18) (ci := 4) hx hb hts hinX4 hown hK hP 0 (by decide) rfl rfl 14 (by decide) (hts (.fieldLink RX4 36 "ChangeStreamModel" "of" "[I") (by decide +kernel)) rfl rfl dX4_sees_216 ?_
        refine lv_iload_n hx hb dX4_sees_219 rfl (lv_at hl 4 rfl) ?_
        refine lv_iconst (v := nI 4) hx hb dX4_sees_220 (by decide) ?_
        refine lv_iadd hx hb dX4_sees_221 ?_
        rw [nI_add]
        refine wR_ild (f := V 7) (v := nI kd) hx hb hK hP 7 0 (by decide) rfl rfl (nx_in (k := 12 * j + 4) rfl (by omega) (by decide)) (j := 12 * j + 4) (nx_cl rfl (by omega)) hkd dX4_sees_222 ?_
        rcases (show kd = 0 ∨ kd = 1 ∨ kd = 2 ∨ kd = 3 ∨ kd = 4 by omega) with rfl | rfl | rfl | rfl | rfl
        · refine lv_tableIn (tgt := 252) hx hb dX4_sees_223 (by decide) (by decide) (off := 29) (by decide) (by decide) ?_
          refine lv_iconst (v := nI 1) hx hb dX4_sees_252 (by decide) ?_
          have hEV : (V : Nat → Nat → Int32) = smV V j rc9 0 fi i := by unfold smV; rw [if_neg (fun h => absurd h.2.2 (by decide))]
          have hP : va_P D vwCl (mW cI cZ ad I (smV V j rc9 0 fi i)) H := by rw [← hEV]; exact hP
          have hD : va_D A (mW cI cZ ad I (smV V j rc9 0 fi i)) := by rw [← hEV]; exact hD
          exact W.zret (v := nI 1) hx hb hr rfl (fun t ht hW => ⟨⟨nI 1, (), rfl, (by unfold sm; rw [if_pos hs, if_neg c_9]; rfl), by rw [ht]; exact hP, va_K.moved hW.alike hK, hD⟩, hS.F ht⟩) hS.2.2 dX4_sees_253
        · refine lv_tableIn (tgt := 254) hx hb dX4_sees_223 (by decide) (by decide) (off := 31) (by decide) (by decide) ?_
          refine lv_iload hx hb dX4_sees_254 (lv_at hl 7 rfl) ?_
          have hEV : (V : Nat → Nat → Int32) = smV V j rc9 1 fi i := by unfold smV; rw [if_neg (fun h => absurd h.2.2 (by decide))]
          have hP : va_P D vwCl (mW cI cZ ad I (smV V j rc9 1 fi i)) H := by rw [← hEV]; exact hP
          have hD : va_D A (mW cI cZ ad I (smV V j rc9 1 fi i)) := by rw [← hEV]; exact hD
          exact W.zret (v := nI 1) hx hb hr rfl (fun t ht hW => ⟨⟨nI 1, (), rfl, (by unfold sm; rw [if_pos hs, if_neg c_9]; rw [hcm]; rfl), by rw [ht]; exact hP, va_K.moved hW.alike hK, hD⟩, hS.F ht⟩) hS.2.2 dX4_sees_256
        · refine lv_tableIn (tgt := 257) hx hb dX4_sees_223 (by decide) (by decide) (off := 34) (by decide) (by decide) ?_
          refine lv_iload hx hb dX4_sees_257 (lv_at hl 7 rfl) ?_
          refine lv_if_ne (tgt := 266) hx hb dX4_sees_259 (by decide) (fun c_10 => ?_) (fun c_10 => ?_)
          · refine lv_iconst (v := nI 0) hx hb dX4_sees_266 (by decide) ?_
            have hEV : (V : Nat → Nat → Int32) = smV V j rc9 2 fi i := by unfold smV; rw [if_neg (fun h => absurd h.2.2 (by decide))]
            have hP : va_P D vwCl (mW cI cZ ad I (smV V j rc9 2 fi i)) H := by rw [← hEV]; exact hP
            have hD : va_D A (mW cI cZ ad I (smV V j rc9 2 fi i)) := by rw [← hEV]; exact hD
            exact W.zret (v := nI 0) hx hb hr rfl (fun t ht hW => ⟨⟨nI 0, (), rfl, (by unfold sm; rw [if_pos hs, if_neg c_9]; rw [hcm]; rfl), by rw [ht]; exact hP, va_K.moved hW.alike hK, hD⟩, hS.F ht⟩) hS.2.2 dX4_sees_267
          · exact absurd c_10 (by decide)
        · refine lv_tableIn (tgt := 268) hx hb dX4_sees_223 (by decide) (by decide) (off := 45) (by decide) (by decide) ?_
          refine lv_iload hx hb dX4_sees_268 (lv_at hl 6 rfl) ?_
          refine lv_iload hx hb dX4_sees_270 (lv_at hl 0 rfl) ?_
          refine lv_icmp_ge (tgt := 279) hx hb dX4_sees_272 (by decide) (fun c_11 => ?_) (fun c_11 => ?_)
          · refine lv_iconst (v := nI 0) hx hb dX4_sees_279 (by decide) ?_
            have hEV : (V : Nat → Nat → Int32) = smV V j rc9 3 fi i := by unfold smV; rw [if_neg (fun h => absurd h.2.2 (by decide))]
            have hP : va_P D vwCl (mW cI cZ ad I (smV V j rc9 3 fi i)) H := by rw [← hEV]; exact hP
            have hD : va_D A (mW cI cZ ad I (smV V j rc9 3 fi i)) := by rw [← hEV]; exact hD
            exact W.zret (v := nI 0) hx hb hr rfl (fun t ht hW => ⟨⟨nI 0, (), rfl, (by unfold sm; rw [if_pos hs, if_neg c_9]; show _ = if nI fi < V 7 (12 * j + 5) then (1 : Int32) else 0; rw [if_neg (Int32.not_lt.mpr c_11)]; rfl), by rw [ht]; exact hP, va_K.moved hW.alike hK, hD⟩, hS.F ht⟩) hS.2.2 dX4_sees_280
          · refine lv_iconst (v := nI 1) hx hb dX4_sees_275 (by decide) ?_
            refine lv_goto (tgt := 280) hx hb dX4_sees_276 (by decide) ?_
            have hEV : (V : Nat → Nat → Int32) = smV V j rc9 3 fi i := by unfold smV; rw [if_neg (fun h => absurd h.2.2 (by decide))]
            have hP : va_P D vwCl (mW cI cZ ad I (smV V j rc9 3 fi i)) H := by rw [← hEV]; exact hP
            have hD : va_D A (mW cI cZ ad I (smV V j rc9 3 fi i)) := by rw [← hEV]; exact hD
            exact W.zret (v := nI 1) hx hb hr rfl (fun t ht hW => ⟨⟨nI 1, (), rfl, (by unfold sm; rw [if_pos hs, if_neg c_9]; show _ = if nI fi < V 7 (12 * j + 5) then (1 : Int32) else 0; rw [if_pos (Int32.not_le.mp c_11)]; rfl), by rw [ht]; exact hP, va_K.moved hW.alike hK, hD⟩, hS.F ht⟩) hS.2.2 dX4_sees_280
        · refine lv_tableOut (tgt := 281) hx hb dX4_sees_223 (by decide) (by decide) ?_
          refine lv_aload_n hx hb dX4_sees_281 rfl (lv_at hl 1 rfl) ?_
          refine wR_get (v := .ref (ad 7)) (C := RX4) (T := TX4) (N := 18) (ci := 4) hx hb hts hinX4 hown hK hP 0 (by decide) rfl rfl 14 (by decide) (hts (.fieldLink RX4 36 "ChangeStreamModel" "of" "[I") (by decide +kernel)) rfl rfl dX4_sees_282 ?_
          refine lv_iload_n hx hb dX4_sees_285 rfl (lv_at hl 4 rfl) ?_
          refine lv_bipush (v := nI 9) hx hb dX4_sees_286 (by decide) ?_
          refine lv_iadd hx hb dX4_sees_288 ?_
          rw [nI_add]
          refine lv_dup2_11 hx hb dX4_sees_289 rfl rfl ?_
          refine wR_ild (f := V 7) (v := (V 7) (12 * j + 9)) hx hb hK hP 7 0 (by decide) rfl rfl (nx_in (k := 12 * j + 9) rfl (by omega) (by decide)) (j := 12 * j + 9) (nx_cl rfl (by omega)) rfl dX4_sees_290 ?_
          refine lv_iload hx hb dX4_sees_291 (lv_at hl 0 rfl) ?_
          refine lv_if_ne (tgt := 300) hx hb dX4_sees_293 (by decide) (fun c_12 => ?_) (fun c_12 => ?_)
          · refine lv_iconst (v := nI 0) hx hb dX4_sees_300 (by decide) ?_
            refine lv_iadd hx hb dX4_sees_301 ?_
            refine wR_ist (f := V 7) hx hb hK hP hD hS 7 0 (by decide) rfl rfl (nx_in (k := 12 * j + 9) rfl (by omega) (by decide)) (j := 12 * j + 9) (nx_cl rfl (by omega)) rfl dX4_sees_302 (fun H locs hP hD hS => ?_)
            refine lv_iload hx hb dX4_sees_303 (lv_at hl 0 rfl) ?_
            refine lv_if_eq (tgt := 316) hx hb dX4_sees_305 (by decide) (fun c_13 => ?_) (fun c_13 => ?_)
            · exact absurd c_13 c_12
            · refine lv_iload hx hb dX4_sees_308 (lv_at hl 6 rfl) ?_
              refine lv_iload hx hb dX4_sees_310 (lv_at hl 0 rfl) ?_
              refine lv_irem hx hb dX4_sees_312 c_12 ?_
              refine lv_if_ne (tgt := 320) hx hb dX4_sees_313 (by decide) (fun c_14 => ?_) (fun c_14 => ?_)
              · refine lv_iconst (v := nI 0) hx hb dX4_sees_320 (by decide) ?_
                have hEV : (va_up V 7 (va_up (V 7) (12 * j + 9) (((V 7) (12 * j + 9)) + (nI 0))) : Nat → Nat → Int32) = smV V j rc9 4 fi i := by unfold smV; rw [if_pos ⟨hs, c_9, rfl⟩, if_neg c_12]; rfl
                have hP : va_P D vwCl (mW cI cZ ad I (smV V j rc9 4 fi i)) H := by rw [← hEV]; exact hP
                have hD : va_D A (mW cI cZ ad I (smV V j rc9 4 fi i)) := by rw [← hEV]; exact hD
                exact W.zret (v := nI 0) hx hb hr rfl (fun t ht hW => ⟨⟨nI 0, (), rfl, (by unfold sm; rw [if_pos hs, if_neg c_9]; show _ = if V 7 (12 * j + 5) = 0 then (1 : Int32) else if nI fi - nI fi / V 7 (12 * j + 5) * V 7 (12 * j + 5) = 0 then 1 else 0; rw [if_neg c_12, if_neg c_14]; rfl), by rw [ht]; exact hP, va_K.moved hW.alike hK, hD⟩, hS.F ht⟩) hS.2.2 dX4_sees_321
              · refine lv_iconst (v := nI 1) hx hb dX4_sees_316 (by decide) ?_
                refine lv_goto (tgt := 321) hx hb dX4_sees_317 (by decide) ?_
                have hEV : (va_up V 7 (va_up (V 7) (12 * j + 9) (((V 7) (12 * j + 9)) + (nI 0))) : Nat → Nat → Int32) = smV V j rc9 4 fi i := by unfold smV; rw [if_pos ⟨hs, c_9, rfl⟩, if_neg c_12]; rfl
                have hP : va_P D vwCl (mW cI cZ ad I (smV V j rc9 4 fi i)) H := by rw [← hEV]; exact hP
                have hD : va_D A (mW cI cZ ad I (smV V j rc9 4 fi i)) := by rw [← hEV]; exact hD
                exact W.zret (v := nI 1) hx hb hr rfl (fun t ht hW => ⟨⟨nI 1, (), rfl, (by unfold sm; rw [if_pos hs, if_neg c_9]; show _ = if V 7 (12 * j + 5) = 0 then (1 : Int32) else if nI fi - nI fi / V 7 (12 * j + 5) * V 7 (12 * j + 5) = 0 then 1 else 0; rw [if_neg c_12, if_pos c_14]; rfl), by rw [ht]; exact hP, va_K.moved hW.alike hK, hD⟩, hS.F ht⟩) hS.2.2 dX4_sees_321
          · refine lv_iconst (v := nI 1) hx hb dX4_sees_296 (by decide) ?_
            refine lv_goto (tgt := 301) hx hb dX4_sees_297 (by decide) ?_
            refine lv_iadd hx hb dX4_sees_301 ?_
            refine wR_ist (f := V 7) hx hb hK hP hD hS 7 0 (by decide) rfl rfl (nx_in (k := 12 * j + 9) rfl (by omega) (by decide)) (j := 12 * j + 9) (nx_cl rfl (by omega)) rfl dX4_sees_302 (fun H locs hP hD hS => ?_)
            refine lv_iload hx hb dX4_sees_303 (lv_at hl 0 rfl) ?_
            refine lv_if_eq (tgt := 316) hx hb dX4_sees_305 (by decide) (fun c_15 => ?_) (fun c_15 => ?_)
            · refine lv_iconst (v := nI 1) hx hb dX4_sees_316 (by decide) ?_
              refine lv_goto (tgt := 321) hx hb dX4_sees_317 (by decide) ?_
              have hEV : (va_up V 7 (va_up (V 7) (12 * j + 9) (((V 7) (12 * j + 9)) + (nI 1))) : Nat → Nat → Int32) = smV V j rc9 4 fi i := by unfold smV; rw [if_pos ⟨hs, c_9, rfl⟩, if_pos c_12]; rfl
              have hP : va_P D vwCl (mW cI cZ ad I (smV V j rc9 4 fi i)) H := by rw [← hEV]; exact hP
              have hD : va_D A (mW cI cZ ad I (smV V j rc9 4 fi i)) := by rw [← hEV]; exact hD
              exact W.zret (v := nI 1) hx hb hr rfl (fun t ht hW => ⟨⟨nI 1, (), rfl, (by unfold sm; rw [if_pos hs, if_neg c_9]; show _ = if V 7 (12 * j + 5) = 0 then (1 : Int32) else if nI fi - nI fi / V 7 (12 * j + 5) * V 7 (12 * j + 5) = 0 then 1 else 0; rw [if_pos c_12]; rfl), by rw [ht]; exact hP, va_K.moved hW.alike hK, hD⟩, hS.F ht⟩) hS.2.2 dX4_sees_321
            · exact absurd c_12 c_15
      · refine lv_iconst (v := nI 0) hx hb dX4_sees_203 (by decide) ?_
        have hEV : (V : Nat → Nat → Int32) = smV V j rc9 kd fi i := by unfold smV; rw [if_neg (fun h => h.2.1 c_9)]
        have hP : va_P D vwCl (mW cI cZ ad I (smV V j rc9 kd fi i)) H := by rw [← hEV]; exact hP
        have hD : va_D A (mW cI cZ ad I (smV V j rc9 kd fi i)) := by rw [← hEV]; exact hD
        exact W.zret (v := nI 0) hx hb hr rfl (fun t ht hW => ⟨⟨nI 0, (), rfl, (by unfold sm; rw [if_pos hs, if_pos c_9]; rfl), by rw [ht]; exact hP, va_K.moved hW.alike hK, hD⟩, hS.F ht⟩) hS.2.2 dX4_sees_204
    · refine lv_iconst (v := nI 0) hx hb dX4_sees_108 (by decide) ?_
      have hEV : (V : Nat → Nat → Int32) = smV V j rc9 kd fi i := by unfold smV; rw [if_neg (fun h => hs h.1)]
      have hP : va_P D vwCl (mW cI cZ ad I (smV V j rc9 kd fi i)) H := by rw [← hEV]; exact hP
      have hD : va_D A (mW cI cZ ad I (smV V j rc9 kd fi i)) := by rw [← hEV]; exact hD
      exact W.zret (v := nI 0) hx hb hr rfl (fun t ht hW => ⟨⟨nI 0, (), rfl, (by unfold sm; rw [if_neg hs]; rfl), by rw [ht]; exact hP, va_K.moved hW.alike hK, hD⟩, hS.F ht⟩) hS.2.2 dX4_sees_109
