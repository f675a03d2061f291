/-- the last of k changes that names fact f: 1 comes, 0 goes, -1 none -/
def lst3 (C : Nat → Int32) (f : Nat) : Nat → Int32
  | 0 => -1
  | k + 1 => if C (2 * k) = nI f then C (2 * k + 1) else lst3 C f k
/-- fact f has a row in the pass w -/
def mgZ (V : Nat → Nat → Int32) (q w f : Nat) : Bool := decide (lst3 (V 4) f q = nI w) && decide (¬ V 3 f = nI (if w = 1 then 1 else 0))
theorem mgZ_t {V : Nat → Nat → Int32} {q w f : Nat} (h1 : lst3 (V 4) f q = nI w) (h2 : ¬ V 3 f = nI (if w = 1 then 1 else 0)) : mgZ V q w f = true := by simp only [mgZ, Bool.and_eq_true, decide_eq_true_eq]; exact ⟨h1, h2⟩
theorem mgZ_f {V : Nat → Nat → Int32} {q w f : Nat} (h : ¬ lst3 (V 4) f q = nI w ∨ V 3 f = nI (if w = 1 then 1 else 0)) : mgZ V q w f = false := by
  simp only [mgZ, Bool.and_eq_false_iff, decide_eq_false_iff_not]
  rcases h with h | h
  · exact Or.inl h
  · exact Or.inr (fun h9 => h9 h)
/-- the table with the rows of one pass -/
def tbA (Z : Nat → Bool) (T w rc : Nat) (a : Nat → Int32) : Nat → Nat → Int32
  | 0 => a
  | f + 1 => if Z f = true then va_up (va_up (va_up (tbA Z T w rc a f) (3 * (rc + lgN Z f)) (nI T)) (3 * (rc + lgN Z f) + 1) (nI f)) (3 * (rc + lgN Z f) + 2) (nI w) else tbA Z T w rc a f
theorem tbA_f {Z : Nat → Bool} {f : Nat} (h : Z f = false) (T w rc : Nat) (a : Nat → Int32) : tbA Z T w rc a (f + 1) = tbA Z T w rc a f := by simp [tbA, h]
theorem tbA_t {Z : Nat → Bool} {f : Nat} (h : Z f = true) (T w rc : Nat) (a : Nat → Int32) : tbA Z T w rc a (f + 1) = va_up (va_up (va_up (tbA Z T w rc a f) (3 * (rc + lgN Z f)) (nI T)) (3 * (rc + lgN Z f) + 1) (nI f)) (3 * (rc + lgN Z f) + 2) (nI w) := by simp [tbA, h]
/-- the facts of the d rows from b on are set -/
def inA (B : Nat → Int32) (fa : Nat → Nat) (b : Nat) (a : Nat → Int32) : Nat → Nat → Int32
  | 0 => a
  | d + 1 => va_up (inA B fa b a d) (fa (b + d)) (nI (if B (3 * (b + d) + 2) = nI 1 then 1 else 0))

set_option maxHeartbeats 4000000 in
set_option maxRecDepth 100000 in
theorem lp_X4_commit_k {p : Program} (l : Launch) {e : Env} {s : State} {m : MethodId} {args : Array Value} {below : List Frame} {meth : Method} {c : Code} {Q : State → Prop} {A : Nat → Prop} (D : va_G) (cI cZ : ClassId) (ad : Nat → Nat) (I V : Nat → Nat → Int32) (w f q : Nat) (hx : p.tables.exec = Jvm.exec) (hb : c.code = cX4_commit) (hml : c.maxLocals = 5) (hts : ∀ w ∈ wsX4_commit, w.before args s = true) (hown : s.vm.findClass RX4 = some m.cls) (hK : va_K D vwCl (mT cI cZ) s) (hA : ∀ q : Nat, s.heap.size ≤ q → A q) (hq : I 0 5 = nI q) (hq2 : q ≤ 20)  (kk : ∀ (H : Heap) (locs : List Loc) (ls : Array Slot), va_P D vwCl (mW cI cZ ad I V) H → va_D A (mW cI cZ ad I V) → va_S A s.heap H locs → lv_has ls 5 [(0, .ref (ad 0)), (1, .int (nI w)), (2, .int (nI f)), (3, .int (lst3 (V 4) f q))] → W p l e ({ frames := 1, cells := 0, slots := 0, locals := 21 } : Room) s m args below meth c H locs 0 0 Q (F0 m 94 ls [])) : ∀ (fuel : Nat) (k : Nat) (H : Heap) (locs : List Loc) (ls : Array Slot), k ≤ q → q - k < fuel → va_P D vwCl (mW cI cZ ad I V) H → va_D A (mW cI cZ ad I V) → va_S A s.heap H locs → lv_has ls 5 [(0, .ref (ad 0)), (1, .int (nI w)), (2, .int (nI f)), (3, .int (lst3 (V 4) f k)), (4, .int (nI k))] → W p l e ({ frames := 1, cells := 0, slots := 0, locals := 21 } : Room) s m args below meth c H locs 0 0 Q (F0 m 50 ls []) := by
  intro fuel
  induction fuel with
  | zero =>
    intro k H locs ls hk hfu
    exact absurd hfu (Nat.not_lt_zero _)
  | succ fuel ih =>
    intro k H locs ls hk hfu hP hD hS hl
    have hinX4 : ∀ w ∈ wsX40, w ∈ wsX4_commit := by decide +kernel
    refine lv_iload hx hb dX4_commit_50 (lv_at hl 4 rfl) ?_
    refine lv_aload_n hx hb dX4_commit_52 rfl (lv_at hl 0 rfl) ?_
    refine wR_get (v := .int (nI q)) (C := RX4) (T := TX4) (N := 18) (ci := 4) hx hb hts hinX4 hown hK hP 0 (by decide) rfl rfl 5 (by decide) (hts (.fieldLink RX4 62 "ChangeStreamModel" "open" "I") (by decide +kernel)) rfl (congrArg (fun z => some (Value.int z)) hq) dX4_commit_53 ?_
    refine lv_icmp_ge (tgt := 94) hx hb dX4_commit_56 (by decide) (fun c_1 => ?_) (fun c_1 => ?_)
    · have c_1 : q ≤ k := (nI_leI (a := q) (b := k) (by omega) (by omega)).mp c_1
      have hkq : k = q := by omega
      subst hkq
      exact kk  H locs ls  hP hD hS (lv_sub hl [0, 1, 2, 3] rfl)
    · have c_1 : ¬ (q ≤ k) := fun h9 => c_1 ((nI_leI (a := q) (b := k) (by omega) (by omega)).mpr h9)
      refine lv_aload_n hx hb dX4_commit_59 rfl (lv_at hl 0 rfl) ?_
      refine wR_get (v := .ref (ad 4)) (C := RX4) (T := TX4) (N := 18) (ci := 4) hx hb hts hinX4 hown hK hP 0 (by decide) rfl rfl 6 (by decide) (hts (.fieldLink RX4 20 "ChangeStreamModel" "changes" "[I") (by decide +kernel)) rfl rfl dX4_commit_60 ?_
      refine lv_iconst (v := nI 2) hx hb dX4_commit_63 (by decide) ?_
      refine lv_iload hx hb dX4_commit_64 (lv_at hl 4 rfl) ?_
      refine lv_imul hx hb dX4_commit_66 ?_
      rw [pk_mul]
      refine wR_ild (f := V 4) (v := (V 4) (2 * k)) hx hb hK hP 4 0 (by decide) rfl rfl (nx_in (k := 2 * k) rfl (by omega) (by decide)) (j := 2 * k) (nx_cl rfl (by omega)) rfl dX4_commit_67 ?_
      refine lv_iload_n hx hb dX4_commit_68 rfl (lv_at hl 2 rfl) ?_
      refine lv_icmp_ne (tgt := 86) hx hb dX4_commit_69 (by decide) (fun c_2 => ?_) (fun c_2 => ?_)
      · refine lv_iload_n hx hb dX4_commit_86 rfl (lv_at hl 3 rfl) ?_
        refine lv_istore_n (lv' := [(3, .int (lst3 (V 4) f k)), (0, .ref (ad 0)), (1, .int (nI w)), (2, .int (nI f)), (4, .int (nI k))]) hx hb dX4_commit_87 rfl hl (by decide) rfl (fun ls hl => ?_)
        refine lv_iinc (v := nI (k + 1)) (lv' := [(4, .int (nI (k + 1))), (3, .int (lst3 (V 4) f k)), (0, .ref (ad 0)), (1, .int (nI w)), (2, .int (nI f))]) hx hb dX4_commit_88 hl (k := 4) rfl (nI_add _ 1) (by decide) rfl (fun ls hl => ?_)
        refine lv_goto (tgt := 50) hx hb dX4_commit_91 (by decide) ?_
        have e9 : lst3 (V 4) f (k + 1) = lst3 (V 4) f k := if_neg c_2
        have hl : lv_has ls 5 [(0, .ref (ad 0)), (1, .int (nI w)), (2, .int (nI f)), (3, .int (lst3 (V 4) f (k + 1))), (4, .int (nI (k + 1)))] := by rw [e9]; exact lv_sub hl [2, 3, 4, 1, 0] rfl
        exact ih (k + 1) H locs ls (by omega) (by omega) hP hD hS (lv_sub hl [0, 1, 2, 3, 4] rfl)
      · refine lv_aload_n hx hb dX4_commit_72 rfl (lv_at hl 0 rfl) ?_
        refine wR_get (v := .ref (ad 4)) (C := RX4) (T := TX4) (N := 18) (ci := 4) hx hb hts hinX4 hown hK hP 0 (by decide) rfl rfl 6 (by decide) (hts (.fieldLink RX4 20 "ChangeStreamModel" "changes" "[I") (by decide +kernel)) rfl rfl dX4_commit_73 ?_
        refine lv_iconst (v := nI 2) hx hb dX4_commit_76 (by decide) ?_
        refine lv_iload hx hb dX4_commit_77 (lv_at hl 4 rfl) ?_
        refine lv_imul hx hb dX4_commit_79 ?_
        rw [pk_mul]
        refine lv_iconst (v := nI 1) hx hb dX4_commit_80 (by decide) ?_
        refine lv_iadd hx hb dX4_commit_81 ?_
        rw [nI_add]
        refine wR_ild (f := V 4) (v := (V 4) (2 * k + 1)) hx hb hK hP 4 0 (by decide) rfl rfl (nx_in (k := 2 * k + 1) rfl (by omega) (by decide)) (j := 2 * k + 1) (nx_cl rfl (by omega)) rfl dX4_commit_82 ?_
        refine lv_goto (tgt := 87) hx hb dX4_commit_83 (by decide) ?_
        refine lv_istore_n (lv' := [(3, .int ((V 4) (2 * k + 1))), (0, .ref (ad 0)), (1, .int (nI w)), (2, .int (nI f)), (4, .int (nI k))]) hx hb dX4_commit_87 rfl hl (by decide) rfl (fun ls hl => ?_)
        refine lv_iinc (v := nI (k + 1)) (lv' := [(4, .int (nI (k + 1))), (3, .int ((V 4) (2 * k + 1))), (0, .ref (ad 0)), (1, .int (nI w)), (2, .int (nI f))]) hx hb dX4_commit_88 hl (k := 4) rfl (nI_add _ 1) (by decide) rfl (fun ls hl => ?_)
        refine lv_goto (tgt := 50) hx hb dX4_commit_91 (by decide) ?_
        have e9 : lst3 (V 4) f (k + 1) = (V 4) (2 * k + 1) := if_pos c_2
        have hl : lv_has ls 5 [(0, .ref (ad 0)), (1, .int (nI w)), (2, .int (nI f)), (3, .int (lst3 (V 4) f (k + 1))), (4, .int (nI (k + 1)))] := by rw [e9]; exact lv_sub hl [2, 3, 4, 1, 0] rfl
        exact ih (k + 1) H locs ls (by omega) (by omega) hP hD hS (lv_sub hl [0, 1, 2, 3, 4] rfl)

set_option maxHeartbeats 4000000 in
set_option maxRecDepth 100000 in
theorem lp_X4_commit_f {p : Program} (l : Launch) {e : Env} {s : State} {m : MethodId} {args : Array Value} {below : List Frame} {meth : Method} {c : Code} {Q : State → Prop} {A : Nat → Prop} (D : va_G) (cI cZ : ClassId) (ad : Nat → Nat) (I V : Nat → Nat → Int32) (w q k T rc : Nat) (hx : p.tables.exec = Jvm.exec) (hb : c.code = cX4_commit) (hml : c.maxLocals = 5) (hts : ∀ w ∈ wsX4_commit, w.before args s = true) (hown : s.vm.findClass RX4 = some m.cls) (hK : va_K D vwCl (mT cI cZ) s) (hA : ∀ q : Nat, s.heap.size ≤ q → A q) (hw1 : w ≤ 1) (hk0 : I 0 1 = nI k) (hk1 : k ≤ 100) (hq : I 0 5 = nI q) (hq2 : q ≤ 20) (hT : I 0 9 = nI T) (hrc6 : rc + lgN (mgZ V q w) k ≤ 512)  (kk : ∀ (H : Heap) (locs : List Loc) (ls : Array Slot), va_P D vwCl (mW cI cZ ad (va_up I 0 (va_up (I 0) 7 (nI (rc + lgN (mgZ V q w) k)))) (va_up V 5 (tbA (mgZ V q w) T w rc (V 5) k))) H → va_D A (mW cI cZ ad (va_up I 0 (va_up (I 0) 7 (nI (rc + lgN (mgZ V q w) k)))) (va_up V 5 (tbA (mgZ V q w) T w rc (V 5) k))) → va_S A s.heap H locs → lv_has ls 5 [(0, .ref (ad 0)), (1, .int (nI w))] → W p l e ({ frames := 1, cells := 0, slots := 0, locals := 21 } : Room) s m args below meth c H locs 0 0 Q (F0 m 177 ls [])) : ∀ (fuel : Nat) (f : Nat) (H : Heap) (locs : List Loc) (ls : Array Slot), f ≤ k → k - f < fuel → va_P D vwCl (mW cI cZ ad (va_up I 0 (va_up (I 0) 7 (nI (rc + lgN (mgZ V q w) f)))) (va_up V 5 (tbA (mgZ V q w) T w rc (V 5) f))) H → va_D A (mW cI cZ ad (va_up I 0 (va_up (I 0) 7 (nI (rc + lgN (mgZ V q w) f)))) (va_up V 5 (tbA (mgZ V q w) T w rc (V 5) f))) → va_S A s.heap H locs → lv_has ls 5 [(0, .ref (ad 0)), (1, .int (nI w)), (2, .int (nI f))] → W p l e ({ frames := 1, cells := 0, slots := 0, locals := 21 } : Room) s m args below meth c H locs 0 0 Q (F0 m 37 ls []) := by
  intro fuel
  induction fuel with
  | zero =>
    intro f H locs ls hf hfu
    exact absurd hfu (Nat.not_lt_zero _)
  | succ fuel ih =>
    intro f H locs ls hf hfu hP hD hS hl
    have hinX4 : ∀ w ∈ wsX40, w ∈ wsX4_commit := by decide +kernel
    refine lv_iload_n hx hb dX4_commit_37 rfl (lv_at hl 2 rfl) ?_
    refine lv_aload_n hx hb dX4_commit_38 rfl (lv_at hl 0 rfl) ?_
    refine wR_get (v := .int (nI k)) (C := RX4) (T := TX4) (N := 18) (ci := 4) hx hb hts hinX4 hown hK hP 0 (by decide) rfl rfl 1 (by decide) (hts (.fieldLink RX4 55 "ChangeStreamModel" "facts" "I") (by decide +kernel)) rfl (congrArg (fun z => some (Value.int z)) hk0) dX4_commit_39 ?_
    refine lv_icmp_ge (tgt := 177) hx hb dX4_commit_42 (by decide) (fun c_1 => ?_) (fun c_1 => ?_)
    · have c_1 : k ≤ f := (nI_leI (a := k) (b := f) (by omega) (by omega)).mp c_1
      have hfk : f = k := by omega
      subst hfk
      exact kk  H locs ls  hP hD hS (lv_sub hl [0, 1] rfl)
    · have c_1 : ¬ (k ≤ f) := fun h9 => c_1 ((nI_leI (a := k) (b := f) (by omega) (by omega)).mpr h9)
      refine lv_iconst (v := (-1)) hx hb dX4_commit_45 (by decide) ?_
      refine lv_istore_n (lv' := [(3, .int (-1)), (0, .ref (ad 0)), (1, .int (nI w)), (2, .int (nI f))]) hx hb dX4_commit_46 rfl hl (by decide) rfl (fun ls hl => ?_)
      refine lv_iconst (v := nI 0) hx hb dX4_commit_47 (by decide) ?_
      refine lv_istore (lv' := [(4, .int (nI 0)), (3, .int (-1)), (0, .ref (ad 0)), (1, .int (nI w)), (2, .int (nI f))]) hx hb dX4_commit_48 hl (by decide) rfl (fun ls hl => ?_)
      refine lp_X4_commit_k l D cI cZ ad (va_up I 0 (va_up (I 0) 7 (nI (rc + lgN (mgZ V q w) f)))) (va_up V 5 (tbA (mgZ V q w) T w rc (V 5) f)) w f q hx hb hml hts hown hK hA hq hq2 (fun  H locs ls  hP hD hS hl => ?_) (q + 1) 0 H locs ls (by omega) (by omega) hP hD hS (lv_sub hl [2, 3, 4, 1, 0] rfl)
      refine lv_iload_n hx hb dX4_commit_94 rfl (lv_at hl 3 rfl) ?_
      refine lv_iload_n hx hb dX4_commit_95 rfl (lv_at hl 1 rfl) ?_
      refine lv_icmp_ne (tgt := 171) hx hb dX4_commit_96 (by decide) (fun c_2 => ?_) (fun c_2 => ?_)
      · refine lv_iinc (v := nI (f + 1)) (lv' := [(2, .int (nI (f + 1))), (0, .ref (ad 0)), (1, .int (nI w)), (3, .int (lst3 (V 4) f q))]) hx hb dX4_commit_171 hl (k := 2) rfl (nI_add _ 1) (by decide) rfl (fun ls hl => ?_)
        refine lv_goto (tgt := 37) hx hb dX4_commit_174 (by decide) ?_
        have hz9 : mgZ V q w f = false := mgZ_f (Or.inl c_2)
        have hP : va_P D vwCl (mW cI cZ ad (va_up I 0 (va_up (I 0) 7 (nI (rc + lgN (mgZ V q w) (f + 1))))) (va_up V 5 (tbA (mgZ V q w) T w rc (V 5) (f + 1)))) H := by rw [lgN_f hz9, tbA_f hz9]; exact hP
        have hD : va_D A (mW cI cZ ad (va_up I 0 (va_up (I 0) 7 (nI (rc + lgN (mgZ V q w) (f + 1))))) (va_up V 5 (tbA (mgZ V q w) T w rc (V 5) (f + 1)))) := by rw [lgN_f hz9, tbA_f hz9]; exact hD
        exact ih (f + 1) H locs ls (by omega) (by omega) hP hD hS (lv_sub hl [1, 2, 0] rfl)
      · refine lv_aload_n hx hb dX4_commit_99 rfl (lv_at hl 0 rfl) ?_
        refine wR_get (v := .ref (ad 3)) (C := RX4) (T := TX4) (N := 18) (ci := 4) hx hb hts hinX4 hown hK hP 0 (by decide) rfl rfl 4 (by decide) (hts (.fieldLink RX4 16 "ChangeStreamModel" "in" "[Z") (by decide +kernel)) rfl rfl dX4_commit_100 ?_
        refine lv_iload_n hx hb dX4_commit_103 rfl (lv_at hl 2 rfl) ?_
        refine wR_zld (f := V 3) (v := (V 3) f) hx hb hK hP 3 1 (by decide) rfl rfl (nx_in (k := f) rfl (by omega) (by decide)) (j := f) (nx_cl rfl (by omega)) rfl dX4_commit_104 ?_
        refine lv_iload_n hx hb dX4_commit_105 rfl (lv_at hl 1 rfl) ?_
        refine lv_iconst (v := nI 1) hx hb dX4_commit_106 (by decide) ?_
        refine lv_icmp_ne (tgt := 114) hx hb dX4_commit_107 (by decide) (fun c_3 => ?_) (fun c_3 => ?_)
        · have c_3 : ¬ (w = 1) := fun h9 => c_3 ((nI_eq (a := w) (b := 1) (by omega) (by omega)).mpr h9)
          refine lv_iconst (v := nI 0) hx hb dX4_commit_114 (by decide) ?_
          refine lv_icmp_eq (tgt := 171) hx hb dX4_commit_115 (by decide) (fun c_4 => ?_) (fun c_4 => ?_)
          · refine lv_iinc (v := nI (f + 1)) (lv' := [(2, .int (nI (f + 1))), (0, .ref (ad 0)), (1, .int (nI w)), (3, .int (lst3 (V 4) f q))]) hx hb dX4_commit_171 hl (k := 2) rfl (nI_add _ 1) (by decide) rfl (fun ls hl => ?_)
            refine lv_goto (tgt := 37) hx hb dX4_commit_174 (by decide) ?_
            have hz9 : mgZ V q w f = false := mgZ_f (Or.inr (c_4.trans (show nI (if w = 1 then 1 else 0) = nI 0 from congrArg nI (if_neg c_3)).symm))
            have hP : va_P D vwCl (mW cI cZ ad (va_up I 0 (va_up (I 0) 7 (nI (rc + lgN (mgZ V q w) (f + 1))))) (va_up V 5 (tbA (mgZ V q w) T w rc (V 5) (f + 1)))) H := by rw [lgN_f hz9, tbA_f hz9]; exact hP
            have hD : va_D A (mW cI cZ ad (va_up I 0 (va_up (I 0) 7 (nI (rc + lgN (mgZ V q w) (f + 1))))) (va_up V 5 (tbA (mgZ V q w) T w rc (V 5) (f + 1)))) := by rw [lgN_f hz9, tbA_f hz9]; exact hD
            exact ih (f + 1) H locs ls (by omega) (by omega) hP hD hS (lv_sub hl [1, 2, 0] rfl)
          · have hz8 : mgZ V q w f = true := mgZ_t c_2 (fun h9 => c_4 (h9.trans (show nI (if w = 1 then 1 else 0) = nI 0 from congrArg nI (if_neg c_3))))
            have hlt9 := lgN_lt hz8 (show f < k by omega)
            refine lv_aload_n hx hb dX4_commit_118 rfl (lv_at hl 0 rfl) ?_
            refine wR_get (v := .ref (ad 5)) (C := RX4) (T := TX4) (N := 18) (ci := 4) hx hb hts hinX4 hown hK hP 0 (by decide) rfl rfl 8 (by decide) (hts (.fieldLink RX4 23 "ChangeStreamModel" "table" "[I") (by decide +kernel)) rfl rfl dX4_commit_119 ?_
            refine lv_iconst (v := nI 3) hx hb dX4_commit_122 (by decide) ?_
            refine lv_aload_n hx hb dX4_commit_123 rfl (lv_at hl 0 rfl) ?_
            refine wR_get (v := .int (nI (rc + lgN (mgZ V q w) f))) (C := RX4) (T := TX4) (N := 18) (ci := 4) hx hb hts hinX4 hown hK hP 0 (by decide) rfl rfl 7 (by decide) (hts (.fieldLink RX4 68 "ChangeStreamModel" "rows" "I") (by decide +kernel)) rfl rfl dX4_commit_124 ?_
            refine lv_imul hx hb dX4_commit_127 ?_
            rw [pk_mul]
            refine lv_aload_n hx hb dX4_commit_128 rfl (lv_at hl 0 rfl) ?_
            refine wR_get (v := .int (nI T)) (C := RX4) (T := TX4) (N := 18) (ci := 4) hx hb hts hinX4 hown hK hP 0 (by decide) rfl rfl 9 (by decide) (hts (.fieldLink RX4 65 "ChangeStreamModel" "transactions" "I") (by decide +kernel)) rfl (congrArg (fun z => some (Value.int z)) hT) dX4_commit_129 ?_
            refine wR_ist (f := tbA (mgZ V q w) T w rc (V 5) f) hx hb hK hP hD hS 5 0 (by decide) rfl rfl (nx_in (k := 3 * (rc + lgN (mgZ V q w) f)) rfl (by omega) (by decide)) (j := 3 * (rc + lgN (mgZ V q w) f)) (nx_cl rfl (by omega)) rfl dX4_commit_132 (fun H locs hP hD hS => ?_)
            rw [bx_uu] at hP hD
            refine lv_aload_n hx hb dX4_commit_133 rfl (lv_at hl 0 rfl) ?_
            refine wR_get (v := .ref (ad 5)) (C := RX4) (T := TX4) (N := 18) (ci := 4) hx hb hts hinX4 hown hK hP 0 (by decide) rfl rfl 8 (by decide) (hts (.fieldLink RX4 23 "ChangeStreamModel" "table" "[I") (by decide +kernel)) rfl rfl dX4_commit_134 ?_
            refine lv_iconst (v := nI 3) hx hb dX4_commit_137 (by decide) ?_
            refine lv_aload_n hx hb dX4_commit_138 rfl (lv_at hl 0 rfl) ?_
            refine wR_get (v := .int (nI (rc + lgN (mgZ V q w) f))) (C := RX4) (T := TX4) (N := 18) (ci := 4) hx hb hts hinX4 hown hK hP 0 (by decide) rfl rfl 7 (by decide) (hts (.fieldLink RX4 68 "ChangeStreamModel" "rows" "I") (by decide +kernel)) rfl rfl dX4_commit_139 ?_
            refine lv_imul hx hb dX4_commit_142 ?_
            rw [pk_mul]
            refine lv_iconst (v := nI 1) hx hb dX4_commit_143 (by decide) ?_
            refine lv_iadd hx hb dX4_commit_144 ?_
            rw [nI_add]
            refine lv_iload_n hx hb dX4_commit_145 rfl (lv_at hl 2 rfl) ?_
            refine wR_ist (f := va_up (tbA (mgZ V q w) T w rc (V 5) f) (3 * (rc + lgN (mgZ V q w) f)) (nI T)) hx hb hK hP hD hS 5 0 (by decide) rfl rfl (nx_in (k := 3 * (rc + lgN (mgZ V q w) f) + 1) rfl (by omega) (by decide)) (j := 3 * (rc + lgN (mgZ V q w) f) + 1) (nx_cl rfl (by omega)) rfl dX4_commit_146 (fun H locs hP hD hS => ?_)
            rw [bx_uu] at hP hD
            refine lv_aload_n hx hb dX4_commit_147 rfl (lv_at hl 0 rfl) ?_
            refine wR_get (v := .ref (ad 5)) (C := RX4) (T := TX4) (N := 18) (ci := 4) hx hb hts hinX4 hown hK hP 0 (by decide) rfl rfl 8 (by decide) (hts (.fieldLink RX4 23 "ChangeStreamModel" "table" "[I") (by decide +kernel)) rfl rfl dX4_commit_148 ?_
            refine lv_iconst (v := nI 3) hx hb dX4_commit_151 (by decide) ?_
            refine lv_aload_n hx hb dX4_commit_152 rfl (lv_at hl 0 rfl) ?_
            refine wR_get (v := .int (nI (rc + lgN (mgZ V q w) f))) (C := RX4) (T := TX4) (N := 18) (ci := 4) hx hb hts hinX4 hown hK hP 0 (by decide) rfl rfl 7 (by decide) (hts (.fieldLink RX4 68 "ChangeStreamModel" "rows" "I") (by decide +kernel)) rfl rfl dX4_commit_153 ?_
            refine lv_imul hx hb dX4_commit_156 ?_
            rw [pk_mul]
            refine lv_iconst (v := nI 2) hx hb dX4_commit_157 (by decide) ?_
            refine lv_iadd hx hb dX4_commit_158 ?_
            rw [nI_add]
            refine lv_iload_n hx hb dX4_commit_159 rfl (lv_at hl 1 rfl) ?_
            refine wR_ist (f := va_up (va_up (tbA (mgZ V q w) T w rc (V 5) f) (3 * (rc + lgN (mgZ V q w) f)) (nI T)) (3 * (rc + lgN (mgZ V q w) f) + 1) (nI f)) hx hb hK hP hD hS 5 0 (by decide) rfl rfl (nx_in (k := 3 * (rc + lgN (mgZ V q w) f) + 2) rfl (by omega) (by decide)) (j := 3 * (rc + lgN (mgZ V q w) f) + 2) (nx_cl rfl (by omega)) rfl dX4_commit_160 (fun H locs hP hD hS => ?_)
            rw [bx_uu] at hP hD
            refine lv_aload_n hx hb dX4_commit_161 rfl (lv_at hl 0 rfl) ?_
            refine lv_dup hx hb dX4_commit_162 rfl ?_
            refine wR_get (v := .int (nI (rc + lgN (mgZ V q w) f))) (C := RX4) (T := TX4) (N := 18) (ci := 4) hx hb hts hinX4 hown hK hP 0 (by decide) rfl rfl 7 (by decide) (hts (.fieldLink RX4 68 "ChangeStreamModel" "rows" "I") (by decide +kernel)) rfl rfl dX4_commit_163 ?_
            refine lv_iconst (v := nI 1) hx hb dX4_commit_166 (by decide) ?_
            refine lv_iadd hx hb dX4_commit_167 ?_
            rw [nI_add]
            refine wR_put (C := RX4) (T := TX4) (N := 18) (ci := 4) hx hb hts hinX4 tyX4 tyX4_ok nmX4 hown hK hP hD hS 0 (by decide) rfl rfl 7 (by decide) (hts (.fieldLink RX4 68 "ChangeStreamModel" "rows" "I") (by decide +kernel)) rfl rfl (by decide +kernel) (by simp) (va_up (va_up (I 0) 7 (nI (rc + lgN (mgZ V q w) f))) 7 (nI (rc + lgN (mgZ V q w) f + 1))) rfl dX4_commit_168 (fun H locs hP hD hS => ?_)
            rw [bx_uu] at hP hD
            refine lv_iinc (v := nI (f + 1)) (lv' := [(2, .int (nI (f + 1))), (0, .ref (ad 0)), (1, .int (nI w)), (3, .int (lst3 (V 4) f q))]) hx hb dX4_commit_171 hl (k := 2) rfl (nI_add _ 1) (by decide) rfl (fun ls hl => ?_)
            refine lv_goto (tgt := 37) hx hb dX4_commit_174 (by decide) ?_
            have hz9 : mgZ V q w f = true := mgZ_t c_2 (fun h9 => c_4 (h9.trans (show nI (if w = 1 then 1 else 0) = nI 0 from congrArg nI (if_neg c_3))))
            have hP : va_P D vwCl (mW cI cZ ad (va_up I 0 (va_up (I 0) 7 (nI (rc + lgN (mgZ V q w) (f + 1))))) (va_up V 5 (tbA (mgZ V q w) T w rc (V 5) (f + 1)))) H := by rw [lgN_t hz9, tbA_t hz9]; exact hP
            have hD : va_D A (mW cI cZ ad (va_up I 0 (va_up (I 0) 7 (nI (rc + lgN (mgZ V q w) (f + 1))))) (va_up V 5 (tbA (mgZ V q w) T w rc (V 5) (f + 1)))) := by rw [lgN_t hz9, tbA_t hz9]; exact hD
            exact ih (f + 1) H locs ls (by omega) (by omega) hP hD hS (lv_sub hl [1, 2, 0] rfl)
        · have c_3 : w = 1 := (nI_eq (a := w) (b := 1) (by omega) (by omega)).mp c_3
          refine lv_iconst (v := nI 1) hx hb dX4_commit_110 (by decide) ?_
          refine lv_goto (tgt := 115) hx hb dX4_commit_111 (by decide) ?_
          refine lv_icmp_eq (tgt := 171) hx hb dX4_commit_115 (by decide) (fun c_5 => ?_) (fun c_5 => ?_)
          · refine lv_iinc (v := nI (f + 1)) (lv' := [(2, .int (nI (f + 1))), (0, .ref (ad 0)), (1, .int (nI w)), (3, .int (lst3 (V 4) f q))]) hx hb dX4_commit_171 hl (k := 2) rfl (nI_add _ 1) (by decide) rfl (fun ls hl => ?_)
            refine lv_goto (tgt := 37) hx hb dX4_commit_174 (by decide) ?_
            have hz9 : mgZ V q w f = false := mgZ_f (Or.inr (c_5.trans (show nI (if w = 1 then 1 else 0) = nI 1 from congrArg nI (if_pos c_3)).symm))
            have hP : va_P D vwCl (mW cI cZ ad (va_up I 0 (va_up (I 0) 7 (nI (rc + lgN (mgZ V q w) (f + 1))))) (va_up V 5 (tbA (mgZ V q w) T w rc (V 5) (f + 1)))) H := by rw [lgN_f hz9, tbA_f hz9]; exact hP
            have hD : va_D A (mW cI cZ ad (va_up I 0 (va_up (I 0) 7 (nI (rc + lgN (mgZ V q w) (f + 1))))) (va_up V 5 (tbA (mgZ V q w) T w rc (V 5) (f + 1)))) := by rw [lgN_f hz9, tbA_f hz9]; exact hD
            exact ih (f + 1) H locs ls (by omega) (by omega) hP hD hS (lv_sub hl [1, 2, 0] rfl)
          · have hz8 : mgZ V q w f = true := mgZ_t c_2 (fun h9 => c_5 (h9.trans (show nI (if w = 1 then 1 else 0) = nI 1 from congrArg nI (if_pos c_3))))
            have hlt9 := lgN_lt hz8 (show f < k by omega)
            refine lv_aload_n hx hb dX4_commit_118 rfl (lv_at hl 0 rfl) ?_
            refine wR_get (v := .ref (ad 5)) (C := RX4) (T := TX4) (N := 18) (ci := 4) hx hb hts hinX4 hown hK hP 0 (by decide) rfl rfl 8 (by decide) (hts (.fieldLink RX4 23 "ChangeStreamModel" "table" "[I") (by decide +kernel)) rfl rfl dX4_commit_119 ?_
            refine lv_iconst (v := nI 3) hx hb dX4_commit_122 (by decide) ?_
            refine lv_aload_n hx hb dX4_commit_123 rfl (lv_at hl 0 rfl) ?_
            refine wR_get (v := .int (nI (rc + lgN (mgZ V q w) f))) (C := RX4) (T := TX4) (N := 18) (ci := 4) hx hb hts hinX4 hown hK hP 0 (by decide) rfl rfl 7 (by decide) (hts (.fieldLink RX4 68 "ChangeStreamModel" "rows" "I") (by decide +kernel)) rfl rfl dX4_commit_124 ?_
            refine lv_imul hx hb dX4_commit_127 ?_
            rw [pk_mul]
            refine lv_aload_n hx hb dX4_commit_128 rfl (lv_at hl 0 rfl) ?_
            refine wR_get (v := .int (nI T)) (C := RX4) (T := TX4) (N := 18) (ci := 4) hx hb hts hinX4 hown hK hP 0 (by decide) rfl rfl 9 (by decide) (hts (.fieldLink RX4 65 "ChangeStreamModel" "transactions" "I") (by decide +kernel)) rfl (congrArg (fun z => some (Value.int z)) hT) dX4_commit_129 ?_
            refine wR_ist (f := tbA (mgZ V q w) T w rc (V 5) f) hx hb hK hP hD hS 5 0 (by decide) rfl rfl (nx_in (k := 3 * (rc + lgN (mgZ V q w) f)) rfl (by omega) (by decide)) (j := 3 * (rc + lgN (mgZ V q w) f)) (nx_cl rfl (by omega)) rfl dX4_commit_132 (fun H locs hP hD hS => ?_)
            rw [bx_uu] at hP hD
            refine lv_aload_n hx hb dX4_commit_133 rfl (lv_at hl 0 rfl) ?_
            refine wR_get (v := .ref (ad 5)) (C := RX4) (T := TX4) (N := 18) (ci := 4) hx hb hts hinX4 hown hK hP 0 (by decide) rfl rfl 8 (by decide) (hts (.fieldLink RX4 23 "ChangeStreamModel" "table" "[I") (by decide +kernel)) rfl rfl dX4_commit_134 ?_
            refine lv_iconst (v := nI 3) hx hb dX4_commit_137 (by decide) ?_
            refine lv_aload_n hx hb dX4_commit_138 rfl (lv_at hl 0 rfl) ?_
            refine wR_get (v := .int (nI (rc + lgN (mgZ V q w) f))) (C := RX4) (T := TX4) (N := 18) (ci := 4) hx hb hts hinX4 hown hK hP 0 (by decide) rfl rfl 7 (by decide) (hts (.fieldLink RX4 68 "ChangeStreamModel" "rows" "I") (by decide +kernel)) rfl rfl dX4_commit_139 ?_
            refine lv_imul hx hb dX4_commit_142 ?_
            rw [pk_mul]
            refine lv_iconst (v := nI 1) hx hb dX4_commit_143 (by decide) ?_
            refine lv_iadd hx hb dX4_commit_144 ?_
            rw [nI_add]
            refine lv_iload_n hx hb dX4_commit_145 rfl (lv_at hl 2 rfl) ?_
            refine wR_ist (f := va_up (tbA (mgZ V q w) T w rc (V 5) f) (3 * (rc + lgN (mgZ V q w) f)) (nI T)) hx hb hK hP hD hS 5 0 (by decide) rfl rfl (nx_in (k := 3 * (rc + lgN (mgZ V q w) f) + 1) rfl (by omega) (by decide)) (j := 3 * (rc + lgN (mgZ V q w) f) + 1) (nx_cl rfl (by omega)) rfl dX4_commit_146 (fun H locs hP hD hS => ?_)
            rw [bx_uu] at hP hD
            refine lv_aload_n hx hb dX4_commit_147 rfl (lv_at hl 0 rfl) ?_
            refine wR_get (v := .ref (ad 5)) (C := RX4) (T := TX4) (N := 18) (ci := 4) hx hb hts hinX4 hown hK hP 0 (by decide) rfl rfl 8 (by decide) (hts (.fieldLink RX4 23 "ChangeStreamModel" "table" "[I") (by decide +kernel)) rfl rfl dX4_commit_148 ?_
            refine lv_iconst (v := nI 3) hx hb dX4_commit_151 (by decide) ?_
            refine lv_aload_n hx hb dX4_commit_152 rfl (lv_at hl 0 rfl) ?_
            refine wR_get (v := .int (nI (rc + lgN (mgZ V q w) f))) (C := RX4) (T := TX4) (N := 18) (ci := 4) hx hb hts hinX4 hown hK hP 0 (by decide) rfl rfl 7 (by decide) (hts (.fieldLink RX4 68 "ChangeStreamModel" "rows" "I") (by decide +kernel)) rfl rfl dX4_commit_153 ?_
            refine lv_imul hx hb dX4_commit_156 ?_
            rw [pk_mul]
            refine lv_iconst (v := nI 2) hx hb dX4_commit_157 (by decide) ?_
            refine lv_iadd hx hb dX4_commit_158 ?_
            rw [nI_add]
            refine lv_iload_n hx hb dX4_commit_159 rfl (lv_at hl 1 rfl) ?_
            refine wR_ist (f := va_up (va_up (tbA (mgZ V q w) T w rc (V 5) f) (3 * (rc + lgN (mgZ V q w) f)) (nI T)) (3 * (rc + lgN (mgZ V q w) f) + 1) (nI f)) hx hb hK hP hD hS 5 0 (by decide) rfl rfl (nx_in (k := 3 * (rc + lgN (mgZ V q w) f) + 2) rfl (by omega) (by decide)) (j := 3 * (rc + lgN (mgZ V q w) f) + 2) (nx_cl rfl (by omega)) rfl dX4_commit_160 (fun H locs hP hD hS => ?_)
            rw [bx_uu] at hP hD
            refine lv_aload_n hx hb dX4_commit_161 rfl (lv_at hl 0 rfl) ?_
            refine lv_dup hx hb dX4_commit_162 rfl ?_
            refine wR_get (v := .int (nI (rc + lgN (mgZ V q w) f))) (C := RX4) (T := TX4) (N := 18) (ci := 4) hx hb hts hinX4 hown hK hP 0 (by decide) rfl rfl 7 (by decide) (hts (.fieldLink RX4 68 "ChangeStreamModel" "rows" "I") (by decide +kernel)) rfl rfl dX4_commit_163 ?_
            refine lv_iconst (v := nI 1) hx hb dX4_commit_166 (by decide) ?_
            refine lv_iadd hx hb dX4_commit_167 ?_
            rw [nI_add]
            refine wR_put (C := RX4) (T := TX4) (N := 18) (ci := 4) hx hb hts hinX4 tyX4 tyX4_ok nmX4 hown hK hP hD hS 0 (by decide) rfl rfl 7 (by decide) (hts (.fieldLink RX4 68 "ChangeStreamModel" "rows" "I") (by decide +kernel)) rfl rfl (by decide +kernel) (by simp) (va_up (va_up (I 0) 7 (nI (rc + lgN (mgZ V q w) f))) 7 (nI (rc + lgN (mgZ V q w) f + 1))) rfl dX4_commit_168 (fun H locs hP hD hS => ?_)
            rw [bx_uu] at hP hD
            refine lv_iinc (v := nI (f + 1)) (lv' := [(2, .int (nI (f + 1))), (0, .ref (ad 0)), (1, .int (nI w)), (3, .int (lst3 (V 4) f q))]) hx hb dX4_commit_171 hl (k := 2) rfl (nI_add _ 1) (by decide) rfl (fun ls hl => ?_)
            refine lv_goto (tgt := 37) hx hb dX4_commit_174 (by decide) ?_
            have hz9 : mgZ V q w f = true := mgZ_t c_2 (fun h9 => c_5 (h9.trans (show nI (if w = 1 then 1 else 0) = nI 1 from congrArg nI (if_pos c_3))))
            have hP : va_P D vwCl (mW cI cZ ad (va_up I 0 (va_up (I 0) 7 (nI (rc + lgN (mgZ V q w) (f + 1))))) (va_up V 5 (tbA (mgZ V q w) T w rc (V 5) (f + 1)))) H := by rw [lgN_t hz9, tbA_t hz9]; exact hP
            have hD : va_D A (mW cI cZ ad (va_up I 0 (va_up (I 0) 7 (nI (rc + lgN (mgZ V q w) (f + 1))))) (va_up V 5 (tbA (mgZ V q w) T w rc (V 5) (f + 1)))) := by rw [lgN_t hz9, tbA_t hz9]; exact hD
            exact ih (f + 1) H locs ls (by omega) (by omega) hP hD hS (lv_sub hl [1, 2, 0] rfl)

set_option maxHeartbeats 4000000 in
set_option maxRecDepth 100000 in
theorem lp_X4_commit_i {p : Program} (l : Launch) {e : Env} {s : State} {m : MethodId} {args : Array Value} {below : List Frame} {meth : Method} {c : Code} {Q : State → Prop} {A : Nat → Prop} (D : va_G) (cI cZ : ClassId) (ad : Nat → Nat) (I V : Nat → Nat → Int32) (rc rn : Nat) (fa : Nat → Nat) (hx : p.tables.exec = Jvm.exec) (hb : c.code = cX4_commit) (hml : c.maxLocals = 5) (hts : ∀ w ∈ wsX4_commit, w.before args s = true) (hown : s.vm.findClass RX4 = some m.cls) (hK : va_K D vwCl (mT cI cZ) s) (hA : ∀ q : Nat, s.heap.size ≤ q → A q) (hrn : I 0 7 = nI rn) (hrc1 : rc ≤ rn) (hrn6 : rn ≤ 512) (hfa : ∀ i, rc ≤ i → i < rn → V 5 (3 * i + 1) = nI (fa i) ∧ fa i < 100)  (kk : ∀ (H : Heap) (locs : List Loc) (ls : Array Slot), va_P D vwCl (mW cI cZ ad I (va_up V 3 (inA (V 5) fa rc (V 3) (rn - rc)))) H → va_D A (mW cI cZ ad I (va_up V 3 (inA (V 5) fa rc (V 3) (rn - rc)))) → va_S A s.heap H locs → lv_has ls 5 [(0, .ref (ad 0))] → W p l e ({ frames := 1, cells := 0, slots := 0, locals := 21 } : Room) s m args below meth c H locs 0 0 Q (F0 m 241 ls [])) : ∀ (fuel : Nat) (d : Nat) (H : Heap) (locs : List Loc) (ls : Array Slot), rc + d ≤ rn → rn - (rc + d) < fuel → va_P D vwCl (mW cI cZ ad I (va_up V 3 (inA (V 5) fa rc (V 3) d))) H → va_D A (mW cI cZ ad I (va_up V 3 (inA (V 5) fa rc (V 3) d))) → va_S A s.heap H locs → lv_has ls 5 [(0, .ref (ad 0)), (1, .int (nI (rc + d)))] → W p l e ({ frames := 1, cells := 0, slots := 0, locals := 21 } : Room) s m args below meth c H locs 0 0 Q (F0 m 193 ls []) := by
  intro fuel
  induction fuel with
  | zero =>
    intro d H locs ls hd hfu
    exact absurd hfu (Nat.not_lt_zero _)
  | succ fuel ih =>
    intro d H locs ls hd hfu hP hD hS hl
    have hinX4 : ∀ w ∈ wsX40, w ∈ wsX4_commit := by decide +kernel
    refine lv_iload_n hx hb dX4_commit_193 rfl (lv_at hl 1 rfl) ?_
    refine lv_aload_n hx hb dX4_commit_194 rfl (lv_at hl 0 rfl) ?_
    refine wR_get (v := .int (nI rn)) (C := RX4) (T := TX4) (N := 18) (ci := 4) hx hb hts hinX4 hown hK hP 0 (by decide) rfl rfl 7 (by decide) (hts (.fieldLink RX4 68 "ChangeStreamModel" "rows" "I") (by decide +kernel)) rfl (congrArg (fun z => some (Value.int z)) hrn) dX4_commit_195 ?_
    refine lv_icmp_ge (tgt := 241) hx hb dX4_commit_198 (by decide) (fun c_1 => ?_) (fun c_1 => ?_)
    · have c_1 : rn ≤ (rc + d) := (nI_leI (a := rn) (b := rc + d) (by omega) (by omega)).mp c_1
      have hdr : d = rn - rc := by omega
      rw [hdr] at hP hD
      exact kk  H locs ls  hP hD hS (lv_sub hl [0] rfl)
    · have c_1 : ¬ (rn ≤ (rc + d)) := fun h9 => c_1 ((nI_leI (a := rn) (b := rc + d) (by omega) (by omega)).mpr h9)
      obtain ⟨hf1, hf2⟩ := hfa (rc + d) (by omega) (by omega)
      refine lv_aload_n hx hb dX4_commit_201 rfl (lv_at hl 0 rfl) ?_
      refine wR_get (v := .ref (ad 3)) (C := RX4) (T := TX4) (N := 18) (ci := 4) hx hb hts hinX4 hown hK hP 0 (by decide) rfl rfl 4 (by decide) (hts (.fieldLink RX4 16 "ChangeStreamModel" "in" "[Z") (by decide +kernel)) rfl rfl dX4_commit_202 ?_
      refine lv_aload_n hx hb dX4_commit_205 rfl (lv_at hl 0 rfl) ?_
      refine wR_get (v := .ref (ad 5)) (C := RX4) (T := TX4) (N := 18) (ci := 4) hx hb hts hinX4 hown hK hP 0 (by decide) rfl rfl 8 (by decide) (hts (.fieldLink RX4 23 "ChangeStreamModel" "table" "[I") (by decide +kernel)) rfl rfl dX4_commit_206 ?_
      refine lv_iconst (v := nI 3) hx hb dX4_commit_209 (by decide) ?_
      refine lv_iload_n hx hb dX4_commit_210 rfl (lv_at hl 1 rfl) ?_
      refine lv_imul hx hb dX4_commit_211 ?_
      rw [pk_mul]
      refine lv_iconst (v := nI 1) hx hb dX4_commit_212 (by decide) ?_
      refine lv_iadd hx hb dX4_commit_213 ?_
      rw [nI_add]
      refine wR_ild (f := V 5) (v := nI (fa (rc + d))) hx hb hK hP 5 0 (by decide) rfl rfl (nx_in (k := 3 * (rc + d) + 1) rfl (by omega) (by decide)) (j := 3 * (rc + d) + 1) (nx_cl rfl (by omega)) hf1 dX4_commit_214 ?_
      refine lv_aload_n hx hb dX4_commit_215 rfl (lv_at hl 0 rfl) ?_
      refine wR_get (v := .ref (ad 5)) (C := RX4) (T := TX4) (N := 18) (ci := 4) hx hb hts hinX4 hown hK hP 0 (by decide) rfl rfl 8 (by decide) (hts (.fieldLink RX4 23 "ChangeStreamModel" "table" "[I") (by decide +kernel)) rfl rfl dX4_commit_216 ?_
      refine lv_iconst (v := nI 3) hx hb dX4_commit_219 (by decide) ?_
      refine lv_iload_n hx hb dX4_commit_220 rfl (lv_at hl 1 rfl) ?_
      refine lv_imul hx hb dX4_commit_221 ?_
      rw [pk_mul]
      refine lv_iconst (v := nI 2) hx hb dX4_commit_222 (by decide) ?_
      refine lv_iadd hx hb dX4_commit_223 ?_
      rw [nI_add]
      refine wR_ild (f := V 5) (v := (V 5) (3 * (rc + d) + 2)) hx hb hK hP 5 0 (by decide) rfl rfl (nx_in (k := 3 * (rc + d) + 2) rfl (by omega) (by decide)) (j := 3 * (rc + d) + 2) (nx_cl rfl (by omega)) rfl dX4_commit_224 ?_
      refine lv_iconst (v := nI 1) hx hb dX4_commit_225 (by decide) ?_
      refine lv_icmp_ne (tgt := 233) hx hb dX4_commit_226 (by decide) (fun c_2 => ?_) (fun c_2 => ?_)
      · refine lv_iconst (v := nI 0) hx hb dX4_commit_233 (by decide) ?_
        refine wR_zst (f := inA (V 5) fa rc (V 3) d) hx hb hK hP hD hS 3 1 (by decide) rfl rfl (by first | exact Or.inl rfl | exact Or.inr rfl) (nx_in (k := fa (rc + d)) rfl (by omega) (by decide)) (j := fa (rc + d)) (nx_cl rfl (by omega)) rfl dX4_commit_234 (fun H locs hP hD hS => ?_)
        rw [bx_uu] at hP hD
        refine lv_iinc (v := nI (rc + d + 1)) (lv' := [(1, .int (nI (rc + d + 1))), (0, .ref (ad 0))]) hx hb dX4_commit_235 hl (k := 1) rfl (nI_add _ 1) (by decide) rfl (fun ls hl => ?_)
        refine lv_goto (tgt := 193) hx hb dX4_commit_238 (by decide) ?_
        have e9 : inA (V 5) fa rc (V 3) (d + 1) = va_up (inA (V 5) fa rc (V 3) d) (fa (rc + d)) (nI 0) := by show va_up _ _ (nI (if V 5 (3 * (rc + d) + 2) = nI 1 then 1 else 0)) = _; rw [if_neg c_2]
        have hP : va_P D vwCl (mW cI cZ ad I (va_up V 3 (inA (V 5) fa rc (V 3) (d + 1)))) H := by rw [e9]; exact hP
        have hD : va_D A (mW cI cZ ad I (va_up V 3 (inA (V 5) fa rc (V 3) (d + 1)))) := by rw [e9]; exact hD
        exact ih (d + 1) H locs ls (by omega) (by omega) hP hD hS (lv_sub hl [1, 0] rfl)
      · refine lv_iconst (v := nI 1) hx hb dX4_commit_229 (by decide) ?_
        refine lv_goto (tgt := 234) hx hb dX4_commit_230 (by decide) ?_
        refine wR_zst (f := inA (V 5) fa rc (V 3) d) hx hb hK hP hD hS 3 1 (by decide) rfl rfl (by first | exact Or.inl rfl | exact Or.inr rfl) (nx_in (k := fa (rc + d)) rfl (by omega) (by decide)) (j := fa (rc + d)) (nx_cl rfl (by omega)) rfl dX4_commit_234 (fun H locs hP hD hS => ?_)
        rw [bx_uu] at hP hD
        refine lv_iinc (v := nI (rc + d + 1)) (lv' := [(1, .int (nI (rc + d + 1))), (0, .ref (ad 0))]) hx hb dX4_commit_235 hl (k := 1) rfl (nI_add _ 1) (by decide) rfl (fun ls hl => ?_)
        refine lv_goto (tgt := 193) hx hb dX4_commit_238 (by decide) ?_
        have e9 : inA (V 5) fa rc (V 3) (d + 1) = va_up (inA (V 5) fa rc (V 3) d) (fa (rc + d)) (nI 1) := by show va_up _ _ (nI (if V 5 (3 * (rc + d) + 2) = nI 1 then 1 else 0)) = _; rw [if_pos c_2]
        have hP : va_P D vwCl (mW cI cZ ad I (va_up V 3 (inA (V 5) fa rc (V 3) (d + 1)))) H := by rw [e9]; exact hP
        have hD : va_D A (mW cI cZ ad I (va_up V 3 (inA (V 5) fa rc (V 3) (d + 1)))) := by rw [e9]; exact hD
        exact ih (d + 1) H locs ls (by omega) (by omega) hP hD hS (lv_sub hl [1, 0] rfl)

set_option maxHeartbeats 4000000 in
set_option maxRecDepth 100000 in
/-- commit() -/
theorem c_X4_commit (l : Launch) (D : va_G) (cI cZ : ClassId) (ad : Nat → Nat) (I V : Nat → Nat → Int32) (sz : Nat) (k : Nat) (hk : I 0 1 = nI k) (hk1 : k ≤ 100) (q : Nat) (hq : I 0 5 = nI q) (hq2 : q ≤ 20) (TT lst rc kp nr : Nat) (hrc : I 0 7 = nI rc) (hT : I 0 9 = nI TT) (hkp : I 0 11 = nI kp) (hls : I 0 12 = nI lst) (hnr : I 0 13 = nI nr) (hr6 : rc ≤ 512) (hT1 : TT ≤ 512) (hkp1 : kp ≤ 30) (hls0 : 0 < lst) (hls1 : lst ≤ 513) (hnr6 : nr ≤ 6) (hT2 : TT < 512) (fa : Nat → Nat) (hrc6 : rc + lgN (mgZ V q 0) k + lgN (mgZ V q 1) k ≤ 512) (hfa : ∀ i, rc ≤ i → i < rc + lgN (mgZ V q 0) k + lgN (mgZ V q 1) k → (tbA (mgZ V q 1) (TT + 1) 1 (rc + lgN (mgZ V q 0) k) (tbA (mgZ V q 0) (TT + 1) 0 rc (V 5) k) k) (3 * i + 1) = nI (fa i) ∧ fa i < 100)  : Met l yX4_commit wsX4_commit ({ frames := 1, cells := 0, slots := 0, locals := 21 } : Room) (va_Pc [.ref (ad 0)] (wPre D vwCl (mT cI cZ) (mW cI cZ ad I V) sz wTrue)) (va_Qi (fun (r : Int32) (u : Unit) => r = nI (TT + 1)) (wPost D vwCl (mT cI cZ) (fun (u : Unit) => mW cI cZ ad (va_up I 0 (va_up (va_up (va_up (va_up (va_up (I 0) 0 (nI 0)) 9 (nI (TT + 1))) 7 (nI (rc + lgN (mgZ V q 0) k + lgN (mgZ V q 1) k))) 5 (nI 0)) 12 (nI (max lst (TT + 1 + 1 - kp))))) (va_up (va_up (va_up V 6 (va_up (V 6) (TT + 1) (nI rc))) 5 (tbA (mgZ V q 1) (TT + 1) 1 (rc + lgN (mgZ V q 0) k) (tbA (mgZ V q 0) (TT + 1) 0 rc (V 5) k) k)) 3 (inA (tbA (mgZ V q 1) (TT + 1) 1 (rc + lgN (mgZ V q 0) k) (tbA (mgZ V q 0) (TT + 1) 0 rc (V 5) k) k) fa rc (V 3) (lgN (mgZ V q 0) k + lgN (mgZ V q 1) k)))) (va_A (mW cI cZ ad I V) sz)) (va_A (mW cI cZ ad I V) sz)) 0 0 (va_A (mW cI cZ ad I V) sz) := by
  refine Met.ofW (cc := cX4_commit) (maxL := 5) (ret := (some .int)) (by decide) rfl ?_
  intro p e s m args below meth c s₁ B hml hv
  obtain ⟨rfl, hsz, hP, hK, hD0, hE⟩ := hv
  have hx := B.exec
  have hb := B.bytes
  have hr := B.returns
  have hts := atoms_spec (ws := wsX4_commit) B.pre
  have hown : s.vm.findClass RX4 = some m.cls := findClass_of_methodNamed B.named
  have hlocks := B.notSynchronized
  subst hsz
  have hD := hD0.self (sz := s.heap.size)
  generalize hAe : va_A (mW cI cZ ad I V) s.heap.size = A at hD ⊢
  have hA : ∀ q : Nat, s.heap.size ≤ q → A q := fun q h => by rw [← hAe]; exact Or.inr h
  have hS : va_S A s.heap s.heap [] := va_S.rf
  have hinX4 : ∀ w ∈ wsX40, w ∈ wsX4_commit := by decide +kernel
  have hl := lv_entry ([.ref (ad 0)]) (n := 5) (Nat.le_of_ble_eq_true rfl)
  rw [lg_entry_eq]
  generalize (lg_sl ([.ref (ad 0)]) ++ List.replicate (5 - (lg_sl ([.ref (ad 0)])).length) Slot.unset).toArray = ls at hl ⊢
  have hl : lv_has ls 5 [(0, .ref (ad 0))] := hl
  refine lv_aload_n hx hb dX4_commit_0 rfl (lv_at hl 0 rfl) ?_
  refine lv_iconst (v := nI 0) hx hb dX4_commit_1 (by decide) ?_
  refine wR_put (C := RX4) (T := TX4) (N := 18) (ci := 4) hx hb hts hinX4 tyX4 tyX4_ok nmX4 hown hK hP hD hS 0 (by decide) rfl rfl 0 (by decide) (hts (.fieldLink RX4 48 "ChangeStreamModel" "code" "I") (by decide +kernel)) rfl rfl (by decide +kernel) (by simp) (va_up (I 0) 0 (nI 0)) rfl dX4_commit_2 (fun H locs hP hD hS => ?_)
  refine lv_aload_n hx hb dX4_commit_5 rfl (lv_at hl 0 rfl) ?_
  refine lv_dup hx hb dX4_commit_6 rfl ?_
  refine wR_get (v := .int (nI TT)) (C := RX4) (T := TX4) (N := 18) (ci := 4) hx hb hts hinX4 hown hK hP 0 (by decide) rfl rfl 9 (by decide) (hts (.fieldLink RX4 65 "ChangeStreamModel" "transactions" "I") (by decide +kernel)) rfl (congrArg (fun z => some (Value.int z)) hT) dX4_commit_7 ?_
  refine lv_iconst (v := nI 1) hx hb dX4_commit_10 (by decide) ?_
  refine lv_iadd hx hb dX4_commit_11 ?_
  rw [nI_add]
  refine wR_put (C := RX4) (T := TX4) (N := 18) (ci := 4) hx hb hts hinX4 tyX4 tyX4_ok nmX4 hown hK hP hD hS 0 (by decide) rfl rfl 9 (by decide) (hts (.fieldLink RX4 65 "ChangeStreamModel" "transactions" "I") (by decide +kernel)) rfl rfl (by decide +kernel) (by simp) (va_up (va_up (I 0) 0 (nI 0)) 9 (nI (TT + 1))) rfl dX4_commit_12 (fun H locs hP hD hS => ?_)
  rw [bx_uu] at hP hD
  refine lv_aload_n hx hb dX4_commit_15 rfl (lv_at hl 0 rfl) ?_
  refine wR_get (v := .ref (ad 6)) (C := RX4) (T := TX4) (N := 18) (ci := 4) hx hb hts hinX4 hown hK hP 0 (by decide) rfl rfl 10 (by decide) (hts (.fieldLink RX4 26 "ChangeStreamModel" "begins" "[I") (by decide +kernel)) rfl rfl dX4_commit_16 ?_
  refine lv_aload_n hx hb dX4_commit_19 rfl (lv_at hl 0 rfl) ?_
  refine wR_get (v := .int (nI (TT + 1))) (C := RX4) (T := TX4) (N := 18) (ci := 4) hx hb hts hinX4 hown hK hP 0 (by decide) rfl rfl 9 (by decide) (hts (.fieldLink RX4 65 "ChangeStreamModel" "transactions" "I") (by decide +kernel)) rfl rfl dX4_commit_20 ?_
  refine lv_aload_n hx hb dX4_commit_23 rfl (lv_at hl 0 rfl) ?_
  refine wR_get (v := .int (nI rc)) (C := RX4) (T := TX4) (N := 18) (ci := 4) hx hb hts hinX4 hown hK hP 0 (by decide) rfl rfl 7 (by decide) (hts (.fieldLink RX4 68 "ChangeStreamModel" "rows" "I") (by decide +kernel)) rfl (congrArg (fun z => some (Value.int z)) hrc) dX4_commit_24 ?_
  refine wR_ist (f := V 6) hx hb hK hP hD hS 6 0 (by decide) rfl rfl (nx_in (k := TT + 1) rfl (by omega) (by decide)) (j := TT + 1) (nx_cl rfl (by omega)) rfl dX4_commit_27 (fun H locs hP hD hS => ?_)
  refine lv_iconst (v := nI 0) hx hb dX4_commit_28 (by decide) ?_
  refine lv_istore_n (lv' := [(1, .int (nI 0)), (0, .ref (ad 0))]) hx hb dX4_commit_29 rfl hl (by decide) rfl (fun ls hl => ?_)
  refine lv_iload_n hx hb dX4_commit_30 rfl (lv_at hl 0 rfl) ?_
  refine lv_iconst (v := nI 2) hx hb dX4_commit_31 (by decide) ?_
  refine lv_icmp_ge (tgt := 183) hx hb dX4_commit_32 (by decide) (fun c_1 => ?_) (fun c_1 => ?_)
  · exact absurd c_1 (by decide)
  · refine lv_iconst (v := nI 0) hx hb dX4_commit_35 (by decide) ?_
    refine lv_istore_n (lv' := [(2, .int (nI 0)), (1, .int (nI 0)), (0, .ref (ad 0))]) hx hb dX4_commit_36 rfl hl (by decide) rfl (fun ls hl => ?_)
    have e7 : nI (rc + 0) = I 0 7 := by rw [Nat.add_zero, hrc]
    have hP : va_P D vwCl (mW cI cZ ad (va_up I 0 (va_up (va_up (va_up (I 0) 0 (nI 0)) 9 (nI (TT + 1))) 7 (nI (rc + 0)))) (va_up V 6 (va_up (V 6) (TT + 1) (nI rc)))) H := by rw [e7]; exact hP
    have hD : va_D A (mW cI cZ ad (va_up I 0 (va_up (va_up (va_up (I 0) 0 (nI 0)) 9 (nI (TT + 1))) 7 (nI (rc + 0)))) (va_up V 6 (va_up (V 6) (TT + 1) (nI rc)))) := by rw [e7]; exact hD
    refine lp_X4_commit_f l D cI cZ ad (va_up I 0 (va_up (va_up (I 0) 0 (nI 0)) 9 (nI (TT + 1)))) (va_up V 6 (va_up (V 6) (TT + 1) (nI rc))) 0 q k (TT + 1) (rc) hx hb hml hts hown hK hA (by decide) hk hk1 hq hq2 rfl (show rc + lgN (mgZ V q 0) k ≤ 512 by omega) (fun  H locs ls  hP hD hS hl => ?_) (k + 1) 0 H locs ls (by omega) (by omega) hP hD hS (lv_sub hl [2, 1, 0] rfl)
    have hP : va_P D vwCl (mW cI cZ ad (va_up I 0 (va_up (va_up (va_up (I 0) 0 (nI 0)) 9 (nI (TT + 1))) 7 (nI (rc + lgN (mgZ V q 0) k)))) (va_up (va_up V 6 (va_up (V 6) (TT + 1) (nI rc))) 5 (tbA (mgZ V q 0) (TT + 1) 0 rc (V 5) k))) H := hP
    have hD : va_D A (mW cI cZ ad (va_up I 0 (va_up (va_up (va_up (I 0) 0 (nI 0)) 9 (nI (TT + 1))) 7 (nI (rc + lgN (mgZ V q 0) k)))) (va_up (va_up V 6 (va_up (V 6) (TT + 1) (nI rc))) 5 (tbA (mgZ V q 0) (TT + 1) 0 rc (V 5) k))) := hD
    refine lv_iinc (v := nI 1) (lv' := [(1, .int (nI 1)), (0, .ref (ad 0))]) hx hb dX4_commit_177 hl (k := 1) rfl rfl (by decide) rfl (fun ls hl => ?_)
    refine lv_goto (tgt := 30) hx hb dX4_commit_180 (by decide) ?_
    refine lv_iload_n hx hb dX4_commit_30 rfl (lv_at hl 0 rfl) ?_
    refine lv_iconst (v := nI 2) hx hb dX4_commit_31 (by decide) ?_
    refine lv_icmp_ge (tgt := 183) hx hb dX4_commit_32 (by decide) (fun c_2 => ?_) (fun c_2 => ?_)
    · exact absurd c_2 (by decide)
    · refine lv_iconst (v := nI 0) hx hb dX4_commit_35 (by decide) ?_
      refine lv_istore_n (lv' := [(2, .int (nI 0)), (1, .int (nI 1)), (0, .ref (ad 0))]) hx hb dX4_commit_36 rfl hl (by decide) rfl (fun ls hl => ?_)
      refine lp_X4_commit_f l D cI cZ ad (va_up I 0 (va_up (va_up (va_up (I 0) 0 (nI 0)) 9 (nI (TT + 1))) 7 (nI (rc + lgN (mgZ V q 0) k)))) (va_up (va_up V 6 (va_up (V 6) (TT + 1) (nI rc))) 5 (tbA (mgZ V q 0) (TT + 1) 0 rc (V 5) k)) 1 q k (TT + 1) (rc + lgN (mgZ V q 0) k) hx hb hml hts hown hK hA (by decide) hk hk1 hq hq2 rfl (show rc + lgN (mgZ V q 0) k + lgN (mgZ V q 1) k ≤ 512 by omega) (fun  H locs ls  hP hD hS hl => ?_) (k + 1) 0 H locs ls (by omega) (by omega) hP hD hS (lv_sub hl [2, 1, 0] rfl)
      have hP : va_P D vwCl (mW cI cZ ad (va_up I 0 (va_up (va_up (va_up (I 0) 0 (nI 0)) 9 (nI (TT + 1))) 7 (nI (rc + lgN (mgZ V q 0) k + lgN (mgZ V q 1) k)))) (va_up (va_up V 6 (va_up (V 6) (TT + 1) (nI rc))) 5 (tbA (mgZ V q 1) (TT + 1) 1 (rc + lgN (mgZ V q 0) k) (tbA (mgZ V q 0) (TT + 1) 0 rc (V 5) k) k))) H := hP
      have hD : va_D A (mW cI cZ ad (va_up I 0 (va_up (va_up (va_up (I 0) 0 (nI 0)) 9 (nI (TT + 1))) 7 (nI (rc + lgN (mgZ V q 0) k + lgN (mgZ V q 1) k)))) (va_up (va_up V 6 (va_up (V 6) (TT + 1) (nI rc))) 5 (tbA (mgZ V q 1) (TT + 1) 1 (rc + lgN (mgZ V q 0) k) (tbA (mgZ V q 0) (TT + 1) 0 rc (V 5) k) k))) := hD
      refine lv_iinc (v := nI 2) (lv' := [(1, .int (nI 2)), (0, .ref (ad 0))]) hx hb dX4_commit_177 hl (k := 1) rfl rfl (by decide) rfl (fun ls hl => ?_)
      refine lv_goto (tgt := 30) hx hb dX4_commit_180 (by decide) ?_
      refine lv_iload_n hx hb dX4_commit_30 rfl (lv_at hl 0 rfl) ?_
      refine lv_iconst (v := nI 2) hx hb dX4_commit_31 (by decide) ?_
      refine lv_icmp_ge (tgt := 183) hx hb dX4_commit_32 (by decide) (fun c_3 => ?_) (fun c_3 => ?_)
      · refine lv_aload_n hx hb dX4_commit_183 rfl (lv_at hl 1 rfl) ?_
        refine wR_get (v := .ref (ad 6)) (C := RX4) (T := TX4) (N := 18) (ci := 4) hx hb hts hinX4 hown hK hP 0 (by decide) rfl rfl 10 (by decide) (hts (.fieldLink RX4 26 "ChangeStreamModel" "begins" "[I") (by decide +kernel)) rfl rfl dX4_commit_184 ?_
        refine lv_aload_n hx hb dX4_commit_187 rfl (lv_at hl 1 rfl) ?_
        refine wR_get (v := .int (nI (TT + 1))) (C := RX4) (T := TX4) (N := 18) (ci := 4) hx hb hts hinX4 hown hK hP 0 (by decide) rfl rfl 9 (by decide) (hts (.fieldLink RX4 65 "ChangeStreamModel" "transactions" "I") (by decide +kernel)) rfl rfl dX4_commit_188 ?_
        refine wR_ild (f := va_up (V 6) (TT + 1) (nI rc)) (v := nI rc) hx hb hK hP 6 0 (by decide) rfl rfl (nx_in (k := TT + 1) rfl (by omega) (by decide)) (j := TT + 1) (nx_cl rfl (by omega)) (va_up_self _ _ _) dX4_commit_191 ?_
        refine lv_istore_n (lv' := [(1, .int (nI rc)), (0, .ref (ad 0))]) hx hb dX4_commit_192 rfl hl (by decide) rfl (fun ls hl => ?_)
        refine lp_X4_commit_i l D cI cZ ad (va_up I 0 (va_up (va_up (va_up (I 0) 0 (nI 0)) 9 (nI (TT + 1))) 7 (nI (rc + lgN (mgZ V q 0) k + lgN (mgZ V q 1) k)))) (va_up (va_up V 6 (va_up (V 6) (TT + 1) (nI rc))) 5 (tbA (mgZ V q 1) (TT + 1) 1 (rc + lgN (mgZ V q 0) k) (tbA (mgZ V q 0) (TT + 1) 0 rc (V 5) k) k)) rc (rc + lgN (mgZ V q 0) k + lgN (mgZ V q 1) k) fa hx hb hml hts hown hK hA rfl (by omega) hrc6 hfa (fun  H locs ls  hP hD hS hl => ?_) (lgN (mgZ V q 0) k + lgN (mgZ V q 1) k + 1) 0 H locs ls (by omega) (by omega) hP hD hS (lv_sub hl [1, 0] rfl)
        rw [show rc + lgN (mgZ V q 0) k + lgN (mgZ V q 1) k - rc = lgN (mgZ V q 0) k + lgN (mgZ V q 1) k by omega] at hP hD
        have hP : va_P D vwCl (mW cI cZ ad (va_up I 0 (va_up (va_up (va_up (I 0) 0 (nI 0)) 9 (nI (TT + 1))) 7 (nI (rc + lgN (mgZ V q 0) k + lgN (mgZ V q 1) k)))) (va_up (va_up (va_up V 6 (va_up (V 6) (TT + 1) (nI rc))) 5 (tbA (mgZ V q 1) (TT + 1) 1 (rc + lgN (mgZ V q 0) k) (tbA (mgZ V q 0) (TT + 1) 0 rc (V 5) k) k)) 3 (inA (tbA (mgZ V q 1) (TT + 1) 1 (rc + lgN (mgZ V q 0) k) (tbA (mgZ V q 0) (TT + 1) 0 rc (V 5) k) k) fa rc (V 3) (lgN (mgZ V q 0) k + lgN (mgZ V q 1) k)))) H := hP
        have hD : va_D A (mW cI cZ ad (va_up I 0 (va_up (va_up (va_up (I 0) 0 (nI 0)) 9 (nI (TT + 1))) 7 (nI (rc + lgN (mgZ V q 0) k + lgN (mgZ V q 1) k)))) (va_up (va_up (va_up V 6 (va_up (V 6) (TT + 1) (nI rc))) 5 (tbA (mgZ V q 1) (TT + 1) 1 (rc + lgN (mgZ V q 0) k) (tbA (mgZ V q 0) (TT + 1) 0 rc (V 5) k) k)) 3 (inA (tbA (mgZ V q 1) (TT + 1) 1 (rc + lgN (mgZ V q 0) k) (tbA (mgZ V q 0) (TT + 1) 0 rc (V 5) k) k) fa rc (V 3) (lgN (mgZ V q 0) k + lgN (mgZ V q 1) k)))) := hD
        refine lv_aload_n hx hb dX4_commit_241 rfl (lv_at hl 0 rfl) ?_
        refine lv_iconst (v := nI 0) hx hb dX4_commit_242 (by decide) ?_
        refine wR_put (C := RX4) (T := TX4) (N := 18) (ci := 4) hx hb hts hinX4 tyX4 tyX4_ok nmX4 hown hK hP hD hS 0 (by decide) rfl rfl 5 (by decide) (hts (.fieldLink RX4 62 "ChangeStreamModel" "open" "I") (by decide +kernel)) rfl rfl (by decide +kernel) (by simp) (va_up (va_up (va_up (va_up (I 0) 0 (nI 0)) 9 (nI (TT + 1))) 7 (nI (rc + lgN (mgZ V q 0) k + lgN (mgZ V q 1) k))) 5 (nI 0)) rfl dX4_commit_243 (fun H locs hP hD hS => ?_)
        rw [bx_uu] at hP hD
        refine lv_aload_n hx hb dX4_commit_246 rfl (lv_at hl 0 rfl) ?_
        refine w_callv (w := mW cI cZ ad (va_up I 0 (va_up (va_up (va_up (va_up (I 0) 0 (nI 0)) 9 (nI (TT + 1))) 7 (nI (rc + lgN (mgZ V q 0) k + lgN (mgZ V q 1) k))) 5 (nI 0))) (va_up (va_up (va_up V 6 (va_up (V 6) (TT + 1) (nI rc))) 5 (tbA (mgZ V q 1) (TT + 1) 1 (rc + lgN (mgZ V q 0) k) (tbA (mgZ V q 0) (TT + 1) 0 rc (V 5) k) k)) 3 (inA (tbA (mgZ V q 1) (TT + 1) 1 (rc + lgN (mgZ V q 0) k) (tbA (mgZ V q 0) (TT + 1) 0 rc (V 5) k) k) fa rc (V 3) (lgN (mgZ V q 0) k + lgN (mgZ V q 1) k)))) hS hA hK hD (va_runV (As := []) (rest := []) ⟨hx, hb, hml, hown, hts⟩ (c_X4_forgets l D cI cZ ad (va_up I 0 (va_up (va_up (va_up (va_up (I 0) 0 (nI 0)) 9 (nI (TT + 1))) 7 (nI (rc + lgN (mgZ V q 0) k + lgN (mgZ V q 1) k))) 5 (nI 0))) (va_up (va_up (va_up V 6 (va_up (V 6) (TT + 1) (nI rc))) 5 (tbA (mgZ V q 1) (TT + 1) 1 (rc + lgN (mgZ V q 0) k) (tbA (mgZ V q 0) (TT + 1) 0 rc (V 5) k) k)) 3 (inA (tbA (mgZ V q 1) (TT + 1) 1 (rc + lgN (mgZ V q 0) k) (tbA (mgZ V q 0) (TT + 1) 0 rc (V 5) k) k) fa rc (V 3) (lgN (mgZ V q 0) k + lgN (mgZ V q 1) k))) H.size (TT + 1) lst kp rfl hkp hls (by omega) hkp1 hls0 (by omega)) (cwV 0 hts gX4_commit_X4_forgets rfl rfl rfl (by decide +kernel) ⟨Nat.le_of_ble_eq_true rfl, Nat.le_of_ble_eq_true rfl⟩) ⟨(w_pre hP hK hD wEnv_true).1, wR_recv (C := RX4) (T := TX4) (N := 18) hK hP (ci := 4) rfl 0 (by decide) rfl, (w_pre hP hK hD wEnv_true).2⟩ rfl rfl hl.1 rfl (lv_room (Nat.le_of_ble_eq_true rfl)) dX4_commit_247 ⟨Nat.le_of_ble_eq_true rfl, Nat.le_of_ble_eq_true rfl⟩) (fun  u H locs hw hP hD hS hz => ?_)
        rw [bx_uu] at hP hD
        refine lv_aload_n hx hb dX4_commit_250 rfl (lv_at hl 0 rfl) ?_
        refine wR_get (v := .int (nI (TT + 1))) (C := RX4) (T := TX4) (N := 18) (ci := 4) hx hb hts hinX4 hown hK hP 0 (by decide) rfl rfl 9 (by decide) (hts (.fieldLink RX4 65 "ChangeStreamModel" "transactions" "I") (by decide +kernel)) rfl rfl dX4_commit_251 ?_
        exact W.iret (v := nI (TT + 1)) hx hb hr (fun t ht hW => ⟨⟨nI (TT + 1), (), rfl, rfl, by rw [ht]; exact hP, va_K.moved hW.alike hK, hD⟩, hS.F ht⟩) hS.2.2 dX4_commit_254
      · exact absurd (by decide) c_3
