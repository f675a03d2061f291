section WCopy
variable {p : Program} {l : Launch} {e : Env} {R : Room} {s : State} {m : MethodId} {args : Array Value} {below : List Frame} {meth : Method} {c : Code} {H : Heap} {locs : List Loc} {cells slots : Nat} {Q : State → Prop}
variable {cc : ByteArray} {pc : Nat} {ls : Array Slot} {rest : List Value} {D : va_G} {cl : List vw_C} {A : Nat → Prop} {tys : List (ClassId × FieldType)} {H0 : Heap}
variable {ad : Nat → Nat} {cf : Nat → (Nat → Int32) → (Nat → Int32) → va_E} {nr : Nat} {I V : Nat → Nat → Int32}
/-- System.arraycopy within one array of ints -/
theorem wR_cpy (hexec : p.tables.exec = Jvm.exec) (hb : c.code = cc) (hml : c.maxLocals = ls.size) {own : String} {index : Nat} (hown : s.vm.findClass own = some m.cls) (hlink : (Cond.methodLink own index arraycopyName).before args s = true) (hnat : (Cond.native arraycopyName).before args s = true) (hstat : (Cond.static arraycopyName).before args s = true) (hini : (Cond.initialized "java/lang/System").before args s = true)
    (hK : va_K D cl tys s) (hP : va_P D cl (wR ad cf nr I V) H) (hD : va_D A (wR ad cf nr I V)) (hS : va_S A H0 H locs) (r t0 : Nat) (hr : r < nr) {cA : ClassId} {N : Nat} {f : Nat → Int32} (he : cf r (I r) (V r) = .inl (cA, N, .inl f)) (ht : tys[t0]? = some (cA, .int)) (hty : refKind .int = false) {sp dp k : Nat} (h1 : sp < 2 ^ 31) (h2 : dp < 2 ^ 31) (h3 : k < 2 ^ 31) (h4 : sp + k ≤ N) (h5 : dp + k ≤ N)
    (hframes : 1 ≤ R.frames) (hlocals : (rest.map fun v => v.category).sum + (nativeFrameWords "java/lang/System" "arraycopy" 5 + 11) ≤ R.locals) (he' : cf r (I r) (va_cpy f f sp dp k) = .inl (cA, N, .inl (va_cpy f f sp dp k))) (hdg : decode cc pc = .ok (.invokestatic index, 3))
    (kk : ∀ (H1 : Heap) (locs1 : List Loc), va_P D cl (wR ad cf nr I (va_up V r (va_cpy f f sp dp k))) H1 → va_D A (wR ad cf nr I (va_up V r (va_cpy f f sp dp k))) → va_S A H0 H1 locs1 → W p l e R s m args below meth c H1 locs1 cells slots Q (F0 m (pc + 3) ls rest)) : W p l e R s m args below meth c H locs cells slots Q (F0 m pc ls (.int (nI k) :: .int (nI dp) :: .ref (ad r) :: .int (nI sp) :: .ref (ad r) :: rest)) := by
  refine va_copyi (ty := .int) hexec hb hml hown hlink hnat hstat hini hK hP hD hS r r t0 t0 (wR_at hr he) (wR_at hr he) ht ht hty (nI_pos h1) (nI_pos h2) (nI_pos h3) (by rw [nI_clamp h1, nI_clamp h3]; exact h4) (by rw [nI_clamp h2, nI_clamp h3]; exact h5) (fun _ _ => rfl) hframes hlocals hdg (fun H1 locs1 q1 q2 q3 => ?_)
  rw [nI_clamp h1, nI_clamp h2, nI_clamp h3] at q1 q2
  exact kk H1 locs1 (by rw [← wR_setV r _ he']; exact q1) (by rw [← wR_setV r _ he']; exact q2) q3
end WCopy
theorem n_dec (k : Nat) : nI k + Int32.ofInt (-1) = nI k - nI 1 := by rw [Int32.sub_eq_add_neg]; rfl
/-- the latest of k changes of rights that counts for a fact in a transaction; 1 without one -/
def hRt (F G O : Nat → Int32) (f t : Int32) : Nat → Int32
  | 0 => 1
  | k + 1 => if F k = f ∧ G k ≤ t then O k else hRt F G O f t k
theorem hRt_01 {F G O : Nat → Int32} (h : ∀ j, O j = 0 ∨ O j = 1) (f t : Int32) : ∀ k, hRt F G O f t k = 0 ∨ hRt F G O f t k = 1
  | 0 => Or.inr rfl
  | k + 1 => by
    unfold hRt
    by_cases hc : F k = f ∧ G k ≤ t
    · rw [if_pos hc]; exact h k
    · rw [if_neg hc]; exact hRt_01 h f t k
/-- how far the numbers from i on, d places at most, aren't above t -/
def fDone (f : Nat → Int32) (t : Int32) : Nat → Nat → Nat
  | 0, i => i
  | d + 1, i => if f i ≤ t then fDone f t d (i + 1) else i
theorem fDone_in (f : Nat → Int32) (t : Int32) : ∀ d i, i ≤ fDone f t d i ∧ fDone f t d i ≤ i + d
  | 0, i => ⟨Nat.le_refl _, Nat.le_refl _⟩
  | d + 1, i => by
    unfold fDone
    by_cases h : f i ≤ t
    · rw [if_pos h]; have := fDone_in f t d (i + 1); omega
    · rw [if_neg h]; omega
/-- the filter's answer: kind, number, fact, whether it comes in -/
def fLet (kd : Nat) (nm : Int32) (f : Nat) (b : Int32) : Int32 :=
  if kd = 1 then b else if kd = 2 then (if b = 0 then 1 else 0) else if kd = 3 then (if nI f < nm then 1 else 0) else if kd = 4 then (if nm = 0 then 1 else if nI f - nI f / nm * nm = 0 then 1 else 0) else 1

set_option maxHeartbeats 4000000 in
set_option maxRecDepth 100000 in
/-- Reader.moveTo(a, b) -/
theorem c_X1_moveTo (l : Launch) (D : va_G) (cI cZ cR : ClassId) (ad : Nat → Nat) (na n : Nat) (I V : Nat → Nat → Int32) (sz r : Nat)  (hn : r + 5 < n) (hrd : sC_r r) (a b : Int32) : Met l yX1_moveTo wsX1_moveTo ({ frames := 0, cells := 0, slots := 0, locals := 0 } : Room) (va_Pc [.ref (ad r), .int a, .int b] (wPre D vwCl (sT cI cZ cR) (sW cI cZ cR ad na n I V) sz wTrue)) (va_Qv (fun (u : Unit) => True) (wPost D vwCl (sT cI cZ cR) (fun (u : Unit) => sW cI cZ cR ad na n (va_up I r (va_up (va_up (I r) 7 a) 8 b)) V) (va_A (sW cI cZ cR ad na n I V) sz)) (va_A (sW cI cZ cR ad na n I V) sz)) 0 0 (va_A (sW cI cZ cR ad na n I V) sz) := by
  refine Met.ofW (cc := cX1_moveTo) (maxL := 3) (ret := none) (by decide) rfl ?_
  intro p e s m args below meth c s₁ B hml hv
  obtain ⟨rfl, hsz, hP, hK, hD0, hE⟩ := hv
  have hx := B.exec
  have hb := B.bytes
  have hr := B.returns
  have hts := atoms_spec (ws := wsX1_moveTo) B.pre
  have hown : s.vm.findClass RX1 = some m.cls := findClass_of_methodNamed B.named
  have hlocks := B.notSynchronized
  subst hsz
  have hD := hD0.self (sz := s.heap.size)
  generalize hAe : va_A (sW cI cZ cR ad na n I V) s.heap.size = A at hD ⊢
  have hA : ∀ q : Nat, s.heap.size ≤ q → A q := fun q h => by rw [← hAe]; exact Or.inr h
  have hS : va_S A s.heap s.heap [] := va_S.rf
  have hinX1 : ∀ w ∈ wsX10, w ∈ wsX1_moveTo := by decide +kernel
  have hl := lv_entry ([.ref (ad r), .int a, .int b]) (n := 3) (Nat.le_of_ble_eq_true rfl)
  rw [lg_entry_eq]
  generalize (lg_sl ([.ref (ad r), .int a, .int b]) ++ List.replicate (3 - (lg_sl ([.ref (ad r), .int a, .int b])).length) Slot.unset).toArray = ls at hl ⊢
  have hl : lv_has ls 3 [(0, .ref (ad r)), (1, .int a), (2, .int b)] := hl
  refine lv_aload_n hx hb dX1_moveTo_0 rfl (lv_at hl 0 rfl) ?_
  refine lv_iload_n hx hb dX1_moveTo_1 rfl (lv_at hl 1 rfl) ?_
  refine wR_put (C := RX1) (T := TX1) (N := 17) (ci := 1) hx hb hts hinX1 tyX1 tyX1_ok nmX1 hown hK hP hD hS r (by omega) (sC_rd hrd) rfl 7 (by decide) (hts (.fieldLink RX1 28 "ChangeStream$Reader" "atTransaction" "I") (by decide +kernel)) rfl rfl (by decide +kernel) (by simp) (va_up (I r) 7 a) (by exact ((sC_rd hrd)).trans rfl) dX1_moveTo_2 (fun H locs hP hD hS => ?_)
  refine lv_aload_n hx hb dX1_moveTo_5 rfl (lv_at hl 0 rfl) ?_
  refine lv_iload_n hx hb dX1_moveTo_6 rfl (lv_at hl 2 rfl) ?_
  have he_1 : sC cI cZ cR ad na r ((va_up I r (va_up (I r) 7 a)) r) (V r) = .inr (1, rdL ad r (va_up (I r) 7 a)) := by rw [va_up_self]; exact (sC_rd hrd)
  refine wR_put (C := RX1) (T := TX1) (N := 17) (ci := 1) hx hb hts hinX1 tyX1 tyX1_ok nmX1 hown hK hP hD hS r (by omega) he_1 rfl 8 (by decide) (hts (.fieldLink RX1 32 "ChangeStream$Reader" "atRow" "I") (by decide +kernel)) rfl rfl (by decide +kernel) (by simp) (va_up (va_up (I r) 7 a) 8 b) (by exact ((sC_rd hrd)).trans rfl) dX1_moveTo_7 (fun H locs hP hD hS => ?_)
  rw [bx_uu] at hP hD
  exact W.vret hx hb hr (fun t ht hW => ⟨⟨(), rfl, trivial, by rw [ht]; exact hP, va_K.moved hW.alike hK, hD⟩, hS.F ht⟩) hS.2.2 dX1_moveTo_10

set_option maxHeartbeats 4000000 in
set_option maxRecDepth 100000 in
/-- Reader.asksFor(g, q) -/
theorem c_X1_asksFor (l : Launch) (D : va_G) (cI cZ cR : ClassId) (ad : Nat → Nat) (na n : Nat) (I V : Nat → Nat → Int32) (sz r : Nat)  (hn : r + 5 < n) (hrd : sC_r r) (g q : Int32) : Met l yX1_asksFor wsX1_asksFor ({ frames := 0, cells := 0, slots := 0, locals := 0 } : Room) (va_Pc [.ref (ad r), .int g, .int q] (wPre D vwCl (sT cI cZ cR) (sW cI cZ cR ad na n I V) sz wTrue)) (va_Qi (fun (r9 : Int32) (u : Unit) => r9 = if (I r 0 = -1 ∨ I r 0 = g) ∧ (I r 1 = -1 ∨ I r 1 = q) then 1 else 0) (wPost D vwCl (sT cI cZ cR) (fun (u : Unit) => sW cI cZ cR ad na n I V) (va_A (sW cI cZ cR ad na n I V) sz)) (va_A (sW cI cZ cR ad na n I V) sz)) 0 0 (va_A (sW cI cZ cR ad na n I V) sz) := by
  refine Met.ofW (cc := cX1_asksFor) (maxL := 3) (ret := (some .boolean)) (by decide) rfl ?_
  intro p e s m args below meth c s₁ B hml hv
  obtain ⟨rfl, hsz, hP, hK, hD0, hE⟩ := hv
  have hx := B.exec
  have hb := B.bytes
  have hr := B.returns
  have hts := atoms_spec (ws := wsX1_asksFor) B.pre
  have hown : s.vm.findClass RX1 = some m.cls := findClass_of_methodNamed B.named
  have hlocks := B.notSynchronized
  subst hsz
  have hD := hD0.self (sz := s.heap.size)
  generalize hAe : va_A (sW cI cZ cR ad na n I V) s.heap.size = A at hD ⊢
  have hA : ∀ q : Nat, s.heap.size ≤ q → A q := fun q h => by rw [← hAe]; exact Or.inr h
  have hS : va_S A s.heap s.heap [] := va_S.rf
  have hinX1 : ∀ w ∈ wsX10, w ∈ wsX1_asksFor := by decide +kernel
  have hl := lv_entry ([.ref (ad r), .int g, .int q]) (n := 3) (Nat.le_of_ble_eq_true rfl)
  rw [lg_entry_eq]
  generalize (lg_sl ([.ref (ad r), .int g, .int q]) ++ List.replicate (3 - (lg_sl ([.ref (ad r), .int g, .int q])).length) Slot.unset).toArray = ls at hl ⊢
  have hl : lv_has ls 3 [(0, .ref (ad r)), (1, .int g), (2, .int q)] := hl
  refine lv_aload_n hx hb dX1_asksFor_0 rfl (lv_at hl 0 rfl) ?_
  refine wR_get (v := .int (I r 0)) (C := RX1) (T := TX1) (N := 17) (ci := 1) hx hb hts hinX1 hown hK hP r (by omega) (sC_rd hrd) rfl 0 (by decide) (hts (.fieldLink RX1 59 "ChangeStream$Reader" "graph" "I") (by decide +kernel)) rfl rfl dX1_asksFor_1 ?_
  refine lv_iconst (v := (-1)) hx hb dX1_asksFor_4 (by decide) ?_
  refine lv_icmp_eq (tgt := 16) hx hb dX1_asksFor_5 (by decide) (fun c_1 => ?_) (fun c_1 => ?_)
  · refine lv_aload_n hx hb dX1_asksFor_16 rfl (lv_at hl 0 rfl) ?_
    refine wR_get (v := .int (I r 1)) (C := RX1) (T := TX1) (N := 17) (ci := 1) hx hb hts hinX1 hown hK hP r (by omega) (sC_rd hrd) rfl 1 (by decide) (hts (.fieldLink RX1 62 "ChangeStream$Reader" "property" "I") (by decide +kernel)) rfl rfl dX1_asksFor_17 ?_
    refine lv_iconst (v := (-1)) hx hb dX1_asksFor_20 (by decide) ?_
    refine lv_icmp_eq (tgt := 32) hx hb dX1_asksFor_21 (by decide) (fun c_2 => ?_) (fun c_2 => ?_)
    · refine lv_iconst (v := nI 1) hx hb dX1_asksFor_32 (by decide) ?_
      refine lv_goto (tgt := 37) hx hb dX1_asksFor_33 (by decide) ?_
      exact W.zret (v := nI 1) hx hb hr rfl (fun t ht hW => ⟨⟨nI 1, (), rfl, (by first | (rw [if_pos (by constructor <;> first | exact Or.inl (by assumption) | exact Or.inr (by assumption) | exact Or.inr (by assumption))]; rfl) | (rw [if_neg (by rintro ⟨h1 | h1, h2 | h2⟩ <;> first | exact absurd h1 (by assumption) | exact absurd h2 (by assumption))]; rfl)), by rw [ht]; exact hP, va_K.moved hW.alike hK, hD⟩, hS.F ht⟩) hS.2.2 dX1_asksFor_37
    · refine lv_aload_n hx hb dX1_asksFor_24 rfl (lv_at hl 0 rfl) ?_
      refine wR_get (v := .int (I r 1)) (C := RX1) (T := TX1) (N := 17) (ci := 1) hx hb hts hinX1 hown hK hP r (by omega) (sC_rd hrd) rfl 1 (by decide) (hts (.fieldLink RX1 62 "ChangeStream$Reader" "property" "I") (by decide +kernel)) rfl rfl dX1_asksFor_25 ?_
      refine lv_iload_n hx hb dX1_asksFor_28 rfl (lv_at hl 2 rfl) ?_
      refine lv_icmp_ne (tgt := 36) hx hb dX1_asksFor_29 (by decide) (fun c_3 => ?_) (fun c_3 => ?_)
      · refine lv_iconst (v := nI 0) hx hb dX1_asksFor_36 (by decide) ?_
        exact W.zret (v := nI 0) hx hb hr rfl (fun t ht hW => ⟨⟨nI 0, (), rfl, (by first | (rw [if_pos (by constructor <;> first | exact Or.inl (by assumption) | exact Or.inr (by assumption) | exact Or.inr (by assumption))]; rfl) | (rw [if_neg (by rintro ⟨h1 | h1, h2 | h2⟩ <;> first | exact absurd h1 (by assumption) | exact absurd h2 (by assumption))]; rfl)), by rw [ht]; exact hP, va_K.moved hW.alike hK, hD⟩, hS.F ht⟩) hS.2.2 dX1_asksFor_37
      · refine lv_iconst (v := nI 1) hx hb dX1_asksFor_32 (by decide) ?_
        refine lv_goto (tgt := 37) hx hb dX1_asksFor_33 (by decide) ?_
        exact W.zret (v := nI 1) hx hb hr rfl (fun t ht hW => ⟨⟨nI 1, (), rfl, (by first | (rw [if_pos (by constructor <;> first | exact Or.inl (by assumption) | exact Or.inr (by assumption) | exact Or.inr (by assumption))]; rfl) | (rw [if_neg (by rintro ⟨h1 | h1, h2 | h2⟩ <;> first | exact absurd h1 (by assumption) | exact absurd h2 (by assumption))]; rfl)), by rw [ht]; exact hP, va_K.moved hW.alike hK, hD⟩, hS.F ht⟩) hS.2.2 dX1_asksFor_37
  · refine lv_aload_n hx hb dX1_asksFor_8 rfl (lv_at hl 0 rfl) ?_
    refine wR_get (v := .int (I r 0)) (C := RX1) (T := TX1) (N := 17) (ci := 1) hx hb hts hinX1 hown hK hP r (by omega) (sC_rd hrd) rfl 0 (by decide) (hts (.fieldLink RX1 59 "ChangeStream$Reader" "graph" "I") (by decide +kernel)) rfl rfl dX1_asksFor_9 ?_
    refine lv_iload_n hx hb dX1_asksFor_12 rfl (lv_at hl 1 rfl) ?_
    refine lv_icmp_ne (tgt := 36) hx hb dX1_asksFor_13 (by decide) (fun c_4 => ?_) (fun c_4 => ?_)
    · refine lv_iconst (v := nI 0) hx hb dX1_asksFor_36 (by decide) ?_
      exact W.zret (v := nI 0) hx hb hr rfl (fun t ht hW => ⟨⟨nI 0, (), rfl, (by first | (rw [if_pos (by constructor <;> first | exact Or.inl (by assumption) | exact Or.inr (by assumption) | exact Or.inr (by assumption))]; rfl) | (rw [if_neg (by rintro ⟨h1 | h1, h2 | h2⟩ <;> first | exact absurd h1 (by assumption) | exact absurd h2 (by assumption))]; rfl)), by rw [ht]; exact hP, va_K.moved hW.alike hK, hD⟩, hS.F ht⟩) hS.2.2 dX1_asksFor_37
    · refine lv_aload_n hx hb dX1_asksFor_16 rfl (lv_at hl 0 rfl) ?_
      refine wR_get (v := .int (I r 1)) (C := RX1) (T := TX1) (N := 17) (ci := 1) hx hb hts hinX1 hown hK hP r (by omega) (sC_rd hrd) rfl 1 (by decide) (hts (.fieldLink RX1 62 "ChangeStream$Reader" "property" "I") (by decide +kernel)) rfl rfl dX1_asksFor_17 ?_
      refine lv_iconst (v := (-1)) hx hb dX1_asksFor_20 (by decide) ?_
      refine lv_icmp_eq (tgt := 32) hx hb dX1_asksFor_21 (by decide) (fun c_5 => ?_) (fun c_5 => ?_)
      · refine lv_iconst (v := nI 1) hx hb dX1_asksFor_32 (by decide) ?_
        refine lv_goto (tgt := 37) hx hb dX1_asksFor_33 (by decide) ?_
        exact W.zret (v := nI 1) hx hb hr rfl (fun t ht hW => ⟨⟨nI 1, (), rfl, (by first | (rw [if_pos (by constructor <;> first | exact Or.inl (by assumption) | exact Or.inr (by assumption) | exact Or.inr (by assumption))]; rfl) | (rw [if_neg (by rintro ⟨h1 | h1, h2 | h2⟩ <;> first | exact absurd h1 (by assumption) | exact absurd h2 (by assumption))]; rfl)), by rw [ht]; exact hP, va_K.moved hW.alike hK, hD⟩, hS.F ht⟩) hS.2.2 dX1_asksFor_37
      · refine lv_aload_n hx hb dX1_asksFor_24 rfl (lv_at hl 0 rfl) ?_
        refine wR_get (v := .int (I r 1)) (C := RX1) (T := TX1) (N := 17) (ci := 1) hx hb hts hinX1 hown hK hP r (by omega) (sC_rd hrd) rfl 1 (by decide) (hts (.fieldLink RX1 62 "ChangeStream$Reader" "property" "I") (by decide +kernel)) rfl rfl dX1_asksFor_25 ?_
        refine lv_iload_n hx hb dX1_asksFor_28 rfl (lv_at hl 2 rfl) ?_
        refine lv_icmp_ne (tgt := 36) hx hb dX1_asksFor_29 (by decide) (fun c_6 => ?_) (fun c_6 => ?_)
        · refine lv_iconst (v := nI 0) hx hb dX1_asksFor_36 (by decide) ?_
          exact W.zret (v := nI 0) hx hb hr rfl (fun t ht hW => ⟨⟨nI 0, (), rfl, (by first | (rw [if_pos (by constructor <;> first | exact Or.inl (by assumption) | exact Or.inr (by assumption) | exact Or.inr (by assumption))]; rfl) | (rw [if_neg (by rintro ⟨h1 | h1, h2 | h2⟩ <;> first | exact absurd h1 (by assumption) | exact absurd h2 (by assumption))]; rfl)), by rw [ht]; exact hP, va_K.moved hW.alike hK, hD⟩, hS.F ht⟩) hS.2.2 dX1_asksFor_37
        · refine lv_iconst (v := nI 1) hx hb dX1_asksFor_32 (by decide) ?_
          refine lv_goto (tgt := 37) hx hb dX1_asksFor_33 (by decide) ?_
          exact W.zret (v := nI 1) hx hb hr rfl (fun t ht hW => ⟨⟨nI 1, (), rfl, (by first | (rw [if_pos (by constructor <;> first | exact Or.inl (by assumption) | exact Or.inr (by assumption) | exact Or.inr (by assumption))]; rfl) | (rw [if_neg (by rintro ⟨h1 | h1, h2 | h2⟩ <;> first | exact absurd h1 (by assumption) | exact absurd h2 (by assumption))]; rfl)), by rw [ht]; exact hP, va_K.moved hW.alike hK, hD⟩, hS.F ht⟩) hS.2.2 dX1_asksFor_37

set_option maxHeartbeats 4000000 in
set_option maxRecDepth 100000 in
/-- Reader.putRight(f, b, x) -/
theorem c_X1_putRight (l : Launch) (D : va_G) (cI cZ cR : ClassId) (ad : Nat → Nat) (na n : Nat) (I V : Nat → Nat → Int32) (sz r : Nat)  (hn : r + 5 < n) (hrd : sC_r r) (rc : Nat) (hrc : I r 13 = nI rc) (hrc4 : rc < 40) (f : Nat) (b x : Int32) (hb01 : b = 0 ∨ b = 1) : Met l yX1_putRight wsX1_putRight ({ frames := 0, cells := 0, slots := 0, locals := 0 } : Room) (va_Pc [.ref (ad r), .int (nI f), .int b, .int x] (wPre D vwCl (sT cI cZ cR) (sW cI cZ cR ad na n I V) sz wTrue)) (va_Qv (fun (u : Unit) => True) (wPost D vwCl (sT cI cZ cR) (fun (u : Unit) => sW cI cZ cR ad na n (va_up I r (va_up (I r) 13 (nI (rc + 1)))) (va_up (va_up (va_up V (r + 3) (va_up (V (r + 3)) rc (nI f))) (r + 5) (va_up (V (r + 5)) rc b)) (r + 4) (va_up (V (r + 4)) rc x))) (va_A (sW cI cZ cR ad na n I V) sz)) (va_A (sW cI cZ cR ad na n I V) sz)) 0 0 (va_A (sW cI cZ cR ad na n I V) sz) := by
  refine Met.ofW (cc := cX1_putRight) (maxL := 4) (ret := none) (by decide) rfl ?_
  intro p e s m args below meth c s₁ B hml hv
  obtain ⟨rfl, hsz, hP, hK, hD0, hE⟩ := hv
  have hx := B.exec
  have hb := B.bytes
  have hr := B.returns
  have hts := atoms_spec (ws := wsX1_putRight) B.pre
  have hown : s.vm.findClass RX1 = some m.cls := findClass_of_methodNamed B.named
  have hlocks := B.notSynchronized
  subst hsz
  have hD := hD0.self (sz := s.heap.size)
  generalize hAe : va_A (sW cI cZ cR ad na n I V) s.heap.size = A at hD ⊢
  have hA : ∀ q : Nat, s.heap.size ≤ q → A q := fun q h => by rw [← hAe]; exact Or.inr h
  have hS : va_S A s.heap s.heap [] := va_S.rf
  have hinX1 : ∀ w ∈ wsX10, w ∈ wsX1_putRight := by decide +kernel
  have hl := lv_entry ([.ref (ad r), .int (nI f), .int b, .int x]) (n := 4) (Nat.le_of_ble_eq_true rfl)
  rw [lg_entry_eq]
  generalize (lg_sl ([.ref (ad r), .int (nI f), .int b, .int x]) ++ List.replicate (4 - (lg_sl ([.ref (ad r), .int (nI f), .int b, .int x])).length) Slot.unset).toArray = ls at hl ⊢
  have hl : lv_has ls 4 [(0, .ref (ad r)), (1, .int (nI f)), (2, .int b), (3, .int x)] := hl
  refine lv_aload_n hx hb dX1_putRight_0 rfl (lv_at hl 0 rfl) ?_
  refine wR_get (v := .ref (ad (r + 3))) (C := RX1) (T := TX1) (N := 17) (ci := 1) hx hb hts hinX1 hown hK hP r (by omega) (sC_rd hrd) rfl 4 (by decide) (hts (.fieldLink RX1 18 "ChangeStream$Reader" "rightFacts" "[I") (by decide +kernel)) rfl rfl dX1_putRight_1 ?_
  refine lv_aload_n hx hb dX1_putRight_4 rfl (lv_at hl 0 rfl) ?_
  refine wR_get (v := .int (nI rc)) (C := RX1) (T := TX1) (N := 17) (ci := 1) hx hb hts hinX1 hown hK hP r (by omega) (sC_rd hrd) rfl 13 (by decide) (hts (.fieldLink RX1 47 "ChangeStream$Reader" "rightCount" "I") (by decide +kernel)) rfl (congrArg (fun z => some (Value.int z)) hrc) dX1_putRight_5 ?_
  refine lv_iload_n hx hb dX1_putRight_8 rfl (lv_at hl 1 rfl) ?_
  refine wR_ist (f := V (r + 3)) hx hb hK hP hD hS (r + 3) 0 (by omega) (sC_rk hrd 3 (by decide)) rfl (nx_in (k := rc) rfl (by omega) (by decide)) (j := rc) (nx_cl rfl (by omega)) (by exact ((sC_rk hrd 3 (by decide))).trans rfl) dX1_putRight_9 (fun H locs hP hD hS => ?_)
  refine lv_aload_n hx hb dX1_putRight_10 rfl (lv_at hl 0 rfl) ?_
  have he_1 : sC cI cZ cR ad na r (I r) ((va_up V (r + 3) (va_up (V (r + 3)) rc (nI f))) r) = .inr (1, rdL ad r (I r)) := by rw [va_up_ne _ _ (show (r : Nat) ≠ r + 3 by omega)]; exact (sC_rd hrd)
  refine wR_get (v := .ref (ad (r + 5))) (C := RX1) (T := TX1) (N := 17) (ci := 1) hx hb hts hinX1 hown hK hP r (by omega) he_1 rfl 6 (by decide) (hts (.fieldLink RX1 24 "ChangeStream$Reader" "rightsOn" "[Z") (by decide +kernel)) rfl rfl dX1_putRight_11 ?_
  refine lv_aload_n hx hb dX1_putRight_14 rfl (lv_at hl 0 rfl) ?_
  have he_2 : sC cI cZ cR ad na r (I r) ((va_up V (r + 3) (va_up (V (r + 3)) rc (nI f))) r) = .inr (1, rdL ad r (I r)) := by rw [va_up_ne _ _ (show (r : Nat) ≠ r + 3 by omega)]; exact (sC_rd hrd)
  refine wR_get (v := .int (nI rc)) (C := RX1) (T := TX1) (N := 17) (ci := 1) hx hb hts hinX1 hown hK hP r (by omega) he_2 rfl 13 (by decide) (hts (.fieldLink RX1 47 "ChangeStream$Reader" "rightCount" "I") (by decide +kernel)) rfl (congrArg (fun z => some (Value.int z)) hrc) dX1_putRight_15 ?_
  refine lv_iload_n hx hb dX1_putRight_18 rfl (lv_at hl 2 rfl) ?_
  refine wR_zst (f := V (r + 5)) hx hb hK hP hD hS (r + 5) 1 (by omega) (by rw [va_up_ne _ _ (show (r + 5 : Nat) ≠ r + 3 by omega)]; exact (sC_rk hrd 5 (by decide))) rfl hb01 (nx_in (k := rc) rfl (by omega) (by decide)) (j := rc) (nx_cl rfl (by omega)) (by exact ((sC_rk hrd 5 (by decide))).trans rfl) dX1_putRight_19 (fun H locs hP hD hS => ?_)
  refine lv_aload_n hx hb dX1_putRight_20 rfl (lv_at hl 0 rfl) ?_
  have he_3 : sC cI cZ cR ad na r (I r) ((va_up (va_up V (r + 3) (va_up (V (r + 3)) rc (nI f))) (r + 5) (va_up (V (r + 5)) rc b)) r) = .inr (1, rdL ad r (I r)) := by rw [va_up_ne _ _ (show (r : Nat) ≠ r + 5 by omega), va_up_ne _ _ (show (r : Nat) ≠ r + 3 by omega)]; exact (sC_rd hrd)
  refine wR_get (v := .ref (ad (r + 4))) (C := RX1) (T := TX1) (N := 17) (ci := 1) hx hb hts hinX1 hown hK hP r (by omega) he_3 rfl 5 (by decide) (hts (.fieldLink RX1 21 "ChangeStream$Reader" "rightsFrom" "[I") (by decide +kernel)) rfl rfl dX1_putRight_21 ?_
  refine lv_aload_n hx hb dX1_putRight_24 rfl (lv_at hl 0 rfl) ?_
  have he_4 : sC cI cZ cR ad na r (I r) ((va_up (va_up V (r + 3) (va_up (V (r + 3)) rc (nI f))) (r + 5) (va_up (V (r + 5)) rc b)) r) = .inr (1, rdL ad r (I r)) := by rw [va_up_ne _ _ (show (r : Nat) ≠ r + 5 by omega), va_up_ne _ _ (show (r : Nat) ≠ r + 3 by omega)]; exact (sC_rd hrd)
  refine wR_get (v := .int (nI rc)) (C := RX1) (T := TX1) (N := 17) (ci := 1) hx hb hts hinX1 hown hK hP r (by omega) he_4 rfl 13 (by decide) (hts (.fieldLink RX1 47 "ChangeStream$Reader" "rightCount" "I") (by decide +kernel)) rfl (congrArg (fun z => some (Value.int z)) hrc) dX1_putRight_25 ?_
  refine lv_iload_n hx hb dX1_putRight_28 rfl (lv_at hl 3 rfl) ?_
  refine wR_ist (f := V (r + 4)) hx hb hK hP hD hS (r + 4) 0 (by omega) (by rw [va_up_ne _ _ (show (r + 4 : Nat) ≠ r + 5 by omega), va_up_ne _ _ (show (r + 4 : Nat) ≠ r + 3 by omega)]; exact (sC_rk hrd 4 (by decide))) rfl (nx_in (k := rc) rfl (by omega) (by decide)) (j := rc) (nx_cl rfl (by omega)) (by exact ((sC_rk hrd 4 (by decide))).trans rfl) dX1_putRight_29 (fun H locs hP hD hS => ?_)
  refine lv_aload_n hx hb dX1_putRight_30 rfl (lv_at hl 0 rfl) ?_
  refine lv_dup hx hb dX1_putRight_31 rfl ?_
  have he_5 : sC cI cZ cR ad na r (I r) ((va_up (va_up (va_up V (r + 3) (va_up (V (r + 3)) rc (nI f))) (r + 5) (va_up (V (r + 5)) rc b)) (r + 4) (va_up (V (r + 4)) rc x)) r) = .inr (1, rdL ad r (I r)) := by rw [va_up_ne _ _ (show (r : Nat) ≠ r + 4 by omega), va_up_ne _ _ (show (r : Nat) ≠ r + 5 by omega), va_up_ne _ _ (show (r : Nat) ≠ r + 3 by omega)]; exact (sC_rd hrd)
  refine wR_get (v := .int (nI rc)) (C := RX1) (T := TX1) (N := 17) (ci := 1) hx hb hts hinX1 hown hK hP r (by omega) he_5 rfl 13 (by decide) (hts (.fieldLink RX1 47 "ChangeStream$Reader" "rightCount" "I") (by decide +kernel)) rfl (congrArg (fun z => some (Value.int z)) hrc) dX1_putRight_32 ?_
  refine lv_iconst (v := nI 1) hx hb dX1_putRight_35 (by decide) ?_
  refine lv_iadd hx hb dX1_putRight_36 ?_
  rw [nI_add]
  have he_6 : sC cI cZ cR ad na r (I r) ((va_up (va_up (va_up V (r + 3) (va_up (V (r + 3)) rc (nI f))) (r + 5) (va_up (V (r + 5)) rc b)) (r + 4) (va_up (V (r + 4)) rc x)) r) = .inr (1, rdL ad r (I r)) := by rw [va_up_ne _ _ (show (r : Nat) ≠ r + 4 by omega), va_up_ne _ _ (show (r : Nat) ≠ r + 5 by omega), va_up_ne _ _ (show (r : Nat) ≠ r + 3 by omega)]; exact (sC_rd hrd)
  refine wR_put (C := RX1) (T := TX1) (N := 17) (ci := 1) hx hb hts hinX1 tyX1 tyX1_ok nmX1 hown hK hP hD hS r (by omega) he_6 rfl 13 (by decide) (hts (.fieldLink RX1 47 "ChangeStream$Reader" "rightCount" "I") (by decide +kernel)) rfl rfl (by decide +kernel) (by simp) (va_up (I r) 13 (nI (rc + 1))) (by rw [va_up_ne _ _ (show (r : Nat) ≠ r + 4 by omega), va_up_ne _ _ (show (r : Nat) ≠ r + 5 by omega), va_up_ne _ _ (show (r : Nat) ≠ r + 3 by omega)]; exact ((sC_rd hrd)).trans rfl) dX1_putRight_37 (fun H locs hP hD hS => ?_)
  exact W.vret hx hb hr (fun t ht hW => ⟨⟨(), rfl, trivial, by rw [ht]; exact hP, va_K.moved hW.alike hK, hD⟩, hS.F ht⟩) hS.2.2 dX1_putRight_40

set_option maxHeartbeats 4000000 in
set_option maxRecDepth 100000 in
theorem lp_X1_hasRight {p : Program} (l : Launch) {e : Env} {s : State} {m : MethodId} {args : Array Value} {below : List Frame} {meth : Method} {c : Code} {Q : State → Prop} {A : Nat → Prop} (D : va_G) (cI cZ cR : ClassId) (ad : Nat → Nat) (na n : Nat) (I V : Nat → Nat → Int32) (r : Nat) (f x R : Int32) (hx : p.tables.exec = Jvm.exec) (hb : c.code = cX1_hasRight) (hml : c.maxLocals = 4) (hts : ∀ w ∈ wsX1_hasRight, w.before args s = true) (hown : s.vm.findClass RX1 = some m.cls) (hK : va_K D vwCl (sT cI cZ cR) s) (hA : ∀ q : Nat, s.heap.size ≤ q → A q) (hn : r + 5 < n) (hrd : sC_r r)  (k1 : ∀ (H : Heap) (locs : List Loc) (ls : Array Slot), (1 : Int32) = R → va_P D vwCl (sW cI cZ cR ad na n I V) H → va_D A (sW cI cZ cR ad na n I V) → va_S A s.heap H locs → lv_has ls 4 [(0, .ref (ad r))] → W p l e ({ frames := 0, cells := 0, slots := 0, locals := 0 } : Room) s m args below meth c H locs 0 0 Q (F0 m 44 ls [])) (k2 : ∀ (k : Nat) (H : Heap) (locs : List Loc) (ls : Array Slot), k < 40 → V (r + 5) k = R → va_P D vwCl (sW cI cZ cR ad na n I V) H → va_D A (sW cI cZ cR ad na n I V) → va_S A s.heap H locs → lv_has ls 4 [(0, .ref (ad r)), (3, .int (nI k))] → W p l e ({ frames := 0, cells := 0, slots := 0, locals := 0 } : Room) s m args below meth c H locs 0 0 Q (F0 m 31 ls [])) : ∀ (fuel : Nat) (k : Nat) (H : Heap) (locs : List Loc) (ls : Array Slot), k ≤ 40 → hRt (V (r + 3)) (V (r + 4)) (V (r + 5)) f x k = R → k < fuel → va_P D vwCl (sW cI cZ cR ad na n I V) H → va_D A (sW cI cZ cR ad na n I V) → va_S A s.heap H locs → lv_has ls 4 [(0, .ref (ad r)), (1, .int f), (2, .int x), (3, .int (nI k - nI 1))] → W p l e ({ frames := 0, cells := 0, slots := 0, locals := 0 } : Room) s m args below meth c H locs 0 0 Q (F0 m 7 ls []) := by
  intro fuel
  induction fuel with
  | zero =>
    intro k H locs ls hk hR hfu
    exact absurd hfu (Nat.not_lt_zero _)
  | succ fuel ih =>
    intro k H locs ls hk hR hfu hP hD hS hl
    have hinX1 : ∀ w ∈ wsX10, w ∈ wsX1_hasRight := by decide +kernel
    rcases k with _ | k
    · refine lv_iload_n hx hb dX1_hasRight_7 rfl (lv_at hl 3 rfl) ?_
      refine lv_if_lt (tgt := 44) hx hb dX1_hasRight_8 (by decide) (fun c_1 => ?_) (fun c_1 => ?_)
      · exact k1  H locs ls hR hP hD hS (lv_sub hl [0] rfl)
      · exact absurd (by decide) c_1
    · have e9 : nI (k + 1) - nI 1 = nI k := nI_pred k
      rw [e9] at hl
      have hR0 : (if V (r + 3) k = f ∧ V (r + 4) k ≤ x then V (r + 5) k else hRt (V (r + 3)) (V (r + 4)) (V (r + 5)) f x k) = R := hR
      refine lv_iload_n hx hb dX1_hasRight_7 rfl (lv_at hl 3 rfl) ?_
      refine lv_if_lt (tgt := 44) hx hb dX1_hasRight_8 (by decide) (fun c_2 => ?_) (fun c_2 => ?_)
      · have c_2 : k < 0 := (nI_ltI (a := k) (b := 0) (by omega) (by omega)).mp c_2
        exact absurd c_2 (Nat.not_lt_zero _)
      · have c_2 : ¬ (k < 0) := fun h9 => c_2 ((nI_ltI (a := k) (b := 0) (by omega) (by omega)).mpr h9)
        refine lv_aload_n hx hb dX1_hasRight_11 rfl (lv_at hl 0 rfl) ?_
        refine wR_get (v := .ref (ad (r + 3))) (C := RX1) (T := TX1) (N := 17) (ci := 1) hx hb hts hinX1 hown hK hP r (by omega) (sC_rd hrd) rfl 4 (by decide) (hts (.fieldLink RX1 18 "ChangeStream$Reader" "rightFacts" "[I") (by decide +kernel)) rfl rfl dX1_hasRight_12 ?_
        refine lv_iload_n hx hb dX1_hasRight_15 rfl (lv_at hl 3 rfl) ?_
        refine wR_ild (f := V (r + 3)) (v := (V (r + 3)) k) hx hb hK hP (r + 3) 0 (by omega) (sC_rk hrd 3 (by decide)) rfl (nx_in (k := k) rfl (by omega) (by decide)) (j := k) (nx_cl rfl (by omega)) rfl dX1_hasRight_16 ?_
        refine lv_iload_n hx hb dX1_hasRight_17 rfl (lv_at hl 1 rfl) ?_
        refine lv_icmp_ne (tgt := 38) hx hb dX1_hasRight_18 (by decide) (fun c_3 => ?_) (fun c_3 => ?_)
        · rw [if_neg (fun h => c_3 h.1)] at hR0
          refine lv_iinc (v := nI k - nI 1) (lv' := [(3, .int (nI k - nI 1)), (0, .ref (ad r)), (1, .int f), (2, .int x)]) hx hb dX1_hasRight_38 hl (k := 3) rfl (n_dec k) (by decide) rfl (fun ls hl => ?_)
          refine lv_goto (tgt := 7) hx hb dX1_hasRight_41 (by decide) ?_
          exact ih k H locs ls (by omega) hR0 (by omega) hP hD hS (lv_sub hl [1, 2, 3, 0] rfl)
        · refine lv_aload_n hx hb dX1_hasRight_21 rfl (lv_at hl 0 rfl) ?_
          refine wR_get (v := .ref (ad (r + 4))) (C := RX1) (T := TX1) (N := 17) (ci := 1) hx hb hts hinX1 hown hK hP r (by omega) (sC_rd hrd) rfl 5 (by decide) (hts (.fieldLink RX1 21 "ChangeStream$Reader" "rightsFrom" "[I") (by decide +kernel)) rfl rfl dX1_hasRight_22 ?_
          refine lv_iload_n hx hb dX1_hasRight_25 rfl (lv_at hl 3 rfl) ?_
          refine wR_ild (f := V (r + 4)) (v := (V (r + 4)) k) hx hb hK hP (r + 4) 0 (by omega) (sC_rk hrd 4 (by decide)) rfl (nx_in (k := k) rfl (by omega) (by decide)) (j := k) (nx_cl rfl (by omega)) rfl dX1_hasRight_26 ?_
          refine lv_iload_n hx hb dX1_hasRight_27 rfl (lv_at hl 2 rfl) ?_
          refine lv_icmp_gt (tgt := 38) hx hb dX1_hasRight_28 (by decide) (fun c_4 => ?_) (fun c_4 => ?_)
          · rw [if_neg (fun h => Int32.not_le.mpr c_4 h.2)] at hR0
            refine lv_iinc (v := nI k - nI 1) (lv' := [(3, .int (nI k - nI 1)), (0, .ref (ad r)), (1, .int f), (2, .int x)]) hx hb dX1_hasRight_38 hl (k := 3) rfl (n_dec k) (by decide) rfl (fun ls hl => ?_)
            refine lv_goto (tgt := 7) hx hb dX1_hasRight_41 (by decide) ?_
            exact ih k H locs ls (by omega) hR0 (by omega) hP hD hS (lv_sub hl [1, 2, 3, 0] rfl)
          · rw [if_pos ⟨by assumption, Int32.not_lt.mp c_4⟩] at hR0
            exact k2 k H locs ls (by omega) hR0 hP hD hS (lv_sub hl [0, 3] rfl)

set_option maxHeartbeats 4000000 in
set_option maxRecDepth 100000 in
/-- Reader.hasRight(f, x) -/
theorem c_X1_hasRight (l : Launch) (D : va_G) (cI cZ cR : ClassId) (ad : Nat → Nat) (na n : Nat) (I V : Nat → Nat → Int32) (sz r : Nat)  (hn : r + 5 < n) (hrd : sC_r r) (rc : Nat) (hrc : I r 13 = nI rc) (hrc4 : rc ≤ 40) (f x : Int32) (h01 : ∀ j, V (r + 5) j = 0 ∨ V (r + 5) j = 1) : Met l yX1_hasRight wsX1_hasRight ({ frames := 0, cells := 0, slots := 0, locals := 0 } : Room) (va_Pc [.ref (ad r), .int f, .int x] (wPre D vwCl (sT cI cZ cR) (sW cI cZ cR ad na n I V) sz wTrue)) (va_Qi (fun (r9 : Int32) (u : Unit) => r9 = hRt (V (r + 3)) (V (r + 4)) (V (r + 5)) f x rc) (wPost D vwCl (sT cI cZ cR) (fun (u : Unit) => sW cI cZ cR ad na n I V) (va_A (sW cI cZ cR ad na n I V) sz)) (va_A (sW cI cZ cR ad na n I V) sz)) 0 0 (va_A (sW cI cZ cR ad na n I V) sz) := by
  refine Met.ofW (cc := cX1_hasRight) (maxL := 4) (ret := (some .boolean)) (by decide) rfl ?_
  intro p e s m args below meth c s₁ B hml hv
  obtain ⟨rfl, hsz, hP, hK, hD0, hE⟩ := hv
  have hx := B.exec
  have hb := B.bytes
  have hr := B.returns
  have hts := atoms_spec (ws := wsX1_hasRight) B.pre
  have hown : s.vm.findClass RX1 = some m.cls := findClass_of_methodNamed B.named
  have hlocks := B.notSynchronized
  subst hsz
  have hD := hD0.self (sz := s.heap.size)
  generalize hAe : va_A (sW cI cZ cR ad na n I V) s.heap.size = A at hD ⊢
  have hA : ∀ q : Nat, s.heap.size ≤ q → A q := fun q h => by rw [← hAe]; exact Or.inr h
  have hS : va_S A s.heap s.heap [] := va_S.rf
  have hinX1 : ∀ w ∈ wsX10, w ∈ wsX1_hasRight := by decide +kernel
  have hl := lv_entry ([.ref (ad r), .int f, .int x]) (n := 4) (Nat.le_of_ble_eq_true rfl)
  rw [lg_entry_eq]
  generalize (lg_sl ([.ref (ad r), .int f, .int x]) ++ List.replicate (4 - (lg_sl ([.ref (ad r), .int f, .int x])).length) Slot.unset).toArray = ls at hl ⊢
  have hl : lv_has ls 4 [(0, .ref (ad r)), (1, .int f), (2, .int x)] := hl
  refine lv_aload_n hx hb dX1_hasRight_0 rfl (lv_at hl 0 rfl) ?_
  refine wR_get (v := .int (nI rc)) (C := RX1) (T := TX1) (N := 17) (ci := 1) hx hb hts hinX1 hown hK hP r (by omega) (sC_rd hrd) rfl 13 (by decide) (hts (.fieldLink RX1 47 "ChangeStream$Reader" "rightCount" "I") (by decide +kernel)) rfl (congrArg (fun z => some (Value.int z)) hrc) dX1_hasRight_1 ?_
  refine lv_iconst (v := nI 1) hx hb dX1_hasRight_4 (by decide) ?_
  refine lv_isub hx hb dX1_hasRight_5 ?_
  refine lv_istore_n (lv' := [(3, .int ((nI rc) - (nI 1))), (0, .ref (ad r)), (1, .int f), (2, .int x)]) hx hb dX1_hasRight_6 rfl hl (by decide) rfl (fun ls hl => ?_)
  refine lp_X1_hasRight l D cI cZ cR ad na n I V r f x (hRt (V (r + 3)) (V (r + 4)) (V (r + 5)) f x rc) hx hb hml hts hown hK hA hn hrd (fun  H locs ls hz hP hD hS hl => ?_) (fun k H locs ls hk9 hO hP hD hS hl => ?_) (rc + 1) rc s.heap [] ls hrc4 rfl (by omega) hP hD hS (lv_sub hl [1, 2, 3, 0] rfl)
  · refine lv_iconst (v := nI 1) hx hb dX1_hasRight_44 (by decide) ?_
    exact W.zret (v := nI 1) hx hb hr rfl (fun t ht hW => ⟨⟨nI 1, (), rfl, hz, by rw [ht]; exact hP, va_K.moved hW.alike hK, hD⟩, hS.F ht⟩) hS.2.2 dX1_hasRight_45
  · refine lv_aload_n hx hb dX1_hasRight_31 rfl (lv_at hl 0 rfl) ?_
    refine wR_get (v := .ref (ad (r + 5))) (C := RX1) (T := TX1) (N := 17) (ci := 1) hx hb hts hinX1 hown hK hP r (by omega) (sC_rd hrd) rfl 6 (by decide) (hts (.fieldLink RX1 24 "ChangeStream$Reader" "rightsOn" "[Z") (by decide +kernel)) rfl rfl dX1_hasRight_32 ?_
    refine lv_iload_n hx hb dX1_hasRight_35 rfl (lv_at hl 1 rfl) ?_
    refine wR_zld (f := V (r + 5)) (v := (V (r + 5)) k) hx hb hK hP (r + 5) 1 (by omega) (sC_rk hrd 5 (by decide)) rfl (nx_in (k := k) rfl (by omega) (by decide)) (j := k) (nx_cl rfl (by omega)) rfl dX1_hasRight_36 ?_
    exact W.zret (v := (V (r + 5)) k) hx hb hr (nar_z (h01 k)) (fun t ht hW => ⟨⟨(V (r + 5)) k, (), rfl, hO, by rw [ht]; exact hP, va_K.moved hW.alike hK, hD⟩, hS.F ht⟩) hS.2.2 dX1_hasRight_37

set_option maxHeartbeats 4000000 in
set_option maxRecDepth 100000 in
/-- Reader.isDivided(f) -/
theorem c_X1_isDivided (l : Launch) (D : va_G) (cI cZ cR : ClassId) (ad : Nat → Nat) (na n : Nat) (I V : Nat → Nat → Int32) (sz r : Nat)  (hn : r + 5 < n) (hrd : sC_r r) (f : Nat) : Met l yX1_isDivided wsX1_isDivided ({ frames := 0, cells := 0, slots := 0, locals := 0 } : Room) (va_Pc [.ref (ad r), .int (nI f)] (wPre D vwCl (sT cI cZ cR) (sW cI cZ cR ad na n I V) sz wTrue)) (va_Qi (fun (r9 : Int32) (u : Unit) => r9 = if I r 10 = 0 then 1 else if nI f - nI f / I r 10 * I r 10 = 0 then 1 else 0) (wPost D vwCl (sT cI cZ cR) (fun (u : Unit) => sW cI cZ cR ad na n (if I r 10 = 0 then va_up I r (va_up (I r) 15 (I r 15 + 1)) else I) V) (va_A (sW cI cZ cR ad na n I V) sz)) (va_A (sW cI cZ cR ad na n I V) sz)) 0 0 (va_A (sW cI cZ cR ad na n I V) sz) := by
  refine Met.ofW (cc := cX1_isDivided) (maxL := 2) (ret := (some .boolean)) (by decide) rfl ?_
  intro p e s m args below meth c s₁ B hml hv
  obtain ⟨rfl, hsz, hP, hK, hD0, hE⟩ := hv
  have hx := B.exec
  have hb := B.bytes
  have hr := B.returns
  have hts := atoms_spec (ws := wsX1_isDivided) B.pre
  have hown : s.vm.findClass RX1 = some m.cls := findClass_of_methodNamed B.named
  have hlocks := B.notSynchronized
  subst hsz
  have hD := hD0.self (sz := s.heap.size)
  generalize hAe : va_A (sW cI cZ cR ad na n I V) s.heap.size = A at hD ⊢
  have hA : ∀ q : Nat, s.heap.size ≤ q → A q := fun q h => by rw [← hAe]; exact Or.inr h
  have hS : va_S A s.heap s.heap [] := va_S.rf
  have hinX1 : ∀ w ∈ wsX10, w ∈ wsX1_isDivided := by decide +kernel
  have hl := lv_entry ([.ref (ad r), .int (nI f)]) (n := 2) (Nat.le_of_ble_eq_true rfl)
  rw [lg_entry_eq]
  generalize (lg_sl ([.ref (ad r), .int (nI f)]) ++ List.replicate (2 - (lg_sl ([.ref (ad r), .int (nI f)])).length) Slot.unset).toArray = ls at hl ⊢
  have hl : lv_has ls 2 [(0, .ref (ad r)), (1, .int (nI f))] := hl
  refine lv_aload_n hx hb dX1_isDivided_0 rfl (lv_at hl 0 rfl) ?_
  refine wR_get (v := .int (I r 10)) (C := RX1) (T := TX1) (N := 17) (ci := 1) hx hb hts hinX1 hown hK hP r (by omega) (sC_rd hrd) rfl 10 (by decide) (hts (.fieldLink RX1 38 "ChangeStream$Reader" "filterNumber" "I") (by decide +kernel)) rfl rfl dX1_isDivided_1 ?_
  refine lv_if_ne (tgt := 19) hx hb dX1_isDivided_4 (by decide) (fun c_1 => ?_) (fun c_1 => ?_)
  · refine lv_iload_n hx hb dX1_isDivided_19 rfl (lv_at hl 1 rfl) ?_
    refine lv_aload_n hx hb dX1_isDivided_20 rfl (lv_at hl 0 rfl) ?_
    refine wR_get (v := .int (I r 10)) (C := RX1) (T := TX1) (N := 17) (ci := 1) hx hb hts hinX1 hown hK hP r (by omega) (sC_rd hrd) rfl 10 (by decide) (hts (.fieldLink RX1 38 "ChangeStream$Reader" "filterNumber" "I") (by decide +kernel)) rfl rfl dX1_isDivided_21 ?_
    refine lv_irem hx hb dX1_isDivided_24 (by assumption) ?_
    refine lv_if_ne (tgt := 32) hx hb dX1_isDivided_25 (by decide) (fun c_2 => ?_) (fun c_2 => ?_)
    · refine lv_iconst (v := nI 0) hx hb dX1_isDivided_32 (by decide) ?_
      have hEI : (I : Nat → Nat → Int32) = if I r 10 = 0 then va_up I r (va_up (I r) 15 (I r 15 + 1)) else I := by rw [if_neg (by assumption)]
      have hP : va_P D vwCl (sW cI cZ cR ad na n (if I r 10 = 0 then va_up I r (va_up (I r) 15 (I r 15 + 1)) else I) V) s.heap := by rw [← hEI]; exact hP
      have hD : va_D A (sW cI cZ cR ad na n (if I r 10 = 0 then va_up I r (va_up (I r) 15 (I r 15 + 1)) else I) V) := by rw [← hEI]; exact hD
      exact W.zret (v := nI 0) hx hb hr rfl (fun t ht hW => ⟨⟨nI 0, (), rfl, (by rw [if_neg (by assumption)]; first | (rw [if_neg (by assumption)]; rfl) | (rw [if_pos (by assumption)]; rfl)), by rw [ht]; exact hP, va_K.moved hW.alike hK, hD⟩, hS.F ht⟩) hS.2.2 dX1_isDivided_33
    · refine lv_iconst (v := nI 1) hx hb dX1_isDivided_28 (by decide) ?_
      refine lv_goto (tgt := 33) hx hb dX1_isDivided_29 (by decide) ?_
      have hEI : (I : Nat → Nat → Int32) = if I r 10 = 0 then va_up I r (va_up (I r) 15 (I r 15 + 1)) else I := by rw [if_neg (by assumption)]
      have hP : va_P D vwCl (sW cI cZ cR ad na n (if I r 10 = 0 then va_up I r (va_up (I r) 15 (I r 15 + 1)) else I) V) s.heap := by rw [← hEI]; exact hP
      have hD : va_D A (sW cI cZ cR ad na n (if I r 10 = 0 then va_up I r (va_up (I r) 15 (I r 15 + 1)) else I) V) := by rw [← hEI]; exact hD
      exact W.zret (v := nI 1) hx hb hr rfl (fun t ht hW => ⟨⟨nI 1, (), rfl, (by rw [if_neg (by assumption)]; first | (rw [if_neg (by assumption)]; rfl) | (rw [if_pos (by assumption)]; rfl)), by rw [ht]; exact hP, va_K.moved hW.alike hK, hD⟩, hS.F ht⟩) hS.2.2 dX1_isDivided_33
  · refine lv_aload_n hx hb dX1_isDivided_7 rfl (lv_at hl 0 rfl) ?_
    refine lv_dup hx hb dX1_isDivided_8 rfl ?_
    refine wR_get (v := .int (I r 15)) (C := RX1) (T := TX1) (N := 17) (ci := 1) hx hb hts hinX1 hown hK hP r (by omega) (sC_rd hrd) rfl 15 (by decide) (hts (.fieldLink RX1 53 "ChangeStream$Reader" "failures" "I") (by decide +kernel)) rfl rfl dX1_isDivided_9 ?_
    refine lv_iconst (v := nI 1) hx hb dX1_isDivided_12 (by decide) ?_
    refine lv_iadd hx hb dX1_isDivided_13 ?_
    refine wR_put (C := RX1) (T := TX1) (N := 17) (ci := 1) hx hb hts hinX1 tyX1 tyX1_ok nmX1 hown hK hP hD hS r (by omega) (sC_rd hrd) rfl 15 (by decide) (hts (.fieldLink RX1 53 "ChangeStream$Reader" "failures" "I") (by decide +kernel)) rfl rfl (by decide +kernel) (by simp) (va_up (I r) 15 ((I r 15) + (nI 1))) (by exact ((sC_rd hrd)).trans rfl) dX1_isDivided_14 (fun H locs hP hD hS => ?_)
    refine lv_iconst (v := nI 1) hx hb dX1_isDivided_17 (by decide) ?_
    have hEI : (va_up I r (va_up (I r) 15 ((I r 15) + (nI 1))) : Nat → Nat → Int32) = if I r 10 = 0 then va_up I r (va_up (I r) 15 (I r 15 + 1)) else I := by rw [if_pos (by assumption)]; rfl
    have hP : va_P D vwCl (sW cI cZ cR ad na n (if I r 10 = 0 then va_up I r (va_up (I r) 15 (I r 15 + 1)) else I) V) H := by rw [← hEI]; exact hP
    have hD : va_D A (sW cI cZ cR ad na n (if I r 10 = 0 then va_up I r (va_up (I r) 15 (I r 15 + 1)) else I) V) := by rw [← hEI]; exact hD
    exact W.zret (v := nI 1) hx hb hr rfl (fun t ht hW => ⟨⟨nI 1, (), rfl, (by rw [if_pos (by assumption)]; rfl), by rw [ht]; exact hP, va_K.moved hW.alike hK, hD⟩, hS.F ht⟩) hS.2.2 dX1_isDivided_18

set_option maxHeartbeats 4000000 in
set_option maxRecDepth 100000 in
/-- Reader.filterLets(f, b) -/
theorem c_X1_filterLets (l : Launch) (D : va_G) (cI cZ cR : ClassId) (ad : Nat → Nat) (na n : Nat) (I V : Nat → Nat → Int32) (sz r : Nat)  (hn : r + 5 < n) (hrd : sC_r r) (kd : Nat) (hkd : I r 9 = nI kd) (hkd4 : kd ≤ 4) (f : Nat) (b : Int32) (hb01 : b = 0 ∨ b = 1) : Met l yX1_filterLets wsX1_filterLets ({ frames := 1, cells := 0, slots := 0, locals := 21 } : Room) (va_Pc [.ref (ad r), .int (nI f), .int b] (wPre D vwCl (sT cI cZ cR) (sW cI cZ cR ad na n I V) sz wTrue)) (va_Qi (fun (r9 : Int32) (u : Unit) => r9 = fLet kd (I r 10) f b) (wPost D vwCl (sT cI cZ cR) (fun (u : Unit) => sW cI cZ cR ad na n (if kd = 4 ∧ I r 10 = 0 then va_up I r (va_up (I r) 15 (I r 15 + 1)) else I) V) (va_A (sW cI cZ cR ad na n I V) sz)) (va_A (sW cI cZ cR ad na n I V) sz)) 0 0 (va_A (sW cI cZ cR ad na n I V) sz) := by
  refine Met.ofW (cc := cX1_filterLets) (maxL := 3) (ret := (some .boolean)) (by decide) rfl ?_
  intro p e s m args below meth c s₁ B hml hv
  obtain ⟨rfl, hsz, hP, hK, hD0, hE⟩ := hv
  have hx := B.exec
  have hb := B.bytes
  have hr := B.returns
  have hts := atoms_spec (ws := wsX1_filterLets) B.pre
  have hown : s.vm.findClass RX1 = some m.cls := findClass_of_methodNamed B.named
  have hlocks := B.notSynchronized
  subst hsz
  have hD := hD0.self (sz := s.heap.size)
  generalize hAe : va_A (sW cI cZ cR ad na n I V) s.heap.size = A at hD ⊢
  have hA : ∀ q : Nat, s.heap.size ≤ q → A q := fun q h => by rw [← hAe]; exact Or.inr h
  have hS : va_S A s.heap s.heap [] := va_S.rf
  have hinX1 : ∀ w ∈ wsX10, w ∈ wsX1_filterLets := by decide +kernel
  have hl := lv_entry ([.ref (ad r), .int (nI f), .int b]) (n := 3) (Nat.le_of_ble_eq_true rfl)
  rw [lg_entry_eq]
  generalize (lg_sl ([.ref (ad r), .int (nI f), .int b]) ++ List.replicate (3 - (lg_sl ([.ref (ad r), .int (nI f), .int b])).length) Slot.unset).toArray = ls at hl ⊢
  have hl : lv_has ls 3 [(0, .ref (ad r)), (1, .int (nI f)), (2, .int b)] := hl
  refine lv_aload_n hx hb dX1_filterLets_0 rfl (lv_at hl 0 rfl) ?_
  refine wR_get (v := .int (nI kd)) (C := RX1) (T := TX1) (N := 17) (ci := 1) hx hb hts hinX1 hown hK hP r (by omega) (sC_rd hrd) rfl 9 (by decide) (hts (.fieldLink RX1 35 "ChangeStream$Reader" "filterKind" "I") (by decide +kernel)) rfl (congrArg (fun z => some (Value.int z)) hkd) dX1_filterLets_1 ?_
  rcases (show kd = 0 ∨ kd = 1 ∨ kd = 2 ∨ kd = 3 ∨ kd = 4 by omega) with rfl | rfl | rfl | rfl | rfl
  · refine lv_tableOut (tgt := 68) hx hb dX1_filterLets_4 (by decide) (by decide) ?_
    refine lv_iconst (v := nI 1) hx hb dX1_filterLets_68 (by decide) ?_
    have hEI : (I : Nat → Nat → Int32) = if 0 = 4 ∧ I r 10 = 0 then va_up I r (va_up (I r) 15 (I r 15 + 1)) else I := by rw [if_neg (by omega)]
    have hP : va_P D vwCl (sW cI cZ cR ad na n (if 0 = 4 ∧ I r 10 = 0 then va_up I r (va_up (I r) 15 (I r 15 + 1)) else I) V) s.heap := by rw [← hEI]; exact hP
    have hD : va_D A (sW cI cZ cR ad na n (if 0 = 4 ∧ I r 10 = 0 then va_up I r (va_up (I r) 15 (I r 15 + 1)) else I) V) := by rw [← hEI]; exact hD
    exact W.zret (v := nI 1) hx hb hr rfl (fun t ht hW => ⟨⟨nI 1, (), rfl, rfl, by rw [ht]; exact hP, va_K.moved hW.alike hK, hD⟩, hS.F ht⟩) hS.2.2 dX1_filterLets_69
  · refine lv_tableIn (tgt := 36) hx hb dX1_filterLets_4 (by decide) (by decide) (off := 32) (by decide) (by decide) ?_
    refine lv_iload_n hx hb dX1_filterLets_36 rfl (lv_at hl 2 rfl) ?_
    have hEI : (I : Nat → Nat → Int32) = if 1 = 4 ∧ I r 10 = 0 then va_up I r (va_up (I r) 15 (I r 15 + 1)) else I := by rw [if_neg (by omega)]
    have hP : va_P D vwCl (sW cI cZ cR ad na n (if 1 = 4 ∧ I r 10 = 0 then va_up I r (va_up (I r) 15 (I r 15 + 1)) else I) V) s.heap := by rw [← hEI]; exact hP
    have hD : va_D A (sW cI cZ cR ad na n (if 1 = 4 ∧ I r 10 = 0 then va_up I r (va_up (I r) 15 (I r 15 + 1)) else I) V) := by rw [← hEI]; exact hD
    exact W.zret (v := b) hx hb hr (nar_z hb01) (fun t ht hW => ⟨⟨b, (), rfl, rfl, by rw [ht]; exact hP, va_K.moved hW.alike hK, hD⟩, hS.F ht⟩) hS.2.2 dX1_filterLets_37
  · refine lv_tableIn (tgt := 38) hx hb dX1_filterLets_4 (by decide) (by decide) (off := 34) (by decide) (by decide) ?_
    refine lv_iload_n hx hb dX1_filterLets_38 rfl (lv_at hl 2 rfl) ?_
    refine lv_if_ne (tgt := 46) hx hb dX1_filterLets_39 (by decide) (fun c_1 => ?_) (fun c_1 => ?_)
    · refine lv_iconst (v := nI 0) hx hb dX1_filterLets_46 (by decide) ?_
      have hEI : (I : Nat → Nat → Int32) = if 2 = 4 ∧ I r 10 = 0 then va_up I r (va_up (I r) 15 (I r 15 + 1)) else I := by rw [if_neg (by omega)]
      have hP : va_P D vwCl (sW cI cZ cR ad na n (if 2 = 4 ∧ I r 10 = 0 then va_up I r (va_up (I r) 15 (I r 15 + 1)) else I) V) s.heap := by rw [← hEI]; exact hP
      have hD : va_D A (sW cI cZ cR ad na n (if 2 = 4 ∧ I r 10 = 0 then va_up I r (va_up (I r) 15 (I r 15 + 1)) else I) V) := by rw [← hEI]; exact hD
      exact W.zret (v := nI 0) hx hb hr rfl (fun t ht hW => ⟨⟨nI 0, (), rfl, (by show _ = if b = 0 then (1 : Int32) else 0; first | (rw [if_pos (by assumption)]; rfl) | (rw [if_neg (by assumption)]; rfl)), by rw [ht]; exact hP, va_K.moved hW.alike hK, hD⟩, hS.F ht⟩) hS.2.2 dX1_filterLets_47
    · refine lv_iconst (v := nI 1) hx hb dX1_filterLets_42 (by decide) ?_
      refine lv_goto (tgt := 47) hx hb dX1_filterLets_43 (by decide) ?_
      have hEI : (I : Nat → Nat → Int32) = if 2 = 4 ∧ I r 10 = 0 then va_up I r (va_up (I r) 15 (I r 15 + 1)) else I := by rw [if_neg (by omega)]
      have hP : va_P D vwCl (sW cI cZ cR ad na n (if 2 = 4 ∧ I r 10 = 0 then va_up I r (va_up (I r) 15 (I r 15 + 1)) else I) V) s.heap := by rw [← hEI]; exact hP
      have hD : va_D A (sW cI cZ cR ad na n (if 2 = 4 ∧ I r 10 = 0 then va_up I r (va_up (I r) 15 (I r 15 + 1)) else I) V) := by rw [← hEI]; exact hD
      exact W.zret (v := nI 1) hx hb hr rfl (fun t ht hW => ⟨⟨nI 1, (), rfl, (by show _ = if b = 0 then (1 : Int32) else 0; first | (rw [if_pos (by assumption)]; rfl) | (rw [if_neg (by assumption)]; rfl)), by rw [ht]; exact hP, va_K.moved hW.alike hK, hD⟩, hS.F ht⟩) hS.2.2 dX1_filterLets_47
  · refine lv_tableIn (tgt := 48) hx hb dX1_filterLets_4 (by decide) (by decide) (off := 44) (by decide) (by decide) ?_
    refine lv_iload_n hx hb dX1_filterLets_48 rfl (lv_at hl 1 rfl) ?_
    refine lv_aload_n hx hb dX1_filterLets_49 rfl (lv_at hl 0 rfl) ?_
    refine wR_get (v := .int (I r 10)) (C := RX1) (T := TX1) (N := 17) (ci := 1) hx hb hts hinX1 hown hK hP r (by omega) (sC_rd hrd) rfl 10 (by decide) (hts (.fieldLink RX1 38 "ChangeStream$Reader" "filterNumber" "I") (by decide +kernel)) rfl rfl dX1_filterLets_50 ?_
    refine lv_icmp_ge (tgt := 60) hx hb dX1_filterLets_53 (by decide) (fun c_2 => ?_) (fun c_2 => ?_)
    · refine lv_iconst (v := nI 0) hx hb dX1_filterLets_60 (by decide) ?_
      have hEI : (I : Nat → Nat → Int32) = if 3 = 4 ∧ I r 10 = 0 then va_up I r (va_up (I r) 15 (I r 15 + 1)) else I := by rw [if_neg (by omega)]
      have hP : va_P D vwCl (sW cI cZ cR ad na n (if 3 = 4 ∧ I r 10 = 0 then va_up I r (va_up (I r) 15 (I r 15 + 1)) else I) V) s.heap := by rw [← hEI]; exact hP
      have hD : va_D A (sW cI cZ cR ad na n (if 3 = 4 ∧ I r 10 = 0 then va_up I r (va_up (I r) 15 (I r 15 + 1)) else I) V) := by rw [← hEI]; exact hD
      exact W.zret (v := nI 0) hx hb hr rfl (fun t ht hW => ⟨⟨nI 0, (), rfl, (by show _ = if nI f < I r 10 then (1 : Int32) else 0; first | (rw [if_neg (Int32.not_lt.mpr (by assumption))]; rfl) | (rw [if_pos (Int32.not_le.mp (by assumption))]; rfl)), by rw [ht]; exact hP, va_K.moved hW.alike hK, hD⟩, hS.F ht⟩) hS.2.2 dX1_filterLets_61
    · refine lv_iconst (v := nI 1) hx hb dX1_filterLets_56 (by decide) ?_
      refine lv_goto (tgt := 61) hx hb dX1_filterLets_57 (by decide) ?_
      have hEI : (I : Nat → Nat → Int32) = if 3 = 4 ∧ I r 10 = 0 then va_up I r (va_up (I r) 15 (I r 15 + 1)) else I := by rw [if_neg (by omega)]
      have hP : va_P D vwCl (sW cI cZ cR ad na n (if 3 = 4 ∧ I r 10 = 0 then va_up I r (va_up (I r) 15 (I r 15 + 1)) else I) V) s.heap := by rw [← hEI]; exact hP
      have hD : va_D A (sW cI cZ cR ad na n (if 3 = 4 ∧ I r 10 = 0 then va_up I r (va_up (I r) 15 (I r 15 + 1)) else I) V) := by rw [← hEI]; exact hD
      exact W.zret (v := nI 1) hx hb hr rfl (fun t ht hW => ⟨⟨nI 1, (), rfl, (by show _ = if nI f < I r 10 then (1 : Int32) else 0; first | (rw [if_neg (Int32.not_lt.mpr (by assumption))]; rfl) | (rw [if_pos (Int32.not_le.mp (by assumption))]; rfl)), by rw [ht]; exact hP, va_K.moved hW.alike hK, hD⟩, hS.F ht⟩) hS.2.2 dX1_filterLets_61
  · refine lv_tableIn (tgt := 62) hx hb dX1_filterLets_4 (by decide) (by decide) (off := 58) (by decide) (by decide) ?_
    refine lv_aload_n hx hb dX1_filterLets_62 rfl (lv_at hl 0 rfl) ?_
    refine lv_iload_n hx hb dX1_filterLets_63 rfl (lv_at hl 1 rfl) ?_
    refine w_calli (w := sW cI cZ cR ad na n I V) hS hA hK hD (va_runV (As := [.int (nI f)]) (rest := []) ⟨hx, hb, hml, hown, hts⟩ (c_X1_isDivided l D cI cZ cR ad na n I V s.heap.size r (by omega) hrd f) (cwV 1 hts gX1_filterLets_X1_isDivided rfl rfl rfl (by decide +kernel) ⟨Nat.le_of_ble_eq_true rfl, Nat.le_of_ble_eq_true rfl⟩) ⟨(w_pre hP hK hD wEnv_true).1, wR_recv (C := RX1) (T := TX1) (N := 17) hK hP (ci := 1) rfl r (by omega) (sC_rd hrd), (w_pre hP hK hD wEnv_true).2⟩ rfl rfl hl.1 rfl (lv_room (Nat.le_of_ble_eq_true rfl)) dX1_filterLets_64 ⟨Nat.le_of_ble_eq_true rfl, Nat.le_of_ble_eq_true rfl⟩) (fun r_3 u H locs hw hP hD hS hz => ?_)
    have hEI : (if I r 10 = 0 then va_up I r (va_up (I r) 15 (I r 15 + 1)) else I : Nat → Nat → Int32) = if 4 = 4 ∧ I r 10 = 0 then va_up I r (va_up (I r) 15 (I r 15 + 1)) else I := by by_cases h9 : I r 10 = 0 <;> simp [h9]
    have hP : va_P D vwCl (sW cI cZ cR ad na n (if 4 = 4 ∧ I r 10 = 0 then va_up I r (va_up (I r) 15 (I r 15 + 1)) else I) V) H := by rw [← hEI]; exact hP
    have hD : va_D A (sW cI cZ cR ad na n (if 4 = 4 ∧ I r 10 = 0 then va_up I r (va_up (I r) 15 (I r 15 + 1)) else I) V) := by rw [← hEI]; exact hD
    exact W.zret (v := r_3) hx hb hr (nar_z (by rw [hw]; split <;> first | exact Or.inr rfl | (split <;> first | exact Or.inr rfl | exact Or.inl rfl))) (fun t ht hW => ⟨⟨r_3, (), rfl, hw, by rw [ht]; exact hP, va_K.moved hW.alike hK, hD⟩, hS.F ht⟩) hS.2.2 dX1_filterLets_67

set_option maxHeartbeats 4000000 in
set_option maxRecDepth 100000 in
/-- Reader.take(x, i) -/
theorem c_X1_take (l : Launch) (D : va_G) (cI cZ cR : ClassId) (ad : Nat → Nat) (na n : Nat) (I V : Nat → Nat → Int32) (sz r : Nat)  (hn : r + 5 < n) (hrd : sC_r r) (tc : Nat) (htc : I r 12 = nI tc) (htc2 : tc < 20) (x : Int32) (i : Nat) : Met l yX1_take wsX1_take ({ frames := 1, cells := 0, slots := 0, locals := 22 } : Room) (va_Pc [.ref (ad r), .int x, .int (nI i)] (wPre D vwCl (sT cI cZ cR) (sW cI cZ cR ad na n I V) sz wTrue)) (va_Qv (fun (u : Unit) => True) (wPost D vwCl (sT cI cZ cR) (fun (u : Unit) => sW cI cZ cR ad na n (va_up I r (va_up (va_up (va_up (va_up (I r) 12 (nI (tc + 1))) 16 (I r 16 + nI 1)) 7 x) 8 (nI (i + 1)))) (va_up (va_up V (r + 1) (va_up (V (r + 1)) tc (nI i))) (r + 2) (va_up (V (r + 2)) tc x))) (va_A (sW cI cZ cR ad na n I V) sz)) (va_A (sW cI cZ cR ad na n I V) sz)) 0 0 (va_A (sW cI cZ cR ad na n I V) sz) := by
  refine Met.ofW (cc := cX1_take) (maxL := 3) (ret := none) (by decide) rfl ?_
  intro p e s m args below meth c s₁ B hml hv
  obtain ⟨rfl, hsz, hP, hK, hD0, hE⟩ := hv
  have hx := B.exec
  have hb := B.bytes
  have hr := B.returns
  have hts := atoms_spec (ws := wsX1_take) B.pre
  have hown : s.vm.findClass RX1 = some m.cls := findClass_of_methodNamed B.named
  have hlocks := B.notSynchronized
  subst hsz
  have hD := hD0.self (sz := s.heap.size)
  generalize hAe : va_A (sW cI cZ cR ad na n I V) s.heap.size = A at hD ⊢
  have hA : ∀ q : Nat, s.heap.size ≤ q → A q := fun q h => by rw [← hAe]; exact Or.inr h
  have hS : va_S A s.heap s.heap [] := va_S.rf
  have hinX1 : ∀ w ∈ wsX10, w ∈ wsX1_take := by decide +kernel
  have hl := lv_entry ([.ref (ad r), .int x, .int (nI i)]) (n := 3) (Nat.le_of_ble_eq_true rfl)
  rw [lg_entry_eq]
  generalize (lg_sl ([.ref (ad r), .int x, .int (nI i)]) ++ List.replicate (3 - (lg_sl ([.ref (ad r), .int x, .int (nI i)])).length) Slot.unset).toArray = ls at hl ⊢
  have hl : lv_has ls 3 [(0, .ref (ad r)), (1, .int x), (2, .int (nI i))] := hl
  refine lv_aload_n hx hb dX1_take_0 rfl (lv_at hl 0 rfl) ?_
  refine wR_get (v := .ref (ad (r + 1))) (C := RX1) (T := TX1) (N := 17) (ci := 1) hx hb hts hinX1 hown hK hP r (by omega) (sC_rd hrd) rfl 2 (by decide) (hts (.fieldLink RX1 9 "ChangeStream$Reader" "takenRows" "[I") (by decide +kernel)) rfl rfl dX1_take_1 ?_
  refine lv_aload_n hx hb dX1_take_4 rfl (lv_at hl 0 rfl) ?_
  refine wR_get (v := .int (nI tc)) (C := RX1) (T := TX1) (N := 17) (ci := 1) hx hb hts hinX1 hown hK hP r (by omega) (sC_rd hrd) rfl 12 (by decide) (hts (.fieldLink RX1 44 "ChangeStream$Reader" "takenCount" "I") (by decide +kernel)) rfl (congrArg (fun z => some (Value.int z)) htc) dX1_take_5 ?_
  refine lv_iload_n hx hb dX1_take_8 rfl (lv_at hl 2 rfl) ?_
  refine wR_ist (f := V (r + 1)) hx hb hK hP hD hS (r + 1) 0 (by omega) (sC_rk hrd 1 (by decide)) rfl (nx_in (k := tc) rfl (by omega) (by decide)) (j := tc) (nx_cl rfl (by omega)) (by exact ((sC_rk hrd 1 (by decide))).trans rfl) dX1_take_9 (fun H locs hP hD hS => ?_)
  refine lv_aload_n hx hb dX1_take_10 rfl (lv_at hl 0 rfl) ?_
  have he_1 : sC cI cZ cR ad na r (I r) ((va_up V (r + 1) (va_up (V (r + 1)) tc (nI i))) r) = .inr (1, rdL ad r (I r)) := by rw [va_up_ne _ _ (show (r : Nat) ≠ r + 1 by omega)]; exact (sC_rd hrd)
  refine wR_get (v := .ref (ad (r + 2))) (C := RX1) (T := TX1) (N := 17) (ci := 1) hx hb hts hinX1 hown hK hP r (by omega) he_1 rfl 3 (by decide) (hts (.fieldLink RX1 15 "ChangeStream$Reader" "takenTransactions" "[I") (by decide +kernel)) rfl rfl dX1_take_11 ?_
  refine lv_aload_n hx hb dX1_take_14 rfl (lv_at hl 0 rfl) ?_
  have he_2 : sC cI cZ cR ad na r (I r) ((va_up V (r + 1) (va_up (V (r + 1)) tc (nI i))) r) = .inr (1, rdL ad r (I r)) := by rw [va_up_ne _ _ (show (r : Nat) ≠ r + 1 by omega)]; exact (sC_rd hrd)
  refine wR_get (v := .int (nI tc)) (C := RX1) (T := TX1) (N := 17) (ci := 1) hx hb hts hinX1 hown hK hP r (by omega) he_2 rfl 12 (by decide) (hts (.fieldLink RX1 44 "ChangeStream$Reader" "takenCount" "I") (by decide +kernel)) rfl (congrArg (fun z => some (Value.int z)) htc) dX1_take_15 ?_
  refine lv_iload_n hx hb dX1_take_18 rfl (lv_at hl 1 rfl) ?_
  refine wR_ist (f := V (r + 2)) hx hb hK hP hD hS (r + 2) 0 (by omega) (by rw [va_up_ne _ _ (show (r + 2 : Nat) ≠ r + 1 by omega)]; exact (sC_rk hrd 2 (by decide))) rfl (nx_in (k := tc) rfl (by omega) (by decide)) (j := tc) (nx_cl rfl (by omega)) (by exact ((sC_rk hrd 2 (by decide))).trans rfl) dX1_take_19 (fun H locs hP hD hS => ?_)
  refine lv_aload_n hx hb dX1_take_20 rfl (lv_at hl 0 rfl) ?_
  refine lv_dup hx hb dX1_take_21 rfl ?_
  have he_3 : sC cI cZ cR ad na r (I r) ((va_up (va_up V (r + 1) (va_up (V (r + 1)) tc (nI i))) (r + 2) (va_up (V (r + 2)) tc x)) r) = .inr (1, rdL ad r (I r)) := by rw [va_up_ne _ _ (show (r : Nat) ≠ r + 2 by omega), va_up_ne _ _ (show (r : Nat) ≠ r + 1 by omega)]; exact (sC_rd hrd)
  refine wR_get (v := .int (nI tc)) (C := RX1) (T := TX1) (N := 17) (ci := 1) hx hb hts hinX1 hown hK hP r (by omega) he_3 rfl 12 (by decide) (hts (.fieldLink RX1 44 "ChangeStream$Reader" "takenCount" "I") (by decide +kernel)) rfl (congrArg (fun z => some (Value.int z)) htc) dX1_take_22 ?_
  refine lv_iconst (v := nI 1) hx hb dX1_take_25 (by decide) ?_
  refine lv_iadd hx hb dX1_take_26 ?_
  rw [nI_add]
  have he_4 : sC cI cZ cR ad na r (I r) ((va_up (va_up V (r + 1) (va_up (V (r + 1)) tc (nI i))) (r + 2) (va_up (V (r + 2)) tc x)) r) = .inr (1, rdL ad r (I r)) := by rw [va_up_ne _ _ (show (r : Nat) ≠ r + 2 by omega), va_up_ne _ _ (show (r : Nat) ≠ r + 1 by omega)]; exact (sC_rd hrd)
  refine wR_put (C := RX1) (T := TX1) (N := 17) (ci := 1) hx hb hts hinX1 tyX1 tyX1_ok nmX1 hown hK hP hD hS r (by omega) he_4 rfl 12 (by decide) (hts (.fieldLink RX1 44 "ChangeStream$Reader" "takenCount" "I") (by decide +kernel)) rfl rfl (by decide +kernel) (by simp) (va_up (I r) 12 (nI (tc + 1))) (by rw [va_up_ne _ _ (show (r : Nat) ≠ r + 2 by omega), va_up_ne _ _ (show (r : Nat) ≠ r + 1 by omega)]; exact ((sC_rd hrd)).trans rfl) dX1_take_27 (fun H locs hP hD hS => ?_)
  refine lv_aload_n hx hb dX1_take_30 rfl (lv_at hl 0 rfl) ?_
  refine lv_dup hx hb dX1_take_31 rfl ?_
  have he_5 : sC cI cZ cR ad na r ((va_up I r (va_up (I r) 12 (nI (tc + 1)))) r) ((va_up (va_up V (r + 1) (va_up (V (r + 1)) tc (nI i))) (r + 2) (va_up (V (r + 2)) tc x)) r) = .inr (1, rdL ad r (va_up (I r) 12 (nI (tc + 1)))) := by rw [va_up_self, va_up_ne _ _ (show (r : Nat) ≠ r + 2 by omega), va_up_ne _ _ (show (r : Nat) ≠ r + 1 by omega)]; exact (sC_rd hrd)
  refine wR_get (v := .int (va_up (I r) 12 (nI (tc + 1)) 16)) (C := RX1) (T := TX1) (N := 17) (ci := 1) hx hb hts hinX1 hown hK hP r (by omega) he_5 rfl 16 (by decide) (hts (.fieldLink RX1 56 "ChangeStream$Reader" "tookInAll" "I") (by decide +kernel)) rfl rfl dX1_take_32 ?_
  refine lv_iconst (v := nI 1) hx hb dX1_take_35 (by decide) ?_
  refine lv_iadd hx hb dX1_take_36 ?_
  have he_6 : sC cI cZ cR ad na r ((va_up I r (va_up (I r) 12 (nI (tc + 1)))) r) ((va_up (va_up V (r + 1) (va_up (V (r + 1)) tc (nI i))) (r + 2) (va_up (V (r + 2)) tc x)) r) = .inr (1, rdL ad r (va_up (I r) 12 (nI (tc + 1)))) := by rw [va_up_self, va_up_ne _ _ (show (r : Nat) ≠ r + 2 by omega), va_up_ne _ _ (show (r : Nat) ≠ r + 1 by omega)]; exact (sC_rd hrd)
  refine wR_put (C := RX1) (T := TX1) (N := 17) (ci := 1) hx hb hts hinX1 tyX1 tyX1_ok nmX1 hown hK hP hD hS r (by omega) he_6 rfl 16 (by decide) (hts (.fieldLink RX1 56 "ChangeStream$Reader" "tookInAll" "I") (by decide +kernel)) rfl rfl (by decide +kernel) (by simp) (va_up (va_up (I r) 12 (nI (tc + 1))) 16 ((va_up (I r) 12 (nI (tc + 1)) 16) + (nI 1))) (by rw [va_up_ne _ _ (show (r : Nat) ≠ r + 2 by omega), va_up_ne _ _ (show (r : Nat) ≠ r + 1 by omega)]; exact ((sC_rd hrd)).trans rfl) dX1_take_37 (fun H locs hP hD hS => ?_)
  rw [bx_uu] at hP hD
  refine lv_aload_n hx hb dX1_take_40 rfl (lv_at hl 0 rfl) ?_
  refine lv_iload_n hx hb dX1_take_41 rfl (lv_at hl 1 rfl) ?_
  refine lv_iload_n hx hb dX1_take_42 rfl (lv_at hl 2 rfl) ?_
  refine lv_iconst (v := nI 1) hx hb dX1_take_43 (by decide) ?_
  refine lv_iadd hx hb dX1_take_44 ?_
  rw [nI_add]
  have he_7 : sC cI cZ cR ad na r ((va_up I r (va_up (va_up (I r) 12 (nI (tc + 1))) 16 ((va_up (I r) 12 (nI (tc + 1)) 16) + (nI 1)))) r) ((va_up (va_up V (r + 1) (va_up (V (r + 1)) tc (nI i))) (r + 2) (va_up (V (r + 2)) tc x)) r) = .inr (1, rdL ad r (va_up (va_up (I r) 12 (nI (tc + 1))) 16 ((va_up (I r) 12 (nI (tc + 1)) 16) + (nI 1)))) := by rw [va_up_self, va_up_ne _ _ (show (r : Nat) ≠ r + 2 by omega), va_up_ne _ _ (show (r : Nat) ≠ r + 1 by omega)]; exact (sC_rd hrd)
  refine w_callv (w := sW cI cZ cR ad na n (va_up I r (va_up (va_up (I r) 12 (nI (tc + 1))) 16 ((va_up (I r) 12 (nI (tc + 1)) 16) + (nI 1)))) (va_up (va_up V (r + 1) (va_up (V (r + 1)) tc (nI i))) (r + 2) (va_up (V (r + 2)) tc x))) hS hA hK hD (va_runV (As := [.int x, .int (nI (i + 1))]) (rest := []) ⟨hx, hb, hml, hown, hts⟩ (c_X1_moveTo l D cI cZ cR ad na n (va_up I r (va_up (va_up (I r) 12 (nI (tc + 1))) 16 ((va_up (I r) 12 (nI (tc + 1)) 16) + (nI 1)))) (va_up (va_up V (r + 1) (va_up (V (r + 1)) tc (nI i))) (r + 2) (va_up (V (r + 2)) tc x)) H.size r (by omega) hrd x (nI (i + 1))) (cwV 2 hts gX1_take_X1_moveTo rfl rfl rfl (by decide +kernel) ⟨Nat.le_of_ble_eq_true rfl, Nat.le_of_ble_eq_true rfl⟩) ⟨(w_pre hP hK hD wEnv_true).1, wR_recv (C := RX1) (T := TX1) (N := 17) hK hP (ci := 1) rfl r (by omega) he_7, (w_pre hP hK hD wEnv_true).2⟩ rfl rfl hl.1 rfl (lv_room (Nat.le_of_ble_eq_true rfl)) dX1_take_45 ⟨Nat.le_of_ble_eq_true rfl, Nat.le_of_ble_eq_true rfl⟩) (fun  u H locs hw hP hD hS hz => ?_)
  rw [va_up_self, bx_uu] at hP hD
  have hEI : (va_up I r (va_up (va_up (va_up (va_up (I r) 12 (nI (tc + 1))) 16 ((va_up (I r) 12 (nI (tc + 1)) 16) + (nI 1))) 7 x) 8 (nI (i + 1))) : Nat → Nat → Int32) = va_up I r (va_up (va_up (va_up (va_up (I r) 12 (nI (tc + 1))) 16 (I r 16 + nI 1)) 7 x) 8 (nI (i + 1))) := by first | rfl | (simp only [bx_uu, wR_same]; done)
  have hP : va_P D vwCl (sW cI cZ cR ad na n (va_up I r (va_up (va_up (va_up (va_up (I r) 12 (nI (tc + 1))) 16 (I r 16 + nI 1)) 7 x) 8 (nI (i + 1)))) (va_up (va_up V (r + 1) (va_up (V (r + 1)) tc (nI i))) (r + 2) (va_up (V (r + 2)) tc x))) H := by rw [← hEI]; exact hP
  have hD : va_D A (sW cI cZ cR ad na n (va_up I r (va_up (va_up (va_up (va_up (I r) 12 (nI (tc + 1))) 16 (I r 16 + nI 1)) 7 x) 8 (nI (i + 1)))) (va_up (va_up V (r + 1) (va_up (V (r + 1)) tc (nI i))) (r + 2) (va_up (V (r + 2)) tc x))) := by rw [← hEI]; exact hD
  exact W.vret hx hb hr (fun t ht hW => ⟨⟨(), rfl, trivial, by rw [ht]; exact hP, va_K.moved hW.alike hK, hD⟩, hS.F ht⟩) hS.2.2 dX1_take_48

set_option maxHeartbeats 4000000 in
set_option maxRecDepth 100000 in
theorem lp_X1_finishUpTo {p : Program} (l : Launch) {e : Env} {s : State} {m : MethodId} {args : Array Value} {below : List Frame} {meth : Method} {c : Code} {Q : State → Prop} {A : Nat → Prop} (D : va_G) (cI cZ cR : ClassId) (ad : Nat → Nat) (na n : Nat) (I V : Nat → Nat → Int32) (r tc R : Nat) (x : Int32) (hx : p.tables.exec = Jvm.exec) (hb : c.code = cX1_finishUpTo) (hml : c.maxLocals = 3) (hts : ∀ w ∈ wsX1_finishUpTo, w.before args s = true) (hown : s.vm.findClass RX1 = some m.cls) (hK : va_K D vwCl (sT cI cZ cR) s) (hA : ∀ q : Nat, s.heap.size ≤ q → A q) (hn : r + 5 < n) (hrd : sC_r r) (htc : I r 12 = nI tc) (htc2 : tc ≤ 20)  (kk : ∀ (H : Heap) (locs : List Loc) (ls : Array Slot), va_P D vwCl (sW cI cZ cR ad na n I V) H → va_D A (sW cI cZ cR ad na n I V) → va_S A s.heap H locs → lv_has ls 3 [(0, .ref (ad r)), (1, .int x), (2, .int (nI R))] → W p l e ({ frames := 1, cells := 0, slots := 0, locals := 60 } : Room) s m args below meth c H locs 0 0 Q (F0 m 26 ls [])) : ∀ (fuel : Nat) (i : Nat) (H : Heap) (locs : List Loc) (ls : Array Slot), i ≤ tc → fDone (V (r + 2)) x (tc - i) i = R → tc - i < fuel → va_P D vwCl (sW cI cZ cR ad na n I V) H → va_D A (sW cI cZ cR ad na n I V) → va_S A s.heap H locs → lv_has ls 3 [(0, .ref (ad r)), (1, .int x), (2, .int (nI i))] → W p l e ({ frames := 1, cells := 0, slots := 0, locals := 60 } : Room) s m args below meth c H locs 0 0 Q (F0 m 2 ls []) := by
  intro fuel
  induction fuel with
  | zero =>
    intro i H locs ls hi hR hfu
    exact absurd hfu (Nat.not_lt_zero _)
  | succ fuel ih =>
    intro i H locs ls hi hR hfu hP hD hS hl
    have hinX1 : ∀ w ∈ wsX10, w ∈ wsX1_finishUpTo := by decide +kernel
    refine lv_iload_n hx hb dX1_finishUpTo_2 rfl (lv_at hl 2 rfl) ?_
    refine lv_aload_n hx hb dX1_finishUpTo_3 rfl (lv_at hl 0 rfl) ?_
    refine wR_get (v := .int (nI tc)) (C := RX1) (T := TX1) (N := 17) (ci := 1) hx hb hts hinX1 hown hK hP r (by omega) (sC_rd hrd) rfl 12 (by decide) (hts (.fieldLink RX1 44 "ChangeStream$Reader" "takenCount" "I") (by decide +kernel)) rfl (congrArg (fun z => some (Value.int z)) htc) dX1_finishUpTo_4 ?_
    refine lv_icmp_ge (tgt := 26) hx hb dX1_finishUpTo_7 (by decide) (fun c_1 => ?_) (fun c_1 => ?_)
    · have c_1 : tc ≤ i := (nI_leI (a := tc) (b := i) (by omega) (by omega)).mp c_1
      have hR2 : i = R := by rw [← hR, show tc - i = 0 by omega]; rfl
      subst hR2
      exact kk  H locs ls  hP hD hS (lv_sub hl [0, 1, 2] rfl)
    · have c_1 : ¬ (tc ≤ i) := fun h9 => c_1 ((nI_leI (a := tc) (b := i) (by omega) (by omega)).mpr h9)
      refine lv_aload_n hx hb dX1_finishUpTo_10 rfl (lv_at hl 0 rfl) ?_
      refine wR_get (v := .ref (ad (r + 2))) (C := RX1) (T := TX1) (N := 17) (ci := 1) hx hb hts hinX1 hown hK hP r (by omega) (sC_rd hrd) rfl 3 (by decide) (hts (.fieldLink RX1 15 "ChangeStream$Reader" "takenTransactions" "[I") (by decide +kernel)) rfl rfl dX1_finishUpTo_11 ?_
      refine lv_iload_n hx hb dX1_finishUpTo_14 rfl (lv_at hl 2 rfl) ?_
      refine wR_ild (f := V (r + 2)) (v := (V (r + 2)) i) hx hb hK hP (r + 2) 0 (by omega) (sC_rk hrd 2 (by decide)) rfl (nx_in (k := i) rfl (by omega) (by decide)) (j := i) (nx_cl rfl (by omega)) rfl dX1_finishUpTo_15 ?_
      refine lv_iload_n hx hb dX1_finishUpTo_16 rfl (lv_at hl 1 rfl) ?_
      refine lv_icmp_gt (tgt := 26) hx hb dX1_finishUpTo_17 (by decide) (fun c_2 => ?_) (fun c_2 => ?_)
      · have hR2 : i = R := by rw [← hR, show tc - i = (tc - (i + 1)) + 1 by omega]; show _ = if V (r + 2) i ≤ x then _ else i; rw [if_neg (Int32.not_le.mpr c_2)]
        subst hR2
        exact kk  H locs ls  hP hD hS (lv_sub hl [0, 1, 2] rfl)
      · have hR2 : fDone (V (r + 2)) x (tc - (i + 1)) (i + 1) = R := by rw [← hR, show tc - i = (tc - (i + 1)) + 1 by omega]; show _ = if V (r + 2) i ≤ x then _ else i; rw [if_pos (Int32.not_lt.mp c_2)]
        refine lv_iinc (v := nI (i + 1)) (lv' := [(2, .int (nI (i + 1))), (0, .ref (ad r)), (1, .int x)]) hx hb dX1_finishUpTo_20 hl (k := 2) rfl (nI_add _ 1) (by decide) rfl (fun ls hl => ?_)
        refine lv_goto (tgt := 2) hx hb dX1_finishUpTo_23 (by decide) ?_
        exact ih (i + 1) H locs ls (by omega) hR2 (by omega) hP hD hS (lv_sub hl [1, 2, 0] rfl)

set_option maxHeartbeats 4000000 in
set_option maxRecDepth 100000 in
/-- Reader.finishUpTo(x) -/
theorem c_X1_finishUpTo (l : Launch) (D : va_G) (cI cZ cR : ClassId) (ad : Nat → Nat) (na n : Nat) (I V : Nat → Nat → Int32) (sz r : Nat)  (hn : r + 5 < n) (hrd : sC_r r) (tc : Nat) (htc : I r 12 = nI tc) (htc2 : tc ≤ 20) (x : Int32) (d : Nat) (hd : d = fDone (V (r + 2)) x tc 0) : Met l yX1_finishUpTo wsX1_finishUpTo ({ frames := 1, cells := 0, slots := 0, locals := 60 } : Room) (va_Pc [.ref (ad r), .int x] (wPre D vwCl (sT cI cZ cR) (sW cI cZ cR ad na n I V) sz wTrue)) (va_Qi (fun (r9 : Int32) (u : Unit) => r9 = nI d) (wPost D vwCl (sT cI cZ cR) (fun (u : Unit) => sW cI cZ cR ad na n (va_up I r (va_up (I r) 12 (nI (tc - d)))) (va_up (va_up V (r + 1) (va_cpy (V (r + 1)) (V (r + 1)) d 0 (tc - d))) (r + 2) (va_cpy (V (r + 2)) (V (r + 2)) d 0 (tc - d)))) (va_A (sW cI cZ cR ad na n I V) sz)) (va_A (sW cI cZ cR ad na n I V) sz)) 0 0 (va_A (sW cI cZ cR ad na n I V) sz) := by
  refine Met.ofW (cc := cX1_finishUpTo) (maxL := 3) (ret := (some .int)) (by decide) rfl ?_
  intro p e s m args below meth c s₁ B hml hv
  obtain ⟨rfl, hsz, hP, hK, hD0, hE⟩ := hv
  have hx := B.exec
  have hb := B.bytes
  have hr := B.returns
  have hts := atoms_spec (ws := wsX1_finishUpTo) B.pre
  have hown : s.vm.findClass RX1 = some m.cls := findClass_of_methodNamed B.named
  have hlocks := B.notSynchronized
  subst hsz
  have hD := hD0.self (sz := s.heap.size)
  generalize hAe : va_A (sW cI cZ cR ad na n I V) s.heap.size = A at hD ⊢
  have hA : ∀ q : Nat, s.heap.size ≤ q → A q := fun q h => by rw [← hAe]; exact Or.inr h
  have hS : va_S A s.heap s.heap [] := va_S.rf
  have hinX1 : ∀ w ∈ wsX10, w ∈ wsX1_finishUpTo := by decide +kernel
  have hl := lv_entry ([.ref (ad r), .int x]) (n := 3) (Nat.le_of_ble_eq_true rfl)
  rw [lg_entry_eq]
  generalize (lg_sl ([.ref (ad r), .int x]) ++ List.replicate (3 - (lg_sl ([.ref (ad r), .int x])).length) Slot.unset).toArray = ls at hl ⊢
  have hl : lv_has ls 3 [(0, .ref (ad r)), (1, .int x)] := hl
  have hd2 : d ≤ tc := by have := fDone_in (V (r + 2)) x tc 0; omega
  refine lv_iconst (v := nI 0) hx hb dX1_finishUpTo_0 (by decide) ?_
  refine lv_istore_n (lv' := [(2, .int (nI 0)), (0, .ref (ad r)), (1, .int x)]) hx hb dX1_finishUpTo_1 rfl hl (by decide) rfl (fun ls hl => ?_)
  refine lp_X1_finishUpTo l D cI cZ cR ad na n I V r tc d x hx hb hml hts hown hK hA hn hrd htc htc2 (fun  H locs ls  hP hD hS hl => ?_) (tc + 1) 0 s.heap [] ls (by omega) (by rw [hd]; rfl) (by omega) hP hD hS (lv_sub hl [1, 2, 0] rfl)
  refine lv_aload_n hx hb dX1_finishUpTo_26 rfl (lv_at hl 0 rfl) ?_
  refine lv_dup hx hb dX1_finishUpTo_27 rfl ?_
  refine wR_get (v := .int (nI tc)) (C := RX1) (T := TX1) (N := 17) (ci := 1) hx hb hts hinX1 hown hK hP r (by omega) (sC_rd hrd) rfl 12 (by decide) (hts (.fieldLink RX1 44 "ChangeStream$Reader" "takenCount" "I") (by decide +kernel)) rfl (congrArg (fun z => some (Value.int z)) htc) dX1_finishUpTo_28 ?_
  refine lv_iload_n hx hb dX1_finishUpTo_31 rfl (lv_at hl 2 rfl) ?_
  refine lv_isub hx hb dX1_finishUpTo_32 ?_
  rw [show (nI tc) - (nI d) = nI (tc - d) from pk_sub hd2]
  refine wR_put (C := RX1) (T := TX1) (N := 17) (ci := 1) hx hb hts hinX1 tyX1 tyX1_ok nmX1 hown hK hP hD hS r (by omega) (sC_rd hrd) rfl 12 (by decide) (hts (.fieldLink RX1 44 "ChangeStream$Reader" "takenCount" "I") (by decide +kernel)) rfl rfl (by decide +kernel) (by simp) (va_up (I r) 12 (nI (tc - d))) (by exact ((sC_rd hrd)).trans rfl) dX1_finishUpTo_33 (fun H locs hP hD hS => ?_)
  refine lv_aload_n hx hb dX1_finishUpTo_36 rfl (lv_at hl 0 rfl) ?_
  have he_1 : sC cI cZ cR ad na r ((va_up I r (va_up (I r) 12 (nI (tc - d)))) r) (V r) = .inr (1, rdL ad r (va_up (I r) 12 (nI (tc - d)))) := by rw [va_up_self]; exact (sC_rd hrd)
  refine wR_get (v := .ref (ad (r + 1))) (C := RX1) (T := TX1) (N := 17) (ci := 1) hx hb hts hinX1 hown hK hP r (by omega) he_1 rfl 2 (by decide) (hts (.fieldLink RX1 9 "ChangeStream$Reader" "takenRows" "[I") (by decide +kernel)) rfl rfl dX1_finishUpTo_37 ?_
  refine lv_iload_n hx hb dX1_finishUpTo_40 rfl (lv_at hl 2 rfl) ?_
  refine lv_aload_n hx hb dX1_finishUpTo_41 rfl (lv_at hl 0 rfl) ?_
  have he_2 : sC cI cZ cR ad na r ((va_up I r (va_up (I r) 12 (nI (tc - d)))) r) (V r) = .inr (1, rdL ad r (va_up (I r) 12 (nI (tc - d)))) := by rw [va_up_self]; exact (sC_rd hrd)
  refine wR_get (v := .ref (ad (r + 1))) (C := RX1) (T := TX1) (N := 17) (ci := 1) hx hb hts hinX1 hown hK hP r (by omega) he_2 rfl 2 (by decide) (hts (.fieldLink RX1 9 "ChangeStream$Reader" "takenRows" "[I") (by decide +kernel)) rfl rfl dX1_finishUpTo_42 ?_
  refine lv_iconst (v := nI 0) hx hb dX1_finishUpTo_45 (by decide) ?_
  refine lv_aload_n hx hb dX1_finishUpTo_46 rfl (lv_at hl 0 rfl) ?_
  have he_3 : sC cI cZ cR ad na r ((va_up I r (va_up (I r) 12 (nI (tc - d)))) r) (V r) = .inr (1, rdL ad r (va_up (I r) 12 (nI (tc - d)))) := by rw [va_up_self]; exact (sC_rd hrd)
  refine wR_get (v := .int (nI (tc - d))) (C := RX1) (T := TX1) (N := 17) (ci := 1) hx hb hts hinX1 hown hK hP r (by omega) he_3 rfl 12 (by decide) (hts (.fieldLink RX1 44 "ChangeStream$Reader" "takenCount" "I") (by decide +kernel)) rfl rfl dX1_finishUpTo_47 ?_
  refine wR_cpy (f := V (r + 1)) hx hb (hml.trans hl.1.symm) hown (hts (.methodLink RX1 73 arraycopyName) (by decide +kernel)) (hts (.native arraycopyName) (by decide +kernel)) (hts (.static arraycopyName) (by decide +kernel)) (hts (.initialized "java/lang/System") (by decide +kernel)) hK hP hD hS (r + 1) 0 (by omega) (by rw [va_up_ne _ _ (show (r + 1 : Nat) ≠ r by omega)]; exact (sC_rk hrd 1 (by decide))) rfl rfl (sp := d) (dp := 0) (k := tc - d) (by omega) (by omega) (by omega) (by omega) (by omega) (Nat.le_of_ble_eq_true rfl) (Nat.le_of_ble_eq_true rfl) (by exact ((sC_rk hrd 1 (by decide))).trans rfl) dX1_finishUpTo_50 (fun H locs hP hD hS => ?_)
  refine lv_aload_n hx hb dX1_finishUpTo_53 rfl (lv_at hl 0 rfl) ?_
  have he_4 : sC cI cZ cR ad na r ((va_up I r (va_up (I r) 12 (nI (tc - d)))) r) ((va_up V (r + 1) (va_cpy (V (r + 1)) (V (r + 1)) d 0 (tc - d))) r) = .inr (1, rdL ad r (va_up (I r) 12 (nI (tc - d)))) := by rw [va_up_self, va_up_ne _ _ (show (r : Nat) ≠ r + 1 by omega)]; exact (sC_rd hrd)
  refine wR_get (v := .ref (ad (r + 2))) (C := RX1) (T := TX1) (N := 17) (ci := 1) hx hb hts hinX1 hown hK hP r (by omega) he_4 rfl 3 (by decide) (hts (.fieldLink RX1 15 "ChangeStream$Reader" "takenTransactions" "[I") (by decide +kernel)) rfl rfl dX1_finishUpTo_54 ?_
  refine lv_iload_n hx hb dX1_finishUpTo_57 rfl (lv_at hl 2 rfl) ?_
  refine lv_aload_n hx hb dX1_finishUpTo_58 rfl (lv_at hl 0 rfl) ?_
  have he_5 : sC cI cZ cR ad na r ((va_up I r (va_up (I r) 12 (nI (tc - d)))) r) ((va_up V (r + 1) (va_cpy (V (r + 1)) (V (r + 1)) d 0 (tc - d))) r) = .inr (1, rdL ad r (va_up (I r) 12 (nI (tc - d)))) := by rw [va_up_self, va_up_ne _ _ (show (r : Nat) ≠ r + 1 by omega)]; exact (sC_rd hrd)
  refine wR_get (v := .ref (ad (r + 2))) (C := RX1) (T := TX1) (N := 17) (ci := 1) hx hb hts hinX1 hown hK hP r (by omega) he_5 rfl 3 (by decide) (hts (.fieldLink RX1 15 "ChangeStream$Reader" "takenTransactions" "[I") (by decide +kernel)) rfl rfl dX1_finishUpTo_59 ?_
  refine lv_iconst (v := nI 0) hx hb dX1_finishUpTo_62 (by decide) ?_
  refine lv_aload_n hx hb dX1_finishUpTo_63 rfl (lv_at hl 0 rfl) ?_
  have he_6 : sC cI cZ cR ad na r ((va_up I r (va_up (I r) 12 (nI (tc - d)))) r) ((va_up V (r + 1) (va_cpy (V (r + 1)) (V (r + 1)) d 0 (tc - d))) r) = .inr (1, rdL ad r (va_up (I r) 12 (nI (tc - d)))) := by rw [va_up_self, va_up_ne _ _ (show (r : Nat) ≠ r + 1 by omega)]; exact (sC_rd hrd)
  refine wR_get (v := .int (nI (tc - d))) (C := RX1) (T := TX1) (N := 17) (ci := 1) hx hb hts hinX1 hown hK hP r (by omega) he_6 rfl 12 (by decide) (hts (.fieldLink RX1 44 "ChangeStream$Reader" "takenCount" "I") (by decide +kernel)) rfl rfl dX1_finishUpTo_64 ?_
  refine wR_cpy (f := V (r + 2)) hx hb (hml.trans hl.1.symm) hown (hts (.methodLink RX1 73 arraycopyName) (by decide +kernel)) (hts (.native arraycopyName) (by decide +kernel)) (hts (.static arraycopyName) (by decide +kernel)) (hts (.initialized "java/lang/System") (by decide +kernel)) hK hP hD hS (r + 2) 0 (by omega) (by rw [va_up_ne _ _ (show (r + 2 : Nat) ≠ r by omega), va_up_ne _ _ (show (r + 2 : Nat) ≠ r + 1 by omega)]; exact (sC_rk hrd 2 (by decide))) rfl rfl (sp := d) (dp := 0) (k := tc - d) (by omega) (by omega) (by omega) (by omega) (by omega) (Nat.le_of_ble_eq_true rfl) (Nat.le_of_ble_eq_true rfl) (by exact ((sC_rk hrd 2 (by decide))).trans rfl) dX1_finishUpTo_67 (fun H locs hP hD hS => ?_)
  refine lv_iload_n hx hb dX1_finishUpTo_70 rfl (lv_at hl 2 rfl) ?_
  exact W.iret (v := nI d) hx hb hr (fun t ht hW => ⟨⟨nI d, (), rfl, rfl, by rw [ht]; exact hP, va_K.moved hW.alike hK, hD⟩, hS.F ht⟩) hS.2.2 dX1_finishUpTo_71

set_option maxHeartbeats 4000000 in
set_option maxRecDepth 100000 in
/-- Reader.beginAgain() -/
theorem c_X1_beginAgain (l : Launch) (D : va_G) (cI cZ cR : ClassId) (ad : Nat → Nat) (na n : Nat) (I V : Nat → Nat → Int32) (sz r : Nat)  (hn : r + 5 < n) (hrd : sC_r r) (tc : Nat) (htc : I r 12 = nI tc) (htc2 : tc ≤ 20) : Met l yX1_beginAgain wsX1_beginAgain ({ frames := 1, cells := 0, slots := 0, locals := 22 } : Room) (va_Pc [.ref (ad r)] (wPre D vwCl (sT cI cZ cR) (sW cI cZ cR ad na n I V) sz wTrue)) (va_Qi (fun (r9 : Int32) (u : Unit) => r9 = nI tc) (wPost D vwCl (sT cI cZ cR) (fun (u : Unit) => sW cI cZ cR ad na n (va_up I r (va_up (if 0 < tc then va_up (va_up (I r) 7 (V (r + 2) 0)) 8 (V (r + 1) 0) else I r) 12 (nI 0))) V) (va_A (sW cI cZ cR ad na n I V) sz)) (va_A (sW cI cZ cR ad na n I V) sz)) 0 0 (va_A (sW cI cZ cR ad na n I V) sz) := by
  refine Met.ofW (cc := cX1_beginAgain) (maxL := 2) (ret := (some .int)) (by decide) rfl ?_
  intro p e s m args below meth c s₁ B hml hv
  obtain ⟨rfl, hsz, hP, hK, hD0, hE⟩ := hv
  have hx := B.exec
  have hb := B.bytes
  have hr := B.returns
  have hts := atoms_spec (ws := wsX1_beginAgain) B.pre
  have hown : s.vm.findClass RX1 = some m.cls := findClass_of_methodNamed B.named
  have hlocks := B.notSynchronized
  subst hsz
  have hD := hD0.self (sz := s.heap.size)
  generalize hAe : va_A (sW cI cZ cR ad na n I V) s.heap.size = A at hD ⊢
  have hA : ∀ q : Nat, s.heap.size ≤ q → A q := fun q h => by rw [← hAe]; exact Or.inr h
  have hS : va_S A s.heap s.heap [] := va_S.rf
  have hinX1 : ∀ w ∈ wsX10, w ∈ wsX1_beginAgain := by decide +kernel
  have hl := lv_entry ([.ref (ad r)]) (n := 2) (Nat.le_of_ble_eq_true rfl)
  rw [lg_entry_eq]
  generalize (lg_sl ([.ref (ad r)]) ++ List.replicate (2 - (lg_sl ([.ref (ad r)])).length) Slot.unset).toArray = ls at hl ⊢
  have hl : lv_has ls 2 [(0, .ref (ad r))] := hl
  refine lv_aload_n hx hb dX1_beginAgain_0 rfl (lv_at hl 0 rfl) ?_
  refine wR_get (v := .int (nI tc)) (C := RX1) (T := TX1) (N := 17) (ci := 1) hx hb hts hinX1 hown hK hP r (by omega) (sC_rd hrd) rfl 12 (by decide) (hts (.fieldLink RX1 44 "ChangeStream$Reader" "takenCount" "I") (by decide +kernel)) rfl (congrArg (fun z => some (Value.int z)) htc) dX1_beginAgain_1 ?_
  refine lv_istore_n (lv' := [(1, .int (nI tc)), (0, .ref (ad r))]) hx hb dX1_beginAgain_4 rfl hl (by decide) rfl (fun ls hl => ?_)
  refine lv_iload_n hx hb dX1_beginAgain_5 rfl (lv_at hl 0 rfl) ?_
  refine lv_if_le (tgt := 25) hx hb dX1_beginAgain_6 (by decide) (fun c_1 => ?_) (fun c_1 => ?_)
  · have c_1 : tc ≤ 0 := (nI_leI (a := tc) (b := 0) (by omega) (by omega)).mp c_1
    refine lv_aload_n hx hb dX1_beginAgain_25 rfl (lv_at hl 1 rfl) ?_
    refine lv_iconst (v := nI 0) hx hb dX1_beginAgain_26 (by decide) ?_
    refine wR_put (C := RX1) (T := TX1) (N := 17) (ci := 1) hx hb hts hinX1 tyX1 tyX1_ok nmX1 hown hK hP hD hS r (by omega) (sC_rd hrd) rfl 12 (by decide) (hts (.fieldLink RX1 44 "ChangeStream$Reader" "takenCount" "I") (by decide +kernel)) rfl rfl (by decide +kernel) (by simp) (va_up (I r) 12 (nI 0)) (by exact ((sC_rd hrd)).trans rfl) dX1_beginAgain_27 (fun H locs hP hD hS => ?_)
    refine lv_iload_n hx hb dX1_beginAgain_30 rfl (lv_at hl 0 rfl) ?_
    have hEI : (va_up I r (va_up (I r) 12 (nI 0)) : Nat → Nat → Int32) = va_up I r (va_up (if 0 < tc then va_up (va_up (I r) 7 (V (r + 2) 0)) 8 (V (r + 1) 0) else I r) 12 (nI 0)) := by first | rw [if_pos (by omega)] | rw [if_neg (by omega)]
    have hP : va_P D vwCl (sW cI cZ cR ad na n (va_up I r (va_up (if 0 < tc then va_up (va_up (I r) 7 (V (r + 2) 0)) 8 (V (r + 1) 0) else I r) 12 (nI 0))) V) H := by rw [← hEI]; exact hP
    have hD : va_D A (sW cI cZ cR ad na n (va_up I r (va_up (if 0 < tc then va_up (va_up (I r) 7 (V (r + 2) 0)) 8 (V (r + 1) 0) else I r) 12 (nI 0))) V) := by rw [← hEI]; exact hD
    exact W.iret (v := nI tc) hx hb hr (fun t ht hW => ⟨⟨nI tc, (), rfl, rfl, by rw [ht]; exact hP, va_K.moved hW.alike hK, hD⟩, hS.F ht⟩) hS.2.2 dX1_beginAgain_31
  · have c_1 : ¬ (tc ≤ 0) := fun h9 => c_1 ((nI_leI (a := tc) (b := 0) (by omega) (by omega)).mpr h9)
    refine lv_aload_n hx hb dX1_beginAgain_9 rfl (lv_at hl 1 rfl) ?_
    refine lv_aload_n hx hb dX1_beginAgain_10 rfl (lv_at hl 1 rfl) ?_
    refine wR_get (v := .ref (ad (r + 2))) (C := RX1) (T := TX1) (N := 17) (ci := 1) hx hb hts hinX1 hown hK hP r (by omega) (sC_rd hrd) rfl 3 (by decide) (hts (.fieldLink RX1 15 "ChangeStream$Reader" "takenTransactions" "[I") (by decide +kernel)) rfl rfl dX1_beginAgain_11 ?_
    refine lv_iconst (v := nI 0) hx hb dX1_beginAgain_14 (by decide) ?_
    refine wR_ild (f := V (r + 2)) (v := (V (r + 2)) 0) hx hb hK hP (r + 2) 0 (by omega) (sC_rk hrd 2 (by decide)) rfl (nx_in (k := 0) rfl (by omega) (by decide)) (j := 0) (nx_cl rfl (by omega)) rfl dX1_beginAgain_15 ?_
    refine lv_aload_n hx hb dX1_beginAgain_16 rfl (lv_at hl 1 rfl) ?_
    refine wR_get (v := .ref (ad (r + 1))) (C := RX1) (T := TX1) (N := 17) (ci := 1) hx hb hts hinX1 hown hK hP r (by omega) (sC_rd hrd) rfl 2 (by decide) (hts (.fieldLink RX1 9 "ChangeStream$Reader" "takenRows" "[I") (by decide +kernel)) rfl rfl dX1_beginAgain_17 ?_
    refine lv_iconst (v := nI 0) hx hb dX1_beginAgain_20 (by decide) ?_
    refine wR_ild (f := V (r + 1)) (v := (V (r + 1)) 0) hx hb hK hP (r + 1) 0 (by omega) (sC_rk hrd 1 (by decide)) rfl (nx_in (k := 0) rfl (by omega) (by decide)) (j := 0) (nx_cl rfl (by omega)) rfl dX1_beginAgain_21 ?_
    refine w_callv (w := sW cI cZ cR ad na n I V) hS hA hK hD (va_runV (As := [.int ((V (r + 2)) 0), .int ((V (r + 1)) 0)]) (rest := []) ⟨hx, hb, hml, hown, hts⟩ (c_X1_moveTo l D cI cZ cR ad na n I V s.heap.size r (by omega) hrd ((V (r + 2)) 0) ((V (r + 1)) 0)) (cwV 2 hts gX1_beginAgain_X1_moveTo rfl rfl rfl (by decide +kernel) ⟨Nat.le_of_ble_eq_true rfl, Nat.le_of_ble_eq_true rfl⟩) ⟨(w_pre hP hK hD wEnv_true).1, wR_recv (C := RX1) (T := TX1) (N := 17) hK hP (ci := 1) rfl r (by omega) (sC_rd hrd), (w_pre hP hK hD wEnv_true).2⟩ rfl rfl hl.1 rfl (lv_room (Nat.le_of_ble_eq_true rfl)) dX1_beginAgain_22 ⟨Nat.le_of_ble_eq_true rfl, Nat.le_of_ble_eq_true rfl⟩) (fun  u H locs hw hP hD hS hz => ?_)
    refine lv_aload_n hx hb dX1_beginAgain_25 rfl (lv_at hl 1 rfl) ?_
    refine lv_iconst (v := nI 0) hx hb dX1_beginAgain_26 (by decide) ?_
    have he_3 : sC cI cZ cR ad na r ((va_up I r (va_up (va_up (I r) 7 ((V (r + 2)) 0)) 8 ((V (r + 1)) 0))) r) (V r) = .inr (1, rdL ad r (va_up (va_up (I r) 7 ((V (r + 2)) 0)) 8 ((V (r + 1)) 0))) := by rw [va_up_self]; exact (sC_rd hrd)
    refine wR_put (C := RX1) (T := TX1) (N := 17) (ci := 1) hx hb hts hinX1 tyX1 tyX1_ok nmX1 hown hK hP hD hS r (by omega) he_3 rfl 12 (by decide) (hts (.fieldLink RX1 44 "ChangeStream$Reader" "takenCount" "I") (by decide +kernel)) rfl rfl (by decide +kernel) (by simp) (va_up (va_up (va_up (I r) 7 ((V (r + 2)) 0)) 8 ((V (r + 1)) 0)) 12 (nI 0)) (by exact ((sC_rd hrd)).trans rfl) dX1_beginAgain_27 (fun H locs hP hD hS => ?_)
    rw [bx_uu] at hP hD
    refine lv_iload_n hx hb dX1_beginAgain_30 rfl (lv_at hl 0 rfl) ?_
    have hEI : (va_up I r (va_up (va_up (va_up (I r) 7 ((V (r + 2)) 0)) 8 ((V (r + 1)) 0)) 12 (nI 0)) : Nat → Nat → Int32) = va_up I r (va_up (if 0 < tc then va_up (va_up (I r) 7 (V (r + 2) 0)) 8 (V (r + 1) 0) else I r) 12 (nI 0)) := by first | rw [if_pos (by omega)] | rw [if_neg (by omega)]
    have hP : va_P D vwCl (sW cI cZ cR ad na n (va_up I r (va_up (if 0 < tc then va_up (va_up (I r) 7 (V (r + 2) 0)) 8 (V (r + 1) 0) else I r) 12 (nI 0))) V) H := by rw [← hEI]; exact hP
    have hD : va_D A (sW cI cZ cR ad na n (va_up I r (va_up (if 0 < tc then va_up (va_up (I r) 7 (V (r + 2) 0)) 8 (V (r + 1) 0) else I r) 12 (nI 0))) V) := by rw [← hEI]; exact hD
    exact W.iret (v := nI tc) hx hb hr (fun t ht hW => ⟨⟨nI tc, (), rfl, rfl, by rw [ht]; exact hP, va_K.moved hW.alike hK, hD⟩, hS.F ht⟩) hS.2.2 dX1_beginAgain_31
