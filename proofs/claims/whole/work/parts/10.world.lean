/-! ===== a world of roles: cell r lies at 'ad r' and holds what 'c' says of its own numbers I r (fields) and V r (array) ===== -/
def wR (ad : Nat → Nat) (c : Nat → (Nat → Int32) → (Nat → Int32) → va_E) (n : Nat) (I V : Nat → Nat → Int32) : va_W := (List.range n).map (fun r => (ad r, c r (I r) (V r)))
theorem wR_at {ad : Nat → Nat} {c : Nat → (Nat → Int32) → (Nat → Int32) → va_E} {n : Nat} {I V : Nat → Nat → Int32} {r : Nat} (h : r < n) {e : va_E} (he : c r (I r) (V r) = e) : (wR ad c n I V)[r]? = some (ad r, e) := by
  subst he
  simp [wR, h]
theorem wR_set {ad : Nat → Nat} {c : Nat → (Nat → Int32) → (Nat → Int32) → va_E} {n : Nat} {I V : Nat → Nat → Int32} (r : Nat) (f g : Nat → Int32) {e : va_E} (he : c r f g = e) : (wR ad c n I V).set r (ad r, e) = wR ad c n (va_up I r f) (va_up V r g) := by
  subst he
  apply List.ext_getElem?
  intro i
  rw [List.getElem?_set]
  by_cases hi : r = i
  · subst hi
    by_cases hr : r < n
    · simp [wR, hr, va_up_self]
    · simp [wR, hr]
  · by_cases hr : i < n
    · simp [wR, hr, hi, va_up, Ne.symm hi]
    · simp [wR, hr, hi]
theorem wR_same {α : Type} (f : Nat → α) (r : Nat) : va_up f r (f r) = f := by
  funext j
  by_cases h : j = r
  · subst h; simp [va_up]
  · simp [va_up, h]
theorem wR_setI {ad : Nat → Nat} {c : Nat → (Nat → Int32) → (Nat → Int32) → va_E} {n : Nat} {I V : Nat → Nat → Int32} (r : Nat) (f : Nat → Int32) {e : va_E} (he : c r f (V r) = e) : (wR ad c n I V).set r (ad r, e) = wR ad c n (va_up I r f) V := by
  rw [wR_set r f (V r) he, wR_same]
theorem wR_setV {ad : Nat → Nat} {c : Nat → (Nat → Int32) → (Nat → Int32) → va_E} {n : Nat} {I V : Nat → Nat → Int32} (r : Nat) (g : Nat → Int32) {e : va_E} (he : c r (I r) g = e) : (wR ad c n I V).set r (ad r, e) = wR ad c n I (va_up V r g) := by
  rw [wR_set r (I r) g he, wR_same]
/-- what a method starts from: the heap's size, its world, the tables' classes, the cells apart, and what else it needs of the tables -/
def wPre (D : va_G) (cl : List vw_C) (tys : List (ClassId × FieldType)) (ws : va_W) (sz : Nat) (E : State → Prop) : State → Prop := fun U => U.heap.size = sz ∧ va_P D cl ws U.heap ∧ va_K D cl tys U ∧ va_D (fun _ => True) ws ∧ E U
/-- what it leaves -/
def wPost {S : Type} (D : va_G) (cl : List vw_C) (tys : List (ClassId × FieldType)) (B : S → va_W) (A : Nat → Prop) : S → State → Prop := fun u t => va_P D cl (B u) t.heap ∧ va_K D cl tys t ∧ va_D A (B u)
/-- what is needed of the tables stays: by another frame, by the same heap -/
def wEnv (E : State → Prop) (s : State) (H : Heap) : Prop := (∀ (U : State) (g : JFrame) (mk : MethodId) (a : Array Value), E U → E (U.calling g mk a)) ∧ ∀ U : State, U.heap = H → s.WarmedH U.vm → E U
def wTrue : State → Prop := fun _ => True
theorem wEnv_true {s : State} {H : Heap} : wEnv wTrue s H := ⟨fun _ _ _ _ _ => trivial, fun _ _ _ => trivial⟩
theorem w_free {A : Nat → Prop} {ws : va_W} {H0 H : Heap} {locs : List Loc} (hD : va_D A ws) (hS : va_S A H0 H locs) (hA : ∀ q, H0.size ≤ q → A q) : ∀ q, va_A ws H.size q → A q := by
  intro q h
  rcases h with ⟨k, e, h⟩ | h
  · exact hD.2 k (q, e) h
  · exact hA q (Nat.le_trans hS.1 h)
theorem w_blind {D : va_G} {cl : List vw_C} {tys : List (ClassId × FieldType)} {ws : va_W} {sz : Nat} {E : State → Prop} {av : List Value} (hE : ∀ (U : State) (g : JFrame) (mk : MethodId) (a : Array Value), E U → E (U.calling g mk a)) : FrameBlind (va_Pc av (wPre D cl tys ws sz E)) := by
  intro a U g mk q
  obtain ⟨q0, q1, qP, qK, qD, qE⟩ := q
  exact ⟨q0, q1, qP, va_K.moved (u := U) (U := U.calling g mk a) (Vm.Alike.refl U.vm) qK, qD, hE U g mk a qE⟩
section WRows
variable {p : Program} {l : Launch} {e : Env} {R : Room} {s : State} {m : MethodId} {args : Array Value} {below : List Frame} {meth : Method} {c : Code} {H : Heap} {locs : List Loc} {cells slots : Nat} {Q : State → Prop}
variable {cc : ByteArray} {pc : Nat} {ls : Array Slot} {rest : List Value} {D : va_G} {cl : List vw_C} {A : Nat → Prop} {tys : List (ClassId × FieldType)} {H0 : Heap}
variable {ad : Nat → Nat} {cf : Nat → (Nat → Int32) → (Nat → Int32) → va_E} {nr : Nat} {I V : Nat → Nat → Int32}
theorem wR_get (hexec : p.tables.exec = Jvm.exec) (hb : c.code = cc) {own ref C : String} {T : u_T} {N ci index : Nat} {Ts : List Cond} (hts : ∀ w ∈ Ts, w.before args s = true) (hin : ∀ w ∈ u_ws C T N, w ∈ Ts) (hown : s.vm.findClass own = some m.cls) (hK : va_K D cl tys s) (hP : va_P D cl (wR ad cf nr I V) H) (r : Nat) (hr : r < nr) {fs : List Value} (he : cf r (I r) (V r) = .inr (ci, fs)) (hc : cl[ci]? = some (C, T, N)) (k : Nat) (hk : k < N) (hlink : (Cond.fieldLink own index ref (T k).2.1 (T k).2.2.1).before args s = true) (hsame : ref = (T k).1) {v : Value} (hv : fs[k]? = some v) (hdg : decode cc pc = .ok (.getfield index, 3))
    (kk : W p l e R s m args below meth c H locs cells slots Q (F0 m (pc + 3) ls (v :: rest))) : W p l e R s m args below meth c H locs cells slots Q (F0 m pc ls (.ref (ad r) :: rest)) :=
  va_get hexec hb hts hin hown hK hP r (wR_at hr he) hc k hk hlink (fun x h => by rw [hsame]; exact h) hv hdg kk
theorem wR_put (hexec : p.tables.exec = Jvm.exec) (hb : c.code = cc) {own ref C : String} {T : u_T} {N ci index : Nat} {Ts : List Cond} (hts : ∀ w ∈ Ts, w.before args s = true) (hin : ∀ w ∈ u_ws C T N, w ∈ Ts) (ty0 : Nat → FieldType) (hty : ∀ k, k < N → parseFieldDescriptor (T k).2.2.1 = some (ty0 k)) (hnm : ∀ a, a < N → ∀ b, b < N → a ≠ b → (T a).2.1 ≠ (T b).2.1) (hown : s.vm.findClass own = some m.cls) (hK : va_K D cl tys s) (hP : va_P D cl (wR ad cf nr I V) H) (hD : va_D A (wR ad cf nr I V)) (hS0 : va_S A H0 H locs) (r : Nat) (hr : r < nr) {fs : List Value} (he : cf r (I r) (V r) = .inr (ci, fs)) (hc : cl[ci]? = some (C, T, N)) (k : Nat) (hk : k < N) (hlink : (Cond.fieldLink own index ref (T k).2.1 (T k).2.2.1).before args s = true) (hsame : ref = (T k).1) (hfin : (T k).2.2.2 = false) (hd : parseFieldDescriptor (T k).2.2.1 = some .int) {x : Int32} (hl : k < fs.length) (f' : Nat → Int32) (he' : cf r f' (V r) = .inr (ci, fs.set k (.int x)))
    (hdg : decode cc pc = .ok (.putfield index, 3)) (kk : ∀ (H1 : Heap) (locs1 : List Loc), va_P D cl (wR ad cf nr (va_up I r f') V) H1 → va_D A (wR ad cf nr (va_up I r f') V) → va_S A H0 H1 locs1 → W p l e R s m args below meth c H1 locs1 cells slots Q (F0 m (pc + 3) ls rest)) : W p l e R s m args below meth c H locs cells slots Q (F0 m pc ls (.int x :: .ref (ad r) :: rest)) := by
  refine va_put hexec hb hts hin ty0 hty hnm hown hK hP hD hS0 r (wR_at hr he) hc k hk hlink (fun x h => by rw [hsame]; exact h) hfin hd rfl rfl hl hdg (fun H1 locs1 h1 h2 h3 => ?_)
  rw [wR_setI r f' he'] at h1 h2
  exact kk H1 locs1 h1 h2 h3
theorem wR_ild (hexec : p.tables.exec = Jvm.exec) (hb : c.code = cc) (hK : va_K D cl tys s) (hP : va_P D cl (wR ad cf nr I V) H) (r t0 : Nat) (hr : r < nr) {cA : ClassId} {n : Nat} {f : Nat → Int32} (he : cf r (I r) (V r) = .inl (cA, n, .inl f)) (ht : tys[t0]? = some (cA, .int)) {i v : Int32} (hin : vp_in i n) {j : Nat} (hj : i.toNatClampNeg = j) (hv : f j = v) (hdg : decode cc pc = .ok (.iaload, 1))
    (kk : W p l e R s m args below meth c H locs cells slots Q (F0 m (pc + 1) ls (.int v :: rest))) : W p l e R s m args below meth c H locs cells slots Q (F0 m pc ls (.int i :: .ref (ad r) :: rest)) := by
  subst hj; subst hv
  exact va_iald hexec hb hK hP r t0 (wR_at hr he) ht hin hdg kk
theorem wR_zld (hexec : p.tables.exec = Jvm.exec) (hb : c.code = cc) (hK : va_K D cl tys s) (hP : va_P D cl (wR ad cf nr I V) H) (r t0 : Nat) (hr : r < nr) {cA : ClassId} {n : Nat} {f : Nat → Int32} (he : cf r (I r) (V r) = .inl (cA, n, .inl f)) (ht : tys[t0]? = some (cA, .boolean)) {i v : Int32} (hin : vp_in i n) {j : Nat} (hj : i.toNatClampNeg = j) (hv : f j = v) (hdg : decode cc pc = .ok (.baload, 1))
    (kk : W p l e R s m args below meth c H locs cells slots Q (F0 m (pc + 1) ls (.int v :: rest))) : W p l e R s m args below meth c H locs cells slots Q (F0 m pc ls (.int i :: .ref (ad r) :: rest)) := by
  subst hj; subst hv
  exact va_zald hexec hb hK hP r t0 (wR_at hr he) ht hin hdg kk
theorem wR_ist (hexec : p.tables.exec = Jvm.exec) (hb : c.code = cc) (hK : va_K D cl tys s) (hP : va_P D cl (wR ad cf nr I V) H) (hD : va_D A (wR ad cf nr I V)) (hS : va_S A H0 H locs) (r t0 : Nat) (hr : r < nr) {cA : ClassId} {n : Nat} {f : Nat → Int32} (he : cf r (I r) (V r) = .inl (cA, n, .inl f)) (ht : tys[t0]? = some (cA, .int)) {i x : Int32} (hin : vp_in i n) {j : Nat} (hj : i.toNatClampNeg = j) (he' : cf r (I r) (va_up f j x) = .inl (cA, n, .inl (va_up f j x))) (hdg : decode cc pc = .ok (.iastore, 1))
    (kk : ∀ (H1 : Heap) (locs1 : List Loc), va_P D cl (wR ad cf nr I (va_up V r (va_up f j x))) H1 → va_D A (wR ad cf nr I (va_up V r (va_up f j x))) → va_S A H0 H1 locs1 → W p l e R s m args below meth c H1 locs1 cells slots Q (F0 m (pc + 1) ls rest)) : W p l e R s m args below meth c H locs cells slots Q (F0 m pc ls (.int x :: .int i :: .ref (ad r) :: rest)) := by
  subst hj
  refine va_iast hexec hb hK hP hD hS r t0 (wR_at hr he) ht hin hdg (fun H1 locs1 h1 h2 h3 => ?_)
  exact kk H1 locs1 (by rw [← wR_setV r _ he']; exact h1) (by rw [← wR_setV r _ he']; exact h2) h3
theorem wR_zst (hexec : p.tables.exec = Jvm.exec) (hb : c.code = cc) (hK : va_K D cl tys s) (hP : va_P D cl (wR ad cf nr I V) H) (hD : va_D A (wR ad cf nr I V)) (hS : va_S A H0 H locs) (r t0 : Nat) (hr : r < nr) {cA : ClassId} {n : Nat} {f : Nat → Int32} (he : cf r (I r) (V r) = .inl (cA, n, .inl f)) (ht : tys[t0]? = some (cA, .boolean)) {i x : Int32} (hx : x = 0 ∨ x = 1) (hin : vp_in i n) {j : Nat} (hj : i.toNatClampNeg = j) (he' : cf r (I r) (va_up f j x) = .inl (cA, n, .inl (va_up f j x))) (hdg : decode cc pc = .ok (.bastore, 1))
    (kk : ∀ (H1 : Heap) (locs1 : List Loc), va_P D cl (wR ad cf nr I (va_up V r (va_up f j x))) H1 → va_D A (wR ad cf nr I (va_up V r (va_up f j x))) → va_S A H0 H1 locs1 → W p l e R s m args below meth c H1 locs1 cells slots Q (F0 m (pc + 1) ls rest)) : W p l e R s m args below meth c H locs cells slots Q (F0 m pc ls (.int x :: .int i :: .ref (ad r) :: rest)) := by
  subst hj
  have hn : vp_nar .boolean x = x := by rcases hx with rfl | rfl <;> decide
  refine va_zast hexec hb hK hP hD hS r t0 (wR_at hr he) ht hin hdg (fun H1 locs1 h1 h2 h3 => ?_)
  rw [hn] at h1 h2
  exact kk H1 locs1 (by rw [← wR_setV r _ he']; exact h1) (by rw [← wR_setV r _ he']; exact h2) h3
theorem wR_recv {C : String} {T : u_T} {N : Nat} (hK : va_K D cl tys s) (hP : va_P D cl (wR ad cf nr I V) H) {ci : Nat} {fs : List Value} (hc : cl[ci]? = some (C, T, N)) (r : Nat) (hr : r < nr) (he : cf r (I r) (V r) = .inr (ci, fs)) : ∃ cell : Cell, H[ad r]? = some cell ∧ cell.vm.isStatics = false ∧ s.vm.findClass C = some cell.cls := va_recv hK hP hc (wR_at hr he)
end WRows
section WCalls
variable {p : Program} {l : Launch} {e : Env} {R : Room} {s : State} {m : MethodId} {args : Array Value} {below : List Frame} {meth : Method} {c : Code} {H : Heap} {locs : List Loc} {cells slots : Nat} {Q : State → Prop}
variable {y : MethodName} {bytes cc : ByteArray} {maxL nL mc ms n index : Nat} {ret : Option FieldType} {ws : List Cond} {rm : Room} {Ts : List Cond} {own C host : String} {b : Addr} {As rest st0 : List Value} {pc : Nat} {ls : Array Slot}
variable {D : va_G} {cl : List vw_C} {tys : List (ClassId × FieldType)} {A : Nat → Prop} {w : va_W} {E : State → Prop} {S : Type} {B : S → va_W}
theorem w_pre {av : List Value} (hP : va_P D cl w H) (hK : va_K D cl tys s) (hD : va_D A w) (hE : wEnv E s H) : PreS s H (va_Pc av (wPre D cl tys w H.size E)) av :=
  ⟨w_blind hE.1, fun U hU hW => ⟨rfl, by rw [hU], by rw [hU]; exact hP, va_K.moved hW.alike hK, hD.weaken (fun _ _ _ _ => trivial), hE.2 U hU hW⟩⟩
/-- a call of a method whose world is the caller's own, answering an int -/
theorem w_calli {post : Int32 → S → Prop} {a : Array Value} (hS : va_S A s.heap H locs) (hA : ∀ q, s.heap.size ≤ q → A q) (hK : va_K D cl tys s) (hD : va_D A w)
    (hr : va_Run p l e R s m args below meth c H locs cells slots mc ms (F0 m pc ls st0) rest (va_Qi post (wPost D cl tys B (va_A w H.size)) (va_A w H.size) a) (va_A w H.size))
    (kk : ∀ (r : Int32) (u : S) (H1 : Heap) (locs1 : List Loc), post r u → va_P D cl (B u) H1 → va_D A (B u) → va_S A s.heap H1 locs1 → H.size ≤ H1.size → W p l e R s m args below meth c H1 locs1 (cells + mc) (slots + ms) Q (F0 m (pc + 3) ls (.int r :: rest))) : W p l e R s m args below meth c H locs cells slots Q (F0 m pc ls st0) := by
  have hF := w_free hD hS hA
  refine va_calli hr hS (fun q _ h => hF q h) hF (fun r u t H1 locs1 ht hvm hw hB hz1 hk1 hS1 => ?_)
  obtain ⟨hP1, hK1, hD1⟩ := hB
  rw [ht] at hP1
  exact kk r u H1 locs1 hw hP1 (hD1.weaken (fun k q _ h => hF q.1 h)) hS1 hz1
theorem w_callv {post : S → Prop} {a : Array Value} (hS : va_S A s.heap H locs) (hA : ∀ q, s.heap.size ≤ q → A q) (hK : va_K D cl tys s) (hD : va_D A w)
    (hr : va_Run p l e R s m args below meth c H locs cells slots mc ms (F0 m pc ls st0) rest (va_Qv post (wPost D cl tys B (va_A w H.size)) (va_A w H.size) a) (va_A w H.size))
    (kk : ∀ (u : S) (H1 : Heap) (locs1 : List Loc), post u → va_P D cl (B u) H1 → va_D A (B u) → va_S A s.heap H1 locs1 → H.size ≤ H1.size → W p l e R s m args below meth c H1 locs1 (cells + mc) (slots + ms) Q (F0 m (pc + 3) ls rest)) : W p l e R s m args below meth c H locs cells slots Q (F0 m pc ls st0) := by
  have hF := w_free hD hS hA
  refine va_callv hr hS (fun q _ h => hF q h) hF (fun u t H1 locs1 ht hvm hw hB hz1 hk1 hS1 => ?_)
  obtain ⟨hP1, hK1, hD1⟩ := hB
  rw [ht] at hP1
  exact kk u H1 locs1 hw hP1 (hD1.weaken (fun k q _ h => hF q.1 h)) hS1 hz1
end WCalls
