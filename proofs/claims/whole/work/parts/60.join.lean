/-! ===== a call over a piece of the caller's world: X ahead of it and Y behind it stay ===== -/
theorem w_inX {X w Y : va_W} {k : Nat} {q : Nat × va_E} (h : X[k]? = some q) : (X ++ (w ++ Y))[k]? = some q := by
  rw [List.getElem?_append_left (List.getElem?_eq_some_iff.mp h).1]; exact h
theorem w_inW {X w Y : va_W} {k : Nat} {q : Nat × va_E} (h : w[k]? = some q) : (X ++ (w ++ Y))[X.length + k]? = some q := by
  rw [List.getElem?_append_right (Nat.le_add_right _ _), Nat.add_sub_cancel_left, List.getElem?_append_left (List.getElem?_eq_some_iff.mp h).1]; exact h
theorem w_inY {X w Y : va_W} {k : Nat} {q : Nat × va_E} (h : Y[k]? = some q) : (X ++ (w ++ Y))[X.length + (w.length + k)]? = some q := by
  rw [List.getElem?_append_right (Nat.le_add_right _ _), Nat.add_sub_cancel_left, List.getElem?_append_right (Nat.le_add_right _ _), Nat.add_sub_cancel_left]; exact h
theorem w_len {w : va_W} {k : Nat} {q : Nat × va_E} (h : w[k]? = some q) : k < w.length := (List.getElem?_eq_some_iff.mp h).1
theorem w_cut {X Y : va_W} {k : Nat} {q : Nat × va_E} (h : (X ++ Y)[k]? = some q) : X[k]? = some q ∨ ∃ j : Nat, Y[j]? = some q := by
  by_cases hk : k < X.length
  · rw [List.getElem?_append_left hk] at h; exact Or.inl h
  · rw [List.getElem?_append_right (Nat.not_lt.mp hk)] at h; exact Or.inr ⟨_, h⟩
theorem w_midP {D : va_G} {cl : List vw_C} {X w Y : va_W} {H : Heap} (h : va_P D cl (X ++ (w ++ Y)) H) : va_P D cl w H := fun _ _ hk => h _ _ (w_inW hk)
theorem w_midD {A : Nat → Prop} {X w Y : va_W} (h : va_D A (X ++ (w ++ Y))) : va_D A w := ⟨fun _ _ _ _ h1 h2 h3 => by have := h.1 _ _ _ _ (w_inW h1) (w_inW h2) h3; omega, fun _ _ hk => h.2 _ _ (w_inW hk)⟩
theorem w_ext {A : Nat → Prop} {D : va_G} {cl : List vw_C} {X w Y w1 : va_W} {H H1 : Heap} (hP : va_P D cl (X ++ (w ++ Y)) H) (hD : va_D A (X ++ (w ++ Y))) (hk : ∀ q : Nat, q < H.size → ¬ va_A w H.size q → H1[q]? = H[q]?) (hF : ∀ q, va_A w H.size q → A q) (hP1 : va_P D cl w1 H1) (hD1 : va_D (va_A w H.size) w1) : va_P D cl (X ++ (w1 ++ Y)) H1 ∧ va_D A (X ++ (w1 ++ Y)) := by
  have aX : ∀ (k : Nat) (q : Nat × va_E), X[k]? = some q → q.1 < H.size ∧ ¬ va_A w H.size q.1 := fun k q hq => by
    have hl := (hP k q (w_inX hq)).lt
    refine ⟨hl, fun h => ?_⟩
    rcases h with ⟨k2, e, h⟩ | h
    · have := hD.1 _ _ _ _ (w_inX hq) (w_inW h) rfl
      have := w_len hq
      omega
    · exact absurd hl (Nat.not_lt.mpr h)
  have aY : ∀ (k : Nat) (q : Nat × va_E), Y[k]? = some q → q.1 < H.size ∧ ¬ va_A w H.size q.1 := fun k q hq => by
    have hl := (hP _ q (w_inY hq)).lt
    refine ⟨hl, fun h => ?_⟩
    rcases h with ⟨k2, e, h⟩ | h
    · have := hD.1 _ _ _ _ (w_inY hq) (w_inW h) rfl
      have := w_len h
      omega
    · exact absurd hl (Nat.not_lt.mpr h)
  have pX : va_P D cl X H1 := va_P.kept (H := H) (fun k q hq => hP _ _ (w_inX hq)) (fun k q hq => hk q.1 (aX k q hq).1 (aX k q hq).2)
  have pY : va_P D cl Y H1 := va_P.kept (H := H) (fun k q hq => hP _ _ (w_inY hq)) (fun k q hq => hk q.1 (aY k q hq).1 (aY k q hq).2)
  have dX : va_D A X := ⟨fun _ _ _ _ h1 h2 h3 => hD.1 _ _ _ _ (w_inX h1) (w_inX h2) h3, fun _ _ hq => hD.2 _ _ (w_inX hq)⟩
  have dY : va_D A Y := ⟨fun _ _ _ _ h1 h2 h3 => by have := hD.1 _ _ _ _ (w_inY h1) (w_inY h2) h3; omega, fun _ _ hq => hD.2 _ _ (w_inY hq)⟩
  refine ⟨pX.app (hP1.app pY), dX.app (va_D.app (hD1.weaken (fun _ q _ h => hF q.1 h)) dY (fun i j p q h1 h2 h3 => (aY j q h2).2 (h3 ▸ hD1.2 i p h1))) (fun i j p q h1 h2 h3 => ?_)⟩
  rcases w_cut h2 with h4 | ⟨j2, h4⟩
  · exact (aX i p h1).2 (h3 ▸ hD1.2 j q h4)
  · have := hD.1 _ _ _ _ (w_inX h1) (w_inY h4) h3
    have := w_len h1
    omega
section WCallsX
variable {p : Program} {l : Launch} {e : Env} {R : Room} {s : State} {m : MethodId} {args : Array Value} {below : List Frame} {meth : Method} {c : Code} {H : Heap} {locs : List Loc} {cells slots : Nat} {Q : State → Prop}
variable {mc ms : Nat} {st0 rest : List Value} {pc : Nat} {ls : Array Slot} {D : va_G} {cl : List vw_C} {tys : List (ClassId × FieldType)} {A : Nat → Prop} {X w Y : va_W} {S : Type} {B : S → va_W} {cd : Nat}
theorem w_calliX {post : Int32 → S → Prop} {a : Array Value} (hS : va_S A s.heap H locs) (hA : ∀ q, s.heap.size ≤ q → A q) (hP : va_P D cl (X ++ (w ++ Y)) H) (hD : va_D A (X ++ (w ++ Y)))
    (hr : va_Run p l e R s m args below meth c H locs cells slots mc ms (F0 m pc ls st0) rest (va_Qi post (wPost D cl tys B (va_A w H.size)) (va_A w H.size) a) (va_A w H.size))
    (kk : ∀ (r : Int32) (u : S) (H1 : Heap) (locs1 : List Loc), post r u → va_P D cl (X ++ (B u ++ Y)) H1 → va_D A (X ++ (B u ++ Y)) → va_S A s.heap H1 locs1 → W p l e R s m args below meth c H1 locs1 (cells + mc) (slots + ms) Q (F0 m (pc + 3) ls (.int r :: rest))) : W p l e R s m args below meth c H locs cells slots Q (F0 m pc ls st0) := by
  have hF := w_free (w_midD hD) hS hA
  refine va_calli hr hS (fun q _ h => hF q h) hF (fun r u t H1 locs1 ht hvm hw hB hz1 hk1 hS1 => ?_)
  obtain ⟨hP1, hK1, hD1⟩ := hB
  rw [ht] at hP1
  obtain ⟨h1, h2⟩ := w_ext hP hD hk1 hF hP1 hD1
  exact kk r u H1 locs1 hw h1 h2 hS1
theorem w_callvX {post : S → Prop} {a : Array Value} (hS : va_S A s.heap H locs) (hA : ∀ q, s.heap.size ≤ q → A q) (hP : va_P D cl (X ++ (w ++ Y)) H) (hD : va_D A (X ++ (w ++ Y)))
    (hr : va_Run p l e R s m args below meth c H locs cells slots mc ms (F0 m pc ls st0) rest (va_Qv post (wPost D cl tys B (va_A w H.size)) (va_A w H.size) a) (va_A w H.size))
    (kk : ∀ (u : S) (H1 : Heap) (locs1 : List Loc), post u → va_P D cl (X ++ (B u ++ Y)) H1 → va_D A (X ++ (B u ++ Y)) → va_S A s.heap H1 locs1 → W p l e R s m args below meth c H1 locs1 (cells + mc) (slots + ms) Q (F0 m (pc + 3) ls rest)) : W p l e R s m args below meth c H locs cells slots Q (F0 m pc ls st0) := by
  have hF := w_free (w_midD hD) hS hA
  refine va_callv hr hS (fun q _ h => hF q h) hF (fun u t H1 locs1 ht hvm hw hB hz1 hk1 hS1 => ?_)
  obtain ⟨hP1, hK1, hD1⟩ := hB
  rw [ht] at hP1
  obtain ⟨h1, h2⟩ := w_ext hP hD hk1 hF hP1 hD1
  exact kk u H1 locs1 hw h1 h2 hS1
theorem w_callxiX {post : Int32 → S → Prop} {a : Array Value} (hS : va_S A s.heap H locs) (hA : ∀ q, s.heap.size ≤ q → A q) (hP : va_P D cl (X ++ (w ++ Y)) H) (hD : va_D A (X ++ (w ++ Y)))
    (hr : vx_Run p l e R s m args below meth c H locs cells slots mc ms (F0 m pc ls st0) rest (va_Qi post (wPost D cl tys B (va_A w H.size)) (va_A w H.size) a) (wXc D cl tys w (va_A w H.size) cd) (va_A w H.size))
    (kx : ∀ (E : String) (ce : Cell) (q9 : Addr) (H1 : Heap) (locs1 : List Loc), xC E cd → va_P D cl (X ++ (w ++ Y)) H1 → va_S A s.heap H1 locs1 → H1[q9]? = some ce → ce.vm = .none → s.vm.findClass E = some ce.cls → vx_W p l e R s m args below meth c H1 locs1 (cells + mc) (slots + ms) Q (F0 m pc ls rest) q9)
    (kk : ∀ (r : Int32) (u : S) (H1 : Heap) (locs1 : List Loc), post r u → va_P D cl (X ++ (B u ++ Y)) H1 → va_D A (X ++ (B u ++ Y)) → va_S A s.heap H1 locs1 → W p l e R s m args below meth c H1 locs1 (cells + mc) (slots + ms) Q (F0 m (pc + 3) ls (.int r :: rest))) : W p l e R s m args below meth c H locs cells slots Q (F0 m pc ls st0) := by
  have hF := w_free (w_midD hD) hS hA
  refine vx_calli hr hS (fun q _ h => hF q h) hF (fun q _ h => hF q h) (fun E ce q9 u t H1 locs1 ht hvm hpx hB hz1 hk1 hS1 hce hcv hcl => ?_) (fun r u t H1 locs1 ht hvm hw hB hz1 hk1 hS1 => ?_)
  · obtain ⟨hxc, hP1, hK1, hD1⟩ := hB
    rw [ht] at hP1
    exact kx E ce q9 H1 locs1 hxc (w_ext hP hD hk1 hF hP1 hD1).1 hS1 hce hcv hcl
  · obtain ⟨hP1, hK1, hD1⟩ := hB
    rw [ht] at hP1
    obtain ⟨h1, h2⟩ := w_ext hP hD hk1 hF hP1 hD1
    exact kk r u H1 locs1 hw h1 h2 hS1
theorem w_callxvX {post : S → Prop} {a : Array Value} (hS : va_S A s.heap H locs) (hA : ∀ q, s.heap.size ≤ q → A q) (hP : va_P D cl (X ++ (w ++ Y)) H) (hD : va_D A (X ++ (w ++ Y)))
    (hr : vx_Run p l e R s m args below meth c H locs cells slots mc ms (F0 m pc ls st0) rest (va_Qv post (wPost D cl tys B (va_A w H.size)) (va_A w H.size) a) (wXc D cl tys w (va_A w H.size) cd) (va_A w H.size))
    (kx : ∀ (E : String) (ce : Cell) (q9 : Addr) (H1 : Heap) (locs1 : List Loc), xC E cd → va_P D cl (X ++ (w ++ Y)) H1 → va_S A s.heap H1 locs1 → H1[q9]? = some ce → ce.vm = .none → s.vm.findClass E = some ce.cls → vx_W p l e R s m args below meth c H1 locs1 (cells + mc) (slots + ms) Q (F0 m pc ls rest) q9)
    (kk : ∀ (u : S) (H1 : Heap) (locs1 : List Loc), post u → va_P D cl (X ++ (B u ++ Y)) H1 → va_D A (X ++ (B u ++ Y)) → va_S A s.heap H1 locs1 → W p l e R s m args below meth c H1 locs1 (cells + mc) (slots + ms) Q (F0 m (pc + 3) ls rest)) : W p l e R s m args below meth c H locs cells slots Q (F0 m pc ls st0) := by
  have hF := w_free (w_midD hD) hS hA
  refine vx_callv hr hS (fun q _ h => hF q h) hF (fun q _ h => hF q h) (fun E ce q9 u t H1 locs1 ht hvm hpx hB hz1 hk1 hS1 hce hcv hcl => ?_) (fun u t H1 locs1 ht hvm hw hB hz1 hk1 hS1 => ?_)
  · obtain ⟨hxc, hP1, hK1, hD1⟩ := hB
    rw [ht] at hP1
    exact kx E ce q9 H1 locs1 hxc (w_ext hP hD hk1 hF hP1 hD1).1 hS1 hce hcv hcl
  · obtain ⟨hP1, hK1, hD1⟩ := hB
    rw [ht] at hP1
    obtain ⟨h1, h2⟩ := w_ext hP hD hk1 hF hP1 hD1
    exact kk u H1 locs1 hw h1 h2 hS1
end WCallsX
