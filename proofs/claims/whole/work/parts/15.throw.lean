/-! ===== what leaves a method by an exception: its number (1 IllegalArgumentException, 2 IllegalStateException), the world as it was ===== -/
def xC (E : String) (c : Nat) : Prop := (E = "java/lang/IllegalArgumentException" ∧ c = 1) ∨ (E = "java/lang/IllegalStateException" ∧ c = 2)
/-- what a throw needs of the tables beside its words -/
abbrev xB (cls : String) : List Cond := [.castable cls cls, .declares ⟨"java/lang/RuntimeException", "<init>", "(Ljava/lang/String;)V"⟩, .declares ⟨"java/lang/Exception", "<init>", "(Ljava/lang/String;)V"⟩, .declares ⟨"java/lang/Throwable", "<init>", "(Ljava/lang/String;)V"⟩]
/-- what the class's methods need of the tables and of the JDK's two statics -/
def eX (A : Nat → Prop) (U : State) : Prop := eN U ∧ va_Nw (.castable "java/lang/IllegalArgumentException" "java/lang/IllegalArgumentException") U ∧ va_Nw (.castable "java/lang/IllegalStateException" "java/lang/IllegalStateException") U ∧ va_Nw (.declares ⟨"java/lang/RuntimeException", "<init>", "(Ljava/lang/String;)V"⟩) U ∧ va_Nw (.declares ⟨"java/lang/Exception", "<init>", "(Ljava/lang/String;)V"⟩) U ∧ va_Nw (.declares ⟨"java/lang/Throwable", "<init>", "(Ljava/lang/String;)V"⟩) U ∧
  (∃ a, vk_R RX3 46 "no more facts" a U) ∧ (∃ a, vk_R RX3 62 "no more changes in this transaction" a U) ∧ (∃ a, vk_R RX3 94 "no more readers" a U) ∧ (∃ a, vk_R RX3 122 "no more changes of this reader's rights" a U) ∧ (∃ a, vk_R RX3 187 "no such thing, or a number that may not be" a U) ∧ (∃ a, vk_R RX3 190 "no such reader" a U) ∧
  vx_Zq Bundle.tN "UNASSIGNED_STACK" Bundle.steD A U U.heap ∧ vx_Zq Bundle.tN "SUPPRESSED_SENTINEL" Bundle.listD A U U.heap
theorem eX_env {A : Nat → Prop} {s : State} {H : Heap} {w : va_W} {locs : List Loc} (h : eX A s) (hS : va_S A s.heap H locs) (hF : ∀ q, va_A w H.size q → A q) : wEnv (eX (va_A w H.size)) s H := by
  refine ⟨fun U g mk a hU => ?_, fun U hU hW => ?_⟩
  · obtain ⟨h1, h2, h3, j1, j2, j3, ⟨a1, h4⟩, ⟨a2, h5⟩, ⟨a3, h6⟩, ⟨a4, h7⟩, ⟨a5, h8⟩, ⟨a6, h9⟩, h10, h11⟩ := hU
    exact ⟨va_Nw.same rfl rfl h1, va_Nw.same rfl rfl h2, va_Nw.same rfl rfl h3, va_Nw.same rfl rfl j1, va_Nw.same rfl rfl j2, va_Nw.same rfl rfl j3, ⟨a1, vk_R.same rfl h4⟩, ⟨a2, vk_R.same rfl h5⟩, ⟨a3, vk_R.same rfl h6⟩, ⟨a4, vk_R.same rfl h7⟩, ⟨a5, vk_R.same rfl h8⟩, ⟨a6, vk_R.same rfl h9⟩, vx_Zq.moved (u := U) (U := U.calling g mk a) (Vm.Alike.refl U.vm) h10, vx_Zq.moved (u := U) (U := U.calling g mk a) (Vm.Alike.refl U.vm) h11⟩
  · obtain ⟨h1, h2, h3, j1, j2, j3, ⟨a1, h4⟩, ⟨a2, h5⟩, ⟨a3, h6⟩, ⟨a4, h7⟩, ⟨a5, h8⟩, ⟨a6, h9⟩, h10, h11⟩ := h
    have k : ∀ a : Nat, a < s.heap.size → ¬ A a → U.heap[a]? = s.heap[a]? := fun a h1 h2 => by rw [hU]; exact hS.2.1 a h1 h2
    exact ⟨va_Nw.warmM hW h1, va_Nw.warmC hW h2, va_Nw.warmC hW h3, va_Nw.warmD hW j1, va_Nw.warmD hW j2, va_Nw.warmD hW j3, ⟨a1, vk_R.warm hW h4⟩, ⟨a2, vk_R.warm hW h5⟩, ⟨a3, vk_R.warm hW h6⟩, ⟨a4, vk_R.warm hW h7⟩, ⟨a5, vk_R.warm hW h8⟩, ⟨a6, vk_R.warm hW h9⟩, ((vx_Zq.moved hW.alike (h10.kept k)).narrow hF), ((vx_Zq.moved hW.alike (h11.kept k)).narrow hF)⟩
/-- how a method throws -/
def wXc (D : va_G) (cl : List vw_C) (tys : List (ClassId × FieldType)) (w : va_W) (A : Nat → Prop) (cd : Nat) : String → State → State → Prop := vx_X (fun (_ : Unit) => True) (fun E u t => xC E cd ∧ wPost D cl tys (fun (_ : Unit) => w) A u t) A
section WThrow
variable {p : Program} {l : Launch} {e : Env} {R : Room} {s : State} {m : MethodId} {args : Array Value} {below : List Frame} {meth : Method} {c : Code} {H : Heap} {locs : List Loc} {cells slots : Nat} {Q : State → Prop}
variable {ls : Array Slot} {rest st0 : List Value} {Qc : Array Value → State → Outcome → State → Prop}
variable {D : va_G} {cl : List vw_C} {tys : List (ClassId × FieldType)} {A : Nat → Prop} {w : va_W} {S : Type} {B : S → va_W} {cd mc ms : Nat} {cc : ByteArray} {pc : Nat}
/-- throw new E("text") -/
theorem w_throw (hexec : p.tables.exec = Jvm.exec) (hb : c.code = cc) (hl : l.stackTraces = false) {own cls text : String} {names : List String} {ik is ic sa : Nat} {Ts : List Cond} (hts : ∀ w ∈ Ts, w.before args s = true)
    (hown : s.vm.findClass own = some m.cls) (hcls : Bundle.fit cls = true) (hnames : ∀ n ∈ names, Bundle.fit n = true) (hk : Cond.classLink own ik cls ∈ Ts) (hini : Cond.initialized cls ∈ Ts) (hstr : vk_R own is text sa s)
    (hw1 : ∀ w ∈ (vx_atS own ic cls names).filter goodWord, w ∈ Ts) (hw2 : ∀ w ∈ (vx_atS own ic cls names).filter (fun w => !goodWord w), w ∈ xB cls) (hw3 : ∀ w ∈ xB cls, va_Nw w s)
    (hgood : ∀ w ∈ Cond.classLink own ik cls :: Cond.initialized cls :: vx_atS own ic cls names, vx_ot w = true)
    (hU : vx_Zq Bundle.tN "UNASSIGNED_STACK" Bundle.steD A s s.heap) (hN : vx_Zq Bundle.tN "SUPPRESSED_SENTINEL" Bundle.listD A s s.heap) (hP : va_P D cl w H) (hK : va_K D cl tys s) (hD : va_D A w) (hS : va_S A s.heap H locs) (hsize : ls.size = c.maxLocals)
    (d0 : decode cc pc = .ok (.new ik, 3)) (d3 : decode cc (pc + 3) = .ok (.dup, 1)) (d4 : decode cc (pc + 4) = .ok (.ldc is, 2)) (d6 : decode cc (pc + 6) = .ok (.invokespecial ic, 3)) (d9 : decode cc (pc + 9) = .ok (.athrow, 1))
    (hout : ∀ x ∈ c.exceptionTable.toList, False) (hRframes : names.length + 3 < R.frames) (hRlocals : (rest.map fun v => v.category).sum + (13 * (names.length + 1) + 43) ≤ R.locals) (hRcells : cells + 1 ≤ R.cells) (hRslots : slots + 6 ≤ R.slots) (hlocks : meth.locks = false)
    (hcd : xC cls cd) (hc : cells + 1 ≤ mc) (hs : slots + 6 ≤ ms) :
    W p l e R s m args below meth c H locs cells slots (vx_MQ below Qc (wXc D cl tys w A cd) args s mc ms A) (F0 m pc ls rest) := by
  refine vx_throwS hexec hb hl hown hcls hnames (hts _ hk) (hts _ hini) hstr (vx_hat (fun w h => hts w (hw1 w h)) hw2 (fun w h => va_Nw.use ((show ∀ w ∈ xB cls, w.onTables = true from List.forall_mem_cons.mpr ⟨rfl, List.forall_mem_cons.mpr ⟨rfl, List.forall_mem_cons.mpr ⟨rfl, List.forall_mem_cons.mpr ⟨rfl, fun _ h => absurd h List.not_mem_nil⟩⟩⟩⟩) w h) (hw3 w h))) hgood hU hN hS hsize d0 d3 d4 d6 d9 (fun x h => (hout x h).elim) hRframes hRlocals hRcells hRslots hlocks (fun t hal hz hk => ?_) hS.2.2 hc hs
  refine ⟨(), trivial, ⟨hcd, hP.kept (fun k q hq => hk q.1 ((hP k q hq).lt)), va_K.moved hal hK, hD⟩, Nat.le_trans hS.1 hz, fun q h1 h2 => ?_⟩
  rw [hk q (Nat.lt_of_lt_of_le h1 hS.1)]
  exact hS.2.1 q h1 h2
/-- an exception goes on to the caller -/
theorem w_out {E : String} {ce : Cell} {q : Addr} (hout : ∀ x ∈ c.exceptionTable.toList, False) (hlocks : meth.locks = false) (hcell : H[q]? = some ce) (hv : ce.vm = .none) (hcl : s.vm.findClass E = some ce.cls) (hP : va_P D cl w H) (hK : va_K D cl tys s) (hD : va_D A w) (hS : va_S A s.heap H locs) (hcd : xC E cd) (hc : cells ≤ mc) (hs : slots ≤ ms) :
    vx_W p l e R s m args below meth c H locs cells slots (vx_MQ below Qc (wXc D cl tys w A cd) args s mc ms A) (F0 m pc ls rest) q :=
  vx_out (fun x h => (hout x h).elim) hlocks hcell hv hcl (fun t ht hal => ⟨(), trivial, ⟨hcd, by rw [ht]; exact hP, va_K.moved hal hK, hD⟩, hS.F ht⟩) hS.2.2 hc hs
theorem w_callxi {post : Int32 → S → Prop} {a : Array Value} (hS : va_S A s.heap H locs) (hA : ∀ q, s.heap.size ≤ q → A q) (hK : va_K D cl tys s) (hD : va_D A w)
    (hr : vx_Run p l e R s m args below meth c H locs cells slots mc ms (F0 m pc ls st0) rest (va_Qi post (wPost D cl tys B (va_A w H.size)) (va_A w H.size) a) (wXc D cl tys w (va_A w H.size) cd) (va_A w H.size))
    (kx : ∀ (E : String) (ce : Cell) (q9 : Addr) (H1 : Heap) (locs1 : List Loc), xC E cd → va_P D cl w H1 → va_S A s.heap H1 locs1 → H1[q9]? = some ce → ce.vm = .none → s.vm.findClass E = some ce.cls → vx_W p l e R s m args below meth c H1 locs1 (cells + mc) (slots + ms) Q (F0 m pc ls rest) q9)
    (kk : ∀ (r : Int32) (u : S) (H1 : Heap) (locs1 : List Loc), post r u → va_P D cl (B u) H1 → va_D A (B u) → va_S A s.heap H1 locs1 → H.size ≤ H1.size → W p l e R s m args below meth c H1 locs1 (cells + mc) (slots + ms) Q (F0 m (pc + 3) ls (.int r :: rest))) : W p l e R s m args below meth c H locs cells slots Q (F0 m pc ls st0) := by
  have hF := w_free hD hS hA
  refine vx_calli hr hS (fun q _ h => hF q h) hF (fun q _ h => hF q h) (fun E ce q9 u t H1 locs1 ht hvm hpx hB hz1 hk1 hS1 hce hcv hcl => ?_) (fun r u t H1 locs1 ht hvm hw hB hz1 hk1 hS1 => ?_)
  · obtain ⟨hxc, hP1, hK1, hD1⟩ := hB
    rw [ht] at hP1
    exact kx E ce q9 H1 locs1 hxc hP1 hS1 hce hcv hcl
  · obtain ⟨hP1, hK1, hD1⟩ := hB
    rw [ht] at hP1
    exact kk r u H1 locs1 hw hP1 (hD1.weaken (fun k q _ h => hF q.1 h)) hS1 hz1
theorem w_callxv {post : S → Prop} {a : Array Value} (hS : va_S A s.heap H locs) (hA : ∀ q, s.heap.size ≤ q → A q) (hK : va_K D cl tys s) (hD : va_D A w)
    (hr : vx_Run p l e R s m args below meth c H locs cells slots mc ms (F0 m pc ls st0) rest (va_Qv post (wPost D cl tys B (va_A w H.size)) (va_A w H.size) a) (wXc D cl tys w (va_A w H.size) cd) (va_A w H.size))
    (kx : ∀ (E : String) (ce : Cell) (q9 : Addr) (H1 : Heap) (locs1 : List Loc), xC E cd → va_P D cl w H1 → va_S A s.heap H1 locs1 → H1[q9]? = some ce → ce.vm = .none → s.vm.findClass E = some ce.cls → vx_W p l e R s m args below meth c H1 locs1 (cells + mc) (slots + ms) Q (F0 m pc ls rest) q9)
    (kk : ∀ (u : S) (H1 : Heap) (locs1 : List Loc), post u → va_P D cl (B u) H1 → va_D A (B u) → va_S A s.heap H1 locs1 → H.size ≤ H1.size → W p l e R s m args below meth c H1 locs1 (cells + mc) (slots + ms) Q (F0 m (pc + 3) ls rest)) : W p l e R s m args below meth c H locs cells slots Q (F0 m pc ls st0) := by
  have hF := w_free hD hS hA
  refine vx_callv hr hS (fun q _ h => hF q h) hF (fun q _ h => hF q h) (fun E ce q9 u t H1 locs1 ht hvm hpx hB hz1 hk1 hS1 hce hcv hcl => ?_) (fun u t H1 locs1 ht hvm hw hB hz1 hk1 hS1 => ?_)
  · obtain ⟨hxc, hP1, hK1, hD1⟩ := hB
    rw [ht] at hP1
    exact kx E ce q9 H1 locs1 hxc hP1 hS1 hce hcv hcl
  · obtain ⟨hP1, hK1, hD1⟩ := hB
    rw [ht] at hP1
    exact kk u H1 locs1 hw hP1 (hD1.weaken (fun k q _ h => hF q.1 h)) hS1 hz1
/-- the answer is a reference -/
theorem w_callxr {post : S → Prop} {av : S → Nat} {a : Array Value} (hS : va_S A s.heap H locs) (hA : ∀ q, s.heap.size ≤ q → A q) (hK : va_K D cl tys s) (hD : va_D A w)
    (hr : vx_Run p l e R s m args below meth c H locs cells slots mc ms (F0 m pc ls st0) rest (va_Qr post (fun u q t => q = av u ∧ wPost D cl tys B (va_A w H.size) u t) (va_A w H.size) a) (wXc D cl tys w (va_A w H.size) cd) (va_A w H.size))
    (kx : ∀ (E : String) (ce : Cell) (q9 : Addr) (H1 : Heap) (locs1 : List Loc), xC E cd → va_P D cl w H1 → va_S A s.heap H1 locs1 → H1[q9]? = some ce → ce.vm = .none → s.vm.findClass E = some ce.cls → vx_W p l e R s m args below meth c H1 locs1 (cells + mc) (slots + ms) Q (F0 m pc ls rest) q9)
    (kk : ∀ (u : S) (H1 : Heap) (locs1 : List Loc), post u → va_P D cl (B u) H1 → va_D A (B u) → va_S A s.heap H1 locs1 → H.size ≤ H1.size → W p l e R s m args below meth c H1 locs1 (cells + mc) (slots + ms) Q (F0 m (pc + 3) ls (.ref (av u) :: rest))) : W p l e R s m args below meth c H locs cells slots Q (F0 m pc ls st0) := by
  have hF := w_free hD hS hA
  intro T hT X
  rcases hr T hT X with ⟨v, st₀, t, T', L, h0, X', hL, e1, e2, ⟨⟨u, ra, hv, hp, hra, hb⟩, hF9⟩, st⟩ | ⟨q, st₀, t, T', L, E, ce, h0, X', hL, e1, e2, ⟨u, hp, hb, hF9⟩, hce, hcv, hcl, st⟩
  · cases hv
    subst hra
    obtain ⟨k1, k2, k3⟩ := vx_keep h0 e1 hS (fun q _ h => hF q h) hF hL hF9
    obtain ⟨hP1, hK1, hD1⟩ := hb
    obtain ⟨t2, a1, b1⟩ := kk u T'.heap (locs ++ L) hp (by rw [e1]; exact hP1) (hD1.weaken (fun k q _ h => hF q.1 h)) k3 k1 T' rfl X'
    exact ⟨t2, st t2 a1, b1⟩
  · obtain ⟨k1, k2, k3⟩ := vx_keep h0 e1 hS (fun q _ h => hF q h) hF hL hF9
    obtain ⟨hxc, hP1, hK1, hD1⟩ := hb
    obtain ⟨t2, a1, b1⟩ := kx E ce q T'.heap (locs ++ L) hxc (by rw [e1]; exact hP1) k3 (by rw [e1]; exact hce) hcv hcl T' rfl X'
    exact ⟨t2, st.trans a1, b1⟩
end WThrow
theorem xB_of {cls : String} {s : State} (h1 : va_Nw (.castable cls cls) s) (h2 : va_Nw (.declares ⟨"java/lang/RuntimeException", "<init>", "(Ljava/lang/String;)V"⟩) s) (h3 : va_Nw (.declares ⟨"java/lang/Exception", "<init>", "(Ljava/lang/String;)V"⟩) s) (h4 : va_Nw (.declares ⟨"java/lang/Throwable", "<init>", "(Ljava/lang/String;)V"⟩) s) : ∀ w ∈ xB cls, va_Nw w s := List.forall_mem_cons.mpr ⟨h1, List.forall_mem_cons.mpr ⟨h2, List.forall_mem_cons.mpr ⟨h3, List.forall_mem_cons.mpr ⟨h4, fun _ h => absurd h List.not_mem_nil⟩⟩⟩⟩
theorem x_IA : ∀ w ∈ (vx_atS RX3 189 "java/lang/IllegalArgumentException" ["java/lang/RuntimeException", "java/lang/Exception"]).filter (fun w => !goodWord w), w ∈ xB "java/lang/IllegalArgumentException" := by decide +kernel
theorem x_IS : ∀ w ∈ (vx_atS RX3 48 "java/lang/IllegalStateException" ["java/lang/RuntimeException", "java/lang/Exception"]).filter (fun w => !goodWord w), w ∈ xB "java/lang/IllegalStateException" := by decide +kernel
theorem x_gA : ∀ w ∈ Cond.classLink RX3 185 "java/lang/IllegalArgumentException" :: Cond.initialized "java/lang/IllegalArgumentException" :: vx_atS RX3 189 "java/lang/IllegalArgumentException" ["java/lang/RuntimeException", "java/lang/Exception"], vx_ot w = true := by decide +kernel
theorem x_gS : ∀ w ∈ Cond.classLink RX3 44 "java/lang/IllegalStateException" :: Cond.initialized "java/lang/IllegalStateException" :: vx_atS RX3 48 "java/lang/IllegalStateException" ["java/lang/RuntimeException", "java/lang/Exception"], vx_ot w = true := by decide +kernel
