/-! ===== the law: its world and its small rows ===== -/
abbrev lW (cI cZ cR cJ : ClassId) (ao : Nat) (f : Nat → Int64) (ad : Nat → Nat) (na n : Nat) (I V : Nat → Nat → Int32) (md : Nat → Nat) (J U : Nat → Nat → Int32) : va_W := (ao, .inl (cJ, 1, .inr (.inl f))) :: (sW cI cZ cR ad na n I V ++ mW cI cZ md J U)
/-- what holds in the law: the machine, the code, its words, the script -/
def lwC (p : Program) (s : State) (m : MethodId) (c : Code) (b L : Nat) (xs : Nat → Int32) : Prop :=
  p.tables.exec = Jvm.exec ∧ c.code = cL_law ∧ c.maxLocals = 7 ∧ s.vm.findClass RL = some m.cls ∧ (∀ w ∈ wsL_law, w.before #[Value.ref b] s = true) ∧ va_X b L xs s s.heap ∧ b < s.heap.size
section LawRows
variable {p : Program} {l : Launch} {e : Env} {R : Room} {s : State} {m : MethodId} {args : Array Value} {below : List Frame} {meth : Method} {c : Code} {H : Heap} {locs : List Loc} {cells slots : Nat} {Q : State → Prop}
variable {cc : ByteArray} {pc : Nat} {ls : Array Slot} {rest : List Value} {A : Nat → Prop}
theorem w_sld (hexec : p.tables.exec = Jvm.exec) (hb : c.code = cc) {b L : Nat} {xs : Nat → Int32} (hX : va_X b L xs s s.heap) (hbl : b < s.heap.size) (hbA : ¬ A b) (hS : va_S A s.heap H locs) {k : Nat} (hk : k < L) (hL : L ≤ 2048) (hdg : decode cc pc = .ok (.iaload, 1))
    (kk : W p l e R s m args below meth c H locs cells slots Q (F0 m (pc + 1) ls (.int (xs k) :: rest))) : W p l e R s m args below meth c H locs cells slots Q (F0 m pc ls (.int (nI k) :: .ref b :: rest)) := by
  refine va_sld hexec hb hX hbl hbA hS (vp_in_nI hk (by omega)) hdg ?_
  rw [nI_clamp (by omega)]
  exact kk
/-- 'x != 0' as an argument -/
theorem w_bool (hexec : p.tables.exec = Jvm.exec) (hb : c.code = cc) {x : Int32} (d0 : decode cc pc = .ok (.ifCond .eq 7, 3)) (d1 : decode cc (pc + 3) = .ok (.iconst 1, 1)) (d2 : decode cc (pc + 4) = .ok (.goto 4, 3)) (d3 : decode cc (pc + 7) = .ok (.iconst 0, 1))
    (kk : W p l e R s m args below meth c H locs cells slots Q (F0 m (pc + 8) ls (.int (if x = 0 then nI 0 else nI 1) :: rest))) : W p l e R s m args below meth c H locs cells slots Q (F0 m pc ls (.int x :: rest)) := by
  refine lv_if_eq (tgt := pc + 7) hexec hb d0 (by omega) (fun c9 => ?_) (fun c9 => ?_)
  · refine lv_iconst (v := nI 0) hexec hb d3 (by decide) ?_
    rw [if_pos c9] at kk
    exact kk
  · refine lv_iconst (v := nI 1) hexec hb d1 (by decide) ?_
    refine lv_goto (tgt := pc + 8) hexec hb d2 (by omega) ?_
    rw [if_neg c9] at kk
    exact kk
end LawRows
theorem w_b01 (x : Int32) : (if x = 0 then nI 0 else nI 1) = 0 ∨ (if x = 0 then nI 0 else nI 1) = 1 := by
  by_cases h : x = 0
  · rw [if_pos h]; exact Or.inl rfl
  · rw [if_neg h]; exact Or.inr rfl
theorem lg_same (x : Int64) : lg_cmp x x = 0 := by
  unfold lg_cmp
  rw [if_neg (Int64.lt_irrefl), if_pos rfl]
theorem cd_z0 {cd : Nat} (h : nI cd = 0) (h2 : cd ≤ 2) : cd = 0 := by
  have h3 : cd = 0 ∨ cd = 1 ∨ cd = 2 := by omega
  rcases h3 with rfl | rfl | rfl
  · rfl
  · exact absurd h (by decide)
  · exact absurd h (by decide)
theorem hQ_fix {cd : Nat} {cI cZ cR : ClassId} {ad : Nat → Nat} {na n : Nat} {I V I' V' : Nat → Nat → Int32} {a k : Int32} {u : (Nat → Int64) × va_W} (h : hQ cd (sW cI cZ cR ad na n I V) (fun (r : Int32) (_ : Unit) => r = a) (fun (_ : Unit) => sW cI cZ cR ad na n I' V') k u) : k = nI cd ∧ (cd = 0 → u.1 0 = a.toInt64) ∧ u.2 = sW cI cZ cR ad na n (if cd = 0 then I' else I) (if cd = 0 then V' else V) := by
  obtain ⟨h1, h2, h3⟩ := h
  by_cases hc : cd = 0
  · obtain ⟨r, v, hr, hf, hw⟩ := h2 hc
    exact ⟨h1, fun _ => by rw [hf, hr], by rw [hw, if_pos hc, if_pos hc]⟩
  · exact ⟨h1, fun h9 => absurd h9 hc, by rw [h3 hc, if_neg hc, if_neg hc]⟩
theorem hV_fix {cd : Nat} {cI cZ cR : ClassId} {ad : Nat → Nat} {na n : Nat} {I V I' V' : Nat → Nat → Int32} {post : Unit → Prop} {k : Int32} {u : va_W} (h : hV cd (sW cI cZ cR ad na n I V) post (fun (_ : Unit) => sW cI cZ cR ad na n I' V') k u) : k = nI cd ∧ u = sW cI cZ cR ad na n (if cd = 0 then I' else I) (if cd = 0 then V' else V) := by
  obtain ⟨h1, h2, h3⟩ := h
  by_cases hc : cd = 0
  · obtain ⟨v, hr, hw⟩ := h2 hc
    exact ⟨h1, by rw [hw, if_pos hc, if_pos hc]⟩
  · exact ⟨h1, by rw [h3 hc, if_neg hc, if_neg hc]⟩
/-- the code that the reference keeps -/
theorem jc_if {cd : Nat} {J J' : Nat → Nat → Int32} (h : cd = 0 → J' 0 0 = nI 0) : (if cd = 0 then J' else va_up J 0 (va_up (J 0) 0 (nI cd))) 0 0 = nI cd := by
  by_cases hc : cd = 0
  · rw [if_pos hc, h hc, hc]
  · rw [if_neg hc]; rfl
theorem nx_and (a b : Nat) : nI a &&& nI b = nI (a &&& b) := by
  apply Int32.toBitVec_inj.1
  show BitVec.ofNat 32 a &&& BitVec.ofNat 32 b = BitVec.ofNat 32 (a &&& b)
  apply BitVec.eq_of_getLsbD_eq
  intro i hi
  simp [hi]
theorem and15 (x : Int32) : ∃ k, k < 16 ∧ x &&& nI 15 = nI k := by
  have e : x = nI x.toBitVec.toNat := by
    apply Int32.toBitVec_inj.1
    show x.toBitVec = BitVec.ofNat 32 x.toBitVec.toNat
    simp
  refine ⟨x.toBitVec.toNat % 16, Nat.mod_lt _ (by omega), ?_⟩
  rw [e, nx_and, show (15 : Nat) = 2 ^ 4 - 1 from rfl, Nat.and_two_pow_sub_one_eq_mod, ← e]
theorem w_addP {D : va_G} {cl : List vw_C} {X w : va_W} {H : Heap} (h : va_P D cl (X ++ w) H) : va_P D cl (X ++ (w ++ [])) H := by rw [List.append_nil]; exact h
theorem w_addD {A : Nat → Prop} {X w : va_W} (h : va_D A (X ++ w)) : va_D A (X ++ (w ++ [])) := by rw [List.append_nil]; exact h
