theorem cm_ZM {V U : Nat → Nat → Int32} {k q : Nat} (hS : rS V U k q) (w : Nat) (hw : w = 0 ∨ w = 1) (f : Nat) (hf : f < k) : mgZ U q w f = lgZ V (nI w) f := by
  obtain ⟨s1, s2, s3, s4, s5, s6, s7, s8⟩ := hS
  have h5 := s5 f hf
  have h3 := (s1 f hf).2.2
  have hw2 : nI (if w = 1 then 1 else 0) = nI w := by rcases hw with rfl | rfl <;> rfl
  have hw3 : ¬ (-1 : Int32) = nI w := by rcases hw with rfl | rfl <;> decide
  unfold mgZ lgZ
  rw [hw2, ← h3]
  by_cases hl : lst3 (U 4) f q = -1
  · rw [if_pos hl] at h5
    rw [hl, h5, decide_eq_false hw3]
    simp
  · rw [if_neg hl] at h5
    rw [← h5]
    by_cases h6 : V 5 f = nI w
    · rw [h6, Bool.and_comm]
    · rw [decide_eq_false h6, Bool.and_false, Bool.false_and]
theorem st_commit {c na : Nat} {I V J U : Nat → Nat → Int32} (h : rel c na I V J U) (hc : c < 512) : ∃ k q kp T ls rc fk, ∃ fa : Nat → Nat, (I 1 4 = nI k ∧ J 0 1 = nI k ∧ k ≤ 100) ∧ (I 1 5 = nI q ∧ J 0 5 = nI q ∧ q ≤ 20) ∧ lgH I J kp T ls rc fk na ∧ T < 512 ∧ rc + lgN (lgZ V (nI 0)) k + lgN (lgZ V (nI 1)) k ≤ 512 ∧ (∀ j, V 5 j = 0 ∨ V 5 j = 1) ∧ rc + lgN (mgZ U q 0) k + lgN (mgZ U q 1) k ≤ 512 ∧ (∀ i, rc ≤ i → i < rc + lgN (mgZ U q 0) k + lgN (mgZ U q 1) k → (tbA (mgZ U q 1) (T + 1) 1 (rc + lgN (mgZ U q 0) k) (tbA (mgZ U q 0) (T + 1) 0 rc (U 5) k) k) (3 * i + 1) = nI (fa i) ∧ fa i < 100) ∧
    rel (c + 1) na (va_up (va_up I 6 (va_up (va_up (va_up (va_up (I 6) 4 (nI (T + 1))) 5 (nI (max ls (T + 1 + 1 - kp)))) 7 (nI (fRow (V 7) (nI (max ls (T + 1 + 1 - kp))) (rc - fk) fk))) 6 (nI (rc + lgN (lgZ V (nI 0)) k + lgN (lgZ V (nI 1)) k)))) 1 (va_up (I 1) 5 (nI 0))) (va_up (va_up (va_up (va_up V 7 (lgA (lgZ V (nI 1)) (fun _ => nI (T + 1)) (rc + lgN (lgZ V (nI 0)) k) (lgA (lgZ V (nI 0)) (fun _ => nI (T + 1)) rc (V 7) k) k)) 8 (lgA (lgZ V (nI 1)) (fun j => nI j) (rc + lgN (lgZ V (nI 0)) k) (lgA (lgZ V (nI 0)) (fun j => nI j) rc (V 8) k) k)) 9 (lgA (lgZ V (nI 1)) (fun _ => nI 1) (rc + lgN (lgZ V (nI 0)) k) (lgA (lgZ V (nI 0)) (fun _ => nI 0) rc (V 9) k) k)) 4 (cpTo (V 4) (V 5) k))
      (va_up J 0 (va_up (va_up (va_up (va_up (va_up (J 0) 0 (nI 0)) 9 (nI (T + 1))) 7 (nI (rc + lgN (mgZ U q 0) k + lgN (mgZ U q 1) k))) 5 (nI 0)) 12 (nI (max ls (T + 1 + 1 - kp))))) (va_up (va_up (va_up U 6 (va_up (U 6) (T + 1) (nI rc))) 5 (tbA (mgZ U q 1) (T + 1) 1 (rc + lgN (mgZ U q 0) k) (tbA (mgZ U q 0) (T + 1) 0 rc (U 5) k) k)) 3 (inA (tbA (mgZ U q 1) (T + 1) 1 (rc + lgN (mgZ U q 0) k) (tbA (mgZ U q 0) (T + 1) 0 rc (U 5) k) k) fa rc (U 3) (lgN (mgZ U q 0) k + lgN (mgZ U q 1) k))) := by
  obtain ⟨k, q, kp, T, ls, rc, fk, tr, fa, bg, h0, hN, hS, hL, hB, hR⟩ := h
  have hH := lgH_of h0 hN (by omega)
  have e0 : lgN (mgZ U q 0) k = lgN (lgZ V (nI 0)) k := lgN_cong k (cm_ZM hS 0 (Or.inl rfl))
  have e1 : lgN (mgZ U q 1) k = lgN (lgZ V (nI 1)) k := lgN_cong k (cm_ZM hS 1 (Or.inr rfl))
  have e5 : tbA (mgZ U q 1) (T + 1) 1 (rc + lgN (mgZ U q 0) k) (tbA (mgZ U q 0) (T + 1) 0 rc (U 5) k) k = tbA (lgZ V (nI 1)) (T + 1) 1 (rc + lgN (lgZ V (nI 0)) k) (tbA (lgZ V (nI 0)) (T + 1) 0 rc (U 5) k) k := by
    rw [e0, tbA_cong k (cm_ZM hS 1 (Or.inr rfl)), tbA_cong k (cm_ZM hS 0 (Or.inl rfl))]
  obtain ⟨s1, s2, s3, s4, s5, s6, s7, s8⟩ := hS
  obtain ⟨l1, l2, l3⟩ := hL
  obtain ⟨b1, b2⟩ := hB
  have e2 : lgN (lgZ V (nI 0)) k + lgN (lgZ V (nI 1)) k = lgN (fun f => decide (¬ V 4 f = V 5 f)) k := lgN_two k (fun f hf => by
    by_cases h1 : V 4 f = V 5 f
    · rw [lgZ_f (Or.inl h1), lgZ_f (Or.inl h1), h1]; simp
    · rcases s3 f with h2 | h2
      · rw [lgZ_t h1 (b := nI 0) h2, lgZ_f (b := nI 1) (Or.inr (by rw [h2]; decide))]; simp [h1]
      · rw [lgZ_t h1 (b := nI 1) h2, lgZ_f (b := nI 0) (Or.inr (by rw [h2]; decide))]; simp [h1])
  refine ⟨k, q, kp, T, ls, rc, fk, faA (lgZ V (nI 1)) (rc + lgN (lgZ V (nI 0)) k) (faA (lgZ V (nI 0)) rc fa k) k, ?_⟩
  rw [e5, e0, e1]
  obtain ⟨a1, a2, a3, a4, a5, a6, a7, a8⟩ := h0
  obtain ⟨n1, n2, n3, n4, n5, n6, n7, n8⟩ := hN
  generalize hn0 : lgN (lgZ V (nI 0)) k = m0 at e2 ⊢
  generalize hn1 : lgN (lgZ V (nI 1)) k = m1 at e2 ⊢
  generalize hA7 : lgA (lgZ V (nI 1)) (fun _ => nI (T + 1)) (rc + m0) (lgA (lgZ V (nI 0)) (fun _ => nI (T + 1)) rc (V 7) k) k = A7
  generalize hA8 : lgA (lgZ V (nI 1)) (fun j => nI j) (rc + m0) (lgA (lgZ V (nI 0)) (fun j => nI j) rc (V 8) k) k = A8
  have hA901 : ∀ j, lgA (lgZ V (nI 1)) (fun _ => nI 1) (rc + m0) (lgA (lgZ V (nI 0)) (fun _ => nI 0) rc (V 9) k) k j = 0 ∨ lgA (lgZ V (nI 1)) (fun _ => nI 1) (rc + m0) (lgA (lgZ V (nI 0)) (fun _ => nI 0) rc (V 9) k) k j = 1 := fun j => lgA_01 (fun j => lgA_01 l2 (fun _ => Or.inl rfl) k j) (fun _ => Or.inr rfl) k j
  generalize hA9 : lgA (lgZ V (nI 1)) (fun _ => nI 1) (rc + m0) (lgA (lgZ V (nI 0)) (fun _ => nI 0) rc (V 9) k) k = A9 at hA901 ⊢
  generalize hB5 : tbA (lgZ V (nI 1)) (T + 1) 1 (rc + m0) (tbA (lgZ V (nI 0)) (T + 1) 0 rc (U 5) k) k = B5
  generalize hFA : faA (lgZ V (nI 1)) (rc + m0) (faA (lgZ V (nI 0)) rc fa k) k = FA
  obtain ⟨c1, c2, c3⟩ := cm_rows (V := V) (C5 := U 5) (fa := fa) (T := T + 1) (rc := rc) (k := k) s3 hn0.symm hn1.symm hFA.symm hA7.symm hA8.symm hA9.symm hB5.symm
  clear hA7 hA8 hA9 hB5 hFA
  have hF := fRow_is (f := V 7) (tr := tr) (t := max ls (T + 1 + 1 - kp)) (rc := rc) (fun i hi => ⟨(l1 i hi).1, by have := (l1 i hi).2.2.2.2.2.1; omega⟩) (by omega) l3 (rc - fk) fk (by omega) (fun m hm => by have := (b2 m (by omega)).1 hm; omega)
  generalize fRow (V 7) (nI (max ls (T + 1 + 1 - kp))) (rc - fk) fk = fk2 at hF ⊢
  refine ⟨⟨n1.1, n1.2, a1⟩, ⟨n2.1, n2.2, a2⟩, hH, by omega, by omega, s3, by omega, fun i h1 h2 => ?_, ?_⟩
  · have h3 := c2 i h1 h2
    exact ⟨h3.2.2.2.1, by omega⟩
  have hls : max ls (T + 1 + 1 - kp) ≤ T + 1 := by omega
  have htr : ∀ i, i < rc → (if i < rc then tr i else T + 1) = tr i := fun i hi => if_pos hi
  have htn : ∀ i, rc ≤ i → (if i < rc then tr i else T + 1) = T + 1 := fun i hi => if_neg (by omega)
  refine ⟨k, 0, kp, T + 1, max ls (T + 1 + 1 - kp), rc + m0 + m1, fk2, fun i => if i < rc then tr i else T + 1, FA, va_up bg (T + 1) rc, ⟨a1, by omega, a3, by omega, ⟨by omega, by omega⟩, by omega, by omega, a8⟩, ⟨n1, ⟨rfl, rfl⟩, n3, ⟨rfl, rfl⟩, ⟨rfl, rfl⟩, ⟨rfl, rfl⟩, rfl, n8⟩, ⟨?_, ?_, s3, ?_, ?_, ?_, ?_, ?_⟩, ⟨?_, hA901, ?_⟩, ⟨?_, ?_⟩, fun j hj => ?_⟩
  · intro f hf
    refine ⟨(s1 f hf).1, (s1 f hf).2.1, ?_⟩
    show cpTo (V 4) (V 5) k f = inA B5 FA rc (U 3) (m0 + m1) f
    rw [cpTo_lt hf]
    have hval : ∀ e, e < m0 + m1 → FA (rc + e) = f → nI (if B5 (3 * (rc + e) + 2) = nI 1 then 1 else 0) = V 5 f := fun e he hf2 => by
      have h3 := (c2 (rc + e) (by omega) (by omega)).2.2.2.2.2.2
      rw [hf2] at h3
      exact h3
    by_cases h4 : V 4 f = V 5 f
    · by_cases h5 : ∃ e, e < m0 + m1 ∧ FA (rc + e) = f
      · exact (inA_yes (m0 + m1) hval h5).symm
      · rw [inA_no (m0 + m1) (fun e he h6 => h5 ⟨e, he, h6⟩), ← h4]
        exact (s1 f hf).2.2
    · obtain ⟨i, h6, h7, h8⟩ := c3 f hf h4
      refine (inA_yes (m0 + m1) hval ⟨i - rc, by omega, ?_⟩).symm
      rw [show rc + (i - rc) = i by omega]; exact h8
  · intro f
    show cpTo (V 4) (V 5) k f = 0 ∨ cpTo (V 4) (V 5) k f = 1
    by_cases h2 : f < k
    · rw [cpTo_lt h2]; exact s3 f
    · rw [cpTo_ge (by omega)]; exact s2 f
  · intro f hf
    show cpTo (V 4) (V 5) k f = 0 ∧ V 5 f = 0
    rw [cpTo_ge hf]; exact s4 f hf
  · intro f hf
    show V 5 f = if lst3 (U 4) f 0 = -1 then cpTo (V 4) (V 5) k f else lst3 (U 4) f 0
    rw [cpTo_lt hf]; rfl
  · intro m hm; omega
  · refine Nat.le_of_eq (lgN_none k (fun f hf => ?_))
    show decide (¬ cpTo (V 4) (V 5) k f = V 5 f) = false
    rw [cpTo_lt hf]; simp
  · exact inA_01 s8 (m0 + m1)
  · intro i hi
    show A7 i = nI (if i < rc then tr i else T + 1) ∧ B5 (3 * i) = nI (if i < rc then tr i else T + 1) ∧ A8 i = nI (FA i) ∧ B5 (3 * i + 1) = nI (FA i) ∧ A9 i = B5 (3 * i + 2) ∧ (1 ≤ (if i < rc then tr i else T + 1) ∧ (if i < rc then tr i else T + 1) ≤ T + 1) ∧ FA i < k
    by_cases h1 : i < rc
    · obtain ⟨d1, d2, d3, d4, d5, d6, d7⟩ := c1 i h1
      obtain ⟨g1, g2, g3, g4, g5, g6, g7⟩ := l1 i h1
      rw [htr i h1, d1, d2, d3, d4, d5, d6, d7]
      exact ⟨g1, g2, g3, g4, g5, ⟨g6.1, by omega⟩, g7⟩
    · obtain ⟨d1, d2, d3, d4, d5, d6, d7⟩ := c2 i (by omega) hi
      rw [htn i (by omega)]
      exact ⟨d1, d3, d2, d4, d5, ⟨by omega, by omega⟩, d6⟩
  · intro i i2 h1 h2
    show (if i < rc then tr i else T + 1) ≤ (if i2 < rc then tr i2 else T + 1)
    by_cases h3 : i2 < rc
    · rw [htr i2 h3, htr i (by omega)]; exact l3 i i2 h1 h3
    · rw [htn i2 (by omega)]
      by_cases h4 : i < rc
      · rw [htr i h4]; have := (l1 i h4).2.2.2.2.2.1; omega
      · rw [htn i (by omega)]; exact Nat.le_refl _
  · intro t h1 h2
    show va_up (U 6) (T + 1) (nI rc) t = nI (va_up bg (T + 1) rc t) ∧ va_up bg (T + 1) rc t ≤ rc + m0 + m1 ∧ ∀ i, i < rc + m0 + m1 → (i < va_up bg (T + 1) rc t ↔ (if i < rc then tr i else T + 1) < t)
    by_cases h3 : t = T + 1
    · subst h3
      rw [va_up_self, va_up_self]
      refine ⟨rfl, by omega, fun i hi => ?_⟩
      by_cases h4 : i < rc
      · rw [htr i h4]; have := (l1 i h4).2.2.2.2.2.1; omega
      · rw [htn i (by omega)]; omega
    · rw [va_up_ne _ _ h3, va_up_ne _ _ h3]
      obtain ⟨g1, g2, g3⟩ := b1 t h1 (by omega)
      refine ⟨g1, by omega, fun i hi => ?_⟩
      by_cases h4 : i < rc
      · rw [htr i h4]; exact g3 i h4
      · rw [htn i (by omega)]; omega
  · intro i hi
    show i < fk2 ↔ (if i < rc then tr i else T + 1) < max ls (T + 1 + 1 - kp)
    by_cases h4 : i < rc
    · rw [htr i h4]; exact hF.2.2 i h4
    · rw [htn i (by omega)]; omega
  · obtain ⟨kd, mt, rg, at9, ar, tc, tk, hr⟩ := hR j hj
    obtain ⟨r1, r2, r3, r4, ⟨g1, g2, g3, g4, g5, g6, g7, g8⟩, ⟨f1, f2, f3, f4, f5⟩⟩ := hr
    have eI : ∀ A B : Nat → Int32, (va_up (va_up I 6 A) 1 B) (11 + 6 * j) = I (11 + 6 * j) := fun A B => by rw [va_up_ne _ _ (by omega), va_up_ne _ _ (by omega)]
    have eV : ∀ (A B C D : Nat → Int32) (r : Nat), 11 ≤ r → (va_up (va_up (va_up (va_up V 7 A) 8 B) 9 C) 4 D) r = V r := fun A B C D r hr => by rw [va_up_ne _ _ (by omega), va_up_ne _ _ (by omega), va_up_ne _ _ (by omega), va_up_ne _ _ (by omega)]
    refine ⟨kd, mt, rg, at9, ar, tc, tk, ?_⟩
    unfold rR
    rw [eI, eV _ _ _ _ (11 + 6 * j + 1) (by omega), eV _ _ _ _ (11 + 6 * j + 2) (by omega), eV _ _ _ _ (11 + 6 * j + 3) (by omega), eV _ _ _ _ (11 + 6 * j + 4) (by omega), eV _ _ _ _ (11 + 6 * j + 5) (by omega)]
    refine ⟨r1, r2, r3, r4, ⟨g1, g2, g3, by omega, g5, by omega, fun h1 h2 => ?_, fun h1 => by omega⟩, ⟨f1, f2, f3, fun m hm => ?_, f5⟩⟩
    · show va_up (U 6) (T + 1) (nI rc) at9 + U 7 (12 * j + 1) = nI ar
      by_cases h3 : at9 = T + 1
      · have h4 := g8 h3
        rw [h3, va_up_self, h4.2, nI_add, Nat.add_zero, h4.1]
      · rw [va_up_ne _ _ h3]
        exact g7 (by omega) (by omega)
    · obtain ⟨p1, p2, p3, p4, p5, p6⟩ := f4 m hm
      show V (11 + 6 * j + 1) m = nI (tk m) ∧ U 9 (20 * j + m) = nI (tk m) ∧ tk m < rc + m0 + m1 ∧ V (11 + 6 * j + 2) m = nI (if tk m < rc then tr (tk m) else T + 1) ∧ (if tk m < rc then tr (tk m) else T + 1) ≤ at9 ∧ (max ls (T + 1 + 1 - kp) ≤ at9 → tk m < ar)
      rw [htr _ p3]
      exact ⟨p1, p2, by omega, p4, p5, fun h9 => p6 (by omega)⟩
/-- the reference's numbers at its start -/
def J0 : Nat → Nat → Int32 := fun r k => match r, k with
  | 0, 11 => nI 10
  | 0, 12 => nI 1
  | _, _ => 0
def U0 : Nat → Nat → Int32 := fun _ _ => 0
theorem st_init : rel 0 0 I0 V0 J0 U0 :=
  ⟨0, 0, 10, 0, 1, 0, 0, fun _ => 0, fun _ => 0, fun _ => 0, ⟨by omega, by omega, ⟨by omega, by omega⟩, by omega, ⟨by omega, Or.inr ⟨rfl, rfl⟩⟩, by omega, by omega, by omega⟩, ⟨⟨rfl, rfl⟩, ⟨rfl, rfl⟩, ⟨rfl, rfl⟩, ⟨rfl, rfl⟩, ⟨rfl, rfl⟩, ⟨rfl, rfl⟩, rfl, ⟨rfl, rfl⟩⟩, ⟨fun f hf => absurd hf (Nat.not_lt_zero _), fun _ => Or.inl rfl, fun _ => Or.inl rfl, fun _ _ => ⟨rfl, rfl⟩, fun f hf => absurd hf (Nat.not_lt_zero _), fun f hf => absurd hf (Nat.not_lt_zero _), Nat.le_refl _, fun _ => Or.inl rfl⟩, ⟨fun f hf => absurd hf (Nat.not_lt_zero _), fun _ => Or.inl rfl, fun _ _ _ h => absurd h (Nat.not_lt_zero _)⟩, ⟨fun t h1 h2 => by omega, fun f hf => absurd hf (Nat.not_lt_zero _)⟩, fun j hj => absurd hj (Nat.not_lt_zero _)⟩
