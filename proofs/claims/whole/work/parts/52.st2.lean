/-- the numbers of the log and of the readers, as both sides' calls want them -/
def lgH (I J : Nat → Nat → Int32) (kp T ls rc fk na : Nat) : Prop :=
  (I 6 3 = nI kp ∧ I 6 4 = nI T ∧ I 6 5 = nI ls ∧ I 6 6 = nI rc ∧ I 6 7 = nI fk) ∧ (J 0 7 = nI rc ∧ J 0 9 = nI T ∧ J 0 11 = nI kp ∧ J 0 12 = nI ls ∧ J 0 13 = nI na) ∧ fk ≤ rc ∧ rc ≤ 512 ∧ kp ≤ 30 ∧ T ≤ 512 ∧ 0 < ls ∧ ls ≤ 513 ∧ na ≤ 6
theorem lgH_of {c k q kp T ls rc fk na : Nat} {I J : Nat → Nat → Int32} (h0 : r0 c k q kp T ls rc fk na) (hN : rN I J k q kp T ls rc fk na) (hc : c ≤ 512) : lgH I J kp T ls rc fk na := by
  obtain ⟨a1, a2, a3, a4, a5, a6, a7, a8⟩ := h0
  obtain ⟨n1, n2, n3, n4, n5, n6, n7, n8⟩ := hN
  exact ⟨⟨n3.1, n4.1, n5.1, n6.1, n7⟩, ⟨n6.2, n4.2, n3.2, n5.2, n8.2⟩, a7, by omega, a3.2, by omega, by omega, by omega, a8⟩
theorem rel_na {c na : Nat} {I V J U : Nat → Nat → Int32} (h : rel c na I V J U) : I 0 3 = nI na ∧ na ≤ 6 := by
  obtain ⟨k, q, kp, T, ls, rc, fk, tr, fa, bg, ⟨a1, a2, a3, a4, a5, a6, a7, a8⟩, ⟨n1, n2, n3, n4, n5, n6, n7, n8⟩, hh⟩ := h
  exact ⟨n8.1, a8⟩
theorem st_code {c na cd : Nat} {I V J U : Nat → Nat → Int32} (h : rel c na I V J U) : rel (c + 1) na I V (if cd = 0 then va_up J 0 (va_up (J 0) 0 (nI 0)) else va_up J 0 (va_up (J 0) 0 (nI cd))) U := by
  split
  · exact rel_code h _
  · exact rel_code h _
theorem st_change {c na : Nat} {I V J U : Nat → Nat → Int32} (h : rel c na I V J U) (x b : Int32) (hb01 : b = 0 ∨ b = 1) (f : Nat) (hf : f = x.toNatClampNeg) : ∃ k q, (I 1 4 = nI k ∧ J 0 1 = nI k ∧ k ≤ 100) ∧ (I 1 5 = nI q ∧ J 0 5 = nI q ∧ q ≤ 20) ∧ ∀ cd, (cd = if ¬ (0 ≤ x.toInt ∧ x.toInt ≤ ((k : Nat) : Int) - 1) then 1 else if q = 20 then 2 else 0) → rel (c + 1) na (if cd = 0 then va_up I 1 (va_up (I 1) 5 (nI (q + 1))) else I) (if cd = 0 then va_up V 5 (va_up (V 5) f b) else V) (if cd = 0 then va_up J 0 (va_up (va_up (J 0) 0 (nI 0)) 5 (nI (q + 1))) else va_up J 0 (va_up (J 0) 0 (nI cd))) (if cd = 0 then va_up U 4 (va_up (va_up (U 4) (2 * q) (nI f)) (2 * q + 1) b) else U) := by
  have h' := h
  obtain ⟨k, q, kp, T, ls, rc, fk, tr, fa, bg, ⟨a1, a2, a3, a4, a5, a6, a7, a8⟩, ⟨n1, n2, n3, n4, n5, n6, n7, n8⟩, ⟨s1, s2, s3, s4, s5, s6, s7, s8⟩, ⟨l1, l2, l3⟩, ⟨b1, b2⟩, hR⟩ := h
  refine ⟨k, q, ⟨n1.1, n1.2, a1⟩, ⟨n2.1, n2.2, a2⟩, fun cd hcd => st_if h' (fun hc0 => ?_)⟩
  have hk : q < 20 ∧ f < k := by
    rw [hc0] at hcd
    split at hcd
    · omega
    · rename_i h9
      have h8 := Decidable.not_not.1 h9
      have h7 := (nx_nn h8.1).2
      split at hcd <;> omega
  have hC : ∀ m, m < 2 * q → (va_up (va_up (U 4) (2 * q) (nI f)) (2 * q + 1) b) m = U 4 m := fun m hm => by rw [va_up_ne _ _ (by omega), va_up_ne _ _ (by omega)]
  have hq0 : (va_up (va_up (U 4) (2 * q) (nI f)) (2 * q + 1) b) (2 * q) = nI f := by rw [va_up_ne _ _ (by omega), va_up_self]
  have hq1 : (va_up (va_up (U 4) (2 * q) (nI f)) (2 * q + 1) b) (2 * q + 1) = b := va_up_self _ _ _
  refine ⟨k, q + 1, kp, T, ls, rc, fk, tr, fa, bg, ⟨a1, by omega, a3, by omega, a5, by omega, a7, a8⟩, ⟨n1, ⟨rfl, rfl⟩, n3, n4, n5, n6, n7, n8⟩, ⟨s1, s2, ?_, ?_, ?_, ?_, ?_, s8⟩, ⟨l1, l2, l3⟩, ⟨b1, b2⟩, fun j hj => ?_⟩
  · intro f2
    show va_up (V 5) f b f2 = 0 ∨ va_up (V 5) f b f2 = 1
    by_cases h2 : f2 = f
    · subst h2; rw [va_up_self]; exact hb01
    · rw [va_up_ne _ _ h2]; exact s3 f2
  · intro f2 hf2
    show V 4 f2 = 0 ∧ va_up (V 5) f b f2 = 0
    rw [va_up_ne _ _ (by omega)]
    exact s4 f2 hf2
  · intro f2 hf2
    show va_up (V 5) f b f2 = if lst3 (va_up (va_up (U 4) (2 * q) (nI f)) (2 * q + 1) b) f2 (q + 1) = -1 then V 4 f2 else lst3 (va_up (va_up (U 4) (2 * q) (nI f)) (2 * q + 1) b) f2 (q + 1)
    have h3 : lst3 (va_up (va_up (U 4) (2 * q) (nI f)) (2 * q + 1) b) f2 (q + 1) = if nI f = nI f2 then b else lst3 (U 4) f2 q := by
      show (if (va_up (va_up (U 4) (2 * q) (nI f)) (2 * q + 1) b) (2 * q) = nI f2 then (va_up (va_up (U 4) (2 * q) (nI f)) (2 * q + 1) b) (2 * q + 1) else lst3 (va_up (va_up (U 4) (2 * q) (nI f)) (2 * q + 1) b) f2 q) = _
      rw [hq0, hq1, lst3_cong q hC]
    rw [h3]
    by_cases h2 : f2 = f
    · subst h2
      rw [va_up_self, if_pos rfl]
      rcases hb01 with h4 | h4 <;> rw [h4] <;> rw [if_neg (by decide)]
    · rw [va_up_ne _ _ h2, if_neg (fun h9 => h2 ((nI_eq (by omega) (by omega)).1 h9).symm)]
      exact s5 f2 hf2
  · intro m hm
    show ((va_up (va_up (U 4) (2 * q) (nI f)) (2 * q + 1) b) (2 * m + 1) = 0 ∨ (va_up (va_up (U 4) (2 * q) (nI f)) (2 * q + 1) b) (2 * m + 1) = 1) ∧ ∃ f2, f2 < k ∧ (va_up (va_up (U 4) (2 * q) (nI f)) (2 * q + 1) b) (2 * m) = nI f2
    by_cases h2 : m = q
    · subst h2
      rw [hq0, hq1]
      exact ⟨hb01, f, hk.2, rfl⟩
    · rw [hC _ (by omega), hC _ (by omega)]
      exact s6 m (by omega)
  · refine Nat.le_trans (lgN_one (Z := fun f => decide (¬ V 4 f = V 5 f)) (x := f) (fun f2 h2 => ?_) k).1 (by omega)
    show decide (¬ V 4 f2 = va_up (V 5) f b f2) = decide (¬ V 4 f2 = V 5 f2)
    rw [va_up_ne _ _ h2]
  · obtain ⟨kd, mt, rg, at9, ar, tc, tk, hr⟩ := hR j hj
    exact ⟨kd, mt, rg, at9, ar, tc, tk, rR_fr hr (va_up_ne _ _ (by omega)) (fun k _ _ => by rw [va_up_ne _ _ (by omega)]) (fun _ _ => rfl) (fun _ _ => rfl) (fun _ _ => rfl) rfl rfl⟩
theorem cpTo_lt {a b : Nat → Int32} {k f : Nat} (h : f < k) : cpTo a b k f = b f := by simp [cpTo, h]
theorem cpTo_ge {a b : Nat → Int32} {k f : Nat} (h : k ≤ f) : cpTo a b k f = a f := by simp [cpTo, Nat.not_lt.2 h]
theorem st_abort {c na : Nat} {I V J U : Nat → Nat → Int32} (h : rel c na I V J U) : ∃ k q, (I 1 4 = nI k ∧ k ≤ 100) ∧ (I 1 5 = nI q ∧ J 0 5 = nI q ∧ q ≤ 20) ∧ (∀ j, V 4 j = 0 ∨ V 4 j = 1) ∧ rel (c + 1) na (va_up I 1 (va_up (I 1) 5 (nI 0))) (va_up V 5 (cpTo (V 5) (V 4) k)) (va_up J 0 (va_up (va_up (J 0) 0 (nI 0)) 5 (nI 0))) U := by
  obtain ⟨k, q, kp, T, ls, rc, fk, tr, fa, bg, ⟨a1, a2, a3, a4, a5, a6, a7, a8⟩, ⟨n1, n2, n3, n4, n5, n6, n7, n8⟩, ⟨s1, s2, s3, s4, s5, s6, s7, s8⟩, ⟨l1, l2, l3⟩, ⟨b1, b2⟩, hR⟩ := h
  refine ⟨k, q, ⟨n1.1, a1⟩, ⟨n2.1, n2.2, a2⟩, s2, ?_⟩
  refine ⟨k, 0, kp, T, ls, rc, fk, tr, fa, bg, ⟨a1, by omega, a3, by omega, a5, by omega, a7, a8⟩, ⟨n1, ⟨rfl, rfl⟩, n3, n4, n5, n6, n7, n8⟩, ⟨s1, s2, ?_, ?_, ?_, ?_, ?_, s8⟩, ⟨l1, l2, l3⟩, ⟨b1, b2⟩, fun j hj => ?_⟩
  · intro f
    show cpTo (V 5) (V 4) k f = 0 ∨ cpTo (V 5) (V 4) k f = 1
    by_cases h2 : f < k
    · rw [cpTo_lt h2]; exact s2 f
    · rw [cpTo_ge (by omega)]; exact s3 f
  · intro f hf
    show V 4 f = 0 ∧ cpTo (V 5) (V 4) k f = 0
    rw [cpTo_ge hf]; exact s4 f hf
  · intro f hf
    show cpTo (V 5) (V 4) k f = if lst3 (U 4) f 0 = -1 then V 4 f else lst3 (U 4) f 0
    rw [cpTo_lt hf]
    rfl
  · intro m hm; omega
  · refine Nat.le_of_eq (lgN_none k (fun f hf => ?_))
    show decide (¬ V 4 f = cpTo (V 5) (V 4) k f) = false
    rw [cpTo_lt hf]; simp
  · obtain ⟨kd, mt, rg, at9, ar, tc, tk, hr⟩ := hR j hj
    exact ⟨kd, mt, rg, at9, ar, tc, tk, rR_fr hr (va_up_ne _ _ (by omega)) (fun k _ _ => by rw [va_up_ne _ _ (by omega)]) (fun _ _ => rfl) (fun _ _ => rfl) (fun _ _ => rfl) rfl rfl⟩
theorem st_contains {c na : Nat} {I V J U : Nat → Nat → Int32} (h : rel c na I V J U) (x : Int32) (f : Nat) (hf : f = x.toNatClampNeg) : ∃ k, (I 1 4 = nI k ∧ J 0 1 = nI k ∧ k ≤ 100) ∧ (∀ j, V 4 j = 0 ∨ V 4 j = 1) ∧ (∀ j, U 3 j = 0 ∨ U 3 j = 1) ∧ ∀ cd, (cd = if ¬ (0 ≤ x.toInt ∧ x.toInt ≤ ((k : Nat) : Int) - 1) then 1 else 0) → cd = 0 → V 4 f = U 3 f := by
  obtain ⟨k, q, kp, T, ls, rc, fk, tr, fa, bg, ⟨a1, a2, a3, a4, a5, a6, a7, a8⟩, ⟨n1, n2, n3, n4, n5, n6, n7, n8⟩, ⟨s1, s2, s3, s4, s5, s6, s7, s8⟩, ⟨l1, l2, l3⟩, ⟨b1, b2⟩, hR⟩ := h
  refine ⟨k, ⟨n1.1, n1.2, a1⟩, s2, s8, fun cd hcd hc0 => ?_⟩
  have hk : f < k := by
    rw [hc0] at hcd
    split at hcd
    · omega
    · rename_i h9
      have h8 := Decidable.not_not.1 h9
      have h7 := (nx_nn h8.1).2
      omega
  exact (s1 f hk).2.2
theorem st_told {c na : Nat} {I V J U : Nat → Nat → Int32} (h : rel c na I V J U) (hc : c ≤ 512) : ∃ k q kp T ls rc fk, (I 1 4 = nI k ∧ J 0 1 = nI k ∧ k ≤ 100) ∧ (I 1 5 = nI q ∧ J 0 5 = nI q ∧ q ≤ 20) ∧ lgH I J kp T ls rc fk na := by
  obtain ⟨k, q, kp, T, ls, rc, fk, tr, fa, bg, h0, hN, hh⟩ := h
  exact ⟨k, q, kp, T, ls, rc, fk, ⟨hN.1.1, hN.1.2, h0.1⟩, ⟨hN.2.1.1, hN.2.1.2, h0.2.1⟩, lgH_of h0 hN hc⟩
theorem st_keep {c na : Nat} {I V J U : Nat → Nat → Int32} (h : rel c na I V J U) (hc : c < 512) (x : Int32) (f : Nat) (hf : f = x.toNatClampNeg) : ∃ kp T ls rc fk, lgH I J kp T ls rc fk na ∧ ∀ cd, (cd = if ¬ (1 ≤ x.toInt ∧ x.toInt ≤ 30) then 1 else 0) → rel (c + 1) na (if cd = 0 then va_up I 6 (va_up (va_up (va_up (I 6) 3 (nI f)) 5 (nI (max ls (T + 1 - f)))) 7 (nI (fRow (V 7) (nI (max ls (T + 1 - f))) (rc - fk) fk))) else I) (if cd = 0 then V else V) (if cd = 0 then va_up J 0 (va_up (va_up (va_up (J 0) 0 (nI 0)) 11 (nI f)) 12 (nI (max ls (T + 1 - f)))) else va_up J 0 (va_up (J 0) 0 (nI cd))) (if cd = 0 then U else U) := by
  have h' := h
  obtain ⟨k, q, kp, T, ls, rc, fk, tr, fa, bg, h0, hN, ⟨s1, s2, s3, s4, s5, s6, s7, s8⟩, ⟨l1, l2, l3⟩, ⟨b1, b2⟩, hR⟩ := h
  refine ⟨kp, T, ls, rc, fk, lgH_of h0 hN (by omega), fun cd hcd => st_if h' (fun hc0 => ?_)⟩
  obtain ⟨a1, a2, a3, a4, a5, a6, a7, a8⟩ := h0
  obtain ⟨n1, n2, n3, n4, n5, n6, n7, n8⟩ := hN
  have hk : 1 ≤ f ∧ f ≤ 30 := by
    rw [hc0] at hcd
    split at hcd
    · omega
    · rename_i h9
      have h8 := Decidable.not_not.1 h9
      have h7 := (nx_nn (x := x) (by omega)).2
      omega
  have hls : max ls (T + 1 - f) ≤ T ∨ (T = 0 ∧ max ls (T + 1 - f) = 1) := by omega
  have hF := fRow_is (f := V 7) (tr := tr) (t := max ls (T + 1 - f)) (rc := rc) (fun i hi => ⟨(l1 i hi).1, by have := (l1 i hi).2.2.2.2.2.1; omega⟩) (by omega) l3 (rc - fk) fk (by omega) (fun m hm => by have := (b2 m (by omega)).1 hm; omega)
  refine ⟨k, q, f, T, max ls (T + 1 - f), rc, fRow (V 7) (nI (max ls (T + 1 - f))) (rc - fk) fk, tr, fa, bg, ⟨a1, a2, hk, by omega, ⟨by omega, hls⟩, by omega, hF.2.1, a8⟩, ⟨n1, n2, ⟨rfl, rfl⟩, n4, ⟨rfl, rfl⟩, n6, rfl, n8⟩, ⟨s1, s2, s3, s4, s5, s6, s7, s8⟩, ⟨l1, l2, l3⟩, ⟨b1, hF.2.2⟩, fun j hj => ?_⟩
  obtain ⟨kd, mt, rg, at9, ar, tc, tk, hr⟩ := hR j hj
  have hr2 := rR_fr (I' := va_up I 6 (va_up (va_up (va_up (I 6) 3 (nI f)) 5 (nI (max ls (T + 1 - f)))) 7 (nI (fRow (V 7) (nI (max ls (T + 1 - f))) (rc - fk) fk)))) (V' := V) (U' := U) hr (va_up_ne _ _ (by omega)) (fun k _ _ => rfl) (fun _ _ => rfl) (fun _ _ => rfl) (fun _ _ => rfl) rfl rfl
  obtain ⟨r1, r2, r3, r4, ⟨e1, e2, e3, e4, e5, e6, e7, e8⟩, ⟨f1, f2, f3, f4, f5⟩⟩ := hr2
  exact ⟨kd, mt, rg, at9, ar, tc, tk, r1, r2, r3, r4, ⟨e1, e2, e3, e4, e5, e6, fun h9 => e7 (by omega), e8⟩, ⟨f1, f2, f3, fun m hm => by
    obtain ⟨g1, g2, g3, g4, g5, g6⟩ := f4 m hm
    exact ⟨g1, g2, g3, g4, g5, fun h9 => g6 (by omega)⟩, f5⟩⟩
theorem st_row {c na : Nat} {I V J U : Nat → Nat → Int32} (h : rel c na I V J U) (hc : c ≤ 512) (x y : Int32) (i v : Nat) (hi : i = x.toNatClampNeg) (hv : v = y.toNatClampNeg) : ∃ kp T ls rc fk, ∃ fa : Nat → Nat, lgH I J kp T ls rc fk na ∧ (∀ j, j < rc → V 8 j = nI (fa j) ∧ fa j < 100) ∧ (∀ j, V 9 j = 0 ∨ V 9 j = 1) ∧ (∀ j, j < rc → U 5 (3 * j + 1) = nI (fa j) ∧ fa j < 100) ∧ ∀ cd, (cd = if ¬ (0 ≤ x.toInt ∧ x.toInt ≤ ((rc : Nat) : Int) - 1) ∨ ¬ (0 ≤ y.toInt ∧ y.toInt ≤ 4) then 1 else 0) → cd = 0 → (if i < fk then -1 else rw5 (V 7 i) (V 8 i) (V 9 i) (V 2 (fa i)) (V 3 (fa i)) v) = (if U 5 (3 * i) < nI ls then -1 else if v < 3 then U 5 (3 * i + v) else if v = 3 then U 1 (fa i) else U 2 (fa i)) := by
  obtain ⟨k, q, kp, T, ls, rc, fk, tr, fa, bg, h0, hN, ⟨s1, s2, s3, s4, s5, s6, s7, s8⟩, ⟨l1, l2, l3⟩, ⟨b1, b2⟩, hR⟩ := h
  have h00 := h0
  obtain ⟨a1, a2, a3, a4, a5, a6, a7, a8⟩ := h0
  refine ⟨kp, T, ls, rc, fk, fa, lgH_of h00 hN hc, fun j hj => ⟨(l1 j hj).2.2.1, by have := (l1 j hj).2.2.2.2.2.2; omega⟩, l2, fun j hj => ⟨(l1 j hj).2.2.2.1, by have := (l1 j hj).2.2.2.2.2.2; omega⟩, fun cd hcd hc0 => ?_⟩
  have hk : i < rc ∧ v ≤ 4 := by
    rw [hc0] at hcd
    split at hcd
    · omega
    · rename_i h9
      have h8 := not_or.1 h9
      have h81 := Decidable.not_not.1 h8.1
      have h82 := Decidable.not_not.1 h8.2
      have h7 := (nx_nn (x := x) (by omega)).2
      have h6 := (nx_nn (x := y) (by omega)).2
      omega
  obtain ⟨g1, g2, g3, g4, g5, g6, g7⟩ := l1 i hk.1
  have h2 := b2 i hk.1
  have h3 : U 5 (3 * i) < nI ls ↔ i < fk := by
    rw [g2, nI_ltI (by omega) (by omega)]; exact h2.symm
  by_cases h4 : i < fk
  · rw [if_pos h4, if_pos (h3.2 h4)]
  · rw [if_neg h4, if_neg (fun h9 => h4 (h3.1 h9))]
    have h5 := s1 (fa i) g7
    have hv5 : v = 0 ∨ v = 1 ∨ v = 2 ∨ v = 3 ∨ v = 4 := by omega
    rcases hv5 with rfl | rfl | rfl | rfl | rfl
    · show V 7 i = U 5 (3 * i + 0)
      rw [Nat.add_zero, g1, g2]
    · show V 8 i = U 5 (3 * i + 1)
      rw [g3, g4]
    · show (if V 9 i = 0 then (0 : Int32) else 1) = U 5 (3 * i + 2)
      rw [← g5]
      rcases l2 i with h6 | h6 <;> rw [h6] <;> decide
    · exact h5.1
    · exact h5.2.1
