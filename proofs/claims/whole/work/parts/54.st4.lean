theorem i32_ab (x y : Int32) : x + (y - x) = y := by
  rw [Int32.sub_eq_add_neg, Int32.add_comm y, ← Int32.add_assoc, Int32.add_right_neg, Int32.zero_add]
theorem st_resume {c na : Nat} {I V J U : Nat → Nat → Int32} (h : rel c na I V J U) (hc : c ≤ 512) (x : Int32) (j : Nat) (hj : j = x.toNatClampNeg) : ∃ kp T ls rc fk tc t0 tr0, lgH I J kp T ls rc fk na ∧ ((0 ≤ x.toInt ∧ x.toInt ≤ ((na : Nat) : Int) - 1) → I (11 + 6 * j) 12 = nI tc ∧ tc ≤ 20) ∧ ((0 ≤ x.toInt ∧ x.toInt ≤ ((na : Nat) : Int) - 1) → (U 10 j = nI tc ∧ tc ≤ 20) ∧ (0 < tc → U 9 (20 * j) = nI t0 ∧ t0 < rc ∧ U 5 (3 * t0) = nI tr0 ∧ tr0 ≤ 512)) ∧ ∀ cd, (cd = if ¬ (0 ≤ x.toInt ∧ x.toInt ≤ ((na : Nat) : Int) - 1) then 1 else 0) → rel (c + 1) na (if cd = 0 then va_up I (11 + 6 * j) (va_up (if 0 < tc then va_up (va_up (I (11 + 6 * j)) 7 (V (11 + 6 * j + 2) 0)) 8 (V (11 + 6 * j + 1) 0) else I (11 + 6 * j)) 12 (nI 0)) else I) (if cd = 0 then V else V) (va_up J 0 (va_up (J 0) 0 (nI cd))) (if cd = 0 then va_up (if 0 < tc then va_up U 7 (va_up (va_up (U 7) (12 * j) (nI tr0)) (12 * j + 1) (nI t0 - U 6 tr0)) else U) 10 (va_up (U 10) j (nI 0)) else U) := by
  have h' := h
  obtain ⟨k, q, kp, T, ls, rc, fk, tr, fa, bg, h0, hN, hS, hL, hB, hR⟩ := h
  by_cases hx : 0 ≤ x.toInt ∧ x.toInt ≤ ((na : Nat) : Int) - 1
  · have hjn := st_j hj hx
    obtain ⟨kd, mt, rg, at9, ar, tc, tk, ⟨r1, r2, r3, r4, r5, ⟨f1, f2, f3, f4, f5⟩⟩⟩ := hR j hjn
    refine ⟨kp, T, ls, rc, fk, tc, tk 0, tr (tk 0), lgH_of h0 hN hc, fun _ => ⟨f1, f3⟩, fun _ => ⟨⟨f2, f3⟩, fun ht => ?_⟩, fun cd hcd => st_ic h' (fun hc0 => ?_)⟩
    · obtain ⟨g1, g2, g3, g4, g5, g6⟩ := f4 0 ht
      have g7 := hL.1 (tk 0) g3
      rw [Nat.add_zero] at g2
      exact ⟨g2, g3, g7.2.1, by have := h0.2.2.2.1; omega⟩
    · by_cases ht : 0 < tc
      · simp only [if_pos ht]
        obtain ⟨g1, g2, g3, g4, g5, g6⟩ := f4 0 ht
        have g7 := hL.1 (tk 0) g3
        refine st_rd h0 hN hS hL hB hR j ?_ ?_ ?_ ?_ ?_ ?_ ?_ _ ⟨kd, mt, rg, tr (tk 0), tk 0, 0, tk, ?_⟩
        · exact fun r h => va_up_ne _ _ (by rcases h with h | ⟨j2, h1, h2⟩ <;> omega)
        · exact fun r _ => rfl
        · exact fun r h => by rw [va_up_ne _ _ (by omega), va_up_ne _ _ (by omega)]
        · exact fun j2 k2 h1 h2 => by show va_up _ _ _ _ = _; rw [va_up_ne _ _ (by omega), va_up_ne _ _ (by omega)]
        · exact fun _ _ _ _ => rfl
        · exact fun _ _ _ _ => rfl
        · exact fun j2 h1 => va_up_ne _ _ h1
        have eI := va_up_self I (11 + 6 * j) (va_up (va_up (va_up (I (11 + 6 * j)) 7 (V (11 + 6 * j + 2) 0)) 8 (V (11 + 6 * j + 1) 0)) 12 (nI 0))
        have e7 : ∀ m, m ≠ 12 * j → m ≠ 12 * j + 1 → (va_up (va_up U 7 (va_up (va_up (U 7) (12 * j) (nI (tr (tk 0)))) (12 * j + 1) (nI (tk 0) - U 6 (tr (tk 0))))) 10 (va_up (U 10) j (nI 0))) 7 m = U 7 m := fun m h1 h2 => by show va_up _ _ _ _ = _; rw [va_up_ne _ _ h2, va_up_ne _ _ h1]
        have e70 : (va_up (va_up U 7 (va_up (va_up (U 7) (12 * j) (nI (tr (tk 0)))) (12 * j + 1) (nI (tk 0) - U 6 (tr (tk 0))))) 10 (va_up (U 10) j (nI 0))) 7 (12 * j) = nI (tr (tk 0)) := by show va_up _ _ _ _ = _; rw [va_up_ne _ _ (by omega), va_up_self]
        have e71 : (va_up (va_up U 7 (va_up (va_up (U 7) (12 * j) (nI (tr (tk 0)))) (12 * j + 1) (nI (tk 0) - U 6 (tr (tk 0))))) 10 (va_up (U 10) j (nI 0))) 7 (12 * j + 1) = nI (tk 0) - U 6 (tr (tk 0)) := va_up_self _ _ _
        have e10 : (va_up (va_up U 7 (va_up (va_up (U 7) (12 * j) (nI (tr (tk 0)))) (12 * j + 1) (nI (tk 0) - U 6 (tr (tk 0))))) 10 (va_up (U 10) j (nI 0))) 10 j = nI 0 := va_up_self _ _ _
        unfold rR
        rw [eI, e70, e71, e10, e7 (12 * j + 2) (by omega) (by omega), e7 (12 * j + 3) (by omega) (by omega), e7 (12 * j + 4) (by omega) (by omega), e7 (12 * j + 5) (by omega) (by omega), e7 (12 * j + 6) (by omega) (by omega), e7 (12 * j + 7) (by omega) (by omega), e7 (12 * j + 8) (by omega) (by omega), e7 (12 * j + 9) (by omega) (by omega), e7 (12 * j + 10) (by omega) (by omega)]
        refine ⟨r1, r2, r3, r4, ⟨g4, rfl, by omega, by omega, g1, by omega, fun _ _ => i32_ab _ _, fun h9 => by omega⟩, ⟨rfl, rfl, by omega, fun m hm => by omega, fun m m2 _ hm => by omega⟩⟩
      · simp only [if_neg ht]
        refine st_rd h0 hN hS hL hB hR j ?_ ?_ ?_ ?_ ?_ ?_ ?_ _ ⟨kd, mt, rg, at9, ar, 0, tk, ?_⟩
        · exact fun r h => va_up_ne _ _ (by rcases h with h | ⟨j2, h1, h2⟩ <;> omega)
        · exact fun r _ => rfl
        · exact fun r h => by rw [va_up_ne _ _ (by omega)]
        · exact fun _ _ _ _ => rfl
        · exact fun _ _ _ _ => rfl
        · exact fun _ _ _ _ => rfl
        · exact fun j2 h1 => va_up_ne _ _ h1
        have eI := va_up_self I (11 + 6 * j) (va_up (I (11 + 6 * j)) 12 (nI 0))
        have e10 : (va_up U 10 (va_up (U 10) j (nI 0))) 10 j = nI 0 := va_up_self _ _ _
        unfold rR
        rw [eI, e10]
        exact ⟨r1, r2, r3, r4, r5, ⟨rfl, rfl, by omega, fun m hm => by omega, fun m m2 _ hm => by omega⟩⟩
  · refine ⟨kp, T, ls, rc, fk, 0, 0, 0, lgH_of h0 hN hc, fun h9 => absurd h9 hx, fun h9 => absurd h9 hx, fun cd hcd => st_ic h' (fun hc0 => ?_)⟩
    exact absurd (st_1 hcd hc0) hx
theorem fDone_is {f : Nat → Int32} {a : Nat → Nat} {y tc : Nat} (h : ∀ i, i < tc → f i = nI (a i) ∧ a i < 2 ^ 31) (hy : y < 2 ^ 31) (hm : ∀ i i2, i ≤ i2 → i2 < tc → a i ≤ a i2) : ∀ d i, i + d = tc → (∀ m, m < i → a m ≤ y) → i ≤ fDone f (nI y) d i ∧ fDone f (nI y) d i ≤ tc ∧ ∀ m, m < tc → (m < fDone f (nI y) d i ↔ a m ≤ y)
  | 0, i, hi, hb => by
    show i ≤ i ∧ i ≤ tc ∧ ∀ m, m < tc → (m < i ↔ a m ≤ y)
    exact ⟨Nat.le_refl _, by omega, fun m hm2 => ⟨fun _ => hb m (by omega), fun _ => by omega⟩⟩
  | d + 1, i, hi, hb => by
    have h1 := h i (by omega)
    by_cases hc : a i ≤ y
    · have h2 : f i ≤ nI y := by rw [h1.1]; exact (nI_leI h1.2 hy).2 hc
      have h3 := fDone_is h hy hm d (i + 1) (by omega) (fun m hm2 => by
        rcases Nat.lt_or_eq_of_le (Nat.le_of_lt_succ hm2) with h4 | h4
        · exact hb m h4
        · exact h4 ▸ hc)
      have h4 : fDone f (nI y) (d + 1) i = fDone f (nI y) d (i + 1) := by show (if _ then _ else _) = _; rw [if_pos h2]
      rw [h4]
      exact ⟨by omega, h3.2.1, h3.2.2⟩
    · have h2 : ¬ f i ≤ nI y := by rw [h1.1]; exact fun h9 => hc ((nI_leI h1.2 hy).1 h9)
      have h4 : fDone f (nI y) (d + 1) i = i := by show (if _ then _ else _) = _; rw [if_neg h2]
      rw [h4]
      refine ⟨Nat.le_refl _, by omega, fun m hm2 => ⟨fun h9 => hb m h9, fun h9 => ?_⟩⟩
      rcases Nat.lt_or_ge m i with h5 | h5
      · exact h5
      · have := hm i m h5 hm2
        omega
theorem lgN_from {Z : Nat → Bool} {D : Nat} : ∀ t, (∀ m, m < t → (Z m = true ↔ D ≤ m)) → lgN Z t = t - D
  | 0, _ => by show 0 = 0 - D; omega
  | t + 1, h => by
    have ih := lgN_from t (fun m hm => h m (by omega))
    have h1 := h t (by omega)
    by_cases h2 : D ≤ t
    · rw [lgN_t (h1.2 h2), ih]; omega
    · rw [lgN_f (Bool.eq_false_iff.2 (fun h9 => h2 (h1.1 h9))), ih]; omega
theorem dnA_from {Z : Nat → Bool} {g a : Nat → Int32} {b D : Nat} : ∀ t, (∀ m, m < t → (Z m = true ↔ D ≤ m)) → (∀ e, e < t - D → dnA Z g a b t (b + e) = g (D + e)) ∧ ∀ i, (i < b ∨ b + (t - D) ≤ i) → dnA Z g a b t i = a i
  | 0, _ => ⟨fun e he => by omega, fun i _ => rfl⟩
  | t + 1, h => by
    have ih := dnA_from (g := g) (a := a) (b := b) t (fun m hm => h m (by omega))
    have h0 := lgN_from t (fun m hm => h m (by omega))
    have h1 := h t (by omega)
    by_cases h2 : D ≤ t
    · have h3 : dnA Z g a b (t + 1) = va_up (dnA Z g a b t) (b + (t - D)) (g t) := by
        show (if Z t = true then va_up (dnA Z g a b t) (b + lgN Z t) (g t) else dnA Z g a b t) = _
        rw [if_pos (h1.2 h2), h0]
      rw [h3]
      refine ⟨fun e he => ?_, fun i hi => ?_⟩
      · by_cases h4 : e = t - D
        · subst h4; rw [va_up_self, show D + (t - D) = t by omega]
        · rw [va_up_ne _ _ (by omega)]; exact ih.1 e (by omega)
      · rw [va_up_ne _ _ (by omega)]; exact ih.2 i (by omega)
    · have h3 : dnA Z g a b (t + 1) = dnA Z g a b t := by
        show (if Z t = true then va_up (dnA Z g a b t) (b + lgN Z t) (g t) else dnA Z g a b t) = _
        rw [if_neg (fun h9 => h2 (h1.1 h9))]
      rw [h3]
      exact ⟨fun e he => by omega, fun i hi => ih.2 i (by omega)⟩
theorem st_done {c na : Nat} {I V J U : Nat → Nat → Int32} (h : rel c na I V J U) (hc : c ≤ 512) (x y : Int32) (j : Nat) (hj : j = x.toNatClampNeg) : ∃ kp T ls rc fk tc, ∃ tk : Nat → Nat, lgH I J kp T ls rc fk na ∧ ((0 ≤ x.toInt ∧ x.toInt ≤ ((na : Nat) : Int) - 1) → I (11 + 6 * j) 12 = nI tc ∧ tc ≤ 20) ∧ ((0 ≤ x.toInt ∧ x.toInt ≤ ((na : Nat) : Int) - 1) → (U 10 j = nI tc ∧ tc ≤ 20) ∧ (∀ k, k < tc → U 9 (20 * j + k) = nI (tk k) ∧ tk k < rc)) ∧ ∀ cd, (cd = if ¬ (0 ≤ x.toInt ∧ x.toInt ≤ ((na : Nat) : Int) - 1) ∨ ¬ (0 ≤ y.toInt ∧ y.toInt ≤ ((T : Nat) : Int)) then 1 else 0) → ∀ d, d = fDone (V (11 + 6 * j + 2)) y tc 0 → (cd = 0 → nI d = nI (tc - lgN (fun k => decide (y < U 5 (3 * tk k))) tc)) ∧ rel (c + 1) na (if cd = 0 then va_up I (11 + 6 * j) (va_up (I (11 + 6 * j)) 12 (nI (tc - d))) else I) (if cd = 0 then va_up (va_up V (11 + 6 * j + 1) (va_cpy (V (11 + 6 * j + 1)) (V (11 + 6 * j + 1)) d 0 (tc - d))) (11 + 6 * j + 2) (va_cpy (V (11 + 6 * j + 2)) (V (11 + 6 * j + 2)) d 0 (tc - d)) else V) (va_up J 0 (va_up (J 0) 0 (nI cd))) (if cd = 0 then va_up (va_up U 9 (dnA (fun k => decide (y < U 5 (3 * tk k))) (fun k => nI (tk k)) (U 9) (20 * j) tc)) 10 (va_up (U 10) j (nI (lgN (fun k => decide (y < U 5 (3 * tk k))) tc))) else U) := by
  have h' := h
  obtain ⟨k, q, kp, T, ls, rc, fk, tr, fa, bg, h0, hN, hS, hL, hB, hR⟩ := h
  by_cases hx : 0 ≤ x.toInt ∧ x.toInt ≤ ((na : Nat) : Int) - 1
  · have hjn := st_j hj hx
    obtain ⟨kd, mt, rg, at9, ar, tc, tk, ⟨r1, r2, r3, r4, r5, ⟨f1, f2, f3, f4, f5⟩⟩⟩ := hR j hjn
    refine ⟨kp, T, ls, rc, fk, tc, tk, lgH_of h0 hN hc, fun _ => ⟨f1, f3⟩, fun _ => ⟨⟨f2, f3⟩, fun m hm => ⟨(f4 m hm).2.1, (f4 m hm).2.2.1⟩⟩, fun cd hcd d hd => ?_⟩
    have hT : T ≤ 512 := by have := h0.2.2.2.1; omega
    have hcore : cd = 0 → d ≤ tc ∧ lgN (fun k => decide (y < U 5 (3 * tk k))) tc = tc - d ∧ ∀ m, m < tc → (decide (y < U 5 (3 * tk m)) = true ↔ d ≤ m) := by
      intro hc0
      obtain ⟨_, hy⟩ := st_or (by decide) hcd hc0
      have hy2 := nx_nn hy.1
      have hD := fDone_is (f := V (11 + 6 * j + 2)) (a := fun m => tr (tk m)) (y := y.toNatClampNeg) (tc := tc) (fun i hi => ⟨(f4 i hi).2.2.2.1, by
        have h1 := (f4 i hi).2.2.2.2.1
        have h2 := r5.2.2.2.1
        show tr (tk i) < _
        omega⟩) (by omega) (fun i i2 h1 h2 => by
          rcases Nat.lt_or_eq_of_le h1 with h3 | h3
          · exact hL.2.2 _ _ (Nat.le_of_lt (f5 i i2 h3 h2)) (f4 i2 h2).2.2.1
          · rw [h3]; exact Nat.le_refl _) tc 0 (by omega) (fun m hm => by omega)
      rw [← hy2.1, ← hd] at hD
      have hZ : ∀ m, m < tc → (decide (y < U 5 (3 * tk m)) = true ↔ d ≤ m) := by
        intro m hm
        have h1 := hD.2.2 m hm
        have h2 := hL.1 (tk m) (f4 m hm).2.2.1
        rw [decide_eq_true_eq, h2.2.1, hy2.1, nI_ltI (by omega) (by omega)]
        omega
      exact ⟨hD.2.1, lgN_from tc hZ, hZ⟩
    refine ⟨fun hc0 => ?_, st_ic h' (fun hc0 => ?_)⟩
    · have h1 := hcore hc0
      rw [h1.2.1, show tc - (tc - d) = d by omega]
    · obtain ⟨hd1, hd2, hZ⟩ := hcore hc0
      have hA := dnA_from (g := fun k => nI (tk k)) (a := U 9) (b := 20 * j) tc hZ
      rw [hd2]
      refine st_rd h0 hN hS hL hB hR j ?_ ?_ ?_ ?_ ?_ ?_ ?_ _ ⟨kd, mt, rg, at9, ar, tc - d, fun m => tk (d + m), ?_⟩
      · exact fun r h => va_up_ne _ _ (by rcases h with h | ⟨j2, h1, h2⟩ <;> omega)
      · exact fun r h => by rw [va_up_ne _ _ (by rcases h with h | ⟨j2, k2, h1, h2, h3, h4⟩ <;> omega), va_up_ne _ _ (by rcases h with h | ⟨j2, k2, h1, h2, h3, h4⟩ <;> omega)]
      · exact fun r h => by rw [va_up_ne _ _ (by omega), va_up_ne _ _ (by omega)]
      · exact fun _ _ _ _ => rfl
      · exact fun _ _ _ _ => rfl
      · exact fun j2 k2 h1 h2 => hA.2 (20 * j2 + k2) (by omega)
      · exact fun j2 h1 => va_up_ne _ _ h1
      have eI := va_up_self I (11 + 6 * j) (va_up (I (11 + 6 * j)) 12 (nI (tc - d)))
      have v : ∀ (A B : Nat → Int32) (r : Nat), r ≠ 11 + 6 * j + 1 → r ≠ 11 + 6 * j + 2 → (va_up (va_up V (11 + 6 * j + 1) A) (11 + 6 * j + 2) B) r = V r := fun A B r h1 h2 => by rw [va_up_ne _ _ h2, va_up_ne _ _ h1]
      have v1 : ∀ A B : Nat → Int32, (va_up (va_up V (11 + 6 * j + 1) A) (11 + 6 * j + 2) B) (11 + 6 * j + 1) = A := fun A B => by rw [va_up_ne _ _ (by omega), va_up_self]
      have v2 : ∀ A B : Nat → Int32, (va_up (va_up V (11 + 6 * j + 1) A) (11 + 6 * j + 2) B) (11 + 6 * j + 2) = B := fun A B => va_up_self _ _ _
      have e10 : ∀ (A : Nat → Int32) (x : Int32), (va_up (va_up U 9 A) 10 (va_up (U 10) j x)) 10 j = x := fun _ _ => va_up_self _ _ _
      unfold rR
      rw [eI, v1, v2, v _ _ (11 + 6 * j + 3) (by omega) (by omega), v _ _ (11 + 6 * j + 4) (by omega) (by omega), v _ _ (11 + 6 * j + 5) (by omega) (by omega), e10]
      refine ⟨r1, r2, r3, r4, r5, ⟨rfl, rfl, by omega, fun m hm => ?_, fun m m2 h1 h2 => f5 _ _ (by omega) (by omega)⟩⟩
      have h1 := f4 (d + m) (by omega)
      have h2 : ∀ F : Nat → Int32, va_cpy F F d 0 (tc - d) m = F (d + m) := fun F => by
        show (if 0 ≤ m ∧ m < 0 + (tc - d) then F (d + (m - 0)) else F m) = _
        rw [if_pos (by omega), Nat.sub_zero]
      rw [h2, h2]
      exact ⟨h1.1, hA.1 m hm, h1.2.2⟩
  · refine ⟨kp, T, ls, rc, fk, 0, fun _ => 0, lgH_of h0 hN hc, fun h9 => absurd h9 hx, fun h9 => absurd h9 hx, fun cd hcd d hd => ⟨fun hc0 => ?_, st_ic h' (fun hc0 => ?_)⟩⟩
    · exact absurd (st_or (by decide) hcd hc0).1 hx
    · exact absurd (st_or (by decide) hcd hc0).1 hx
