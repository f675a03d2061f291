/-- a call that changes one reader's numbers -/
theorem st_rd {c na k q kp T ls rc fk : Nat} {tr fa bg : Nat → Nat} {I V J U I' V' U' : Nat → Nat → Int32} (h0 : r0 c k q kp T ls rc fk na) (hN : rN I J k q kp T ls rc fk na) (hS : rS V U k q) (hL : rL V U k T rc tr fa) (hB : rB U T ls rc fk tr bg) (hR : ∀ j, j < na → ∃ (kd mt rg at9 ar tc : Nat) (tk : Nat → Nat), rR I V U T ls rc tr j kd mt rg at9 ar tc tk) (j0 : Nat)
    (hI : ∀ r, (r < 11 ∨ ∃ j, j ≠ j0 ∧ r = 11 + 6 * j) → I' r = I r) (hV : ∀ r, (r < 11 ∨ ∃ j k, j ≠ j0 ∧ 1 ≤ k ∧ k ≤ 5 ∧ r = 11 + 6 * j + k) → V' r = V r) (hU : ∀ r, r < 7 → U' r = U r) (h7 : ∀ j k, j ≠ j0 → k < 12 → U' 7 (12 * j + k) = U 7 (12 * j + k)) (h8 : ∀ j k, j ≠ j0 → k < 120 → U' 8 (120 * j + k) = U 8 (120 * j + k)) (h9 : ∀ j k, j ≠ j0 → k < 20 → U' 9 (20 * j + k) = U 9 (20 * j + k)) (h10 : ∀ j, j ≠ j0 → U' 10 j = U 10 j) (x : Int32)
    (hj : ∃ (kd mt rg at9 ar tc : Nat) (tk : Nat → Nat), rR I' V' U' T ls rc tr j0 kd mt rg at9 ar tc tk) : rel (c + 1) na I' V' (va_up J 0 (va_up (J 0) 0 x)) U' := by
  obtain ⟨a1, a2, a3, a4, a5, a6, a7, a8⟩ := h0
  refine ⟨k, q, kp, T, ls, rc, fk, tr, fa, bg, ⟨a1, a2, a3, by omega, a5, by omega, a7, a8⟩, ?_, ?_, ?_, ?_, fun j hj2 => ?_⟩
  · unfold rN
    rw [hI 0 (Or.inl (by decide)), hI 1 (Or.inl (by decide)), hI 6 (Or.inl (by decide))]
    exact hN
  · unfold rS
    rw [hV 2 (Or.inl (by decide)), hV 3 (Or.inl (by decide)), hV 4 (Or.inl (by decide)), hV 5 (Or.inl (by decide)), hU 1 (by decide), hU 2 (by decide), hU 3 (by decide), hU 4 (by decide)]
    exact hS
  · unfold rL
    rw [hV 7 (Or.inl (by decide)), hV 8 (Or.inl (by decide)), hV 9 (Or.inl (by decide)), hU 5 (by decide)]
    exact hL
  · unfold rB
    rw [hU 6 (by decide)]
    exact hB
  · by_cases h : j = j0
    · subst h; exact hj
    · obtain ⟨kd, mt, rg, at9, ar, tc, tk, hr⟩ := hR j hj2
      exact ⟨kd, mt, rg, at9, ar, tc, tk, rR_fr hr (hI _ (Or.inr ⟨j, h, rfl⟩)) (fun k h1 h2 => hV _ (Or.inr ⟨j, k, h, h1, h2, rfl⟩)) (fun k hk => h7 j k h hk) (fun k hk => h8 j k h hk) (fun k hk => h9 j k h hk) (h10 j h) (hU 6 (by decide))⟩
theorem st_j {x : Int32} {na j : Nat} (hj : j = x.toNatClampNeg) (h : 0 ≤ x.toInt ∧ x.toInt ≤ ((na : Nat) : Int) - 1) : j < na := by
  have h7 := (nx_nn h.1).2
  omega
theorem st_or {P Q : Prop} [Decidable P] [Decidable Q] {cd a : Nat} (ha : 0 < a) (h : cd = if ¬ P ∨ ¬ Q then a else 0) (h0 : cd = 0) : P ∧ Q := by
  rw [h0] at h
  split at h
  · omega
  · rename_i h9
    have h8 := not_or.1 h9
    exact ⟨Decidable.not_not.1 h8.1, Decidable.not_not.1 h8.2⟩
theorem st_or2 {P Q Y : Prop} [Decidable P] [Decidable Q] [Decidable Y] {cd : Nat} (h : cd = if ¬ P ∨ ¬ Q then 1 else if Y then 2 else 0) (h0 : cd = 0) : P ∧ Q ∧ ¬ Y := by
  rw [h0] at h
  split at h
  · omega
  · rename_i h9
    have h8 := not_or.1 h9
    split at h
    · omega
    · rename_i h7
      exact ⟨Decidable.not_not.1 h8.1, Decidable.not_not.1 h8.2, h7⟩
theorem st_1 {P : Prop} [Decidable P] {cd : Nat} (h : cd = if ¬ P then 1 else 0) (h0 : cd = 0) : P := by
  rw [h0] at h
  split at h
  · omega
  · rename_i h9
    exact Decidable.not_not.1 h9
theorem st_filter {c na : Nat} {I V J U : Nat → Nat → Int32} (h : rel c na I V J U) (x y z : Int32) (j : Nat) (hj : j = x.toNatClampNeg) : (I 0 3 = nI na ∧ J 0 13 = nI na ∧ na ≤ 6) ∧ ∀ cd, (cd = if ¬ (0 ≤ x.toInt ∧ x.toInt ≤ ((na : Nat) : Int) - 1) ∨ ¬ (0 ≤ y.toInt ∧ y.toInt ≤ 4) then 1 else 0) → rel (c + 1) na (if cd = 0 then va_up I (11 + 6 * j) (va_up (va_up (I (11 + 6 * j)) 9 y) 10 z) else I) (if cd = 0 then V else V) (va_up J 0 (va_up (J 0) 0 (nI cd))) (if cd = 0 then va_up U 7 (va_up (va_up (U 7) (12 * j + 4) y) (12 * j + 5) z) else U) := by
  have h' := h
  obtain ⟨k, q, kp, T, ls, rc, fk, tr, fa, bg, h0, hN, hS, hL, hB, hR⟩ := h
  refine ⟨⟨hN.2.2.2.2.2.2.2.1, hN.2.2.2.2.2.2.2.2, h0.2.2.2.2.2.2.2⟩, fun cd hcd => st_ic h' (fun hc0 => ?_)⟩
  obtain ⟨hx, hy⟩ := st_or (by decide) hcd hc0
  have hy2 := nx_nn hy.1
  have hjn := st_j hj hx
  obtain ⟨kd, mt, rg, at9, ar, tc, tk, ⟨r1, r2, r3, r4, r5, r6⟩⟩ := hR j hjn
  refine st_rd h0 hN hS hL hB hR j ?_ ?_ ?_ ?_ ?_ ?_ ?_ _ ⟨y.toNatClampNeg, mt, rg, at9, ar, tc, tk, ?_⟩
  · exact fun r h => va_up_ne _ _ (by rcases h with h | ⟨j2, h1, h2⟩ <;> omega)
  · exact fun r _ => rfl
  · exact fun r h => va_up_ne _ _ (by omega)
  · exact fun j2 k2 h1 h2 => by show va_up _ _ _ _ = _; rw [va_up_ne _ _ (by omega), va_up_ne _ _ (by omega)]
  · exact fun _ _ _ _ => rfl
  · exact fun _ _ _ _ => rfl
  · exact fun _ _ => rfl
  have eI := va_up_self I (11 + 6 * j) (va_up (va_up (I (11 + 6 * j)) 9 y) 10 z)
  have e7 : ∀ m, m ≠ 12 * j + 4 → m ≠ 12 * j + 5 → (va_up U 7 (va_up (va_up (U 7) (12 * j + 4) y) (12 * j + 5) z)) 7 m = U 7 m := fun m h1 h2 => by show va_up _ _ _ _ = _; rw [va_up_ne _ _ h2, va_up_ne _ _ h1]
  have e74 : (va_up U 7 (va_up (va_up (U 7) (12 * j + 4) y) (12 * j + 5) z)) 7 (12 * j + 4) = y := by show va_up _ _ _ _ = _; rw [va_up_ne _ _ (by omega), va_up_self]
  have e75 : (va_up U 7 (va_up (va_up (U 7) (12 * j + 4) y) (12 * j + 5) z)) 7 (12 * j + 5) = z := va_up_self _ _ _
  unfold rR
  rw [eI, e74, e75, e7 (12 * j) (by omega) (by omega), e7 (12 * j + 1) (by omega) (by omega), e7 (12 * j + 2) (by omega) (by omega), e7 (12 * j + 3) (by omega) (by omega), e7 (12 * j + 6) (by omega) (by omega), e7 (12 * j + 7) (by omega) (by omega), e7 (12 * j + 8) (by omega) (by omega), e7 (12 * j + 9) (by omega) (by omega), e7 (12 * j + 10) (by omega) (by omega)]
  exact ⟨⟨r1.1, r1.2.1, rfl, r1.2.2.2⟩, ⟨hy2.1, hy2.1, by omega⟩, r3, r4, r5, r6⟩
theorem st_throttle {c na : Nat} {I V J U : Nat → Nat → Int32} (h : rel c na I V J U) (x y : Int32) (j : Nat) (hj : j = x.toNatClampNeg) : (I 0 3 = nI na ∧ J 0 13 = nI na ∧ na ≤ 6) ∧ ∀ cd, (cd = if ¬ (0 ≤ x.toInt ∧ x.toInt ≤ ((na : Nat) : Int) - 1) ∨ ¬ (1 ≤ y.toInt ∧ y.toInt ≤ 20) then 1 else 0) → (cd = 0 → I (11 + 6 * j) 11 = U 7 (12 * j + 6)) ∧ rel (c + 1) na (if cd = 0 then va_up I (11 + 6 * j) (va_up (I (11 + 6 * j)) 11 y) else I) (if cd = 0 then V else V) (va_up J 0 (va_up (J 0) 0 (nI cd))) (if cd = 0 then va_up U 7 (va_up (U 7) (12 * j + 6) y) else U) := by
  have h' := h
  obtain ⟨k, q, kp, T, ls, rc, fk, tr, fa, bg, h0, hN, hS, hL, hB, hR⟩ := h
  refine ⟨⟨hN.2.2.2.2.2.2.2.1, hN.2.2.2.2.2.2.2.2, h0.2.2.2.2.2.2.2⟩, fun cd hcd => ⟨fun hc0 => ?_, st_ic h' (fun hc0 => ?_)⟩⟩
  · obtain ⟨hx, hy⟩ := st_or (by decide) hcd hc0
    obtain ⟨kd, mt, rg, at9, ar, tc, tk, ⟨r1, r2, r3, r4, r5, r6⟩⟩ := hR j (st_j hj hx)
    rw [r3.1, r3.2.1]
  obtain ⟨hx, hy⟩ := st_or (by decide) hcd hc0
  have hy2 := nx_nn (x := y) (by omega)
  have hjn := st_j hj hx
  obtain ⟨kd, mt, rg, at9, ar, tc, tk, ⟨r1, r2, r3, r4, r5, r6⟩⟩ := hR j hjn
  refine st_rd h0 hN hS hL hB hR j ?_ ?_ ?_ ?_ ?_ ?_ ?_ _ ⟨kd, y.toNatClampNeg, rg, at9, ar, tc, tk, ?_⟩
  · exact fun r h => va_up_ne _ _ (by rcases h with h | ⟨j2, h1, h2⟩ <;> omega)
  · exact fun r _ => rfl
  · exact fun r h => va_up_ne _ _ (by omega)
  · exact fun j2 k2 h1 h2 => by show va_up _ _ _ _ = _; rw [va_up_ne _ _ (by omega)]
  · exact fun _ _ _ _ => rfl
  · exact fun _ _ _ _ => rfl
  · exact fun _ _ => rfl
  have eI := va_up_self I (11 + 6 * j) (va_up (I (11 + 6 * j)) 11 y)
  have e7 : ∀ m, m ≠ 12 * j + 6 → (va_up U 7 (va_up (U 7) (12 * j + 6) y)) 7 m = U 7 m := fun m h1 => by show va_up _ _ _ _ = _; rw [va_up_ne _ _ h1]
  have e76 : (va_up U 7 (va_up (U 7) (12 * j + 6) y)) 7 (12 * j + 6) = y := va_up_self _ _ _
  unfold rR
  rw [eI, e76, e7 (12 * j) (by omega), e7 (12 * j + 1) (by omega), e7 (12 * j + 2) (by omega), e7 (12 * j + 3) (by omega), e7 (12 * j + 4) (by omega), e7 (12 * j + 5) (by omega), e7 (12 * j + 7) (by omega), e7 (12 * j + 8) (by omega), e7 (12 * j + 9) (by omega), e7 (12 * j + 10) (by omega)]
  exact ⟨r1, r2, ⟨hy2.1, hy2.1, by omega⟩, r4, r5, r6⟩
theorem st_about {c na : Nat} {I V J U : Nat → Nat → Int32} (h : rel c na I V J U) (x y : Int32) (j v : Nat) (hj : j = x.toNatClampNeg) (hv : v = y.toNatClampNeg) : (I 0 3 = nI na ∧ J 0 13 = nI na ∧ na ≤ 6) ∧ ∀ cd, (cd = if ¬ (0 ≤ x.toInt ∧ x.toInt ≤ ((na : Nat) : Int) - 1) ∨ ¬ (0 ≤ y.toInt ∧ y.toInt ≤ 4) then 1 else 0) → cd = 0 → abt (I (11 + 6 * j)) v = abm (U 7) (U 10 j) (12 * j) v := by
  obtain ⟨k, q, kp, T, ls, rc, fk, tr, fa, bg, h0, hN, hS, hL, hB, hR⟩ := h
  refine ⟨⟨hN.2.2.2.2.2.2.2.1, hN.2.2.2.2.2.2.2.2, h0.2.2.2.2.2.2.2⟩, fun cd hcd hc0 => ?_⟩
  obtain ⟨hx, hy⟩ := st_or (by decide) hcd hc0
  obtain ⟨kd, mt, rg, at9, ar, tc, tk, ⟨r1, r2, r3, r4, r5, r6⟩⟩ := hR j (st_j hj hx)
  unfold abt abm
  rw [r6.1, r6.2.1, r5.1, r5.2.1, r1.2.2.2.1, r1.2.2.2.2.1, r1.2.2.2.2.2]
theorem st_right {c na : Nat} {I V J U : Nat → Nat → Int32} (h : rel c na I V J U) (hc : c ≤ 512) (x y b : Int32) (hb01 : b = 0 ∨ b = 1) (j f : Nat) (hj : j = x.toNatClampNeg) (hf : f = y.toNatClampNeg) : ∃ k kp T ls rc fk rg, (I 1 4 = nI k ∧ J 0 1 = nI k ∧ k ≤ 100) ∧ lgH I J kp T ls rc fk na ∧ ((0 ≤ x.toInt ∧ x.toInt ≤ ((na : Nat) : Int) - 1) → I (11 + 6 * j) 13 = nI rg ∧ rg ≤ 40) ∧ ((0 ≤ x.toInt ∧ x.toInt ≤ ((na : Nat) : Int) - 1) → U 7 (12 * j + 7) = nI rg ∧ rg ≤ 40) ∧ ∀ cd, (cd = if ¬ (0 ≤ x.toInt ∧ x.toInt ≤ ((na : Nat) : Int) - 1) ∨ ¬ (0 ≤ y.toInt ∧ y.toInt ≤ ((k : Nat) : Int) - 1) then 1 else if rg = 40 then 2 else 0) → rel (c + 1) na (if cd = 0 then va_up I (11 + 6 * j) (va_up (I (11 + 6 * j)) 13 (nI (rg + 1))) else I) (if cd = 0 then va_up (va_up (va_up V (11 + 6 * j + 3) (va_up (V (11 + 6 * j + 3)) rg (nI f))) (11 + 6 * j + 5) (va_up (V (11 + 6 * j + 5)) rg b)) (11 + 6 * j + 4) (va_up (V (11 + 6 * j + 4)) rg (nI (T + 1))) else V) (va_up J 0 (va_up (J 0) 0 (nI cd))) (if cd = 0 then va_up (va_up U 8 (va_up (va_up (va_up (U 8) (3 * (40 * j + rg)) (nI f)) (3 * (40 * j + rg) + 1) (nI (T + 1))) (3 * (40 * j + rg) + 2) b)) 7 (va_up (U 7) (12 * j + 7) (nI (rg + 1))) else U) := by
  have h' := h
  obtain ⟨k, q, kp, T, ls, rc, fk, tr, fa, bg, h0, hN, hS, hL, hB, hR⟩ := h
  by_cases hx : 0 ≤ x.toInt ∧ x.toInt ≤ ((na : Nat) : Int) - 1
  · have hjn := st_j hj hx
    obtain ⟨kd, mt, rg, at9, ar, tc, tk, ⟨r1, r2, r3, ⟨d1, d2, d3, d4, d5⟩, r5, r6⟩⟩ := hR j hjn
    refine ⟨k, kp, T, ls, rc, fk, rg, ⟨hN.1.1, hN.1.2, h0.1⟩, lgH_of h0 hN hc, fun _ => ⟨d1, d3⟩, fun _ => ⟨d2, d3⟩, fun cd hcd => st_ic h' (fun hc0 => ?_)⟩
    obtain ⟨_, hy, hrg⟩ := st_or2 hcd hc0
    have hf9 := st_j hf hy
    refine st_rd h0 hN hS hL hB hR j ?_ ?_ ?_ ?_ ?_ ?_ ?_ _ ⟨kd, mt, rg + 1, at9, ar, tc, tk, ?_⟩
    · exact fun r h => va_up_ne _ _ (by rcases h with h | ⟨j2, h1, h2⟩ <;> omega)
    · exact fun r h => by rw [va_up_ne _ _ (by rcases h with h | ⟨j2, k2, h1, h2, h3, h4⟩ <;> omega), va_up_ne _ _ (by rcases h with h | ⟨j2, k2, h1, h2, h3, h4⟩ <;> omega), va_up_ne _ _ (by rcases h with h | ⟨j2, k2, h1, h2, h3, h4⟩ <;> omega)]
    · exact fun r h => by rw [va_up_ne _ _ (by omega), va_up_ne _ _ (by omega)]
    · exact fun j2 k2 h1 h2 => by show va_up _ _ _ _ = _; rw [va_up_ne _ _ (by omega)]
    · exact fun j2 k2 h1 h2 => by show va_up _ _ _ _ = _; rw [va_up_ne _ _ (by omega), va_up_ne _ _ (by omega), va_up_ne _ _ (by omega)]
    · exact fun _ _ _ _ => rfl
    · exact fun _ _ => rfl
    have eI := va_up_self I (11 + 6 * j) (va_up (I (11 + 6 * j)) 13 (nI (rg + 1)))
    have e7 : ∀ m, m ≠ 12 * j + 7 → (va_up (va_up U 8 (va_up (va_up (va_up (U 8) (3 * (40 * j + rg)) (nI f)) (3 * (40 * j + rg) + 1) (nI (T + 1))) (3 * (40 * j + rg) + 2) b)) 7 (va_up (U 7) (12 * j + 7) (nI (rg + 1)))) 7 m = U 7 m := fun m h1 => by show va_up _ _ _ _ = _; rw [va_up_ne _ _ h1]
    have e77 : (va_up (va_up U 8 (va_up (va_up (va_up (U 8) (3 * (40 * j + rg)) (nI f)) (3 * (40 * j + rg) + 1) (nI (T + 1))) (3 * (40 * j + rg) + 2) b)) 7 (va_up (U 7) (12 * j + 7) (nI (rg + 1)))) 7 (12 * j + 7) = nI (rg + 1) := va_up_self _ _ _
    have v3 : (va_up (va_up (va_up V (11 + 6 * j + 3) (va_up (V (11 + 6 * j + 3)) rg (nI f))) (11 + 6 * j + 5) (va_up (V (11 + 6 * j + 5)) rg b)) (11 + 6 * j + 4) (va_up (V (11 + 6 * j + 4)) rg (nI (T + 1)))) (11 + 6 * j + 3) = va_up (V (11 + 6 * j + 3)) rg (nI f) := by rw [va_up_ne _ _ (by omega), va_up_ne _ _ (by omega), va_up_self]
    have v5 : (va_up (va_up (va_up V (11 + 6 * j + 3) (va_up (V (11 + 6 * j + 3)) rg (nI f))) (11 + 6 * j + 5) (va_up (V (11 + 6 * j + 5)) rg b)) (11 + 6 * j + 4) (va_up (V (11 + 6 * j + 4)) rg (nI (T + 1)))) (11 + 6 * j + 5) = va_up (V (11 + 6 * j + 5)) rg b := by rw [va_up_ne _ _ (by omega), va_up_self]
    have v4 : (va_up (va_up (va_up V (11 + 6 * j + 3) (va_up (V (11 + 6 * j + 3)) rg (nI f))) (11 + 6 * j + 5) (va_up (V (11 + 6 * j + 5)) rg b)) (11 + 6 * j + 4) (va_up (V (11 + 6 * j + 4)) rg (nI (T + 1)))) (11 + 6 * j + 4) = va_up (V (11 + 6 * j + 4)) rg (nI (T + 1)) := va_up_self _ _ _
    have v1 : (va_up (va_up (va_up V (11 + 6 * j + 3) (va_up (V (11 + 6 * j + 3)) rg (nI f))) (11 + 6 * j + 5) (va_up (V (11 + 6 * j + 5)) rg b)) (11 + 6 * j + 4) (va_up (V (11 + 6 * j + 4)) rg (nI (T + 1)))) (11 + 6 * j + 1) = V (11 + 6 * j + 1) := by rw [va_up_ne _ _ (by omega), va_up_ne _ _ (by omega), va_up_ne _ _ (by omega)]
    have v2 : (va_up (va_up (va_up V (11 + 6 * j + 3) (va_up (V (11 + 6 * j + 3)) rg (nI f))) (11 + 6 * j + 5) (va_up (V (11 + 6 * j + 5)) rg b)) (11 + 6 * j + 4) (va_up (V (11 + 6 * j + 4)) rg (nI (T + 1)))) (11 + 6 * j + 2) = V (11 + 6 * j + 2) := by rw [va_up_ne _ _ (by omega), va_up_ne _ _ (by omega), va_up_ne _ _ (by omega)]
    unfold rR
    rw [eI, v1, v2, v3, v4, v5, e77, e7 (12 * j) (by omega), e7 (12 * j + 1) (by omega), e7 (12 * j + 2) (by omega), e7 (12 * j + 3) (by omega), e7 (12 * j + 4) (by omega), e7 (12 * j + 5) (by omega), e7 (12 * j + 6) (by omega), e7 (12 * j + 8) (by omega), e7 (12 * j + 9) (by omega), e7 (12 * j + 10) (by omega)]
    refine ⟨r1, r2, r3, ⟨rfl, rfl, by omega, fun m hm => ?_, fun m => ?_⟩, r5, r6⟩
    · show va_up (V (11 + 6 * j + 3)) rg (nI f) m = va_up (va_up (va_up (U 8) (3 * (40 * j + rg)) (nI f)) (3 * (40 * j + rg) + 1) (nI (T + 1))) (3 * (40 * j + rg) + 2) b (3 * (40 * j + m)) ∧ va_up (V (11 + 6 * j + 4)) rg (nI (T + 1)) m = va_up (va_up (va_up (U 8) (3 * (40 * j + rg)) (nI f)) (3 * (40 * j + rg) + 1) (nI (T + 1))) (3 * (40 * j + rg) + 2) b (3 * (40 * j + m) + 1) ∧ va_up (V (11 + 6 * j + 5)) rg b m = va_up (va_up (va_up (U 8) (3 * (40 * j + rg)) (nI f)) (3 * (40 * j + rg) + 1) (nI (T + 1))) (3 * (40 * j + rg) + 2) b (3 * (40 * j + m) + 2)
      by_cases h5 : m = rg
      · subst h5
        rw [va_up_self, va_up_self, va_up_self, va_up_self]
        refine ⟨?_, ?_, rfl⟩
        · rw [va_up_ne _ _ (by omega), va_up_ne _ _ (by omega), va_up_self]
        · rw [va_up_ne _ _ (by omega), va_up_self]
      · rw [va_up_ne _ _ h5, va_up_ne _ _ h5, va_up_ne _ _ h5]
        have h6 := d4 m (by omega)
        refine ⟨?_, ?_, ?_⟩
        · rw [va_up_ne _ _ (by omega), va_up_ne _ _ (by omega), va_up_ne _ _ (by omega)]; exact h6.1
        · rw [va_up_ne _ _ (by omega), va_up_ne _ _ (by omega), va_up_ne _ _ (by omega)]; exact h6.2.1
        · rw [va_up_ne _ _ (by omega), va_up_ne _ _ (by omega), va_up_ne _ _ (by omega)]; exact h6.2.2
    · show va_up (V (11 + 6 * j + 5)) rg b m = 0 ∨ va_up (V (11 + 6 * j + 5)) rg b m = 1
      by_cases h5 : m = rg
      · subst h5; rw [va_up_self]; exact hb01
      · rw [va_up_ne _ _ h5]; exact d5 m
  · refine ⟨k, kp, T, ls, rc, fk, 0, ⟨hN.1.1, hN.1.2, h0.1⟩, lgH_of h0 hN hc, fun h9 => absurd h9 hx, fun h9 => absurd h9 hx, fun cd hcd => st_ic h' (fun hc0 => ?_)⟩
    exact absurd (st_or2 hcd hc0).1 hx
