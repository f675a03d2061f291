theorem vExt_lt {V : Nat → Nat → Int32} {n r : Nat} (h : r < n) : vExt V n r = V r := by simp [vExt, h]
theorem vExt_ge {V : Nat → Nat → Int32} {n r : Nat} (h : n ≤ r) : vExt V n r = fun _ => 0 := by simp [vExt, Nat.not_lt.2 h]
theorem st_or3 {P Q S Y : Prop} [Decidable P] [Decidable Q] [Decidable S] [Decidable Y] {cd : Nat} (h : cd = if ¬ P ∨ ¬ Q ∨ ¬ S then 1 else if Y then 2 else 0) (h0 : cd = 0) : P ∧ ¬ Y := by
  rw [h0] at h
  split at h
  · omega
  · rename_i h9
    have h8 := not_or.1 h9
    split at h
    · omega
    · rename_i h7
      exact ⟨Decidable.not_not.1 h8.1, h7⟩
theorem st_reader {c na : Nat} {I V J U : Nat → Nat → Int32} (h : rel c na I V J U) (hc : c ≤ 512) (x y z : Int32) (n : Nat) (hn : n = 11 + 6 * na) : ∃ kp T ls rc fk, lgH I J kp T ls rc fk na ∧ ∀ cd, (cd = if ¬ (1 ≤ x.toInt ∧ x.toInt ≤ ((T + 1 : Nat) : Int)) ∨ ¬ (-1 ≤ y.toInt ∧ y.toInt ≤ 7) ∨ ¬ (-1 ≤ z.toInt ∧ z.toInt ≤ 15) then 1 else if na = 6 then 2 else 0) → cd = 0 → rel (c + 1) (na + 1) (va_up (va_up (va_up I n (rdF y z)) n (va_up (va_up ((va_up I n (rdF y z)) n) 7 x) 8 (nI (fRow (vExt V n 7) x (rc - fk) fk)))) 0 (va_up ((va_up I n (rdF y z)) 0) 3 (nI (na + 1)))) (vExt V n) (va_up J 0 (va_up (va_up (J 0) 0 (nI 0)) 13 (nI (na + 1)))) (va_up (va_up U 7 (va_up (va_up (va_up (va_up (zr (U 7) (12 * na) 12) (12 * na) x) (12 * na + 2) y) (12 * na + 3) z) (12 * na + 6) (nI 5))) 10 (va_up (U 10) na (nI 0))) := by
  obtain ⟨k, q, kp, T, ls, rc, fk, tr, fa, bg, h0, hN, ⟨s1, s2, s3, s4, s5, s6, s7, s8⟩, ⟨l1, l2, l3⟩, ⟨b1, b2⟩, hR⟩ := h
  refine ⟨kp, T, ls, rc, fk, lgH_of h0 hN hc, fun cd hcd hc0 => ?_⟩
  obtain ⟨a1, a2, a3, a4, a5, a6, a7, a8⟩ := h0
  obtain ⟨n1, n2, n3, n4, n5, n6, n7, n8⟩ := hN
  obtain ⟨hx, hna⟩ := st_or3 hcd hc0
  have hx2 := nx_nn (x := x) (by omega)
  have eV7 : vExt V n 7 = V 7 := vExt_lt (by omega)
  have hF := fRow_is (f := V 7) (tr := tr) (t := x.toNatClampNeg) (rc := rc) (fun i hi => ⟨(l1 i hi).1, by have := (l1 i hi).2.2.2.2.2.1; omega⟩) (by omega) l3 (rc - fk) fk (by omega)
  rw [eV7]
  have eI0 : ∀ F2 F3 : Nat → Int32, (va_up (va_up (va_up I n (rdF y z)) n F2) 0 F3) 0 = F3 := fun _ _ => va_up_self _ _ _
  have eIn : ∀ F2 F3 : Nat → Int32, (va_up (va_up (va_up I n (rdF y z)) n F2) 0 F3) n = F2 := fun F2 F3 => by rw [va_up_ne _ _ (by omega), va_up_self]
  have eIr : ∀ (F2 F3 : Nat → Int32) (r : Nat), r ≠ 0 → r ≠ n → (va_up (va_up (va_up I n (rdF y z)) n F2) 0 F3) r = I r := fun F2 F3 r h1 h2 => by rw [va_up_ne _ _ h1, va_up_ne _ _ h2, va_up_ne _ _ h2]
  have e0 : (va_up I n (rdF y z)) 0 = I 0 := va_up_ne _ _ (by omega)
  have en : (va_up I n (rdF y z)) n = rdF y z := va_up_self _ _ _
  have eU : ∀ m, (m < 12 * na ∨ 12 * na + 12 ≤ m) → (va_up (va_up (va_up (va_up (zr (U 7) (12 * na) 12) (12 * na) x) (12 * na + 2) y) (12 * na + 3) z) (12 * na + 6) (nI 5)) m = U 7 m := fun m hm => by
    rw [va_up_ne _ _ (by omega), va_up_ne _ _ (by omega), va_up_ne _ _ (by omega), va_up_ne _ _ (by omega)]
    show (if 12 * na ≤ m ∧ m < 12 * na + 12 then nI 0 else U 7 m) = U 7 m
    rw [if_neg (by omega)]
  have eZ : ∀ m, m < 12 → m ≠ 0 → m ≠ 2 → m ≠ 3 → m ≠ 6 → (va_up (va_up (va_up (va_up (zr (U 7) (12 * na) 12) (12 * na) x) (12 * na + 2) y) (12 * na + 3) z) (12 * na + 6) (nI 5)) (12 * na + m) = nI 0 := fun m hm h1 h2 h3 h4 => by
    rw [va_up_ne _ _ (by omega), va_up_ne _ _ (by omega), va_up_ne _ _ (by omega), va_up_ne _ _ (by omega)]
    show (if 12 * na ≤ 12 * na + m ∧ 12 * na + m < 12 * na + 12 then nI 0 else U 7 (12 * na + m)) = nI 0
    rw [if_pos (by omega)]
  have eA : (va_up (va_up (va_up (va_up (zr (U 7) (12 * na) 12) (12 * na) x) (12 * na + 2) y) (12 * na + 3) z) (12 * na + 6) (nI 5)) (12 * na) = x := by
    rw [va_up_ne _ _ (by omega), va_up_ne _ _ (by omega), va_up_ne _ _ (by omega), va_up_self]
  have eB : (va_up (va_up (va_up (va_up (zr (U 7) (12 * na) 12) (12 * na) x) (12 * na + 2) y) (12 * na + 3) z) (12 * na + 6) (nI 5)) (12 * na + 2) = y := by
    rw [va_up_ne _ _ (by omega), va_up_ne _ _ (by omega), va_up_self]
  have eC : (va_up (va_up (va_up (va_up (zr (U 7) (12 * na) 12) (12 * na) x) (12 * na + 2) y) (12 * na + 3) z) (12 * na + 6) (nI 5)) (12 * na + 3) = z := by
    rw [va_up_ne _ _ (by omega), va_up_self]
  have eD : (va_up (va_up (va_up (va_up (zr (U 7) (12 * na) 12) (12 * na) x) (12 * na + 2) y) (12 * na + 3) z) (12 * na + 6) (nI 5)) (12 * na + 6) = nI 5 := va_up_self _ _ _
  generalize (va_up (va_up (va_up (va_up (zr (U 7) (12 * na) 12) (12 * na) x) (12 * na + 2) y) (12 * na + 3) z) (12 * na + 6) (nI 5)) = G at eU eZ eA eB eC eD ⊢
  refine ⟨k, q, kp, T, ls, rc, fk, tr, fa, bg, ⟨a1, a2, a3, by omega, a5, by omega, a7, by omega⟩, ?_, ?_, ?_, ⟨b1, b2⟩, fun j hj => ?_⟩
  · unfold rN
    rw [eI0, eIr _ _ 1 (by decide) (by omega), eIr _ _ 6 (by decide) (by omega)]
    exact ⟨n1, n2, n3, n4, n5, n6, n7, ⟨rfl, rfl⟩⟩
  · unfold rS
    rw [vExt_lt (show 2 < n by omega), vExt_lt (show 3 < n by omega), vExt_lt (show 4 < n by omega), vExt_lt (show 5 < n by omega)]
    exact ⟨s1, s2, s3, s4, s5, s6, s7, s8⟩
  · unfold rL
    rw [vExt_lt (show 7 < n by omega), vExt_lt (show 8 < n by omega), vExt_lt (show 9 < n by omega)]
    exact ⟨l1, l2, l3⟩
  · by_cases hjn : j = na
    · subst hjn
      refine ⟨0, 5, 0, x.toNatClampNeg, fRow (V 7) x (rc - fk) fk, 0, fun _ => 0, ?_⟩
      have g7 : ∀ m, (va_up (va_up U 7 G) 10 (va_up (U 10) j (nI 0))) 7 m = G m := fun _ => rfl
      have g10 : (va_up (va_up U 7 G) 10 (va_up (U 10) j (nI 0))) 10 j = nI 0 := va_up_self _ _ _
      have v5 : vExt V n (11 + 6 * j + 5) = fun _ => 0 := vExt_ge (by omega)
      unfold rR
      rw [← hn] at v5 ⊢
      rw [eIn, en, v5, g10, g7, g7, g7, g7, g7, g7, g7, g7, g7, g7, g7, eA, eB, eC, eD, eZ 1 (by decide) (by decide) (by decide) (by decide) (by decide), eZ 4 (by decide) (by decide) (by decide) (by decide) (by decide), eZ 5 (by decide) (by decide) (by decide) (by decide) (by decide), eZ 7 (by decide) (by decide) (by decide) (by decide) (by decide), eZ 8 (by decide) (by decide) (by decide) (by decide) (by decide), eZ 9 (by decide) (by decide) (by decide) (by decide) (by decide), eZ 10 (by decide) (by decide) (by decide) (by decide) (by decide)]
      have hb : ls ≤ x.toNatClampNeg → fRow (V 7) x (rc - fk) fk ≤ rc ∧ ∀ m, m < rc → (m < fRow (V 7) x (rc - fk) fk ↔ tr m < x.toNatClampNeg) := by
        intro h9
        have h1 := hF (fun m hm => by have := (b2 m (by omega)).1 hm; omega)
        rw [← hx2.1] at h1
        exact h1.2
      have hle : fRow (V 7) x (rc - fk) fk ≤ rc := by
        have h1 := fRow_in (V 7) x (rc - fk) fk
        omega
      refine ⟨⟨rfl, rfl, rfl, rfl, rfl, rfl⟩, ⟨rfl, rfl, by omega⟩, ⟨rfl, rfl, by omega⟩, ⟨rfl, rfl, by omega, fun m hm => by omega, fun m => Or.inl rfl⟩, ⟨hx2.1, hx2.1, by omega, by omega, rfl, hle, fun h1 h2 => ?_, fun h1 => ⟨?_, rfl⟩⟩, ⟨rfl, rfl, by omega, fun m hm => by omega, fun m m2 _ hm => by omega⟩⟩
      · obtain ⟨c1, c2, c3⟩ := b1 x.toNatClampNeg (by omega) h2
        obtain ⟨d1, d2⟩ := hb h1
        show U 6 x.toNatClampNeg + nI 0 = _
        rw [c1, nI_add, Nat.add_zero]
        congr 1
        rcases Nat.lt_trichotomy (bg x.toNatClampNeg) (fRow (V 7) x (rc - fk) fk) with h5 | h5 | h5
        · have h6 := (d2 _ (by omega)).1 h5
          have h7 := (c3 _ (by omega)).2 h6
          omega
        · exact h5
        · have h6 := (c3 _ (by omega)).1 h5
          have h7 := (d2 _ (by omega)).2 h6
          omega
      · obtain ⟨d1, d2⟩ := hb (by omega)
        rcases Nat.lt_or_ge (fRow (V 7) x (rc - fk) fk) rc with h5 | h5
        · have h6 := (l1 _ h5).2.2.2.2.2.1
          have h7 := (d2 _ h5).2 (by omega)
          omega
        · omega
    · obtain ⟨kd, mt, rg, at9, ar, tc, tk, hr⟩ := hR j (by omega)
      refine ⟨kd, mt, rg, at9, ar, tc, tk, rR_fr hr (eIr _ _ _ (by omega) (by omega)) (fun k h1 h2 => vExt_lt (by omega)) (fun k hk => ?_) (fun _ _ => rfl) (fun _ _ => rfl) (va_up_ne _ _ hjn) rfl⟩
      exact eU _ (by omega)
