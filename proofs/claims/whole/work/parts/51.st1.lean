/-! ===== one call, class and reference side by side: the numbers ===== -/
theorem lgN_cong {Z Z' : Nat → Bool} : ∀ k, (∀ f, f < k → Z f = Z' f) → lgN Z k = lgN Z' k
  | 0, _ => rfl
  | k + 1, h => by
    show lgN Z k + _ = lgN Z' k + _
    rw [lgN_cong k (fun f hf => h f (by omega)), h k (by omega)]
theorem lgN_none {Z : Nat → Bool} : ∀ k, (∀ f, f < k → Z f = false) → lgN Z k = 0
  | 0, _ => rfl
  | k + 1, h => by rw [lgN_f (h k (by omega))]; exact lgN_none k (fun f hf => h f (by omega))
theorem lgN_one {Z Z' : Nat → Bool} {x : Nat} (h : ∀ f, f ≠ x → Z' f = Z f) : ∀ k, lgN Z' k ≤ lgN Z k + 1 ∧ (k ≤ x → lgN Z' k ≤ lgN Z k)
  | 0 => ⟨Nat.zero_le _, fun _ => Nat.le_refl _⟩
  | k + 1 => by
    have ih := lgN_one h k
    by_cases hx : k = x
    · have h2 := ih.2 (by omega)
      refine ⟨?_, fun h9 => absurd h9 (by omega)⟩
      show lgN Z' k + _ ≤ lgN Z k + _ + 1
      split <;> split <;> omega
    · have h3 := h k hx
      refine ⟨?_, fun h9 => ?_⟩
      · show lgN Z' k + _ ≤ lgN Z k + _ + 1
        rw [h3]; omega
      · have h4 := ih.2 (by omega)
        show lgN Z' k + _ ≤ lgN Z k + _
        rw [h3]; omega
theorem lst3_cong {C C' : Nat → Int32} {f : Nat} : ∀ q, (∀ m, m < 2 * q → C' m = C m) → lst3 C' f q = lst3 C f q
  | 0, _ => rfl
  | q + 1, h => by
    show (if C' (2 * q) = nI f then C' (2 * q + 1) else lst3 C' f q) = (if C (2 * q) = nI f then C (2 * q + 1) else lst3 C f q)
    rw [lst3_cong q (fun m hm => h m (by omega)), h (2 * q) (by omega), h (2 * q + 1) (by omega)]
theorem lst3_none {C : Nat → Int32} {f : Nat} : ∀ q, (∀ m, m < q → ¬ C (2 * m) = nI f) → lst3 C f q = -1
  | 0, _ => rfl
  | q + 1, h => by
    show (if C (2 * q) = nI f then C (2 * q + 1) else lst3 C f q) = -1
    rw [if_neg (h q (by omega)), lst3_none q (fun m hm => h m (by omega))]
theorem fRow_is {f : Nat → Int32} {tr : Nat → Nat} {t rc : Nat} (h : ∀ i, i < rc → f i = nI (tr i) ∧ tr i < 2 ^ 31) (ht : t < 2 ^ 31) (hm : ∀ i i2, i ≤ i2 → i2 < rc → tr i ≤ tr i2) : ∀ d i, i + d = rc → (∀ m, m < i → tr m < t) → i ≤ fRow f (nI t) d i ∧ fRow f (nI t) d i ≤ rc ∧ ∀ m, m < rc → (m < fRow f (nI t) d i ↔ tr m < t)
  | 0, i, hi, hb => by
    show i ≤ i ∧ i ≤ rc ∧ ∀ m, m < rc → (m < i ↔ tr m < t)
    exact ⟨Nat.le_refl _, by omega, fun m hm2 => ⟨fun _ => hb m (by omega), fun _ => by omega⟩⟩
  | d + 1, i, hi, hb => by
    have h1 := h i (by omega)
    by_cases hc : tr i < t
    · have h2 : f i < nI t := by rw [h1.1]; exact (nI_ltI h1.2 ht).2 hc
      have h3 := fRow_is h ht hm d (i + 1) (by omega) (fun m hm2 => by
        rcases Nat.lt_or_eq_of_le (Nat.le_of_lt_succ hm2) with h4 | h4
        · exact hb m h4
        · exact h4 ▸ hc)
      have h4 : fRow f (nI t) (d + 1) i = fRow f (nI t) d (i + 1) := by show (if _ then _ else _) = _; rw [if_pos h2]
      rw [h4]
      exact ⟨by omega, h3.2.1, h3.2.2⟩
    · have h2 : ¬ f i < nI t := by rw [h1.1]; exact fun h9 => hc ((nI_ltI h1.2 ht).1 h9)
      have h4 : fRow f (nI t) (d + 1) i = i := by show (if _ then _ else _) = _; rw [if_neg h2]
      rw [h4]
      refine ⟨Nat.le_refl _, by omega, fun m hm2 => ⟨fun h9 => hb m h9, fun h9 => ?_⟩⟩
      rcases Nat.lt_or_ge m i with h5 | h5
      · exact h5
      · have := hm i m h5 hm2
        omega
/-- a reader of whom nothing changed -/
theorem rR_fr {I V U I' V' U' : Nat → Nat → Int32} {T ls rc : Nat} {tr : Nat → Nat} {j kd mt rg at9 ar tc : Nat} {tk : Nat → Nat} (h : rR I V U T ls rc tr j kd mt rg at9 ar tc tk) (hI : I' (11 + 6 * j) = I (11 + 6 * j)) (hV : ∀ k, 1 ≤ k → k ≤ 5 → V' (11 + 6 * j + k) = V (11 + 6 * j + k)) (h7 : ∀ k, k < 12 → U' 7 (12 * j + k) = U 7 (12 * j + k)) (h8 : ∀ k, k < 120 → U' 8 (120 * j + k) = U 8 (120 * j + k)) (h9 : ∀ k, k < 20 → U' 9 (20 * j + k) = U 9 (20 * j + k)) (h10 : U' 10 j = U 10 j) (h6 : U' 6 = U 6) : rR I' V' U' T ls rc tr j kd mt rg at9 ar tc tk := by
  obtain ⟨a, b, c, ⟨d1, d2, d3, d4, d5⟩, e, ⟨f1, f2, f3, f4, f5⟩⟩ := h
  have h70 := h7 0 (by decide)
  rw [Nat.add_zero] at h70
  refine ⟨?_, ?_, ?_, ⟨?_, ?_, d3, ?_, ?_⟩, ?_, ⟨?_, ?_, f3, ?_, f5⟩⟩
  · rw [hI, h7 2 (by decide), h7 3 (by decide), h7 5 (by decide), h7 8 (by decide), h7 9 (by decide), h7 10 (by decide)]; exact a
  · rw [hI, h7 4 (by decide)]; exact b
  · rw [hI, h7 6 (by decide)]; exact c
  · rw [hI]; exact d1
  · rw [h7 7 (by decide)]; exact d2
  · intro m hm
    have g0 := h8 (3 * m) (by omega)
    have g1 := h8 (3 * m + 1) (by omega)
    have g2 := h8 (3 * m + 2) (by omega)
    rw [show 120 * j + 3 * m = 3 * (40 * j + m) by omega] at g0
    rw [show 120 * j + (3 * m + 1) = 3 * (40 * j + m) + 1 by omega] at g1
    rw [show 120 * j + (3 * m + 2) = 3 * (40 * j + m) + 2 by omega] at g2
    rw [hV 3 (by decide) (by decide), hV 4 (by decide) (by decide), hV 5 (by decide) (by decide), g0, g1, g2]
    exact d4 m hm
  · rw [hV 5 (by decide) (by decide)]; exact d5
  · rw [hI, h70, h7 1 (by decide), h6]; exact e
  · rw [hI]; exact f1
  · rw [h10]; exact f2
  · intro m hm
    rw [hV 1 (by decide) (by decide), hV 2 (by decide) (by decide), h9 m (by omega)]
    exact f4 m hm
/-- a refused call changes nothing but the code -/
theorem st_if {c na cd : Nat} {I V J U I' V' J' U' : Nat → Nat → Int32} (h : rel c na I V J U) (h0 : cd = 0 → rel (c + 1) na I' V' J' U') : rel (c + 1) na (if cd = 0 then I' else I) (if cd = 0 then V' else V) (if cd = 0 then J' else va_up J 0 (va_up (J 0) 0 (nI cd))) (if cd = 0 then U' else U) := by
  by_cases hc : cd = 0
  · simp only [if_pos hc]; exact h0 hc
  · simp only [if_neg hc]; exact rel_code h (nI cd)
theorem st_ic {c na cd : Nat} {I V J U I' V' U' : Nat → Nat → Int32} (h : rel c na I V J U) (h0 : cd = 0 → rel (c + 1) na I' V' (va_up J 0 (va_up (J 0) 0 (nI cd))) U') : rel (c + 1) na (if cd = 0 then I' else I) (if cd = 0 then V' else V) (va_up J 0 (va_up (J 0) 0 (nI cd))) (if cd = 0 then U' else U) := by
  by_cases hc : cd = 0
  · simp only [if_pos hc]; exact h0 hc
  · simp only [if_neg hc]; exact rel_code h (nI cd)
theorem st_fact {c na : Nat} {I V J U : Nat → Nat → Int32} (h : rel c na I V J U) (g pr : Int32) : ∃ k, (I 1 4 = nI k ∧ J 0 1 = nI k ∧ k ≤ 100) ∧ ∀ cd, (cd = if ¬ (0 ≤ g.toInt ∧ g.toInt ≤ 7) ∨ ¬ (0 ≤ pr.toInt ∧ pr.toInt ≤ 15) then 1 else if k = 100 then 2 else 0) → rel (c + 1) na (if cd = 0 then va_up I 1 (va_up (I 1) 4 (nI (k + 1))) else I) (if cd = 0 then va_up (va_up V 2 (va_up (V 2) k g)) 3 (va_up (V 3) k pr) else V) (if cd = 0 then va_up J 0 (va_up (va_up (J 0) 0 (nI 0)) 1 (nI (k + 1))) else va_up J 0 (va_up (J 0) 0 (nI cd))) (if cd = 0 then va_up (va_up (va_up U 1 (va_up (U 1) k g)) 2 (va_up (U 2) k pr)) 3 (va_up (U 3) k (nI 0)) else U) := by
  have h' := h
  obtain ⟨k, q, kp, T, ls, rc, fk, tr, fa, bg, ⟨a1, a2, a3, a4, a5, a6, a7, a8⟩, ⟨n1, n2, n3, n4, n5, n6, n7, n8⟩, ⟨s1, s2, s3, s4, s5, s6, s7, s8⟩, ⟨l1, l2, l3⟩, ⟨b1, b2⟩, hR⟩ := h
  refine ⟨k, ⟨n1.1, n1.2, a1⟩, fun cd hcd => st_if h' (fun hc0 => ?_)⟩
  have hk : k < 100 := by
    rw [hc0] at hcd
    split at hcd
    · omega
    · split at hcd <;> omega
  refine ⟨k + 1, q, kp, T, ls, rc, fk, tr, fa, bg, ⟨by omega, a2, a3, by omega, a5, by omega, a7, a8⟩, ⟨⟨rfl, rfl⟩, n2, n3, n4, n5, n6, n7, n8⟩, ⟨?_, s2, s3, fun f hf => s4 f (by omega), ?_, ?_, ?_, ?_⟩, ⟨fun i hi => ?_, l2, l3⟩, ⟨b1, b2⟩, fun j hj => ?_⟩
  · intro f hf
    by_cases hfk : f = k
    · subst hfk
      refine ⟨?_, ?_, ?_⟩
      · show va_up (V 2) f g f = va_up (U 1) f g f
        rw [va_up_self, va_up_self]
      · show va_up (V 3) f pr f = va_up (U 2) f pr f
        rw [va_up_self, va_up_self]
      · show V 4 f = va_up (U 3) f (nI 0) f
        rw [va_up_self, (s4 f (Nat.le_refl _)).1]; rfl
    · have h1 := s1 f (by omega)
      refine ⟨?_, ?_, ?_⟩
      · show va_up (V 2) k g f = va_up (U 1) k g f
        rw [va_up_ne _ _ hfk, va_up_ne _ _ hfk]; exact h1.1
      · show va_up (V 3) k pr f = va_up (U 2) k pr f
        rw [va_up_ne _ _ hfk, va_up_ne _ _ hfk]; exact h1.2.1
      · show V 4 f = va_up (U 3) k (nI 0) f
        rw [va_up_ne _ _ hfk]; exact h1.2.2
  · intro f hf
    show V 5 f = if lst3 (U 4) f q = -1 then V 4 f else lst3 (U 4) f q
    by_cases hfk : f = k
    · subst hfk
      rw [lst3_none q (fun m hm h9 => by
        obtain ⟨f2, hf2, hf3⟩ := (s6 m hm).2
        rw [hf3] at h9
        have := (nI_eq (by omega) (by omega)).1 h9
        omega), if_pos rfl, (s4 f (Nat.le_refl _)).1, (s4 f (Nat.le_refl _)).2]
    · exact s5 f (by omega)
  · intro m hm
    obtain ⟨h1, f2, hf2, hf3⟩ := s6 m hm
    exact ⟨h1, f2, by omega, hf3⟩
  · have h1 := s4 k (Nat.le_refl _)
    refine Nat.le_trans (Nat.le_of_eq (lgN_f ?_)) s7
    show decide (¬ V 4 k = V 5 k) = false
    rw [h1.1, h1.2]; decide
  · intro f
    show va_up (U 3) k (nI 0) f = 0 ∨ va_up (U 3) k (nI 0) f = 1
    by_cases hfk : f = k
    · subst hfk; rw [va_up_self]; exact Or.inl rfl
    · rw [va_up_ne _ _ hfk]; exact s8 f
  · obtain ⟨h1, h2, h3, h4, h5, h6, h7⟩ := l1 i hi
    exact ⟨h1, h2, h3, h4, h5, h6, by omega⟩
  · obtain ⟨kd, mt, rg, at9, ar, tc, tk, hr⟩ := hR j hj
    exact ⟨kd, mt, rg, at9, ar, tc, tk, rR_fr hr (va_up_ne _ _ (by omega)) (fun k _ _ => by rw [va_up_ne _ _ (by omega), va_up_ne _ _ (by omega)]) (fun _ _ => rfl) (fun _ _ => rfl) (fun _ _ => rfl) rfl rfl⟩
