/-! ===== commit: the new rows ===== -/
def faA (Z : Nat → Bool) (rc : Nat) (fa0 : Nat → Nat) : Nat → Nat → Nat
  | 0 => fa0
  | f + 1 => if Z f = true then va_up (faA Z rc fa0 f) (rc + lgN Z f) f else faA Z rc fa0 f
theorem faA_t {Z : Nat → Bool} {rc : Nat} {fa0 : Nat → Nat} {f : Nat} (h : Z f = true) : faA Z rc fa0 (f + 1) = va_up (faA Z rc fa0 f) (rc + lgN Z f) f := by simp [faA, h]
theorem faA_f {Z : Nat → Bool} {rc : Nat} {fa0 : Nat → Nat} {f : Nat} (h : Z f = false) : faA Z rc fa0 (f + 1) = faA Z rc fa0 f := by simp [faA, h]
theorem tbA_tt {Z : Nat → Bool} {T w rc : Nat} {a : Nat → Int32} {f : Nat} (h : Z f = true) : tbA Z T w rc a (f + 1) = va_up (va_up (va_up (tbA Z T w rc a f) (3 * (rc + lgN Z f)) (nI T)) (3 * (rc + lgN Z f) + 1) (nI f)) (3 * (rc + lgN Z f) + 2) (nI w) := by simp [tbA, h]
theorem tbA_ff {Z : Nat → Bool} {T w rc : Nat} {a : Nat → Int32} {f : Nat} (h : Z f = false) : tbA Z T w rc a (f + 1) = tbA Z T w rc a f := by simp [tbA, h]
theorem faA_old {Z : Nat → Bool} {rc : Nat} {fa0 : Nat → Nat} {i : Nat} : ∀ t, (i < rc ∨ rc + lgN Z t ≤ i) → faA Z rc fa0 t i = fa0 i
  | 0, _ => rfl
  | t + 1, h => by
    cases hz : Z t with
    | true => rw [faA_t hz]; rw [lgN_t hz] at h; rw [va_up_ne _ _ (by omega)]; exact faA_old t (by omega)
    | false => rw [faA_f hz]; rw [lgN_f hz] at h; exact faA_old t h
theorem faA_new {Z : Nat → Bool} {rc : Nat} {fa0 : Nat → Nat} {e : Nat} : ∀ t, e < lgN Z t → Z (faA Z rc fa0 t (rc + e)) = true ∧ faA Z rc fa0 t (rc + e) < t
  | 0, h => absurd h (Nat.not_lt_zero _)
  | t + 1, h => by
    cases hz : Z t with
    | true =>
      rw [faA_t hz]; rw [lgN_t hz] at h
      by_cases h2 : e = lgN Z t
      · subst h2; rw [va_up_self]; exact ⟨hz, by omega⟩
      · rw [va_up_ne _ _ (by omega)]
        have := faA_new (fa0 := fa0) (rc := rc) t (show e < lgN Z t by omega)
        exact ⟨this.1, by omega⟩
    | false =>
      rw [faA_f hz]; rw [lgN_f hz] at h
      have := faA_new (fa0 := fa0) (rc := rc) t h
      exact ⟨this.1, by omega⟩
theorem faA_ex {Z : Nat → Bool} {rc : Nat} {fa0 : Nat → Nat} {f : Nat} (hf : Z f = true) : ∀ t, f < t → ∃ e, e < lgN Z t ∧ faA Z rc fa0 t (rc + e) = f
  | 0, h => absurd h (Nat.not_lt_zero _)
  | t + 1, h => by
    by_cases h2 : f = t
    · subst h2
      refine ⟨lgN Z f, by rw [lgN_t hf]; omega, ?_⟩
      rw [faA_t hf, va_up_self]
    · obtain ⟨e, he1, he2⟩ := faA_ex (rc := rc) (fa0 := fa0) hf t (by omega)
      refine ⟨e, ?_, ?_⟩
      · have : lgN Z t ≤ lgN Z (t + 1) := lgN_le Z t 1
        omega
      · cases hz : Z t with
        | true => rw [faA_t hz, va_up_ne _ _ (by omega)]; exact he2
        | false => rw [faA_f hz]; exact he2
theorem lgA_old {Z : Nat → Bool} {g a : Nat → Int32} {rc i : Nat} : ∀ t, (i < rc ∨ rc + lgN Z t ≤ i) → lgA Z g rc a t i = a i
  | 0, _ => rfl
  | t + 1, h => by
    cases hz : Z t with
    | true => rw [lgA_t hz]; rw [lgN_t hz] at h; rw [va_up_ne _ _ (by omega)]; exact lgA_old t (by omega)
    | false => rw [lgA_f hz]; rw [lgN_f hz] at h; exact lgA_old t h
theorem lgA_new {Z : Nat → Bool} {g a : Nat → Int32} {rc e : Nat} {fa0 : Nat → Nat} : ∀ t, e < lgN Z t → lgA Z g rc a t (rc + e) = g (faA Z rc fa0 t (rc + e))
  | 0, h => absurd h (Nat.not_lt_zero _)
  | t + 1, h => by
    cases hz : Z t with
    | true =>
      rw [lgA_t hz, faA_t hz]; rw [lgN_t hz] at h
      by_cases h2 : e = lgN Z t
      · subst h2; rw [va_up_self, va_up_self]
      · rw [va_up_ne _ _ (by omega), va_up_ne _ _ (by omega)]; exact lgA_new t (by omega)
    | false => rw [lgA_f hz, faA_f hz]; rw [lgN_f hz] at h; exact lgA_new t h
theorem lgA_01 {Z : Nat → Bool} {g a : Nat → Int32} {rc : Nat} (ha : ∀ j, a j = 0 ∨ a j = 1) (hg : ∀ j, g j = 0 ∨ g j = 1) : ∀ t j, lgA Z g rc a t j = 0 ∨ lgA Z g rc a t j = 1
  | 0, j => ha j
  | t + 1, j => by
    cases hz : Z t with
    | true =>
      rw [lgA_t hz]
      by_cases h2 : j = rc + lgN Z t
      · subst h2; rw [va_up_self]; exact hg t
      · rw [va_up_ne _ _ h2]; exact lgA_01 ha hg t j
    | false => rw [lgA_f hz]; exact lgA_01 ha hg t j
theorem tbA_old {Z : Nat → Bool} {T w rc : Nat} {a : Nat → Int32} {m : Nat} : ∀ t, (m < 3 * rc ∨ 3 * (rc + lgN Z t) ≤ m) → tbA Z T w rc a t m = a m
  | 0, _ => rfl
  | t + 1, h => by
    cases hz : Z t with
    | true => rw [tbA_tt hz]; rw [lgN_t hz] at h; rw [va_up_ne _ _ (by omega), va_up_ne _ _ (by omega), va_up_ne _ _ (by omega)]; exact tbA_old t (by omega)
    | false => rw [tbA_ff hz]; rw [lgN_f hz] at h; exact tbA_old t h
theorem tbA_new {Z : Nat → Bool} {T w rc e : Nat} {a : Nat → Int32} {fa0 : Nat → Nat} : ∀ t, e < lgN Z t → tbA Z T w rc a t (3 * (rc + e)) = nI T ∧ tbA Z T w rc a t (3 * (rc + e) + 1) = nI (faA Z rc fa0 t (rc + e)) ∧ tbA Z T w rc a t (3 * (rc + e) + 2) = nI w
  | 0, h => absurd h (Nat.not_lt_zero _)
  | t + 1, h => by
    cases hz : Z t with
    | true =>
      rw [tbA_tt hz, faA_t hz]; rw [lgN_t hz] at h
      by_cases h2 : e = lgN Z t
      · subst h2
        refine ⟨?_, ?_, ?_⟩
        · rw [va_up_ne _ _ (by omega), va_up_ne _ _ (by omega), va_up_self]
        · rw [va_up_ne _ _ (by omega), va_up_self, va_up_self]
        · rw [va_up_self]
      · have ih := tbA_new (T := T) (w := w) (rc := rc) (a := a) (fa0 := fa0) t (show e < lgN Z t by omega)
        refine ⟨?_, ?_, ?_⟩
        · rw [va_up_ne _ _ (by omega), va_up_ne _ _ (by omega), va_up_ne _ _ (by omega)]; exact ih.1
        · rw [va_up_ne _ _ (by omega), va_up_ne _ _ (by omega), va_up_ne _ _ (by omega), va_up_ne _ _ (by omega)]; exact ih.2.1
        · rw [va_up_ne _ _ (by omega), va_up_ne _ _ (by omega), va_up_ne _ _ (by omega)]; exact ih.2.2
    | false => rw [tbA_ff hz, faA_f hz]; rw [lgN_f hz] at h; exact tbA_new t h
theorem tbA_cong {Z Z' : Nat → Bool} {T w rc : Nat} {a : Nat → Int32} : ∀ t, (∀ f, f < t → Z f = Z' f) → tbA Z T w rc a t = tbA Z' T w rc a t
  | 0, _ => rfl
  | t + 1, h => by
    have ih := tbA_cong (T := T) (w := w) (rc := rc) (a := a) t (fun f hf => h f (by omega))
    have hl := lgN_cong t (fun f hf => h f (by omega))
    have h1 := h t (by omega)
    cases hz : Z t with
    | true => rw [tbA_tt hz, tbA_tt (h1 ▸ hz), ih, hl]
    | false => rw [tbA_ff hz, tbA_ff (h1 ▸ hz), ih]
theorem lgN_two {Z Z0 Z1 : Nat → Bool} : ∀ k, (∀ f, f < k → (if Z0 f = true then 1 else 0) + (if Z1 f = true then 1 else 0) = (if Z f = true then 1 else 0)) → lgN Z0 k + lgN Z1 k = lgN Z k
  | 0, _ => rfl
  | k + 1, h => by
    have ih := lgN_two k (fun f hf => h f (by omega))
    have h1 := h k (by omega)
    show lgN Z0 k + (if Z0 k = true then 1 else 0) + (lgN Z1 k + (if Z1 k = true then 1 else 0)) = lgN Z k + (if Z k = true then 1 else 0)
    omega
theorem inA_no {B : Nat → Int32} {fa : Nat → Nat} {b : Nat} {a : Nat → Int32} {f : Nat} : ∀ d, (∀ e, e < d → fa (b + e) ≠ f) → inA B fa b a d f = a f
  | 0, _ => rfl
  | d + 1, h => by
    show va_up (inA B fa b a d) (fa (b + d)) _ f = a f
    rw [va_up_ne _ _ (fun h9 => h d (by omega) h9.symm)]
    exact inA_no d (fun e he => h e (by omega))
theorem inA_yes {B : Nat → Int32} {fa : Nat → Nat} {b : Nat} {a : Nat → Int32} {f : Nat} {x : Int32} : ∀ d, (∀ e, e < d → fa (b + e) = f → nI (if B (3 * (b + e) + 2) = nI 1 then 1 else 0) = x) → (∃ e, e < d ∧ fa (b + e) = f) → inA B fa b a d f = x
  | 0, _, ⟨e, he, _⟩ => absurd he (Nat.not_lt_zero _)
  | d + 1, h, ⟨e, he, hf⟩ => by
    show va_up (inA B fa b a d) (fa (b + d)) (nI (if B (3 * (b + d) + 2) = nI 1 then 1 else 0)) f = x
    by_cases h2 : fa (b + d) = f
    · rw [← h2, va_up_self]; exact h d (by omega) h2
    · rw [va_up_ne _ _ (fun h9 => h2 h9.symm)]
      refine inA_yes d (fun e2 he2 => h e2 (by omega)) ⟨e, ?_, hf⟩
      rcases Nat.lt_or_eq_of_le (Nat.le_of_lt_succ he) with h3 | h3
      · exact h3
      · exact absurd (h3 ▸ hf) h2
theorem inA_01 {B : Nat → Int32} {fa : Nat → Nat} {b : Nat} {a : Nat → Int32} (ha : ∀ j, a j = 0 ∨ a j = 1) : ∀ d f, inA B fa b a d f = 0 ∨ inA B fa b a d f = 1
  | 0, f => ha f
  | d + 1, f => by
    show va_up (inA B fa b a d) (fa (b + d)) (nI (if B (3 * (b + d) + 2) = nI 1 then 1 else 0)) f = 0 ∨ va_up (inA B fa b a d) (fa (b + d)) (nI (if B (3 * (b + d) + 2) = nI 1 then 1 else 0)) f = 1
    by_cases h2 : f = fa (b + d)
    · subst h2; rw [va_up_self]
      by_cases h3 : B (3 * (b + d) + 2) = nI 1
      · rw [if_pos h3]; exact Or.inr rfl
      · rw [if_neg h3]; exact Or.inl rfl
    · rw [va_up_ne _ _ h2]; exact inA_01 ha d f
/-- the rows of both passes, read back -/
theorem cm_rows {V : Nat → Nat → Int32} {C5 : Nat → Int32} {fa : Nat → Nat} {T rc k n0 n1 : Nat} (h5 : ∀ f, V 5 f = 0 ∨ V 5 f = 1) (hn0 : n0 = lgN (lgZ V (nI 0)) k) (hn1 : n1 = lgN (lgZ V (nI 1)) k) {FA : Nat → Nat} (hFA : FA = faA (lgZ V (nI 1)) (rc + n0) (faA (lgZ V (nI 0)) rc fa k) k) {a7 a8 a9 : Nat → Int32} {A7 A8 A9 B5 : Nat → Int32} (e7 : A7 = lgA (lgZ V (nI 1)) (fun _ => nI T) (rc + n0) (lgA (lgZ V (nI 0)) (fun _ => nI T) rc a7 k) k) (e8 : A8 = lgA (lgZ V (nI 1)) (fun j => nI j) (rc + n0) (lgA (lgZ V (nI 0)) (fun j => nI j) rc a8 k) k) (e9 : A9 = lgA (lgZ V (nI 1)) (fun _ => nI 1) (rc + n0) (lgA (lgZ V (nI 0)) (fun _ => nI 0) rc a9 k) k) (e5 : B5 = tbA (lgZ V (nI 1)) T 1 (rc + n0) (tbA (lgZ V (nI 0)) T 0 rc C5 k) k) :
    (∀ i, i < rc → A7 i = a7 i ∧ A8 i = a8 i ∧ A9 i = a9 i ∧ B5 (3 * i) = C5 (3 * i) ∧ B5 (3 * i + 1) = C5 (3 * i + 1) ∧ B5 (3 * i + 2) = C5 (3 * i + 2) ∧ FA i = fa i) ∧
    (∀ i, rc ≤ i → i < rc + n0 + n1 → A7 i = nI T ∧ A8 i = nI (FA i) ∧ B5 (3 * i) = nI T ∧ B5 (3 * i + 1) = nI (FA i) ∧ A9 i = B5 (3 * i + 2) ∧ FA i < k ∧ nI (if B5 (3 * i + 2) = nI 1 then 1 else 0) = V 5 (FA i)) ∧
    (∀ f, f < k → ¬ V 4 f = V 5 f → ∃ i, rc ≤ i ∧ i < rc + n0 + n1 ∧ FA i = f) := by
  subst e7 e8 e9 e5 hFA
  refine ⟨fun i hi => ?_, fun i h1 h2 => ?_, fun f hf hne => ?_⟩
  · rw [lgA_old k (Or.inl (by omega)), lgA_old k (Or.inl hi), lgA_old k (Or.inl (by omega)), lgA_old k (Or.inl hi), lgA_old k (Or.inl (by omega)), lgA_old k (Or.inl hi), tbA_old k (Or.inl (by omega)), tbA_old k (Or.inl (by omega)), tbA_old k (Or.inl (by omega)), tbA_old k (Or.inl (by omega)), tbA_old k (Or.inl (by omega)), tbA_old k (Or.inl (by omega)), faA_old k (Or.inl (by omega)), faA_old k (Or.inl hi)]
    exact ⟨rfl, rfl, rfl, rfl, rfl, rfl, rfl⟩
  · rcases Nat.lt_or_ge i (rc + n0) with h3 | h3
    · obtain ⟨e, rfl⟩ : ∃ e, i = rc + e := ⟨i - rc, by omega⟩
      have he : e < lgN (lgZ V (nI 0)) k := by omega
      have hF := faA_new (Z := lgZ V (nI 0)) (rc := rc) (fa0 := fa) k he
      have hT := tbA_new (Z := lgZ V (nI 0)) (T := T) (w := 0) (rc := rc) (a := C5) (fa0 := fa) k he
      rw [lgA_old k (Or.inl h3), lgA_new (fa0 := fa) k he, lgA_old k (Or.inl h3), lgA_new (fa0 := fa) k he, lgA_old k (Or.inl h3), lgA_new (fa0 := fa) k he, tbA_old (Z := lgZ V (nI 1)) (m := 3 * (rc + e)) k (Or.inl (by omega)), tbA_old (Z := lgZ V (nI 1)) (m := 3 * (rc + e) + 1) k (Or.inl (by omega)), tbA_old (Z := lgZ V (nI 1)) (m := 3 * (rc + e) + 2) k (Or.inl (by omega)), faA_old k (Or.inl h3), hT.1, hT.2.1, hT.2.2]
      refine ⟨rfl, rfl, rfl, rfl, rfl, hF.2, ?_⟩
      have h6 := hF.1
      simp only [lgZ, Bool.and_eq_true, decide_eq_true_eq] at h6
      rw [h6.2]
      decide
    · obtain ⟨e, rfl⟩ : ∃ e, i = rc + n0 + e := ⟨i - (rc + n0), by omega⟩
      have he : e < lgN (lgZ V (nI 1)) k := by omega
      have hF := faA_new (Z := lgZ V (nI 1)) (rc := rc + n0) (fa0 := faA (lgZ V (nI 0)) rc fa k) k he
      have hT := tbA_new (Z := lgZ V (nI 1)) (T := T) (w := 1) (rc := rc + n0) (a := tbA (lgZ V (nI 0)) T 0 rc C5 k) (fa0 := faA (lgZ V (nI 0)) rc fa k) k he
      rw [lgA_new (fa0 := faA (lgZ V (nI 0)) rc fa k) k he, lgA_new (fa0 := faA (lgZ V (nI 0)) rc fa k) k he, lgA_new (fa0 := faA (lgZ V (nI 0)) rc fa k) k he, hT.1, hT.2.1, hT.2.2]
      refine ⟨rfl, rfl, rfl, rfl, rfl, hF.2, ?_⟩
      have h6 := hF.1
      simp only [lgZ, Bool.and_eq_true, decide_eq_true_eq] at h6
      rw [h6.2]
      decide
  · rcases h5 f with h6 | h6
    · obtain ⟨e, he, hf2⟩ := faA_ex (rc := rc) (fa0 := fa) (lgZ_t hne (b := nI 0) h6) k hf
      refine ⟨rc + e, by omega, by omega, ?_⟩
      rw [faA_old k (Or.inl (by omega)), hf2]
    · obtain ⟨e, he, hf2⟩ := faA_ex (rc := rc + n0) (fa0 := faA (lgZ V (nI 0)) rc fa k) (lgZ_t hne (b := nI 1) h6) k hf
      exact ⟨rc + n0 + e, by omega, by omega, hf2⟩
