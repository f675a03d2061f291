/-! ===== the class's numbers (I, V, na readers) beside the reference's (J, U) after c calls ===== -/
/-- bounds: k facts, q open changes, kp kept, T transactions, ls LEAST, rc rows, fk the first kept row, na readers -/
def r0 (c k q kp T ls rc fk na : Nat) : Prop := k ≤ 100 ∧ q ≤ 20 ∧ (1 ≤ kp ∧ kp ≤ 30) ∧ T ≤ c ∧ (1 ≤ ls ∧ (ls ≤ T ∨ (T = 0 ∧ ls = 1))) ∧ rc + q ≤ c ∧ fk ≤ rc ∧ na ≤ 6
/-- the numbers in the objects' fields -/
def rN (I J : Nat → Nat → Int32) (k q kp T ls rc fk na : Nat) : Prop :=
  (I 1 4 = nI k ∧ J 0 1 = nI k) ∧ (I 1 5 = nI q ∧ J 0 5 = nI q) ∧ (I 6 3 = nI kp ∧ J 0 11 = nI kp) ∧ (I 6 4 = nI T ∧ J 0 9 = nI T) ∧ (I 6 5 = nI ls ∧ J 0 12 = nI ls) ∧ (I 6 6 = nI rc ∧ J 0 7 = nI rc) ∧ I 6 7 = nI fk ∧ (I 0 3 = nI na ∧ J 0 13 = nI na)
/-- the store: graphs, properties, what is in, what is behind the open changes -/
def rS (V U : Nat → Nat → Int32) (k q : Nat) : Prop :=
  (∀ f, f < k → V 2 f = U 1 f ∧ V 3 f = U 2 f ∧ V 4 f = U 3 f) ∧ (∀ f, V 4 f = 0 ∨ V 4 f = 1) ∧ (∀ f, V 5 f = 0 ∨ V 5 f = 1) ∧ (∀ f, k ≤ f → V 4 f = 0 ∧ V 5 f = 0) ∧
  (∀ f, f < k → V 5 f = if lst3 (U 4) f q = -1 then V 4 f else lst3 (U 4) f q) ∧ (∀ m, m < q → (U 4 (2 * m + 1) = 0 ∨ U 4 (2 * m + 1) = 1) ∧ ∃ f, f < k ∧ U 4 (2 * m) = nI f) ∧ lgN (fun f => decide (¬ V 4 f = V 5 f)) k ≤ q ∧ (∀ f, U 3 f = 0 ∨ U 3 f = 1)
/-- the rows: transaction, fact, way -/
def rL (V U : Nat → Nat → Int32) (k T rc : Nat) (tr fa : Nat → Nat) : Prop :=
  (∀ i, i < rc → V 7 i = nI (tr i) ∧ U 5 (3 * i) = nI (tr i) ∧ V 8 i = nI (fa i) ∧ U 5 (3 * i + 1) = nI (fa i) ∧ V 9 i = U 5 (3 * i + 2) ∧ (1 ≤ tr i ∧ tr i ≤ T) ∧ fa i < k) ∧ (∀ j, V 9 j = 0 ∨ V 9 j = 1) ∧ (∀ i i2, i ≤ i2 → i2 < rc → tr i ≤ tr i2)
/-- where transactions begin, and the first kept row -/
def rB (U : Nat → Nat → Int32) (T ls rc fk : Nat) (tr bg : Nat → Nat) : Prop :=
  (∀ t, 1 ≤ t → t ≤ T → U 6 t = nI (bg t) ∧ bg t ≤ rc ∧ ∀ i, i < rc → (i < bg t ↔ tr i < t)) ∧ (∀ i, i < rc → (i < fk ↔ tr i < ls))
/-- a reader: kind of its filter, throttle, rights, place, rows taken -/
def rR (I V U : Nat → Nat → Int32) (T ls rc : Nat) (tr : Nat → Nat) (j kd mt rg at9 ar tc : Nat) (tk : Nat → Nat) : Prop :=
  (I (11 + 6 * j) 0 = U 7 (12 * j + 2) ∧ I (11 + 6 * j) 1 = U 7 (12 * j + 3) ∧ I (11 + 6 * j) 10 = U 7 (12 * j + 5) ∧ I (11 + 6 * j) 14 = U 7 (12 * j + 8) ∧ I (11 + 6 * j) 15 = U 7 (12 * j + 9) ∧ I (11 + 6 * j) 16 = U 7 (12 * j + 10)) ∧
  (I (11 + 6 * j) 9 = nI kd ∧ U 7 (12 * j + 4) = nI kd ∧ kd ≤ 4) ∧ (I (11 + 6 * j) 11 = nI mt ∧ U 7 (12 * j + 6) = nI mt ∧ mt ≤ 20) ∧
  (I (11 + 6 * j) 13 = nI rg ∧ U 7 (12 * j + 7) = nI rg ∧ rg ≤ 40 ∧ (∀ m, m < rg → V (11 + 6 * j + 3) m = U 8 (3 * (40 * j + m)) ∧ V (11 + 6 * j + 4) m = U 8 (3 * (40 * j + m) + 1) ∧ V (11 + 6 * j + 5) m = U 8 (3 * (40 * j + m) + 2)) ∧ (∀ m, V (11 + 6 * j + 5) m = 0 ∨ V (11 + 6 * j + 5) m = 1)) ∧
  (I (11 + 6 * j) 7 = nI at9 ∧ U 7 (12 * j) = nI at9 ∧ 1 ≤ at9 ∧ at9 ≤ T + 1 ∧ I (11 + 6 * j) 8 = nI ar ∧ ar ≤ rc ∧ (ls ≤ at9 → at9 ≤ T → U 6 at9 + U 7 (12 * j + 1) = nI ar) ∧ (at9 = T + 1 → ar = rc ∧ U 7 (12 * j + 1) = nI 0)) ∧
  (I (11 + 6 * j) 12 = nI tc ∧ U 10 j = nI tc ∧ tc ≤ 20 ∧ (∀ m, m < tc → V (11 + 6 * j + 1) m = nI (tk m) ∧ U 9 (20 * j + m) = nI (tk m) ∧ tk m < rc ∧ V (11 + 6 * j + 2) m = nI (tr (tk m)) ∧ tr (tk m) ≤ at9 ∧ (ls ≤ at9 → tk m < ar)) ∧ (∀ m m2, m < m2 → m2 < tc → tk m < tk m2))
def rel (c na : Nat) (I V J U : Nat → Nat → Int32) : Prop :=
  ∃ (k q kp T ls rc fk : Nat) (tr fa bg : Nat → Nat), r0 c k q kp T ls rc fk na ∧ rN I J k q kp T ls rc fk na ∧ rS V U k q ∧ rL V U k T rc tr fa ∧ rB U T ls rc fk tr bg ∧ ∀ j, j < na → ∃ (kd mt rg at9 ar tc : Nat) (tk : Nat → Nat), rR I V U T ls rc tr j kd mt rg at9 ar tc tk
/-- what a row of the reference's 'code' changes: nothing that the relation sees -/
theorem rel_code {c na : Nat} {I V J U : Nat → Nat → Int32} (h : rel c na I V J U) (x : Int32) : rel (c + 1) na I V (va_up J 0 (va_up (J 0) 0 x)) U := by
  obtain ⟨k, q, kp, T, ls, rc, fk, tr, fa, bg, h0, hN, hS, hL, hB, hR⟩ := h
  obtain ⟨a1, a2, a3, a4, a5, a6, a7, a8⟩ := h0
  exact ⟨k, q, kp, T, ls, rc, fk, tr, fa, bg, ⟨a1, a2, a3, by omega, a5, by omega, a7, a8⟩, hN, hS, hL, hB, hR⟩
