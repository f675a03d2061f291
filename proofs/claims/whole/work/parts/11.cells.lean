/-! ===== the class's cells by their roles: 0 the stream, 1 the store (2..5 its arrays), 6 the log (7..9 its arrays), 10 the readers' array, 11 + 6 j reader j and its five arrays ===== -/
def sC_q (ad : Nat → Nat) (na : Nat) : Nat → Option Nat := fun j => if j < na then some (ad (11 + 6 * j)) else none
/-- a reader's fields -/
abbrev rdL (ad : Nat → Nat) (r : Nat) (f : Nat → Int32) : List Value := [.int (f 0), .int (f 1), .ref (ad (r + 1)), .ref (ad (r + 2)), .ref (ad (r + 3)), .ref (ad (r + 4)), .ref (ad (r + 5)), .int (f 7), .int (f 8), .int (f 9), .int (f 10), .int (f 11), .int (f 12), .int (f 13), .int (f 14), .int (f 15), .int (f 16)]
def sC_b (cI cZ : ClassId) (ad : Nat → Nat) (r : Nat) (f g : Nat → Int32) : Nat → va_E := fun k => match k with
  | 0 => .inr (1, [.int (f 0), .int (f 1), .ref (ad (r + 1)), .ref (ad (r + 2)), .ref (ad (r + 3)), .ref (ad (r + 4)), .ref (ad (r + 5)), .int (f 7), .int (f 8), .int (f 9), .int (f 10), .int (f 11), .int (f 12), .int (f 13), .int (f 14), .int (f 15), .int (f 16)])
  | 1 => .inl (cI, 20, .inl g)
  | 2 => .inl (cI, 20, .inl g)
  | 3 => .inl (cI, 40, .inl g)
  | 4 => .inl (cI, 40, .inl g)
  | _ => .inl (cZ, 40, .inl g)
def sC (cI cZ cR : ClassId) (ad : Nat → Nat) (na : Nat) (r : Nat) (f g : Nat → Int32) : va_E := match r with
  | 0 => .inr (3, [.ref (ad 1), .ref (ad 6), .ref (ad 10), .int (f 3)])
  | 1 => .inr (2, [.ref (ad 2), .ref (ad 3), .ref (ad 4), .ref (ad 5), .int (f 4), .int (f 5)])
  | 2 => .inl (cI, 100, .inl g)
  | 3 => .inl (cI, 100, .inl g)
  | 4 => .inl (cZ, 100, .inl g)
  | 5 => .inl (cZ, 100, .inl g)
  | 6 => .inr (0, [.ref (ad 7), .ref (ad 8), .ref (ad 9), .int (f 3), .int (f 4), .int (f 5), .int (f 6), .int (f 7)])
  | 7 => .inl (cI, 600, .inl g)
  | 8 => .inl (cI, 600, .inl g)
  | 9 => .inl (cZ, 600, .inl g)
  | 10 => .inl (cR, 6, .inr (.inr (.inr (.inr (sC_q ad na)))))
  | (k + 11) => sC_b cI cZ ad (k + 11) f g (k % 6)
/-- the reader's cells, r = 11 + 6 j -/
def sC_r (r : Nat) : Prop := ∃ j, r = 11 + 6 * j
theorem sC_rd {cI cZ cR : ClassId} {ad : Nat → Nat} {na r : Nat} {f g : Nat → Int32} (h : sC_r r) : sC cI cZ cR ad na r f g = .inr (1, rdL ad r f) := by
  obtain ⟨j, rfl⟩ := h
  rw [Nat.add_comm 11 (6 * j)]
  show sC_b cI cZ ad (6 * j + 11) f g (6 * j % 6) = _
  rw [show 6 * j % 6 = 0 by omega]
  rfl
theorem sC_rk {cI cZ cR : ClassId} {ad : Nat → Nat} {na r : Nat} {f g : Nat → Int32} (h : sC_r r) (k : Nat) (hk : k < 6) : sC cI cZ cR ad na (r + k) f g = sC_b cI cZ ad (r + k) f g k := by
  obtain ⟨j, rfl⟩ := h
  rw [show 11 + 6 * j + k = (6 * j + k) + 11 by omega]
  show sC_b cI cZ ad (6 * j + k + 11) f g ((6 * j + k) % 6) = _
  rw [show (6 * j + k) % 6 = k by omega]
/-- the array classes of the class's world: int, boolean, readers -/
abbrev sT (cI cZ cR : ClassId) : List (ClassId × FieldType) := [(cI, .int), (cZ, .boolean), (cR, .object RX1)]
/-- the class's world -/
abbrev sW (cI cZ cR : ClassId) (ad : Nat → Nat) (na n : Nat) (I V : Nat → Nat → Int32) : va_W := wR ad (sC cI cZ cR ad na) n I V
/-! ===== the reference's cells: 0 the object, 1 graphs, 2 properties, 3 in, 4 changes, 5 table, 6 begins, 7 of, 8 rights, 9 taken, 10 many ===== -/
def mC (cI cZ : ClassId) (ad : Nat → Nat) (r : Nat) (f g : Nat → Int32) : va_E := match r with
  | 0 => .inr (4, [.int (f 0), .int (f 1), .ref (ad 1), .ref (ad 2), .ref (ad 3), .int (f 5), .ref (ad 4), .int (f 7), .ref (ad 5), .int (f 9), .ref (ad 6), .int (f 11), .int (f 12), .int (f 13), .ref (ad 7), .ref (ad 8), .ref (ad 9), .ref (ad 10)])
  | 1 => .inl (cI, 100, .inl g)
  | 2 => .inl (cI, 100, .inl g)
  | 3 => .inl (cZ, 100, .inl g)
  | 4 => .inl (cI, 40, .inl g)
  | 5 => .inl (cI, 1560, .inl g)
  | 6 => .inl (cI, 520, .inl g)
  | 7 => .inl (cI, 72, .inl g)
  | 8 => .inl (cI, 720, .inl g)
  | 9 => .inl (cI, 120, .inl g)
  | _ => .inl (cI, 6, .inl g)
abbrev mT (cI cZ : ClassId) : List (ClassId × FieldType) := [(cI, .int), (cZ, .boolean)]
abbrev mW (cI cZ : ClassId) (ad : Nat → Nat) (I V : Nat → Nat → Int32) : va_W := wR ad (mC cI cZ ad) 11 I V
/-! ===== numbers ===== -/
theorem nx_in {x : Int32} {k N : Nat} (hx : x = nI k) (h : k < N) (hN : N < 2 ^ 31) : vp_in x N := by subst hx; exact vp_in_nI h hN
theorem nx_cl {x : Int32} {k : Nat} (hx : x = nI k) (h : k < 2 ^ 31) : x.toNatClampNeg = k := by subst hx; exact nI_clamp h
theorem nx_ti {x : Int32} {k : Nat} (hx : x = nI k) (h : k < 2 ^ 31) : x.toInt = k := by subst hx; exact nI_toInt h
