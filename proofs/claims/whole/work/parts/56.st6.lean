theorem hRt_cong {F G O F' G' O' : Nat → Int32} {f t : Int32} : ∀ k, (∀ m, m < k → F m = F' m ∧ G m = G' m ∧ O m = O' m) → hRt F G O f t k = hRt F' G' O' f t k
  | 0, _ => rfl
  | k + 1, h => by
    have h1 := h k (by omega)
    show (if F k = f ∧ G k ≤ t then O k else hRt F G O f t k) = (if F' k = f ∧ G' k ≤ t then O' k else hRt F' G' O' f t k)
    rw [h1.1, h1.2.1, h1.2.2, hRt_cong k (fun m hm => h m (by omega))]
theorem nxt_cong {Z Z' : Nat → Bool} : ∀ d i, (∀ m, i ≤ m → m < i + d → Z m = Z' m) → nxt Z d i = nxt Z' d i
  | 0, _, _ => rfl
  | d + 1, i, h => by
    show (if Z i = true then i else nxt Z d (i + 1)) = (if Z' i = true then i else nxt Z' d (i + 1))
    rw [h i (by omega) (by omega), nxt_cong d (i + 1) (fun m h1 h2 => h m (by omega) (by omega))]
theorem i32_abc (a b c : Int32) : a + ((b - a) + c) = b + c := by rw [← Int32.add_assoc, i32_ab]
theorem b01 {a : Int32} (h : a = 0 ∨ a = 1) : (if a = 1 then (1 : Int32) else 0) = a := by rcases h with rfl | rfl <;> decide
theorem sn_sm {I V U : Nat → Nat → Int32} {k T ls rc rg kd mt at9 ar tc q : Nat} {tr fa tk : Nat → Nat} {j i : Nat} (hS : rS V U k q) (hL : rL V U k T rc tr fa) (hr : rR I V U T ls rc tr j kd mt rg at9 ar tc tk) (hi : i < rc) : (¬ sn I V (11 + 6 * j) rg kd (fa i) i = 0) ↔ (¬ sm U j rg kd (fa i) i = 0) := by
  obtain ⟨g1, g2, g3, g4, g5, g6, g7⟩ := hL.1 i hi
  obtain ⟨r1, r2, r3, ⟨d1, d2, d3, d4, d5⟩, r5, r6⟩ := hr
  have hs := hS.1 (fa i) g7
  have e1 : snA (I (11 + 6 * j)) (V 2 (fa i)) (V 3 (fa i)) ↔ smA U j (fa i) := by
    unfold snA smA
    rw [r1.1, r1.2.1, hs.1, hs.2.1]
  have e2 : hRt (V (11 + 6 * j + 3)) (V (11 + 6 * j + 4)) (V (11 + 6 * j + 5)) (nI (fa i)) (V 7 i) rg = smR U j (fa i) i rg := by
    unfold smR
    rw [g1, g2]
    refine hRt_cong rg (fun m hm => ?_)
    have h1 := d4 m hm
    refine ⟨h1.1, h1.2.1, ?_⟩
    show _ = if U 8 (3 * (40 * j + m) + 2) = 1 then (1 : Int32) else 0
    rw [← h1.2.2, b01 (d5 m)]
  have e3 : smC U i = V 9 i := by
    unfold smC
    rw [← g5, b01 (hL.2.1 i)]
  unfold sn sm
  rw [e2, e3, ← r1.2.2.1]
  by_cases h1 : smA U j (fa i)
  · rw [if_pos h1, if_pos (e1.2 h1)]
    by_cases h2 : smR U j (fa i) i rg = 0
    · rw [if_pos h2, if_pos h2]
    · rw [if_neg h2, if_neg h2]
      by_cases h3 : fLet kd (I (11 + 6 * j) 10) (fa i) (V 9 i) = 0
      · rw [if_pos h3, h3]
      · rw [if_neg h3]
        exact ⟨fun _ => h3, fun _ => by decide⟩
  · rw [if_neg h1, if_neg (fun h9 => h1 (e1.1 h9))]
abbrev nxF (I : Nat → Nat → Int32) (r kd : Nat) : Nat → Int32 := if kd = 4 ∧ I r 10 = 0 then va_up (I r) 15 (I r 15 + 1) else I r
abbrev nxG (U : Nat → Nat → Int32) (j kd : Nat) : Nat → Int32 := if kd = 4 ∧ U 7 (12 * j + 5) = 0 then va_up (U 7) (12 * j + 9) (U 7 (12 * j + 9) + 1) else U 7
abbrev nxI (I V : Nat → Nat → Int32) (r T ls rc fk kd tc mt at9 ix : Nat) : Nat → Int32 := if at9 < ls then va_up (va_up (va_up (I r) 14 (I r 14 + (nI ls - nI at9))) 7 (nI ls)) 8 (nI fk) else if ix = rc then va_up (va_up (I r) 7 (nI (T + 1))) 8 (nI rc) else if tc < mt then va_up (va_up (va_up (va_up (nxF I r kd) 12 (nI (tc + 1))) 16 ((nxF I r kd) 16 + nI 1)) 7 (V 7 ix)) 8 (nI (ix + 1)) else va_up (va_up (nxF I r kd) 7 (V 7 ix)) 8 (nI ix)
abbrev nxV (V : Nat → Nat → Int32) (r ls rc tc mt at9 ix : Nat) : Nat → Nat → Int32 := if at9 < ls ∨ ix = rc then V else if tc < mt then va_up (va_up V (r + 1) (va_up (V (r + 1)) tc (nI ix))) (r + 2) (va_up (V (r + 2)) tc (V 7 ix)) else V
abbrev nxU (U : Nat → Nat → Int32) (j T ls rc kd tc mt at9 ix : Nat) (tr : Nat → Nat) : Nat → Nat → Int32 := if at9 < ls then va_up U 7 (va_up (va_up (va_up (U 7) (12 * j + 8) (U 7 (12 * j + 8) + (nI ls - nI at9))) (12 * j) (nI ls)) (12 * j + 1) (nI 0)) else if T < at9 then U else if ix = rc then va_up U 7 (va_up (va_up (U 7) (12 * j) (nI (T + 1))) (12 * j + 1) (nI 0)) else if tc < mt then va_up (va_up (va_up U 7 (va_up (va_up (va_up (va_up (nxG U j kd) (12 * j) (nI (tr ix))) (12 * j + 1) (nI ix - U 6 (tr ix))) (12 * j + 1) ((nI ix - U 6 (tr ix)) + nI 1)) (12 * j + 10) (U 7 (12 * j + 10) + nI 1))) 9 (va_up (U 9) (20 * j + tc) (nI ix))) 10 (va_up (U 10) j (nI (tc + 1))) else va_up U 7 (va_up (va_up (nxG U j kd) (12 * j) (nI (tr ix))) (12 * j + 1) (nI ix - U 6 (tr ix)))
theorem st_next {c na : Nat} {I V J U : Nat → Nat → Int32} (h : rel c na I V J U) (hc : c ≤ 512) (x : Int32) (j : Nat) (hj : j = x.toNatClampNeg) : ∃ kp T ls rc fk, ∃ fa tr : Nat → Nat, ∃ rg kd tc mt at9 ar ix, lgH I J kp T ls rc fk na ∧ (∀ i, i < rc → V 8 i = nI (fa i) ∧ fa i < 100) ∧ (∀ j, V 9 j = 0 ∨ V 9 j = 1) ∧ (∀ i, i < rc → U 5 (3 * i + 1) = nI (fa i) ∧ fa i < 100) ∧ (∀ i, i < rc → U 5 (3 * i) = nI (tr i) ∧ tr i ≤ 512) ∧ ((0 ≤ x.toInt ∧ x.toInt ≤ ((na : Nat) : Int) - 1) → (I (11 + 6 * j) 13 = nI rg ∧ rg ≤ 40) ∧ (I (11 + 6 * j) 9 = nI kd ∧ kd ≤ 4) ∧ (I (11 + 6 * j) 12 = nI tc ∧ tc ≤ 20) ∧ (I (11 + 6 * j) 11 = nI mt ∧ mt ≤ 20) ∧ (I (11 + 6 * j) 7 = nI at9 ∧ at9 ≤ 513) ∧ (I (11 + 6 * j) 8 = nI ar ∧ ar ≤ rc) ∧ (∀ m, V (11 + 6 * j + 5) m = 0 ∨ V (11 + 6 * j + 5) m = 1)) ∧ ((0 ≤ x.toInt ∧ x.toInt ≤ ((na : Nat) : Int) - 1) → (U 7 (12 * j + 7) = nI rg ∧ rg ≤ 40) ∧ (U 7 (12 * j + 4) = nI kd ∧ kd ≤ 4) ∧ (U 10 j = nI tc ∧ tc ≤ 20) ∧ (U 7 (12 * j + 6) = nI mt ∧ mt ≤ 20) ∧ (U 7 (12 * j) = nI at9 ∧ at9 ≤ 513) ∧ (ls ≤ at9 → at9 ≤ T → U 6 at9 + U 7 (12 * j + 1) = nI ar ∧ ar ≤ rc)) ∧ ix = nxt (fun i => decide (¬ sn I V (11 + 6 * j) rg kd (fa i) i = 0)) (rc - ar) ar ∧ ix = nxt (fun i => decide (¬ sm U j rg kd (fa i) i = 0)) (rc - ar) ar ∧ ∀ cd, (cd = if ¬ (0 ≤ x.toInt ∧ x.toInt ≤ ((na : Nat) : Int) - 1) then 1 else 0) → (cd = 0 → (if at9 < ls then (-3 : Int32) else if ix = rc then -1 else if tc < mt then nI ix else -2) = if at9 < ls then -3 else if T < at9 then -1 else if ix = rc then -1 else if tc < mt then nI ix else -2) ∧ rel (c + 1) na (if cd = 0 then va_up I (11 + 6 * j) (nxI I V (11 + 6 * j) T ls rc fk kd tc mt at9 ix) else I) (if cd = 0 then nxV V (11 + 6 * j) ls rc tc mt at9 ix else V) (va_up J 0 (va_up (J 0) 0 (nI cd))) (if cd = 0 then nxU U j T ls rc kd tc mt at9 ix tr else U) := by
  have h' := h
  obtain ⟨k, q, kp, T, ls, rc, fk, tr, fa, bg, h0, hN, hS, hL, hB, hR⟩ := h
  have hT : T ≤ 512 := by have := h0.2.2.2.1; omega
  have hf1 : ∀ i, i < rc → V 8 i = nI (fa i) ∧ fa i < 100 := fun i hi => ⟨(hL.1 i hi).2.2.1, by have := (hL.1 i hi).2.2.2.2.2.2; have := h0.1; omega⟩
  have hf2 : ∀ i, i < rc → U 5 (3 * i + 1) = nI (fa i) ∧ fa i < 100 := fun i hi => ⟨(hL.1 i hi).2.2.2.1, (hf1 i hi).2⟩
  have hf3 : ∀ i, i < rc → U 5 (3 * i) = nI (tr i) ∧ tr i ≤ 512 := fun i hi => ⟨(hL.1 i hi).2.1, by have := (hL.1 i hi).2.2.2.2.2.1; omega⟩
  by_cases hx : 0 ≤ x.toInt ∧ x.toInt ≤ ((na : Nat) : Int) - 1
  · have hjn := st_j hj hx
    obtain ⟨kd, mt, rg, at9, ar, tc, tk, hr⟩ := hR j hjn
    have hsn : ∀ i, i < rc → ((¬ sn I V (11 + 6 * j) rg kd (fa i) i = 0) ↔ (¬ sm U j rg kd (fa i) i = 0)) := fun i hi => sn_sm hS hL hr hi
    obtain ⟨r1, r2, r3, r4, ⟨e1, e2, e3, e4, e5, e6, e7, e8⟩, ⟨f1, f2, f3, f4, f5⟩⟩ := hr
    have hix2 : nxt (fun i => decide (¬ sn I V (11 + 6 * j) rg kd (fa i) i = 0)) (rc - ar) ar = nxt (fun i => decide (¬ sm U j rg kd (fa i) i = 0)) (rc - ar) ar := nxt_cong _ _ (fun m h1 h2 => by
      show decide _ = decide _
      exact decide_eq_decide.2 (hsn m (by omega)))
    have hin := nxt_in (fun i => decide (¬ sn I V (11 + 6 * j) rg kd (fa i) i = 0)) (rc - ar) ar
    refine ⟨kp, T, ls, rc, fk, fa, tr, rg, kd, tc, mt, at9, ar, _, lgH_of h0 hN hc, hf1, hL.2.1, hf2, hf3, fun _ => ⟨⟨r4.1, r4.2.2.1⟩, ⟨r2.1, r2.2.2⟩, ⟨f1, f3⟩, ⟨r3.1, r3.2.2⟩, ⟨e1, by omega⟩, ⟨e5, e6⟩, r4.2.2.2.2⟩, fun _ => ⟨⟨r4.2.1, r4.2.2.1⟩, ⟨r2.2.1, r2.2.2⟩, ⟨f2, f3⟩, ⟨r3.2.1, r3.2.2⟩, ⟨e2, by omega⟩, fun h1 h2 => ⟨e7 h1 h2, e6⟩⟩, rfl, hix2, fun cd hcd => ?_⟩
    generalize nxt (fun i => decide (¬ sn I V (11 + 6 * j) rg kd (fa i) i = 0)) (rc - ar) ar = ix at hin ⊢
    have hend : ¬ at9 < ls → T < at9 → ix = rc := fun h1 h2 => by have := (e8 (by omega)).1; omega
    refine ⟨fun _ => ?_, st_ic h' (fun hc0 => ?_)⟩
    · by_cases h1 : at9 < ls
      · rw [if_pos h1, if_pos h1]
      · rw [if_neg h1, if_neg h1]
        by_cases h2 : T < at9
        · rw [if_pos h2, if_pos (hend h1 h2)]
        · rw [if_neg h2]
    · by_cases h1 : at9 < ls
      · unfold nxI nxV nxU
        simp only [if_pos h1, if_pos (Or.inl h1 : at9 < ls ∨ ix = rc)]
        have hlsT : ls ≤ T := by have := h0.2.2.2.2.1; omega
        refine st_rd h0 hN hS hL hB hR j ?_ ?_ ?_ ?_ ?_ ?_ ?_ _ ⟨kd, mt, rg, ls, fk, tc, tk, ?_⟩
        · exact fun r h => va_up_ne _ _ (by rcases h with h | ⟨j2, h1, h2⟩ <;> omega)
        · exact fun r _ => rfl
        · exact fun r h => by rw [va_up_ne _ _ (by omega)]
        · exact fun j2 k2 h1 h2 => by show va_up _ _ _ _ = _; rw [va_up_ne _ _ (by omega), va_up_ne _ _ (by omega), va_up_ne _ _ (by omega)]
        · exact fun _ _ _ _ => rfl
        · exact fun _ _ _ _ => rfl
        · exact fun _ _ => rfl
        have eI : ∀ F : Nat → Int32, (va_up I (11 + 6 * j) F) (11 + 6 * j) = F := fun F => va_up_self _ _ _
        have g7 : ∀ (G : Nat → Int32) (m : Nat), (va_up U 7 G) 7 m = G m := fun _ _ => rfl
        have gn : ∀ (a b d : Int32) (m : Nat), m ≠ 12 * j → m ≠ 12 * j + 1 → m ≠ 12 * j + 8 → (va_up (va_up (va_up (U 7) (12 * j + 8) a) (12 * j) b) (12 * j + 1) d) m = U 7 m := fun a b d m h1 h2 h3 => by rw [va_up_ne _ _ h2, va_up_ne _ _ h1, va_up_ne _ _ h3]
        have g0 : ∀ a b d : Int32, (va_up (va_up (va_up (U 7) (12 * j + 8) a) (12 * j) b) (12 * j + 1) d) (12 * j) = b := fun a b d => by rw [va_up_ne _ _ (by omega), va_up_self]
        have g1 : ∀ a b d : Int32, (va_up (va_up (va_up (U 7) (12 * j + 8) a) (12 * j) b) (12 * j + 1) d) (12 * j + 1) = d := fun a b d => va_up_self _ _ _
        have g8 : ∀ a b d : Int32, (va_up (va_up (va_up (U 7) (12 * j + 8) a) (12 * j) b) (12 * j + 1) d) (12 * j + 8) = a := fun a b d => by rw [va_up_ne _ _ (by omega), va_up_ne _ _ (by omega), va_up_self]
        unfold rR
        rw [eI]
        simp only [g7]
        rw [g0, g1, g8, gn _ _ _ (12 * j + 2) (by omega) (by omega) (by omega), gn _ _ _ (12 * j + 3) (by omega) (by omega) (by omega), gn _ _ _ (12 * j + 4) (by omega) (by omega) (by omega), gn _ _ _ (12 * j + 5) (by omega) (by omega) (by omega), gn _ _ _ (12 * j + 6) (by omega) (by omega) (by omega), gn _ _ _ (12 * j + 7) (by omega) (by omega) (by omega), gn _ _ _ (12 * j + 9) (by omega) (by omega) (by omega), gn _ _ _ (12 * j + 10) (by omega) (by omega) (by omega)]
        refine ⟨⟨r1.1, r1.2.1, r1.2.2.1, ?_, r1.2.2.2.2⟩, r2, r3, r4, ⟨rfl, rfl, by omega, by omega, rfl, h0.2.2.2.2.2.2.1, fun _ _ => ?_, fun h9 => by omega⟩, ⟨f1, f2, f3, fun m hm => ?_, f5⟩⟩
        · show I (11 + 6 * j) 14 + (nI ls - nI at9) = _
          rw [r1.2.2.2.1]
        · obtain ⟨c1, c2, c3⟩ := hB.1 ls (by omega) hlsT
          have d2 := hB.2
          have d1 := h0.2.2.2.2.2.2.1
          show U 6 ls + nI 0 = _
          rw [c1, nI_add, Nat.add_zero]
          congr 1
          rcases Nat.lt_trichotomy (bg ls) fk with h5 | h5 | h5
          · have h6 := (d2 _ (by omega)).1 h5
            have h7 := (c3 _ (by omega)).2 h6
            omega
          · exact h5
          · have h6 := (c3 _ (by omega)).1 h5
            have h7 := (d2 _ (by omega)).2 h6
            omega
        · obtain ⟨p1, p2, p3, p4, p5, p6⟩ := f4 m hm
          exact ⟨p1, p2, p3, p4, by omega, fun _ => (hB.2 _ p3).2 (by omega)⟩
      · have hl : ls ≤ at9 := by omega
        by_cases h2 : T < at9
        · have h3 := hend h1 h2
          have h4 := e8 (by omega)
          unfold nxI nxV nxU
          simp only [if_neg h1, if_pos h2, if_pos h3, if_pos (Or.inr h3 : at9 < ls ∨ ix = rc)]
          refine st_rd h0 hN hS hL hB hR j ?_ ?_ ?_ ?_ ?_ ?_ ?_ _ ⟨kd, mt, rg, T + 1, rc, tc, tk, ?_⟩
          · exact fun r h => va_up_ne _ _ (by rcases h with h | ⟨j2, h1, h2⟩ <;> omega)
          · exact fun r _ => rfl
          · exact fun r h => rfl
          · exact fun _ _ _ _ => rfl
          · exact fun _ _ _ _ => rfl
          · exact fun _ _ _ _ => rfl
          · exact fun _ _ => rfl
          have eI : ∀ F : Nat → Int32, (va_up I (11 + 6 * j) F) (11 + 6 * j) = F := fun F => va_up_self _ _ _
          unfold rR
          rw [eI]
          refine ⟨r1, r2, r3, r4, ⟨rfl, by rw [e2, show at9 = T + 1 by omega], by omega, by omega, rfl, by omega, fun _ h9 => by omega, fun _ => ⟨rfl, h4.2⟩⟩, ⟨f1, f2, f3, fun m hm => ?_, f5⟩⟩
          obtain ⟨p1, p2, p3, p4, p5, p6⟩ := f4 m hm
          exact ⟨p1, p2, p3, p4, by omega, fun _ => p3⟩
        · by_cases h3 : ix = rc
          · unfold nxI nxV nxU
            simp only [if_neg h1, if_neg h2, if_pos h3, if_pos (Or.inr h3 : at9 < ls ∨ ix = rc)]
            refine st_rd h0 hN hS hL hB hR j ?_ ?_ ?_ ?_ ?_ ?_ ?_ _ ⟨kd, mt, rg, T + 1, rc, tc, tk, ?_⟩
            · exact fun r h => va_up_ne _ _ (by rcases h with h | ⟨j2, h1, h2⟩ <;> omega)
            · exact fun r _ => rfl
            · exact fun r h => by rw [va_up_ne _ _ (by omega)]
            · exact fun j2 k2 h1 h2 => by show va_up _ _ _ _ = _; rw [va_up_ne _ _ (by omega), va_up_ne _ _ (by omega)]
            · exact fun _ _ _ _ => rfl
            · exact fun _ _ _ _ => rfl
            · exact fun _ _ => rfl
            have eI : ∀ F : Nat → Int32, (va_up I (11 + 6 * j) F) (11 + 6 * j) = F := fun F => va_up_self _ _ _
            have g7 : ∀ (G : Nat → Int32) (m : Nat), (va_up U 7 G) 7 m = G m := fun _ _ => rfl
            have gn : ∀ (b d : Int32) (m : Nat), m ≠ 12 * j → m ≠ 12 * j + 1 → (va_up (va_up (U 7) (12 * j) b) (12 * j + 1) d) m = U 7 m := fun b d m h1 h2 => by rw [va_up_ne _ _ h2, va_up_ne _ _ h1]
            have g0 : ∀ b d : Int32, (va_up (va_up (U 7) (12 * j) b) (12 * j + 1) d) (12 * j) = b := fun b d => by rw [va_up_ne _ _ (by omega), va_up_self]
            have g1 : ∀ b d : Int32, (va_up (va_up (U 7) (12 * j) b) (12 * j + 1) d) (12 * j + 1) = d := fun b d => va_up_self _ _ _
            unfold rR
            rw [eI]
            simp only [g7]
            rw [g0, g1, gn _ _ (12 * j + 2) (by omega) (by omega), gn _ _ (12 * j + 3) (by omega) (by omega), gn _ _ (12 * j + 4) (by omega) (by omega), gn _ _ (12 * j + 5) (by omega) (by omega), gn _ _ (12 * j + 6) (by omega) (by omega), gn _ _ (12 * j + 7) (by omega) (by omega), gn _ _ (12 * j + 8) (by omega) (by omega), gn _ _ (12 * j + 9) (by omega) (by omega), gn _ _ (12 * j + 10) (by omega) (by omega)]
            refine ⟨r1, r2, r3, r4, ⟨rfl, rfl, by omega, by omega, rfl, by omega, fun _ h9 => by omega, fun _ => ⟨trivial, rfl⟩⟩, ⟨f1, f2, f3, fun m hm => ?_, f5⟩⟩
            obtain ⟨p1, p2, p3, p4, p5, p6⟩ := f4 m hm
            exact ⟨p1, p2, p3, p4, by omega, fun _ => p3⟩
          · have hixr : ix < rc := by omega
            obtain ⟨q1, q2, q3, q4, q5, q6, q7⟩ := hL.1 ix hixr
            have hF : (∀ m, m ≠ 15 → nxF I (11 + 6 * j) kd m = I (11 + 6 * j) m) ∧ (∀ m, m ≠ 12 * j + 9 → nxG U j kd m = U 7 m) ∧ nxF I (11 + 6 * j) kd 15 = nxG U j kd (12 * j + 9) := by
              unfold nxF nxG
              rw [r1.2.2.1]
              by_cases h5 : kd = 4 ∧ U 7 (12 * j + 5) = 0
              · rw [if_pos h5, if_pos h5]
                exact ⟨fun m hm => va_up_ne _ _ hm, fun m hm => va_up_ne _ _ hm, by rw [va_up_self, va_up_self, r1.2.2.2.2.1]⟩
              · rw [if_neg h5, if_neg h5]
                exact ⟨fun _ _ => rfl, fun _ _ => rfl, r1.2.2.2.2.1⟩
            obtain ⟨hF1, hF2, hF3⟩ := hF
            unfold nxI nxV nxU
            simp only [if_neg h1, if_neg h2, if_neg h3, if_neg (not_or.2 ⟨h1, h3⟩)]
            generalize nxF I (11 + 6 * j) kd = F at hF1 hF3 ⊢
            generalize nxG U j kd = G at hF2 hF3 ⊢
            have hF16 := hF1 16 (by decide)
            have hF0 := hF1 0 (by decide)
            have hFa := hF1 1 (by decide)
            have hF9 := hF1 9 (by decide)
            have hF10 := hF1 10 (by decide)
            have hF11 := hF1 11 (by decide)
            have hF12 := hF1 12 (by decide)
            have hF13 := hF1 13 (by decide)
            have hF14 := hF1 14 (by decide)
            have eI : ∀ F : Nat → Int32, (va_up I (11 + 6 * j) F) (11 + 6 * j) = F := fun F => va_up_self _ _ _
            have hd : ∀ m, m < tc → tr (tk m) ≤ tr ix := fun m hm => by
              have p := f4 m hm
              exact hL.2.2 _ _ (by have := p.2.2.2.2.2 hl; omega) hixr
            by_cases h4 : tc < mt
            · simp only [if_pos h4]
              refine st_rd h0 hN hS hL hB hR j ?_ ?_ ?_ ?_ ?_ ?_ ?_ _ ⟨kd, mt, rg, tr ix, ix + 1, tc + 1, va_up tk tc ix, ?_⟩
              · exact fun r h => va_up_ne _ _ (by rcases h with h | ⟨j2, h1, h2⟩ <;> omega)
              · exact fun r h => by rw [va_up_ne _ _ (by rcases h with h | ⟨j2, k2, h1, h2, h3, h4⟩ <;> omega), va_up_ne _ _ (by rcases h with h | ⟨j2, k2, h1, h2, h3, h4⟩ <;> omega)]
              · exact fun r h => by rw [va_up_ne _ _ (by omega), va_up_ne _ _ (by omega), va_up_ne _ _ (by omega)]
              · exact fun j2 k2 h1 h2 => by show va_up _ _ _ _ = _; rw [va_up_ne _ _ (by omega), va_up_ne _ _ (by omega), va_up_ne _ _ (by omega), va_up_ne _ _ (by omega), hF2 _ (by omega)]
              · exact fun _ _ _ _ => rfl
              · exact fun j2 k2 h1 h2 => by show va_up _ _ _ _ = _; rw [va_up_ne _ _ (by omega)]
              · exact fun j2 h1 => va_up_ne _ _ h1
              have g7 : ∀ (A B C : Nat → Int32) (m : Nat), (va_up (va_up (va_up U 7 A) 9 B) 10 C) 7 m = A m := fun _ _ _ _ => rfl
              have g9 : ∀ (A B C : Nat → Int32) (m : Nat), (va_up (va_up (va_up U 7 A) 9 B) 10 C) 9 m = B m := fun _ _ _ _ => rfl
              have g10 : ∀ (A B C : Nat → Int32) (m : Nat), (va_up (va_up (va_up U 7 A) 9 B) 10 C) 10 m = C m := fun _ _ _ _ => rfl
              have gn : ∀ (a b d e : Int32) (m : Nat), m ≠ 12 * j → m ≠ 12 * j + 1 → m ≠ 12 * j + 10 → (va_up (va_up (va_up (va_up G (12 * j) a) (12 * j + 1) b) (12 * j + 1) d) (12 * j + 10) e) m = G m := fun a b d e m h1 h2 h3 => by rw [va_up_ne _ _ h3, va_up_ne _ _ h2, va_up_ne _ _ h2, va_up_ne _ _ h1]
              have g0 : ∀ a b d e : Int32, (va_up (va_up (va_up (va_up G (12 * j) a) (12 * j + 1) b) (12 * j + 1) d) (12 * j + 10) e) (12 * j) = a := fun a b d e => by rw [va_up_ne _ _ (by omega), va_up_ne _ _ (by omega), va_up_ne _ _ (by omega), va_up_self]
              have g1 : ∀ a b d e : Int32, (va_up (va_up (va_up (va_up G (12 * j) a) (12 * j + 1) b) (12 * j + 1) d) (12 * j + 10) e) (12 * j + 1) = d := fun a b d e => by rw [va_up_ne _ _ (by omega), va_up_self]
              have ga : ∀ a b d e : Int32, (va_up (va_up (va_up (va_up G (12 * j) a) (12 * j + 1) b) (12 * j + 1) d) (12 * j + 10) e) (12 * j + 10) = e := fun a b d e => va_up_self _ _ _
              have v : ∀ (A B : Nat → Int32) (r : Nat), r ≠ 11 + 6 * j + 1 → r ≠ 11 + 6 * j + 2 → (va_up (va_up V (11 + 6 * j + 1) A) (11 + 6 * j + 2) B) r = V r := fun A B r h1 h2 => by rw [va_up_ne _ _ h2, va_up_ne _ _ h1]
              have v1 : ∀ A B : Nat → Int32, (va_up (va_up V (11 + 6 * j + 1) A) (11 + 6 * j + 2) B) (11 + 6 * j + 1) = A := fun A B => by rw [va_up_ne _ _ (by omega), va_up_self]
              have v2 : ∀ A B : Nat → Int32, (va_up (va_up V (11 + 6 * j + 1) A) (11 + 6 * j + 2) B) (11 + 6 * j + 2) = B := fun A B => va_up_self _ _ _
              unfold rR
              rw [eI, v1, v2, v _ _ (11 + 6 * j + 3) (by omega) (by omega), v _ _ (11 + 6 * j + 4) (by omega) (by omega), v _ _ (11 + 6 * j + 5) (by omega) (by omega)]
              simp only [g7, g9, g10]
              rw [g0, g1, ga, gn _ _ _ _ (12 * j + 2) (by omega) (by omega) (by omega), gn _ _ _ _ (12 * j + 3) (by omega) (by omega) (by omega), gn _ _ _ _ (12 * j + 4) (by omega) (by omega) (by omega), gn _ _ _ _ (12 * j + 5) (by omega) (by omega) (by omega), gn _ _ _ _ (12 * j + 6) (by omega) (by omega) (by omega), gn _ _ _ _ (12 * j + 7) (by omega) (by omega) (by omega), gn _ _ _ _ (12 * j + 8) (by omega) (by omega) (by omega), gn _ _ _ _ (12 * j + 9) (by omega) (by omega) (by omega), hF2 (12 * j + 2) (by omega), hF2 (12 * j + 3) (by omega), hF2 (12 * j + 4) (by omega), hF2 (12 * j + 5) (by omega), hF2 (12 * j + 6) (by omega), hF2 (12 * j + 7) (by omega), hF2 (12 * j + 8) (by omega), ← hF3]
              refine ⟨⟨hF0.trans r1.1, hFa.trans r1.2.1, hF10.trans r1.2.2.1, hF14.trans r1.2.2.2.1, rfl, ?_⟩, ⟨hF9.trans r2.1, r2.2⟩, ⟨hF11.trans r3.1, r3.2⟩, ⟨hF13.trans r4.1, r4.2⟩, ⟨q1, rfl, by omega, by omega, rfl, by omega, fun _ _ => ?_, fun h9 => by omega⟩, ⟨rfl, va_up_self _ _ _, by omega, fun m hm => ?_, fun m m2 h5 h6 => ?_⟩⟩
              · show F 16 + nI 1 = _
                rw [hF16, r1.2.2.2.2.2]
              · show U 6 (tr ix) + _ = _
                rw [i32_abc, nI_add]
              · show va_up (V (11 + 6 * j + 1)) tc (nI ix) m = nI (va_up tk tc ix m) ∧ va_up (U 9) (20 * j + tc) (nI ix) (20 * j + m) = nI (va_up tk tc ix m) ∧ va_up tk tc ix m < rc ∧ va_up (V (11 + 6 * j + 2)) tc (V 7 ix) m = nI (tr (va_up tk tc ix m)) ∧ tr (va_up tk tc ix m) ≤ tr ix ∧ (ls ≤ tr ix → va_up tk tc ix m < ix + 1)
                by_cases h5 : m = tc
                · subst h5
                  rw [va_up_self, va_up_self, va_up_self, va_up_self]
                  exact ⟨rfl, rfl, hixr, q1, Nat.le_refl _, fun _ => by omega⟩
                · obtain ⟨p1, p2, p3, p4, p5, p6⟩ := f4 m (by omega)
                  rw [va_up_ne _ _ h5, va_up_ne _ _ h5, va_up_ne _ _ h5, va_up_ne _ _ (by omega)]
                  exact ⟨p1, p2, p3, p4, hd m (by omega), fun _ => by have := p6 hl; omega⟩
              · show va_up tk tc ix m < va_up tk tc ix m2
                rw [va_up_ne _ _ (show m ≠ tc by omega)]
                by_cases h7 : m2 = tc
                · subst h7
                  rw [va_up_self]
                  have := (f4 m (by omega)).2.2.2.2.2 hl
                  omega
                · rw [va_up_ne _ _ h7]
                  exact f5 m m2 h5 (by omega)
            · simp only [if_neg h4]
              refine st_rd h0 hN hS hL hB hR j ?_ ?_ ?_ ?_ ?_ ?_ ?_ _ ⟨kd, mt, rg, tr ix, ix, tc, tk, ?_⟩
              · exact fun r h => va_up_ne _ _ (by rcases h with h | ⟨j2, h1, h2⟩ <;> omega)
              · exact fun r h => rfl
              · exact fun r h => by rw [va_up_ne _ _ (by omega)]
              · exact fun j2 k2 h1 h2 => by show va_up _ _ _ _ = _; rw [va_up_ne _ _ (by omega), va_up_ne _ _ (by omega), hF2 _ (by omega)]
              · exact fun _ _ _ _ => rfl
              · exact fun _ _ _ _ => rfl
              · exact fun _ _ => rfl
              have g7 : ∀ (A : Nat → Int32) (m : Nat), (va_up U 7 A) 7 m = A m := fun _ _ => rfl
              have gn : ∀ (a b : Int32) (m : Nat), m ≠ 12 * j → m ≠ 12 * j + 1 → (va_up (va_up G (12 * j) a) (12 * j + 1) b) m = G m := fun a b m h1 h2 => by rw [va_up_ne _ _ h2, va_up_ne _ _ h1]
              have g0 : ∀ a b : Int32, (va_up (va_up G (12 * j) a) (12 * j + 1) b) (12 * j) = a := fun a b => by rw [va_up_ne _ _ (by omega), va_up_self]
              have g1 : ∀ a b : Int32, (va_up (va_up G (12 * j) a) (12 * j + 1) b) (12 * j + 1) = b := fun a b => va_up_self _ _ _
              unfold rR
              rw [eI]
              simp only [g7]
              rw [g0, g1, gn _ _ (12 * j + 2) (by omega) (by omega), gn _ _ (12 * j + 3) (by omega) (by omega), gn _ _ (12 * j + 4) (by omega) (by omega), gn _ _ (12 * j + 5) (by omega) (by omega), gn _ _ (12 * j + 6) (by omega) (by omega), gn _ _ (12 * j + 7) (by omega) (by omega), gn _ _ (12 * j + 8) (by omega) (by omega), gn _ _ (12 * j + 9) (by omega) (by omega), gn _ _ (12 * j + 10) (by omega) (by omega), hF2 (12 * j + 2) (by omega), hF2 (12 * j + 3) (by omega), hF2 (12 * j + 4) (by omega), hF2 (12 * j + 5) (by omega), hF2 (12 * j + 6) (by omega), hF2 (12 * j + 7) (by omega), hF2 (12 * j + 8) (by omega), hF2 (12 * j + 10) (by omega), ← hF3]
              refine ⟨⟨hF0.trans r1.1, hFa.trans r1.2.1, hF10.trans r1.2.2.1, hF14.trans r1.2.2.2.1, rfl, hF16.trans r1.2.2.2.2.2⟩, ⟨hF9.trans r2.1, r2.2⟩, ⟨hF11.trans r3.1, r3.2⟩, ⟨hF13.trans r4.1, r4.2⟩, ⟨q1, rfl, by omega, by omega, rfl, by omega, fun _ _ => i32_ab _ _, fun h9 => by omega⟩, ⟨hF12.trans f1, f2, f3, fun m hm => ?_, f5⟩⟩
              obtain ⟨p1, p2, p3, p4, p5, p6⟩ := f4 m hm
              exact ⟨p1, p2, p3, p4, hd m hm, fun _ => by have := p6 hl; omega⟩
  · refine ⟨kp, T, ls, rc, fk, fa, tr, 0, 0, 0, 0, 0, rc, rc, lgH_of h0 hN hc, hf1, hL.2.1, hf2, hf3, fun h9 => absurd h9 hx, fun h9 => absurd h9 hx, by rw [Nat.sub_self]; rfl, by rw [Nat.sub_self]; rfl, fun cd hcd => ⟨fun hc0 => absurd (st_1 hcd hc0) hx, st_ic h' (fun hc0 => absurd (st_1 hcd hc0) hx)⟩⟩
