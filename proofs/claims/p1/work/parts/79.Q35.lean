/-! the start of the law -/
theorem dfA : ∀ j, j < 15 → xft 0 j = .int ∨ xft 0 j = .boolean ∨ (∃ q, xft 0 j = .object q) ∨ ∃ q, xft 0 j = .array q := fun j hj => by
  rcases (by omega : j = 0 ∨ j = 1 ∨ j = 2 ∨ j = 3 ∨ j = 4 ∨ j = 5 ∨ j = 6 ∨ j = 7 ∨ j = 8 ∨ j = 9 ∨ j = 10 ∨ j = 11 ∨ j = 12 ∨ j = 13 ∨ j = 14) with rfl | rfl | rfl | rfl | rfl | rfl | rfl | rfl | rfl | rfl | rfl | rfl | rfl | rfl | rfl <;> first | exact Or.inl rfl | exact Or.inr (Or.inl rfl) | exact Or.inr (Or.inr (Or.inl ⟨_, rfl⟩)) | exact Or.inr (Or.inr (Or.inr ⟨_, rfl⟩))
theorem dfM : ∀ j, j < 31 → xft 6 j = .int ∨ xft 6 j = .boolean ∨ (∃ q, xft 6 j = .object q) ∨ ∃ q, xft 6 j = .array q := fun j hj => by
  rcases (by omega : j = 0 ∨ j = 1 ∨ j = 2 ∨ j = 3 ∨ j = 4 ∨ j = 5 ∨ j = 6 ∨ j = 7 ∨ j = 8 ∨ j = 9 ∨ j = 10 ∨ j = 11 ∨ j = 12 ∨ j = 13 ∨ j = 14 ∨ j = 15 ∨ j = 16 ∨ j = 17 ∨ j = 18 ∨ j = 19 ∨ j = 20 ∨ j = 21 ∨ j = 22 ∨ j = 23 ∨ j = 24 ∨ j = 25 ∨ j = 26 ∨ j = 27 ∨ j = 28 ∨ j = 29 ∨ j = 30) with rfl | rfl | rfl | rfl | rfl | rfl | rfl | rfl | rfl | rfl | rfl | rfl | rfl | rfl | rfl | rfl | rfl | rfl | rfl | rfl | rfl | rfl | rfl | rfl | rfl | rfl | rfl | rfl | rfl | rfl | rfl <;> first | exact Or.inl rfl | exact Or.inr (Or.inl rfl) | exact Or.inr (Or.inr (Or.inl ⟨_, rfl⟩)) | exact Or.inr (Or.inr (Or.inr ⟨_, rfl⟩))
theorem CB.begin {g : xH} {z : Nat} (hz : xnx g = z) : CB g (xnw g 1 0 15) z sA0 15 := by
  subst hz
  refine ⟨rfl, rfl, fun k hk => ?_, fun a ha => ?_⟩
  · obtain rfl : k = 0 := by have h9 : k < 1 := hk; omega
    refine ⟨xr_s _ _ _, xr_s _ _ _, fun j => ?_, fun j => ?_⟩
    · show xr (xP g) (xnx g) (fun _ => none) (xnx g) j = _; rw [xr_s]; rfl
    · show xr (xI g) (xnx g) (fun _ => 0) (xnx g) j = _; rw [xr_s]; rfl
  · have n1 : a ≠ xnx g := by omega
    exact ⟨xr_n _ _ n1, xr_n _ _ n1, xr_n _ _ n1, xr_n _ _ n1, xr_n _ _ n1⟩
def S0 : Nat → Nat → Int32 := fun k j => if k = 0 then sc0 j else mini k j
theorem law_start {g h1 h2 : xH} {z : Nat} (hg : xsl g = 0) (b : CB g h1 z sR3 3244) (m : MB (xnw h1 7 0 31) h2 (z + 75) 15 sc0) : LW z 0 (xnw h2 102 1 1) := by
  have n1 : xnx h1 = z + 75 := b.1.trans (by rw [show sR3.1 = 75 by decide +kernel])
  have hs := b.shape
  obtain ⟨m1, m2, m3, m4, m5, m6⟩ := m
  have lo : ∀ a, a < z + 75 → xT (xnw h2 102 1 1) a = xT h1 a ∧ xN (xnw h2 102 1 1) a = xN h1 a ∧ xI (xnw h2 102 1 1) a = xI h1 a ∧ xP (xnw h2 102 1 1) a = xP h1 a := fun a ha => by
    have q1 : a ≠ xnx h2 := by omega
    have q2 : a ≠ xnx h1 := by omega
    obtain ⟨c1, c2, c3, c4, -⟩ := m6 a ha
    exact ⟨(xr_n _ _ q1).trans (c1.trans (xr_n _ _ q2)), (xr_n _ _ q1).trans (c2.trans (xr_n _ _ q2)), (xr_n _ _ q1).trans (c3.trans (xr_n _ _ q2)), (xr_n _ _ q1).trans (c4.trans (xr_n _ _ q2))⟩
  have mi : ∀ k, k < 16 → xT (xnw h2 102 1 1) (z + 75 + k) = xT h2 (z + 75 + k) ∧ xN (xnw h2 102 1 1) (z + 75 + k) = xN h2 (z + 75 + k) ∧ xI (xnw h2 102 1 1) (z + 75 + k) = xI h2 (z + 75 + k) ∧ xP (xnw h2 102 1 1) (z + 75 + k) = xP h2 (z + 75 + k) := fun k hk => by
    have q1 : z + 75 + k ≠ xnx h2 := by omega
    exact ⟨xr_n _ _ q1, xr_n _ _ q1, xr_n _ _ q1, xr_n _ _ q1⟩
  have hm2 : MSh h2 (z + 75) := ⟨m3, fun k hk => ⟨(m4 k hk.1 (by omega)).1, (m4 k hk.1 (by omega)).2.1, (m4 k hk.1 (by omega)).2.2.1⟩⟩
  have e91 : z + 91 = xnx h2 := by omega
  refine ⟨sR3.2.2.2.2, false, fun _ => none, 0, fun _ => 0, S0, 0, fun _ => 0, xnw h2 102 1 1, ?_, ⟨?_, ?_, ?_, ?_, ?_, ?_, ?_⟩, CV.start (fun _ _ => rfl) (fun _ _ => rfl), MI.start (fun j => rfl) (fun j => rfl)⟩
  · generalize hH : xnw h2 102 1 1 = H at *
    obtain ⟨x1, x2, xI0, xP0, x5⟩ := H
    show _ = (x1, x2, (fun a j => if z ≤ a ∧ a < z + 75 then sR3.2.2.2.2 (a - z) j else if z + 75 ≤ a ∧ a < z + 75 + 16 then S0 (a - (z + 75)) j else xI0 a j), (fun a j => if a = z ∧ j = 5 then some (z + jo false) else if a = z ∧ j = 6 then some (z + jo (!false)) else if z + 50 ≤ a ∧ a < z + 54 ∧ j = 2 then none else xP0 a j), x5)
    congr 3
    · funext a j
      split
      · rename_i q
        have e : xI0 a = xI h1 a := (lo a q.2).2.2.1
        have s1 : sR3.1 = 75 := by decide +kernel
        have := (b.2.2.1 (a - z) (by rw [s1]; omega)).2.2.2 j
        rw [show z + (a - z) = a by omega] at this
        rw [e, this]
      · split
        · rename_i q
          have e : xI0 (z + 75 + (a - (z + 75))) = xI h2 (z + 75 + (a - (z + 75))) := (mi (a - (z + 75)) (by omega)).2.2.1
          rw [show z + 75 + (a - (z + 75)) = a by omega] at e
          rw [e]
          unfold S0
          by_cases k0 : a - (z + 75) = 0
          · rw [if_pos k0, show a = z + 75 by omega]; exact m5 j
          · rw [if_neg k0]
            have := (m4 (a - (z + 75)) (by omega) (by omega)).2.2.2 j
            rw [show z + 75 + (a - (z + 75)) = a by omega] at this
            exact this
        · rfl
    · congr 1
      funext a j
      split
      · rename_i q
        obtain ⟨rfl, rfl⟩ := q
        have e : xP0 a = xP h1 a := (lo a (by omega)).2.2.2
        rw [e]
        exact b.P (k := 0) (j := 5) (m := 8) (by decide +kernel) (by decide +kernel)
      · split
        · rename_i q
          obtain ⟨rfl, rfl⟩ := q
          have e : xP0 a = xP h1 a := (lo a (by omega)).2.2.2
          rw [e]
          exact b.P (k := 0) (j := 6) (m := 29) (by decide +kernel) (by decide +kernel)
        · split
          · rename_i q
            have e : xP0 a = xP h1 a := (lo a (by omega)).2.2.2
            obtain ⟨q1, q2, rfl⟩ := q
            rw [e]
            rcases (by omega : a = z + 50 ∨ a = z + 51 ∨ a = z + 52 ∨ a = z + 53) with rfl | rfl | rfl | rfl
            · exact b.P0 (k := 50) (j := 2) (by decide +kernel) (by decide +kernel)
            · exact b.P0 (k := 51) (j := 2) (by decide +kernel) (by decide +kernel)
            · exact b.P0 (k := 52) (j := 2) (by decide +kernel) (by decide +kernel)
            · exact b.P0 (k := 53) (j := 2) (by decide +kernel) (by decide +kernel)
          · rfl
  · exact hs.congr (fun k hk => ⟨(lo (z + k) (by omega)).1, (lo (z + k) (by omega)).2.1, (lo (z + k) (by omega)).2.2.2⟩)
  · exact hm2.congr (fun k hk => ⟨(mi k hk).1, (mi k hk).2.1, (mi k hk).2.2.2⟩)
  · rw [e91]; exact xr_s _ _ _
  · rw [e91]; exact xr_s _ _ _
  · show z + 92 ≤ xnx h2 + 1; omega
  · show xnx h2 + 1 ≤ z + 92 + 0; omega
  · show xsl h2 + 1 ≤ 6000 + 6 * 0
    have e : msum 15 = 1293 := by decide +kernel
    have e2 : xsl (xnw h1 7 0 31) = xsl h1 + 31 := rfl
    have b2 := b.2.1
    omega
theorem lwJ {h : xH} {t N sl : Nat} (j : Nat) : defaultValue .long = xsv .long (xnw h t N sl) (xnx h) j := by
  show Value.long 0 = Value.long (xr (xJ h) (xnx h) (fun _ => (0 : Int64)) (xnx h) j); rw [xr_s]
