/-- the rows hold the list -/
def RWS (S : Nat → Nat → Int32) (q : List KV) : Prop := ∀ i (hi : i < q.length), S 10 i = (q[i]).1 ∧ S 11 i = (q[i]).2
theorem rd_list {S : Nat → Nat → Int32} {q : List KV} (hq : RWS S q) (k : Int32) : ∀ (m j : Nat) (x : Int32) (n : Nat), j + m = q.length → rd S k m j x n = rdl (S 0 18) (S 0 16) k (q.drop j) x n
  | 0, j, x, n, h => by
    rw [List.drop_eq_nil_of_le (by omega)]; rfl
  | m + 1, j, x, n, h => by
    have hj : j < q.length := by omega
    obtain ⟨h1, h2⟩ := hq j hj
    rw [List.drop_eq_getElem_cons hj, rd, rdl, h1, h2, rd_list hq k m (j + 1) x n (by omega), rd_list hq k m (j + 1) _ (n + 1) (by omega)]
def prv (S : Nat → Nat → Int32) (i : Nat) : Option Int32 := if i = 0 then none else some (S 10 (i - 1))
abbrev inP (S : Nat → Nat → Int32) (pn : Nat) : Int32 → Bool := fun k => decide (mdl k (S 0 19) = nI pn)
theorem rdT_14 {S : Nat → Nat → Int32} {o : Int32 × Nat × Bool} : rdT S o 0 14 = if o.2.2 = true then nI 3 else S 0 14 := by
  unfold rdT
  rw [xu_j _ _ _ _ (by decide)]
  split
  · exact xu_s _ _ _ _
  · rfl
theorem rcS_inv {S : Nat → Nat → Int32} {q : List KV} (hq : RWS S q) (h14 : S 0 14 = 0) (put : Int32) (pn : Nat) : ∀ i, i ≤ q.length →
    ((rcS S q.length put pn i).1 0 14 = 0 ∧ ∃ l : List KV, l.length = (rcS S q.length put pn i).2 ∧ rclo (S 0 18) (S 0 16) (inP S pn) none q = (rclo (S 0 18) (S 0 16) (inP S pn) (prv S i) (q.drop i)).map (fun l' => l ++ l') ∧ (¬ put = 0 → ∀ j (hj : j < l.length), (rcS S q.length put pn i).1 13 (pn * 100 + j) = (l[j]).1 ∧ (rcS S q.length put pn i).1 14 (pn * 100 + j) = (l[j]).2)) ∨
    ((rcS S q.length put pn i).1 0 14 = nI 3 ∧ rclo (S 0 18) (S 0 16) (inP S pn) none q = none)
  | 0, _ => Or.inl ⟨h14, [], rfl, by rw [show prv S 0 = none from rfl, List.drop_zero]; cases rclo (S 0 18) (S 0 16) (inP S pn) none q <;> rfl, fun _ j hj => absurd hj (Nat.not_lt_zero j)⟩
  | i + 1, hi => by
    have il : i < q.length := by omega
    obtain ⟨k1, k2⟩ := hq i il
    have dr : q.drop i = q[i] :: q.drop (i + 1) := List.drop_eq_getElem_cons il
    have pv : prv S (i + 1) = some (S 10 i) := by unfold prv; rw [if_neg (by omega), Nat.add_sub_cancel]
    rw [rcS]
    rcases rcS_inv hq h14 put pn i (by omega) with ⟨t0, l, l1, l2, l3⟩ | ⟨t3, l2⟩
    · have ro := rd_list hq (S 10 i) (q.length - i) i (nI 0) 0 (by omega)
      have sk : skp S (nI pn) i ↔ (prv S i = some (q[i]).1 ∨ ¬ inP S pn (q[i]).1 = true) := by
        unfold skp prv
        rw [k1]
        constructor
        · rintro (h | h)
          · left; rw [if_neg (by omega), h.2]
          · right; intro e; exact h (of_decide_eq_true e)
        · rintro (h | h)
          · left
            by_cases i0 : i = 0
            · rw [if_pos i0] at h; cases h
            · rw [if_neg i0] at h; exact ⟨by omega, Option.some.inj h⟩
          · right; intro e; exact h (decide_eq_true e)
      by_cases hs : skp S (nI pn) i
      · rw [if_pos (Or.inr hs)]
        refine Or.inl ⟨t0, l, l1, ?_, l3⟩
        rw [l2, dr, rclo, if_pos (sk.mp hs), pv, k1]
      · rw [if_neg (by rintro (q | q); exact q t0; exact hs q)]
        rw [dr, rclo, if_neg (fun q => hs (sk.mpr q))] at l2
        rw [← dr, ← k1, ← ro] at l2
        generalize rd S (S 10 i) (q.length - i) i (nI 0) 0 = o at *
        by_cases hf : o.2.2 = true
        · rw [if_pos (Or.inr hf)]
          rw [if_pos hf] at l2
          exact Or.inr ⟨by dsimp only; rw [rdT_14, if_pos hf], l2⟩
        · rw [if_neg hf] at l2
          by_cases h0 : o.2.1 = 0
          · rw [if_pos (Or.inl h0)]
            rw [if_pos h0] at l2
            refine Or.inl ⟨by dsimp only; rw [rdT_14, if_neg hf]; exact t0, l, l1, by rw [l2, pv], fun hp j hj => ?_⟩
            dsimp only
            rw [rdT_keep (by omega), rdT_keep (by omega)]
            exact l3 hp j hj
          · rw [if_neg (by rintro (q | q); exact h0 q; exact hf q)]
            rw [if_neg h0] at l2
            have l2' : rclo (S 0 18) (S 0 16) (inP S pn) none q = (rclo (S 0 18) (S 0 16) (inP S pn) (prv S (i + 1)) (q.drop (i + 1))).map (fun l' => (l ++ [(S 10 i, o.1)]) ++ l') := by
              rw [l2, pv]
              cases rclo (S 0 18) (S 0 16) (inP S pn) (some (S 10 i)) (q.drop (i + 1)) with
              | none => rfl
              | some l' => simp
            refine Or.inl ⟨?_, l ++ [(S 10 i, o.1)], by rw [List.length_append, List.length_singleton, l1], l2', fun hp j hj => ?_⟩
            · dsimp only
              by_cases hp : put = 0
              · rw [if_pos hp, rdT_14, if_neg hf]; exact t0
              · rw [if_neg hp, xu_k _ _ _ (by decide), xu_k _ _ _ (by decide), rdT_14, if_neg hf]; exact t0
            · dsimp only
              rw [if_neg hp, ← l1, xu_k (k := 14) (k' := 13) _ _ _ (by decide)]
              by_cases e : j = l.length
              · subst e
                rw [xu_s, xu_s, List.getElem_append_right (Nat.le_refl _)]
                simp
              · have jl : j < l.length := by rw [List.length_append, List.length_singleton] at hj; omega
                rw [xu_j _ _ _ _ (by omega), xu_j _ _ _ _ (by omega), xu_k (k := 13) (k' := 14) _ _ _ (by decide), rdT_keep (by omega), rdT_keep (by omega), List.getElem_append_left jl]
                exact l3 hp j jl
    · rw [if_pos (Or.inl (by rw [t3]; decide))]
      exact Or.inr ⟨t3, l2⟩
theorem rcS_fin {S : Nat → Nat → Int32} {q : List KV} (hq : RWS S q) (hs : srt q) (hr : okr (S 0 18)) (h14 : S 0 14 = 0) (put : Int32) (pn : Nat) :
    (∀ l, gro (S 0 18) (S 0 16) (q.filter (fun a => inP S pn a.1)) none = some l → (rcS S q.length put pn q.length).1 0 14 = 0 ∧ (rcS S q.length put pn q.length).2 = l.length ∧ (¬ put = 0 → ∀ j (hj : j < l.length), (rcS S q.length put pn q.length).1 13 (pn * 100 + j) = (l[j]).1 ∧ (rcS S q.length put pn q.length).1 14 (pn * 100 + j) = (l[j]).2)) ∧
    (gro (S 0 18) (S 0 16) (q.filter (fun a => inP S pn a.1)) none = none → (rcS S q.length put pn q.length).1 0 14 = nI 3) := by
  have e := rclo_gro (r := S 0 18) (f := S 0 16) hr (inP S pn) q none hs (fun k h => by cases h)
  have e2 : q.filter (fun a => inP S pn a.1 && decide (¬ some a.1 = none)) = q.filter (fun a => inP S pn a.1) := List.filter_congr (fun b _ => by simp)
  rw [e2] at e
  rcases rcS_inv hq h14 put pn q.length (Nat.le_refl _) with ⟨t0, l, l1, l2, l3⟩ | ⟨t3, l2⟩
  · rw [List.drop_eq_nil_of_le (Nat.le_refl _), show rclo (S 0 18) (S 0 16) (inP S pn) (prv S q.length) [] = some [] by rw [rclo], e] at l2
    have l2' : gro (S 0 18) (S 0 16) (q.filter (fun a => inP S pn a.1)) none = some l := by rw [l2]; simp
    refine ⟨fun l' h => ?_, fun h => by rw [h] at l2'; cases l2'⟩
    rw [l2'] at h
    obtain rfl : l = l' := Option.some.inj h
    exact ⟨t0, l1.symm, l3⟩
  · rw [e] at l2
    exact ⟨fun l' h => (by rw [l2] at h; cases h), fun _ => t3⟩
