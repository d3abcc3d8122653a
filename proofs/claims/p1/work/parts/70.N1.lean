/-! lists of pairs, sorted by key -/
def kle (a b : KV) : Prop := a.1.toInt ≤ b.1.toInt
abbrev srt (q : List KV) : Prop := q.Pairwise kle
theorem insRev_mem {x y : KV} : ∀ {q : List KV}, y ∈ insRev x q ↔ y = x ∨ y ∈ q
  | [] => by simp [insRev]
  | a :: r => by
    unfold insRev
    split
    · rw [List.mem_cons, insRev_mem (q := r), List.mem_cons]
      constructor
      · rintro (h | h | h)
        · exact Or.inr (Or.inl h)
        · exact Or.inl h
        · exact Or.inr (Or.inr h)
      · rintro (h | h | h)
        · exact Or.inr (Or.inl h)
        · exact Or.inl h
        · exact Or.inr (Or.inr h)
    · rw [List.mem_cons]
theorem insRev_pw {x : KV} : ∀ {q : List KV}, q.Pairwise (fun a b => kle b a) → (insRev x q).Pairwise (fun a b => kle b a)
  | [], _ => by simp [insRev]
  | a :: r, h => by
    rw [List.pairwise_cons] at h
    unfold insRev
    split
    · rename_i hx
      rw [List.pairwise_cons]
      refine ⟨fun y hy => ?_, insRev_pw h.2⟩
      rcases insRev_mem.mp hy with rfl | hy
      · rw [Int32.lt_iff_toInt_lt] at hx; unfold kle; omega
      · exact h.1 y hy
    · rename_i hx
      rw [Int32.lt_iff_toInt_lt] at hx
      rw [List.pairwise_cons, List.pairwise_cons]
      refine ⟨fun y hy => ?_, h⟩
      rcases List.mem_cons.mp hy with rfl | hy
      · unfold kle; omega
      · have := h.1 y hy; unfold kle at this ⊢; omega
theorem insB_mem {x y : KV} {q : List KV} : y ∈ insB x q ↔ y = x ∨ y ∈ q := by
  unfold insB; rw [List.mem_reverse, insRev_mem, List.mem_reverse]
theorem insB_srt {x : KV} {q : List KV} (h : srt q) : srt (insB x q) := by
  unfold insB srt
  rw [List.pairwise_reverse]
  exact insRev_pw (by rw [List.pairwise_reverse]; exact h)
theorem fold_srt : ∀ (q acc : List KV), srt acc → srt (q.foldl (fun acc x => insB x acc) acc)
  | [], _, h => h
  | _ :: q, _, h => fold_srt q _ (insB_srt h)
theorem isort_srt (q : List KV) : srt (isort q) := fold_srt q [] List.Pairwise.nil
theorem fold_mem {y : KV} : ∀ (q acc : List KV), y ∈ q.foldl (fun acc x => insB x acc) acc ↔ y ∈ q ∨ y ∈ acc
  | [], acc => by simp
  | x :: q, acc => by
    rw [List.foldl_cons, fold_mem q, insB_mem, List.mem_cons]
    constructor
    · rintro (h | h | h)
      · exact Or.inl (Or.inr h)
      · exact Or.inl (Or.inl h)
      · exact Or.inr h
    · rintro ((h | h) | h)
      · exact Or.inr (Or.inl h)
      · exact Or.inl h
      · exact Or.inr (Or.inr h)
theorem isort_mem {y : KV} {q : List KV} : y ∈ isort q ↔ y ∈ q := by
  unfold isort; rw [fold_mem]; simp
/-- what a partition takes is what is sorted of its pairs -/
theorem tkQ_at (r : Nat) : ∀ (q : List KV) (Q : Nat → List KV) (p : Nat), tkQ r Q q p = (q.filter (fun x => decide (pt r x.1 = p))).foldl (fun acc x => insB x acc) (Q p)
  | [], _, _ => rfl
  | x :: q, Q, p => by
    show tkQ r (upQ Q (pt r x.1) (insB x (Q (pt r x.1)))) q p = _
    rw [tkQ_at r q]
    by_cases h : pt r x.1 = p
    · rw [List.filter_cons_of_pos (by simp [h]), List.foldl_cons]
      unfold upQ
      rw [if_pos h.symm, h]
    · rw [List.filter_cons_of_neg (by simp [h])]
      unfold upQ
      rw [if_neg (fun e => h e.symm)]
theorem tkQ_isort (r : Nat) (q : List KV) (p : Nat) : tkQ r (fun _ => []) q p = isort (q.filter (fun x => decide (pt r x.1 = p))) := tkQ_at r q _ p
theorem insRev_filter (f : Int32 → Bool) (x : KV) : ∀ q : List KV, q.Pairwise (fun a b => kle b a) → (insRev x q).filter (fun y => f y.1) = if f x.1 = true then insRev x (q.filter (fun y => f y.1)) else q.filter (fun y => f y.1)
  | [], _ => by
    by_cases h : f x.1 = true
    · simp [insRev, h]
    · simp [insRev, h]
  | a :: r, hp => by
    rw [List.pairwise_cons] at hp
    have ih := insRev_filter f x r hp.2
    by_cases hx : x.1 < a.1
    · rw [show insRev x (a :: r) = a :: insRev x r from if_pos hx]
      by_cases ha : f a.1 = true
      · rw [List.filter_cons_of_pos (p := fun y => f y.1) (a := a) ha, List.filter_cons_of_pos (p := fun y => f y.1) (a := a) ha, ih]
        by_cases h : f x.1 = true
        · rw [if_pos h, if_pos h, show insRev x (a :: r.filter (fun y => f y.1)) = a :: insRev x (r.filter (fun y => f y.1)) from if_pos hx]
        · rw [if_neg h, if_neg h]
      · rw [List.filter_cons_of_neg (p := fun y => f y.1) (a := a) ha, List.filter_cons_of_neg (p := fun y => f y.1) (a := a) ha, ih]
    · rw [show insRev x (a :: r) = x :: a :: r from if_neg hx]
      by_cases h : f x.1 = true
      · rw [List.filter_cons_of_pos (p := fun y => f y.1) (a := x) h, if_pos h]
        -- all that is left stays behind x
        have hall : ∀ y ∈ (a :: r).filter (fun y => f y.1), ¬ x.1 < y.1 := by
          intro y hy
          have hy2 := (List.mem_filter.mp hy).1
          rw [Int32.lt_iff_toInt_lt] at hx ⊢
          rcases List.mem_cons.mp hy2 with rfl | hy3
          · exact hx
          · have := hp.1 y hy3
            unfold kle at this
            omega
        cases hq : (a :: r).filter (fun y => f y.1) with
        | nil => rfl
        | cons c s => rw [show insRev x (c :: s) = x :: c :: s from if_neg (hall c (by rw [hq]; exact List.mem_cons_self))]
      · rw [List.filter_cons_of_neg (p := fun y => f y.1) (a := x) h, if_neg h]
theorem insB_filter (f : Int32 → Bool) (x : KV) (q : List KV) (hq : srt q) : (insB x q).filter (fun y => f y.1) = if f x.1 = true then insB x (q.filter (fun y => f y.1)) else q.filter (fun y => f y.1) := by
  unfold insB
  rw [List.filter_reverse, insRev_filter f x _ (by rw [List.pairwise_reverse]; exact hq)]
  split
  · rw [List.filter_reverse]
  · rw [List.filter_reverse, List.reverse_reverse]
theorem fold_filter (f : Int32 → Bool) : ∀ (q acc : List KV), srt acc → (q.foldl (fun acc x => insB x acc) acc).filter (fun y => f y.1) = (q.filter (fun y => f y.1)).foldl (fun acc x => insB x acc) (acc.filter (fun y => f y.1))
  | [], acc, _ => rfl
  | x :: q, acc, h => by
    rw [List.foldl_cons, fold_filter f q _ (insB_srt h), insB_filter f x acc h]
    by_cases hx : f x.1 = true
    · rw [if_pos hx, List.filter_cons_of_pos (p := fun y => f y.1) (a := x) hx, List.foldl_cons]
    · rw [if_neg hx, List.filter_cons_of_neg (p := fun y => f y.1) (a := x) hx]
theorem isort_filter (f : Int32 → Bool) (q : List KV) : (isort q).filter (fun y => f y.1) = isort (q.filter (fun y => f y.1)) := fold_filter f q [] List.Pairwise.nil
theorem tkQ_filter (r : Nat) (q : List KV) (p : Nat) : tkQ r (fun _ => []) q p = (isort q).filter (fun x => decide (pt r x.1 = p)) := by
  rw [tkQ_isort, isort_filter (fun k => decide (pt r k = p))]
theorem rk_len : ∀ (q : List KV) (k : Option Int32), rk k q ≤ q.length
  | [], _ => Nat.le_refl 0
  | x :: q, k => by
    have := rk_len q (some x.1)
    unfold rk
    rw [List.length_cons]
    split <;> omega
theorem rk_srt {hi : Int} : ∀ (q : List KV) (k : Int32), srt q → (∀ y ∈ q, k.toInt ≤ y.1.toInt ∧ y.1.toInt ≤ hi) → k.toInt ≤ hi → (rk (some k) q : Int) ≤ hi - k.toInt
  | [], k, _, _, h => by show (0 : Int) ≤ _; omega
  | x :: q, k, hs, hy, h => by
    rw [srt, List.pairwise_cons] at hs
    have hx := hy x List.mem_cons_self
    have ih := rk_srt q x.1 hs.2 (fun y h9 => ⟨hs.1 y h9, (hy y (List.mem_cons_of_mem _ h9)).2⟩) hx.2
    unfold rk
    split
    · rename_i e
      have e2 : k = x.1 := Option.some.inj e
      rw [e2]; omega
    · rename_i e
      have : k.toInt ≠ x.1.toInt := fun q9 => e (by rw [Int32.toInt_inj.mp q9])
      omega
theorem rk_36 {q : List KV} (hs : srt q) (h : (∀ y ∈ q, -1 ≤ y.1.toInt ∧ y.1.toInt ≤ 9) ∨ q.length ≤ 36) : rk none q ≤ 36 := by
  rcases h with h | h
  · cases q with
    | nil => exact Nat.zero_le _
    | cons x q =>
      rw [srt, List.pairwise_cons] at hs
      have hx := h x List.mem_cons_self
      have := rk_srt (hi := 9) q x.1 hs.2 (fun y h9 => ⟨hs.1 y h9, (h y (List.mem_cons_of_mem _ h9)).2⟩) hx.2
      show 1 + rk (some x.1) q ≤ 36
      omega
  · have := rk_len q none
    omega
theorem srt_filter {q : List KV} (h : srt q) (f : KV → Bool) : srt (q.filter f) := h.filter f
