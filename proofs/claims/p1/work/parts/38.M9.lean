/-- a worker's part of a tick, once it has its task -/
def wkN (U : Nat → Nat → Int32) (w : Nat) : Int32 := if U 5 w ≤ U 3 w then U 5 w else U 3 w
def wkU (U : Nat → Nat → Int32) (w : Nat) : Nat → Nat → Int32 := xu (xu U 5 w (U 5 w - wkN U w)) 6 w (U 6 w + wkN U w)
def wk2 (U : Nat → Nat → Int32) (np w : Nat) (sm : Bool) : (Nat → Nat → Int32) × Bool :=
  if U 4 w < 0 then (U, sm) else if 0 < U 5 w - wkN U w then (wkU U w, sm) else (fnS (wkU U w) np w (U 4 w).toNatClampNeg, true)
def wk1 (S : Nat → Nat → Int32) (c r np w : Nat) (sm : Bool) : (Nat → Nat → Int32) × Bool :=
  if S 7 w = 0 then (S, sm) else wk2 (if S 4 w < 0 then gtS S c r np w else S) np w sm
def tkL (S : Nat → Nat → Int32) (c r np : Nat) : Nat → (Nat → Nat → Int32) × Bool
  | 0 => (xu S 0 21 (S 0 21 + nI 1), false)
  | w + 1 => if ¬ (tkL S c r np w).1 0 14 = 0 then tkL S c r np w else wk1 (tkL S c r np w).1 c r np w (tkL S c r np w).2
theorem tkL_stop {S : Nat → Nat → Int32} {c r np w : Nat} (h : ¬ (tkL S c r np w).1 0 14 = 0) : ∀ m, tkL S c r np (w + m) = tkL S c r np w
  | 0 => rfl
  | m + 1 => by
    have ih := tkL_stop h m
    rw [show w + (m + 1) = (w + m) + 1 from rfl, tkL, ih, if_pos h]
/-- no one of the first workers has a task -/
def idl (S : Nat → Nat → Int32) : Nat → Bool
  | 0 => true
  | n + 1 => idl S n && decide (S 4 n < 0)
def tkE (o : (Nat → Nat → Int32) × Bool) (c r np : Nat) : Nat → Nat → Int32 :=
  if ¬ o.1 0 14 ≤ 0 then o.1 else if (∀ t, t < c → ¬ o.1 8 t = 0) ∧ (∀ q, q < r → ¬ o.1 8 (8 + q) = 0) then enL (en0 o.1) np r
  else if o.2 = true ∨ idl o.1 4 = false then o.1 else xu o.1 0 14 (nI 2)
def tkS (S : Nat → Nat → Int32) (c r np : Nat) : Nat → Nat → Int32 := tkE (tkL S c r np 4) c r np
/-! the tick keeps what it needs -/
theorem gch_rng {S : Nat → Nat → Int32} {md : Bool} {fm to w t : Nat} (h : gch md (lst (frs S fm) to) (lst (frh S fm w) to) (sec S fm to) = some t) : fm ≤ t ∧ t < to := by
  have a1 : ∀ j, lst (frs S fm) to = some j → fm ≤ j ∧ j < to := fun j hj => by
    have h1 := lst_lt hj
    have h2 := of_decide_eq_true h1.2
    omega
  have a2 : ∀ j, lst (frh S fm w) to = some j → fm ≤ j ∧ j < to := fun j hj => by
    have h1 := lst_lt hj
    have h2 := of_decide_eq_true (Bool.and_eq_true_iff.mp h1.2).1
    omega
  have a3 : ∀ j, sec S fm to = some j → fm ≤ j ∧ j < to := fun j hj => by
    have h1 := sec_lt hj
    omega
  cases hF : lst (frs S fm) to with
  | none => rw [hF] at h; exact a3 t h
  | some f =>
    rw [hF] at h
    cases md with
    | true => obtain rfl : f = t := Option.some.inj h; exact a1 f hF
    | false =>
      cases hH : lst (frh S fm w) to with
      | none => rw [hH] at h; obtain rfl : f = t := Option.some.inj h; exact a1 f hF
      | some g => rw [hH] at h; obtain rfl : g = t := Option.some.inj h; exact a2 g hH
theorem gtS_case (S : Nat → Nat → Int32) (c r np w : Nat) : gtS S c r np w = S ∨ ∃ (t : Nat) (T : Nat → Nat → Int32), (t < c ∨ (8 ≤ t ∧ t < 8 + r)) ∧ gtS S c r np w = xu (xu T 4 w (nI t)) 5 w (nds S np t) ∧ (T = S ∨ T = xu S 0 23 (S 0 23 + nI 1)) := by
  cases hm : mdn S c with
  | true =>
    have e2 : gtS S c r np w = gput S np w (lst (frs S 8) (8 + r)) (gch true (lst (frs S 8) (8 + r)) (lst (frh S 8 w) (8 + r)) (sec S 8 (8 + r))) := by unfold gtS; rw [hm]; rfl
    rw [e2]
    cases hg : gch true (lst (frs S 8) (8 + r)) (lst (frh S 8 w) (8 + r)) (sec S 8 (8 + r)) with
    | none => exact Or.inl rfl
    | some t =>
      refine Or.inr ⟨t, _, Or.inr (gch_rng hg), rfl, ?_⟩
      by_cases hn : lst (frs S 8) (8 + r) = none
      · rw [if_pos hn]; exact Or.inr rfl
      · rw [if_neg hn]; exact Or.inl rfl
  | false =>
    have e2 : gtS S c r np w = gput S np w (lst (frs S 0) c) (gch false (lst (frs S 0) c) (lst (frh S 0 w) c) (sec S 0 c)) := by unfold gtS; rw [hm]; rfl
    rw [e2]
    cases hg : gch false (lst (frs S 0) c) (lst (frh S 0 w) c) (sec S 0 c) with
    | none => exact Or.inl rfl
    | some t =>
      refine Or.inr ⟨t, _, Or.inl (gch_rng hg).2, rfl, ?_⟩
      by_cases hn : lst (frs S 0) c = none
      · rw [if_pos hn]; exact Or.inr rfl
      · rw [if_neg hn]; exact Or.inl rfl
theorem TI.get {S : Nat → Nat → Int32} {c r np w : Nat} (h : TI S c r np) : TI (gtS S c r np w) c r np := by
  rcases gtS_case S c r np w with e | ⟨t, T, ht, e, hT⟩
  · rw [e]; exact h
  · rw [e]
    have hT10 : T 10 = S 10 := by rcases hT with q | q <;> rw [q]; exact xu_k _ _ _ (by decide)
    have hT0 : ∀ j, j ≠ 23 → T 0 j = S 0 j := by intro j hj; rcases hT with q | q <;> rw [q]; exact xu_j _ _ _ _ hj
    have hT4 : T 4 = S 4 := by rcases hT with q | q <;> rw [q]; exact xu_k _ _ _ (by decide)
    refine h.keep (by rw [xu_k _ _ _ (by decide), xu_k _ _ _ (by decide), hT10]) (by rw [xu_k _ _ _ (by decide), xu_k _ _ _ (by decide), hT0 _ (by decide)]) (by rw [xu_k _ _ _ (by decide), xu_k _ _ _ (by decide), hT0 _ (by decide)]) (by rw [xu_k _ _ _ (by decide), xu_k _ _ _ (by decide), hT0 _ (by decide)]) (by rw [xu_k _ _ _ (by decide), xu_k _ _ _ (by decide), hT0 _ (by decide)]) (fun v hv => ?_)
    rw [xu_k _ _ _ (by decide)]
    by_cases hvw : v = w
    · rw [hvw, xu_s]; exact Or.inr (Or.inr ⟨t, rfl, ht⟩)
    · rw [xu_j _ _ _ _ hvw, hT4]; exact Or.inr (Or.inl rfl)
theorem wkU_k {S : Nat → Nat → Int32} {w k : Nat} (h5 : k ≠ 5) (h6 : k ≠ 6) : wkU S w k = S k := by
  unfold wkU; rw [xu_k _ _ _ h6, xu_k _ _ _ h5]
theorem TI.unit {S : Nat → Nat → Int32} {c r np w : Nat} (h : TI S c r np) : TI (wkU S w) c r np :=
  h.keep (wkU_k (by decide) (by decide)) (by rw [wkU_k (by decide) (by decide)]) (by rw [wkU_k (by decide) (by decide)]) (by rw [wkU_k (by decide) (by decide)]) (by rw [wkU_k (by decide) (by decide)]) (fun v _ => Or.inr (Or.inl (by rw [wkU_k (by decide) (by decide)])))
theorem gvS_k (S : Nat → Nat → Int32) (ro : Int32) (n : Nat) {k : Nat} (h4 : k ≠ 4) (h5 : k ≠ 5) : gvS S ro n k = S k := by
  funext j; exact if_neg (by omega)
theorem gvS_t (S : Nat → Nat → Int32) (ro : Int32) (n j : Nat) : gvS S ro n 4 j = -1 ∨ gvS S ro n 4 j = S 4 j := by
  unfold gvS; split
  · exact Or.inl (if_pos rfl)
  · exact Or.inr rfl
theorem drS_t (S : Nat → Nat → Int32) (t : Int32) (n j : Nat) : drS S t n 4 j = -1 ∨ drS S t n 4 j = S 4 j := by
  unfold drS; split
  · exact Or.inl (if_pos rfl)
  · exact Or.inr rfl
theorem fn1_k {S : Nat → Nat → Int32} {w tn k : Nat} (h4 : k ≠ 4) (h5 : k ≠ 5) (h8 : k ≠ 8) (h9 : k ≠ 9) : fn1 S w tn k = S k := by
  unfold fn1; rw [xu_k _ _ _ h9, xu_k _ _ _ h8, drS_k _ _ _ h4 h5]
theorem fn1_t (S : Nat → Nat → Int32) (w tn j : Nat) : fn1 S w tn 4 j = -1 ∨ fn1 S w tn 4 j = S 4 j := by
  unfold fn1; rw [xu_k _ _ _ (by decide), xu_k _ _ _ (by decide)]; exact drS_t _ _ _ _
theorem rcS_k {S : Nat → Nat → Int32} {np : Nat} {put : Int32} {pn i k : Nat} (h1 : k ≠ 13) (h2 : k ≠ 14) (h3 : k ≠ 0) : (rcS S np put pn i).1 k = S k := funext (fun j => rcS_keep h1 h2 (by omega) i)
theorem TI.fin {S : Nat → Nat → Int32} {c r np w tn : Nat} (h : TI S c r np) : TI (fnS S np w tn) c r np := by
  have h1 : TI (fn1 S w tn) c r np := h.keep (fn1_k (by decide) (by decide) (by decide) (by decide)) (by rw [fn1_k (by decide) (by decide) (by decide) (by decide)]) (by rw [fn1_k (by decide) (by decide) (by decide) (by decide)]) (by rw [fn1_k (by decide) (by decide) (by decide) (by decide)]) (by rw [fn1_k (by decide) (by decide) (by decide) (by decide)]) (fun v _ => (fn1_t S w tn v).imp id Or.inl)
  have h2 : TI (rcS (fn1 S w tn) np (nI 0) (tn - 8) np).1 c r np := h1.keep (rcS_k (by decide) (by decide) (by decide)) (rcS_keep (by decide) (by decide) (by decide) _) (rcS_keep (by decide) (by decide) (by decide) _) (rcS_keep (by decide) (by decide) (by decide) _) (rcS_keep (by decide) (by decide) (by decide) _) (fun v _ => Or.inr (Or.inl (by rw [rcS_k (by decide) (by decide) (by decide)])))
  unfold fnS
  split
  · exact h1
  · split
    · exact h2
    · refine h2.keep ?_ ?_ ?_ ?_ ?_ (fun v _ => ?_)
      · rw [gvS_k _ _ _ (by decide) (by decide), xu_k _ _ _ (by decide)]
      · rw [gvS_k _ _ _ (by decide) (by decide), xu_j _ _ _ _ (by decide)]
      · rw [gvS_k _ _ _ (by decide) (by decide), xu_j _ _ _ _ (by decide)]
      · rw [gvS_k _ _ _ (by decide) (by decide), xu_j _ _ _ _ (by decide)]
      · rw [gvS_k _ _ _ (by decide) (by decide), xu_j _ _ _ _ (by decide)]
      · rcases gvS_t (xu (rcS (fn1 S w tn) np (nI 0) (tn - 8) np).1 0 26 (nI 0)) (nI 0) 4 v with q | q
        · exact Or.inl q
        · rw [q, xu_k _ _ _ (by decide)]; exact Or.inr (Or.inl rfl)
theorem TI.wb {U : Nat → Nat → Int32} {c r np w : Nat} {sm : Bool} (h : TI U c r np) : TI (wk2 U np w sm).1 c r np := by
  unfold wk2
  split
  · exact h
  · split
    · exact h.unit
    · exact h.unit.fin
theorem TI.wa {S : Nat → Nat → Int32} {c r np w : Nat} {sm : Bool} (h : TI S c r np) : TI (wk1 S c r np w sm).1 c r np := by
  unfold wk1
  split
  · exact h
  · split
    · exact h.get.wb
    · exact h.wb
theorem TI.keepL {S : Nat → Nat → Int32} {c r np : Nat} (h : TI S c r np) : ∀ w, TI (tkL S c r np w).1 c r np
  | 0 => TI.keep (T := xu S 0 21 (S 0 21 + nI 1)) h (xu_k _ _ _ (by decide)) (xu_j _ _ _ _ (by decide)) (xu_j _ _ _ _ (by decide)) (xu_j _ _ _ _ (by decide)) (xu_j _ _ _ _ (by decide)) (fun v _ => Or.inr (Or.inl (by show xu S 0 21 _ 4 v = _; rw [xu_k _ _ _ (by decide)])))
  | w + 1 => by
    have ih := TI.keepL h w
    rw [show tkL S c r np (w + 1) = if ¬ (tkL S c r np w).1 0 14 = 0 then tkL S c r np w else wk1 (tkL S c r np w).1 c r np w (tkL S c r np w).2 from rfl]
    split
    · exact ih
    · exact ih.wa
theorem TI.tick {S : Nat → Nat → Int32} {c r np : Nat} (h : TI S c r np) : TI (tkS S c r np) c r np := by
  have h4 := TI.keepL h 4
  unfold tkS
  generalize tkL S c r np 4 = o at h4
  unfold tkE
  split
  · exact h4
  · split
    · have e0 : ∀ k, k ≠ 0 → en0 o.1 k = o.1 k := by intro k hk; unfold en0; rw [xu_k _ _ _ hk, xu_k _ _ _ hk, xu_k _ _ _ hk]
      have e1 : ∀ j, j ≠ 26 → j ≠ 22 → j ≠ 25 → en0 o.1 0 j = o.1 0 j := by intro j a b d; unfold en0; rw [xu_j _ _ _ _ d, xu_j _ _ _ _ b, xu_j _ _ _ _ a]
      exact h4.keep (funext (fun j => (enL_keep (by decide) (by decide) (by decide) (by omega) r).trans (by rw [e0 _ (by decide)]))) ((enL_keep (by decide) (by decide) (by decide) (by decide) r).trans (e1 _ (by decide) (by decide) (by decide))) ((enL_keep (by decide) (by decide) (by decide) (by decide) r).trans (e1 _ (by decide) (by decide) (by decide))) ((enL_keep (by decide) (by decide) (by decide) (by decide) r).trans (e1 _ (by decide) (by decide) (by decide))) ((enL_keep (by decide) (by decide) (by decide) (by decide) r).trans (e1 _ (by decide) (by decide) (by decide))) (fun v _ => Or.inr (Or.inl ((enL_keep (by decide) (by decide) (by decide) (by omega) r).trans (by rw [e0 _ (by decide)]))))
    · split
      · exact h4
      · exact h4.keep (xu_k _ _ _ (by decide)) (xu_j _ _ _ _ (by decide)) (xu_j _ _ _ _ (by decide)) (xu_j _ _ _ _ (by decide)) (xu_j _ _ _ _ (by decide)) (fun v _ => Or.inr (Or.inl (by rw [xu_k _ _ _ (by decide)])))
