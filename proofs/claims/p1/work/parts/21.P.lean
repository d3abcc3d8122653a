/-! Pairs: a: the object, ka, va: its rows, cap: their length -/
def Prs (h : xH) (a ka va cap : Nat) : Prop := xT h a = 4 ∧ xP h a 0 = some ka ∧ xP h a 1 = some va ∧ xT h ka = 100 ∧ xT h va = 100 ∧ xN h ka = cap ∧ xN h va = cap ∧ a ≠ ka ∧ a ≠ va ∧ ka ≠ va ∧ cap < 2 ^ 31
theorem c_P_append {l : Launch} {G : xG} {h : xH} {a ka va cap n : Nat} (k v : Int32) (hp : Prs h a ka va cap) (hs : xI h a 2 = nI n) (hn : n < cap) : xVM l G 0 0 m_P_append [.ref a, .int k, .int v] h
    (fun r h' => r = .inl none ∧ h' = xwI (xwI (xwI h ka n k) va n v) a 2 (nI (n + 1))) := by
  obtain ⟨pT, pK, pV, pTk, pTv, pNk, pNv, n1, n2, n3, pc⟩ := hp
  unfold xVM
  refine x_aload_n d_P_append_0 rfl ?_
  refine x_getE (k := 3) (j := 2) d_P_append_1 (by assumption) rfl (by decide) wf_P_9 rfl (hs) ?_
  refine x_aload_n d_P_append_4 rfl ?_
  refine x_getR (k := 3) (j := 0) d_P_append_5 (by assumption) rfl (by decide) wf_P_15 rfl (by assumption) ?_
  refine x_alenN (t := 100) d_P_append_8 (by assumption) (by decide) rfl pNk ?_
  refine x_icmp_ge_f 42 d_P_append_9 (by decide) (nI_ge hn (by omega)) ?_
  refine x_aload_n d_P_append_12 rfl ?_
  refine x_getR (k := 3) (j := 0) d_P_append_13 (by assumption) rfl (by decide) wf_P_15 rfl (by assumption) ?_
  refine x_aload_n d_P_append_16 rfl ?_
  refine x_getE (k := 3) (j := 2) d_P_append_17 (by assumption) rfl (by decide) wf_P_9 rfl (hs) ?_
  refine x_iload_n d_P_append_20 rfl ?_
  refine x_iastN d_P_append_21 (by assumption) pNk hn pc ?_
  have e1 : xI (xwI h ka n k) a 2 = nI n := (xu_a _ _ _ _ n1).trans hs
  refine x_aload_n d_P_append_22 rfl ?_
  refine x_getR (k := 3) (j := 1) d_P_append_23 (by assumption) rfl (by decide) wf_P_19 rfl (by assumption) ?_
  refine x_aload_n d_P_append_26 rfl ?_
  refine x_getE (k := 3) (j := 2) d_P_append_27 (by assumption) rfl (by decide) wf_P_9 rfl (e1) ?_
  refine x_iload_n d_P_append_30 rfl ?_
  refine x_iastN d_P_append_31 (by assumption) pNv hn pc ?_
  have e2 : xI (xwI (xwI h ka n k) va n v) a 2 = nI n := (xu_a _ _ _ _ n2).trans e1
  refine x_aload_n d_P_append_32 rfl ?_
  refine x_dup d_P_append_33 rfl ?_
  refine x_getE (k := 3) (j := 2) d_P_append_34 (by assumption) rfl (by decide) wf_P_9 rfl (e2) ?_
  refine x_iconst (v := 1) d_P_append_37 (by decide) ?_
  refine x_iadd d_P_append_38 ?_
  refine x_putI (k := 3) (j := 2) d_P_append_39 (by assumption) rfl (by decide) wf_P_9 (Or.inl rfl) (by first | rfl | assumption) rfl rfl ?_
  refine x_vret d_P_append_42 rfl ⟨rfl, ?_⟩
  rw [nI_1]
/-- the least place of a key -/
def idxOf (f : Nat → Int32) (key : Int32) : Nat → Option Nat
  | 0 => none
  | n + 1 => match idxOf f key n with
    | some j => some j
    | none => if f n = key then some n else none
theorem idxOf_none {f : Nat → Int32} {key : Int32} : ∀ {n : Nat}, idxOf f key n = none ↔ ∀ j, j < n → f j ≠ key
  | 0 => by simp [idxOf]
  | n + 1 => by
    have ih := @idxOf_none f key n
    unfold idxOf
    cases hx : idxOf f key n with
    | some j =>
      simp only [reduceCtorEq, false_iff]
      intro hh
      have : idxOf f key n = none := ih.mpr (fun j hj => hh j (by omega))
      rw [hx] at this
      cases this
    | none =>
      have h1 := ih.mp hx
      by_cases hk : f n = key
      · simp only [hk, if_true, reduceCtorEq, false_iff]
        intro hh
        exact hh n (by omega) hk
      · simp only [hk, if_false, true_iff]
        intro j hj
        rcases Nat.lt_succ_iff_lt_or_eq.mp hj with h2 | h2
        · exact h1 j h2
        · rw [h2]; exact hk
theorem idxOf_some {f : Nat → Int32} {key : Int32} {n i : Nat} (hi : i < n) (h1 : ∀ j, j < i → f j ≠ key) (h2 : f i = key) : idxOf f key n = some i := by
  induction n with
  | zero => omega
  | succ n ih =>
    unfold idxOf
    by_cases h3 : i < n
    · rw [ih h3]
    · have h4 : i = n := by omega
      subst h4
      rw [idxOf_none.mpr h1]
      simp [h2]
theorem c_P_indexOf {l : Launch} {G : xG} {h : xH} {a ka va cap n : Nat} (k : Int32) (hp : Prs h a ka va cap) (hs : xI h a 2 = nI n) (hn : n ≤ cap) : xVM l G 0 0 m_P_indexOf [.ref a, .int k] h
    (fun r h' => r = .inl (some (.int (match idxOf (xI h ka) k n with | some j => nI j | none => -1))) ∧ h' = h) := by
  obtain ⟨pT, pK, pV, pTk, pTv, pNk, pNv, n1, n2, n3, pc⟩ := hp
  have lp : ∀ m i : Nat, i + m = n → (∀ j, j < i → xI h ka j ≠ k) → xV l G 0 0 m_P_indexOf 2 [(2, .int (nI i)), (0, .ref a), (1, .int k)] [] h (fun r h' => r = .inl (some (.int (match idxOf (xI h ka) k n with | some j => nI j | none => -1))) ∧ h' = h) := by
    intro m
    induction m with
    | zero =>
      intro i him hj
      refine x_iload_n d_P_indexOf_2 rfl ?_
      refine x_aload_n d_P_indexOf_3 rfl ?_
      refine x_getE (k := 3) (j := 2) d_P_indexOf_4 (by assumption) rfl (by decide) wf_P_9 rfl (hs) ?_
      refine x_icmp_ge_t (tgt := 28) d_P_indexOf_7 (by decide) (nI_le (by omega) (by omega)) ?_
      refine x_iconst (v := (-1)) d_P_indexOf_28 (by decide) ?_
      refine x_iret d_P_indexOf_29 rfl rfl ⟨?_, rfl⟩
      rw [idxOf_none.mpr (fun j hj9 => hj j (by omega))]
    | succ m ih =>
      intro i him hj
      refine x_iload_n d_P_indexOf_2 rfl ?_
      refine x_aload_n d_P_indexOf_3 rfl ?_
      refine x_getE (k := 3) (j := 2) d_P_indexOf_4 (by assumption) rfl (by decide) wf_P_9 rfl (hs) ?_
      refine x_icmp_ge_f 28 d_P_indexOf_7 (by decide) (nI_ge (by omega) (by omega)) ?_
      refine x_aload_n d_P_indexOf_10 rfl ?_
      refine x_getR (k := 3) (j := 0) d_P_indexOf_11 (by assumption) rfl (by decide) wf_P_15 rfl (by assumption) ?_
      refine x_iload_n d_P_indexOf_14 rfl ?_
      refine x_ialdN d_P_indexOf_15 (by assumption) pNk (by omega) pc rfl ?_
      refine x_iload_n d_P_indexOf_16 rfl ?_
      refine x_icmp_ne (tgt := 22) d_P_indexOf_17 (by decide) (fun c1 => ?_) (fun c1 => ?_)
      · refine x_inc d_P_indexOf_22 rfl (by decide) ?_
        refine x_goto (tgt := 2) d_P_indexOf_25 (by decide) ?_
        rw [nI_1]
        exact ih (i + 1) (by omega) (fun j hj9 => by
          rcases Nat.lt_succ_iff_lt_or_eq.mp hj9 with h2 | h2
          · exact hj j h2
          · rw [h2]; exact c1)
      · refine x_iload_n d_P_indexOf_20 rfl ?_
        refine x_iret d_P_indexOf_21 rfl rfl ⟨?_, rfl⟩
        rw [idxOf_some (by omega) hj c1]
  unfold xVM
  refine x_iconst (v := 0) d_P_indexOf_0 (by decide) ?_
  refine x_istore_n d_P_indexOf_1 (by decide) ?_
  exact lp n 0 (by omega) (fun j hj => absurd hj (Nat.not_lt_zero j))
