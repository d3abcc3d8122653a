def bI (p : Prop) [Decidable p] : Int32 := if p then nI 1 else nI 0
theorem bI_t {p : Prop} [Decidable p] (h : p) : bI p = nI 1 := if_pos h
theorem bI_f {p : Prop} [Decidable p] (h : ¬ p) : bI p = nI 0 := if_neg h
theorem bI_0 {p : Prop} [Decidable p] : bI p = 0 ↔ ¬ p := by
  by_cases h : p
  · rw [bI_t h]; exact ⟨fun q => absurd q (by decide), fun q => absurd h q⟩
  · rw [bI_f h]; exact ⟨fun _ => h, fun _ => rfl⟩
theorem bI_nar {p : Prop} [Decidable p] : narrow .boolean (.int (bI p)) = .int (bI p) := by
  by_cases h : p
  · rw [bI_t h]; rfl
  · rw [bI_f h]; rfl
section XM1
variable {l : Launch} {G : xG} {h0 : xH} {y : Nat} {S : Nat → Nat → Int32}
theorem c_M_in {h : xH} (v a b : Int32) : xVM l G 0 0 m_M_in [.int v, .int a, .int b] h (fun r h' => r = .inl (some (.int (bI (a ≤ v ∧ v ≤ b)))) ∧ h' = h) := by
  unfold xVM
  refine x_iload_n d_M_in_0 rfl ?_
  refine x_iload_n d_M_in_1 rfl ?_
  refine x_icmp_lt (tgt := 14) d_M_in_2 (by decide) (fun c1 => ?_) (fun c1 => ?_)
  · refine x_iconst (v := nI 0) d_M_in_14 (by decide) ?_
    refine x_iret d_M_in_15 rfl (by first | rfl | assumption) ?_
    exact ⟨by rw [bI_f (fun q => absurd q.1 (Int32.not_le.mpr c1))], rfl⟩
  · refine x_iload_n d_M_in_5 rfl ?_
    refine x_iload_n d_M_in_6 rfl ?_
    refine x_icmp_gt (tgt := 14) d_M_in_7 (by decide) (fun c2 => ?_) (fun c2 => ?_)
    · refine x_iconst (v := nI 0) d_M_in_14 (by decide) ?_
      refine x_iret d_M_in_15 rfl (by first | rfl | assumption) ?_
      exact ⟨by rw [bI_f (fun q => absurd q.2 (Int32.not_le.mpr c2))], rfl⟩
    · refine x_iconst (v := nI 1) d_M_in_10 (by decide) ?_
      refine x_goto (tgt := 15) d_M_in_11 (by decide) ?_
      refine x_iret d_M_in_15 rfl (by first | rfl | assumption) ?_
      exact ⟨by rw [bI_t ⟨Int32.not_lt.mp c1, Int32.not_lt.mp c2⟩], rfl⟩
theorem c_M_bad (hs : MSh h0 y) (b : Int32) : xVM l G 0 0 m_M_bad [.ref y, .int b] (mset y S h0) (fun r h' => r = .inl (some (.int (bI (b = 0)))) ∧ h' = mset y (xu S 0 14 (bI (b = 0))) h0) := by
  unfold xVM
  refine x_aload_n d_M_bad_0 rfl ?_
  refine x_iload_n d_M_bad_1 rfl ?_
  refine x_if_eq (tgt := 9) d_M_bad_2 (by decide) (fun c1 => ?_) (fun c1 => ?_)
  · refine x_iconst (v := nI 1) d_M_bad_9 (by decide) ?_
    refine xm_put (j := 14) d_M_bad_10 hs rfl (by decide) wf_M_64 (Or.inl rfl) (by first | rfl | assumption) rfl (fun _ _ => rfl) ?_
    refine x_iload_n d_M_bad_13 rfl ?_
    refine x_if_ne_f 21 d_M_bad_14 (by decide) (c1) ?_
    refine x_iconst (v := nI 1) d_M_bad_17 (by decide) ?_
    refine x_goto (tgt := 22) d_M_bad_18 (by decide) ?_
    refine x_iret d_M_bad_22 rfl (by first | rfl | assumption) ?_
    rw [bI_t c1]
    exact ⟨rfl, rfl⟩
  · refine x_iconst (v := nI 0) d_M_bad_5 (by decide) ?_
    refine x_goto (tgt := 10) d_M_bad_6 (by decide) ?_
    refine xm_put (j := 14) d_M_bad_10 hs rfl (by decide) wf_M_64 (Or.inl rfl) (by first | rfl | assumption) rfl (fun _ _ => rfl) ?_
    refine x_iload_n d_M_bad_13 rfl ?_
    refine x_if_ne_t (tgt := 21) d_M_bad_14 (by decide) (c1) ?_
    refine x_iconst (v := nI 0) d_M_bad_21 (by decide) ?_
    refine x_iret d_M_bad_22 rfl (by first | rfl | assumption) ?_
    rw [bI_f c1]
    exact ⟨rfl, rfl⟩
theorem c_M_fail (hs : MSh h0 y) (b : Int32) : xVM l G 0 0 m_M_fail [.ref y, .int b] (mset y S h0) (fun r h' => r = .inl (some (.int (nI 0))) ∧ h' = mset y (xu S 0 14 b) h0) := by
  unfold xVM
  refine x_aload_n d_M_fail_0 rfl ?_
  refine x_iload_n d_M_fail_1 rfl ?_
  refine xm_put (j := 14) d_M_fail_2 hs rfl (by decide) wf_M_64 (Or.inl rfl) (by first | rfl | assumption) rfl (fun _ _ => rfl) ?_
  refine x_iconst (v := nI 0) d_M_fail_5 (by decide) ?_
  refine x_iret d_M_fail_6 rfl (by first | rfl | assumption) ?_
  exact ⟨rfl, rfl⟩
theorem c_M_thrown (hs : MSh h0 y) : xVM l G 0 0 m_M_thrown [.ref y] (mset y S h0) (fun r h' => r = .inl (some (.int (S 0 14))) ∧ h' = mset y S h0) := by
  unfold xVM
  refine x_aload_n d_M_thrown_0 rfl ?_
  refine xm_get (j := 14) d_M_thrown_1 hs rfl (by decide) wf_M_64 (fun _ _ => rfl) ?_
  refine x_iret d_M_thrown_4 rfl (by first | rfl | assumption) ?_
  exact ⟨rfl, rfl⟩
/-- giveUp, of the workers below n -/
def gvS (S : Nat → Nat → Int32) (ro : Int32) (n : Nat) : Nat → Nat → Int32 := fun k j => if (k = 4 ∨ k = 5) ∧ j < n ∧ (ro = 0 ∨ nI 8 ≤ S 4 j) then (if k = 4 then -1 else nI 0) else S k j
theorem gvS_0 (S : Nat → Nat → Int32) (ro : Int32) : gvS S ro 0 = S := by
  funext k j; exact if_neg (by omega)
theorem gvS_4 (S : Nat → Nat → Int32) (ro : Int32) {n j : Nat} (h : n ≤ j) (k : Nat) : gvS S ro n k j = S k j := if_neg (by omega)
theorem gvS_s {S : Nat → Nat → Int32} {ro : Int32} {n : Nat} (h : ro = 0 ∨ nI 8 ≤ S 4 n) : xu (xu (gvS S ro n) 4 n (-1)) 5 n (nI 0) = gvS S ro (n + 1) := by
  funext k j
  by_cases hj : j = n
  · subst hj
    by_cases h4 : k = 4
    · subst h4; simp [xu, gvS, h]
    · by_cases h5 : k = 5
      · subst h5; simp [xu, gvS, h]
      · simp [xu, gvS, h4, h5]
  · simp only [xu, hj, and_false, if_false, gvS]
    have : j < n ↔ j < n + 1 := by omega
    simp only [this]
theorem gvS_n {S : Nat → Nat → Int32} {ro : Int32} {n : Nat} (h : ¬ (ro = 0 ∨ nI 8 ≤ S 4 n)) : gvS S ro n = gvS S ro (n + 1) := by
  funext k j
  by_cases hj : j = n
  · subst hj; simp [gvS, h]
  · have : j < n ↔ j < n + 1 := by omega
    simp only [gvS, this]
theorem c_M_giveUp (hs : MSh h0 y) (ro : Int32) : xVM l G 0 0 m_M_giveUp [.ref y, .int ro] (mset y S h0) (fun r h' => r = .inl none ∧ h' = mset y (gvS S ro 4) h0) := by
  have lp : ∀ m i : Nat, i + m = 4 → xV l G 0 0 m_M_giveUp 2 [(2, .int (nI i)), (0, .ref y), (1, .int ro)] [] (mset y (gvS S ro i) h0) (fun r h' => r = .inl none ∧ h' = mset y (gvS S ro 4) h0) := by
    intro m
    induction m with
    | zero =>
      intro i him
      obtain rfl : i = 4 := by omega
      refine x_iload_n d_M_giveUp_2 rfl ?_
      refine x_iconst (v := nI 4) d_M_giveUp_3 (by decide) ?_
      refine x_icmp_ge_t (tgt := 45) d_M_giveUp_4 (by decide) ((nI_le (by omega) (by omega))) ?_
      refine x_vret d_M_giveUp_45 rfl ?_
      exact ⟨rfl, rfl⟩
    | succ m ih =>
      intro i him
      have hi4 : i < mlen 4 := by show i < 4; omega
      have hi5 : i < mlen 5 := by show i < 4; omega
      refine x_iload_n d_M_giveUp_2 rfl ?_
      refine x_iconst (v := nI 4) d_M_giveUp_3 (by decide) ?_
      refine x_icmp_ge_f 45 d_M_giveUp_4 (by decide) ((nI_ge (by omega) (by omega))) ?_
      refine x_iload_n d_M_giveUp_7 rfl ?_
      refine x_if_eq (tgt := 25) d_M_giveUp_8 (by decide) (fun c1 => ?_) (fun c1 => ?_)
      · refine x_aload_n d_M_giveUp_25 rfl ?_
        refine xm_ref (k := 4) (j := 3) d_M_giveUp_26 hs (by decide) rfl rfl (by decide) wf_M_19 rfl ?_
        refine x_iload_n d_M_giveUp_29 rfl ?_
        refine x_iconst (v := (-1)) d_M_giveUp_30 (by decide) ?_
        refine xm_ast d_M_giveUp_31 hs (by decide) rfl (by first | decide | assumption | omega) ?_
        refine x_aload_n d_M_giveUp_32 rfl ?_
        refine xm_ref (k := 5) (j := 4) d_M_giveUp_33 hs (by decide) rfl rfl (by decide) wf_M_22 rfl ?_
        refine x_iload_n d_M_giveUp_36 rfl ?_
        refine x_iconst (v := nI 0) d_M_giveUp_37 (by decide) ?_
        refine xm_ast d_M_giveUp_38 hs (by decide) rfl (by first | decide | assumption | omega) ?_
        first | refine x_incN d_M_giveUp_39 rfl (by decide) ?_ | refine x_inc d_M_giveUp_39 rfl (by decide) ?_
        refine x_goto (tgt := 2) d_M_giveUp_42 (by decide) ?_
        rw [gvS_s (Or.inl c1)]
        exact ih (i + 1) (by omega)
      · refine x_aload_n d_M_giveUp_11 rfl ?_
        refine xm_ref (k := 4) (j := 3) d_M_giveUp_12 hs (by decide) rfl rfl (by decide) wf_M_19 rfl ?_
        refine x_iload_n d_M_giveUp_15 rfl ?_
        refine xm_ald d_M_giveUp_16 hs (by decide) rfl (by first | decide | assumption | omega) ?_
        refine x_bipush (v := nI 8) d_M_giveUp_17 (by decide) ?_
        rw [gvS_4 S ro (Nat.le_refl i)]
        refine x_icmp_ge (tgt := 25) d_M_giveUp_19 (by decide) (fun c2 => ?_) (fun c2 => ?_)
        · refine x_aload_n d_M_giveUp_25 rfl ?_
          refine xm_ref (k := 4) (j := 3) d_M_giveUp_26 hs (by decide) rfl rfl (by decide) wf_M_19 rfl ?_
          refine x_iload_n d_M_giveUp_29 rfl ?_
          refine x_iconst (v := (-1)) d_M_giveUp_30 (by decide) ?_
          refine xm_ast d_M_giveUp_31 hs (by decide) rfl (by first | decide | assumption | omega) ?_
          refine x_aload_n d_M_giveUp_32 rfl ?_
          refine xm_ref (k := 5) (j := 4) d_M_giveUp_33 hs (by decide) rfl rfl (by decide) wf_M_22 rfl ?_
          refine x_iload_n d_M_giveUp_36 rfl ?_
          refine x_iconst (v := nI 0) d_M_giveUp_37 (by decide) ?_
          refine xm_ast d_M_giveUp_38 hs (by decide) rfl (by first | decide | assumption | omega) ?_
          first | refine x_incN d_M_giveUp_39 rfl (by decide) ?_ | refine x_inc d_M_giveUp_39 rfl (by decide) ?_
          refine x_goto (tgt := 2) d_M_giveUp_42 (by decide) ?_
          rw [gvS_s (Or.inr c2)]
          exact ih (i + 1) (by omega)
        · refine x_goto (tgt := 39) d_M_giveUp_22 (by decide) ?_
          first | refine x_incN d_M_giveUp_39 rfl (by decide) ?_ | refine x_inc d_M_giveUp_39 rfl (by decide) ?_
          refine x_goto (tgt := 2) d_M_giveUp_42 (by decide) ?_
          rw [gvS_n (fun q => q.elim c1 c2)]
          exact ih (i + 1) (by omega)
  unfold xVM
  refine x_iconst (v := nI 0) d_M_giveUp_0 (by decide) ?_
  refine x_istore_n d_M_giveUp_1 (by decide) ?_
  have := lp 4 0 (by omega)
  rw [gvS_0] at this
  exact this
end XM1
