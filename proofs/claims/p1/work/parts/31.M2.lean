section XM2
variable {l : Launch} {G : xG} {h0 : xH} {y : Nat} {S : Nat → Nat → Int32}
theorem c_M_mapsDone (hs : MSh h0 y) {c : Nat} (hc : S 0 13 = nI c) (hc6 : c ≤ 6) : xVM l G 0 0 m_M_mapsDone [.ref y] (mset y S h0) (fun r h' => r = .inl (some (.int (bI (∀ t, t < c → ¬ S 8 t = 0)))) ∧ h' = mset y S h0) := by
  have lp : ∀ m i : Nat, i + m = c → (∀ t, t < i → ¬ S 8 t = 0) → xV l G 0 0 m_M_mapsDone 2 [(1, .int (nI i)), (0, .ref y)] [] (mset y S h0) (fun r h' => r = .inl (some (.int (bI (∀ t, t < c → ¬ S 8 t = 0)))) ∧ h' = mset y S h0) := by
    intro m
    induction m with
    | zero =>
      intro i him hi
      obtain rfl : i = c := by omega
      refine x_iload_n d_M_mapsDone_2 rfl ?_
      refine x_aload_n d_M_mapsDone_3 rfl ?_
      refine xm_get (j := 13) d_M_mapsDone_4 hs rfl (by decide) wf_M_79 (fun _ _ => rfl) ?_
      rw [hc]
      refine x_icmp_ge_t (tgt := 27) d_M_mapsDone_7 (by decide) ((nI_le (by omega) (by omega))) ?_
      refine x_iconst (v := nI 1) d_M_mapsDone_27 (by decide) ?_
      refine x_iret d_M_mapsDone_28 rfl (by first | rfl | assumption) ?_
      exact ⟨by rw [bI_t hi], rfl⟩
    | succ m ih =>
      intro i him hi
      have hi8 : i < mlen 8 := by show i < 11; omega
      refine x_iload_n d_M_mapsDone_2 rfl ?_
      refine x_aload_n d_M_mapsDone_3 rfl ?_
      refine xm_get (j := 13) d_M_mapsDone_4 hs rfl (by decide) wf_M_79 (fun _ _ => rfl) ?_
      rw [hc]
      refine x_icmp_ge_f 27 d_M_mapsDone_7 (by decide) ((nI_ge (by omega) (by omega))) ?_
      refine x_aload_n d_M_mapsDone_10 rfl ?_
      refine xm_ref (k := 8) (j := 7) d_M_mapsDone_11 hs (by decide) rfl rfl (by decide) wf_M_32 rfl ?_
      refine x_iload_n d_M_mapsDone_14 rfl ?_
      refine xm_zld d_M_mapsDone_15 hs (by decide) rfl (by first | decide | assumption | omega) ?_
      refine x_if_ne (tgt := 21) d_M_mapsDone_16 (by decide) (fun c1 => ?_) (fun c1 => ?_)
      · first | refine x_incN d_M_mapsDone_21 rfl (by decide) ?_ | refine x_inc d_M_mapsDone_21 rfl (by decide) ?_
        refine x_goto (tgt := 2) d_M_mapsDone_24 (by decide) ?_
        exact ih (i + 1) (by omega) (fun t ht => by
          rcases Nat.lt_succ_iff_lt_or_eq.mp ht with h2 | h2
          · exact hi t h2
          · rw [h2]; exact c1)
      · refine x_iconst (v := nI 0) d_M_mapsDone_19 (by decide) ?_
        refine x_iret d_M_mapsDone_20 rfl (by first | rfl | assumption) ?_
        exact ⟨by rw [bI_f (fun q => q i (by omega) c1)], rfl⟩
  unfold xVM
  refine x_iconst (v := nI 0) d_M_mapsDone_0 (by decide) ?_
  refine x_istore_n d_M_mapsDone_1 (by decide) ?_
  exact lp c 0 (by omega) (fun t ht => absurd ht (Nat.not_lt_zero t))
/-- how many of the first n workers do task t -/
def dng (S : Nat → Nat → Int32) (t : Int32) : Nat → Nat
  | 0 => 0
  | n + 1 => dng S t n + (if S 4 n = t then 1 else 0)
theorem c_M_doing (hs : MSh h0 y) (t : Int32) : xVM l G 0 0 m_M_doing [.ref y, .int t] (mset y S h0) (fun r h' => r = .inl (some (.int (nI (dng S t 4)))) ∧ h' = mset y S h0) := by
  have lp : ∀ m i : Nat, i + m = 4 → xV l G 0 0 m_M_doing 4 [(3, .int (nI i)), (2, .int (nI (dng S t i))), (0, .ref y), (1, .int t)] [] (mset y S h0) (fun r h' => r = .inl (some (.int (nI (dng S t 4)))) ∧ h' = mset y S h0) := by
    intro m
    induction m with
    | zero =>
      intro i him
      obtain rfl : i = 4 := by omega
      refine x_iload_n d_M_doing_4 rfl ?_
      refine x_iconst (v := nI 4) d_M_doing_5 (by decide) ?_
      refine x_icmp_ge_t (tgt := 28) d_M_doing_6 (by decide) ((nI_le (by omega) (by omega))) ?_
      refine x_iload_n d_M_doing_28 rfl ?_
      refine x_iret d_M_doing_29 rfl (by first | rfl | assumption) ?_
      exact ⟨rfl, rfl⟩
    | succ m ih =>
      intro i him
      have hi4 : i < mlen 4 := by show i < 4; omega
      have := ih (i + 1) (by omega)
      refine x_iload_n d_M_doing_4 rfl ?_
      refine x_iconst (v := nI 4) d_M_doing_5 (by decide) ?_
      refine x_icmp_ge_f 28 d_M_doing_6 (by decide) ((nI_ge (by omega) (by omega))) ?_
      refine x_aload_n d_M_doing_9 rfl ?_
      refine xm_ref (k := 4) (j := 3) d_M_doing_10 hs (by decide) rfl rfl (by decide) wf_M_19 rfl ?_
      refine x_iload_n d_M_doing_13 rfl ?_
      refine xm_ald d_M_doing_14 hs (by decide) rfl (by first | decide | assumption | omega) ?_
      refine x_iload_n d_M_doing_15 rfl ?_
      refine x_icmp_ne (tgt := 22) d_M_doing_16 (by decide) (fun c1 => ?_) (fun c1 => ?_)
      · first | refine x_incN d_M_doing_22 rfl (by decide) ?_ | refine x_inc d_M_doing_22 rfl (by decide) ?_
        refine x_goto (tgt := 4) d_M_doing_25 (by decide) ?_
        rw [show dng S t (i + 1) = dng S t i by simp [dng, c1]] at this
        exact this
      · first | refine x_incN d_M_doing_19 rfl (by decide) ?_ | refine x_inc d_M_doing_19 rfl (by decide) ?_
        first | refine x_incN d_M_doing_22 rfl (by decide) ?_ | refine x_inc d_M_doing_22 rfl (by decide) ?_
        refine x_goto (tgt := 4) d_M_doing_25 (by decide) ?_
        rw [show dng S t (i + 1) = dng S t i + 1 by simp [dng, c1]] at this
        exact this
  unfold xVM
  refine x_iconst (v := nI 0) d_M_doing_0 (by decide) ?_
  refine x_istore_n d_M_doing_1 (by decide) ?_
  refine x_iconst (v := nI 0) d_M_doing_2 (by decide) ?_
  refine x_istore_n d_M_doing_3 (by decide) ?_
  exact lp 4 0 (by omega)
def lfo (S : Nat → Nat → Int32) (t : Int32) : Int32 := match idxOf (S 4) t 4 with
  | some w => S 5 w
  | none => nI 0
theorem c_M_leftOf (hs : MSh h0 y) (t : Int32) : xVM l G 0 0 m_M_leftOf [.ref y, .int t] (mset y S h0) (fun r h' => r = .inl (some (.int (lfo S t))) ∧ h' = mset y S h0) := by
  have lp : ∀ m i : Nat, i + m = 4 → (∀ j, j < i → S 4 j ≠ t) → xV l G 0 0 m_M_leftOf 2 [(2, .int (nI i)), (0, .ref y), (1, .int t)] [] (mset y S h0) (fun r h' => r = .inl (some (.int (lfo S t))) ∧ h' = mset y S h0) := by
    intro m
    induction m with
    | zero =>
      intro i him hj
      obtain rfl : i = 4 := by omega
      refine x_iload_n d_M_leftOf_2 rfl ?_
      refine x_iconst (v := nI 4) d_M_leftOf_3 (by decide) ?_
      refine x_icmp_ge_t (tgt := 30) d_M_leftOf_4 (by decide) ((nI_le (by omega) (by omega))) ?_
      refine x_iconst (v := nI 0) d_M_leftOf_30 (by decide) ?_
      refine x_iret d_M_leftOf_31 rfl (by first | rfl | assumption) ?_
      exact ⟨by rw [show lfo S t = nI 0 by unfold lfo; rw [idxOf_none.mpr hj]], rfl⟩
    | succ m ih =>
      intro i him hj
      have hi4 : i < mlen 4 := by show i < 4; omega
      have hi5 : i < mlen 5 := by show i < 4; omega
      refine x_iload_n d_M_leftOf_2 rfl ?_
      refine x_iconst (v := nI 4) d_M_leftOf_3 (by decide) ?_
      refine x_icmp_ge_f 30 d_M_leftOf_4 (by decide) ((nI_ge (by omega) (by omega))) ?_
      refine x_aload_n d_M_leftOf_7 rfl ?_
      refine xm_ref (k := 4) (j := 3) d_M_leftOf_8 hs (by decide) rfl rfl (by decide) wf_M_19 rfl ?_
      refine x_iload_n d_M_leftOf_11 rfl ?_
      refine xm_ald d_M_leftOf_12 hs (by decide) rfl (by first | decide | assumption | omega) ?_
      refine x_iload_n d_M_leftOf_13 rfl ?_
      refine x_icmp_ne (tgt := 24) d_M_leftOf_14 (by decide) (fun c1 => ?_) (fun c1 => ?_)
      · first | refine x_incN d_M_leftOf_24 rfl (by decide) ?_ | refine x_inc d_M_leftOf_24 rfl (by decide) ?_
        refine x_goto (tgt := 2) d_M_leftOf_27 (by decide) ?_
        exact ih (i + 1) (by omega) (fun j hj9 => by
          rcases Nat.lt_succ_iff_lt_or_eq.mp hj9 with h2 | h2
          · exact hj j h2
          · rw [h2]; exact c1)
      · refine x_aload_n d_M_leftOf_17 rfl ?_
        refine xm_ref (k := 5) (j := 4) d_M_leftOf_18 hs (by decide) rfl rfl (by decide) wf_M_22 rfl ?_
        refine x_iload_n d_M_leftOf_21 rfl ?_
        refine xm_ald d_M_leftOf_22 hs (by decide) rfl (by first | decide | assumption | omega) ?_
        refine x_iret d_M_leftOf_23 rfl (by first | rfl | assumption) ?_
        exact ⟨by rw [show lfo S t = S 5 i by unfold lfo; rw [idxOf_some (by omega) hj c1]], rfl⟩
  unfold xVM
  refine x_iconst (v := nI 0) d_M_leftOf_0 (by decide) ?_
  refine x_istore_n d_M_leftOf_1 (by decide) ?_
  exact lp 4 0 (by omega) (fun j hj => absurd hj (Nat.not_lt_zero j))
abbrev rdbl (S : Nat → Nat → Int32) (t : Nat) : Prop := 8 ≤ t ∨ ¬ S 7 (t % 4) = 0 ∨ ¬ S 7 ((t + 1) % 4) = 0
theorem c_M_readable (hs : MSh h0 y) {t : Nat} (ht : t < 11) : xVM l G 0 0 m_M_readable [.ref y, .int (nI t)] (mset y S h0) (fun r h' => r = .inl (some (.int (bI (rdbl S t)))) ∧ h' = mset y S h0) := by
  unfold xVM
  have e1 : nI t - nI t / nI 4 * nI 4 = nI (t % 4) := nI_rem (by omega) (by omega)
  have e2 : nI (t + 1) - nI (t + 1) / nI 4 * nI 4 = nI ((t + 1) % 4) := nI_rem (by omega) (by omega)
  have hm1 : t % 4 < mlen 7 := by show t % 4 < 4; omega
  have hm2 : (t + 1) % 4 < mlen 7 := by show (t + 1) % 4 < 4; omega
  refine x_iload_n d_M_readable_0 rfl ?_
  refine x_bipush (v := nI 8) d_M_readable_1 (by decide) ?_
  refine x_icmp_ge (tgt := 30) d_M_readable_3 (by decide) (fun c0 => ?_) (fun c0 => ?_)
  · refine x_iconst (v := nI 1) d_M_readable_30 (by decide) ?_
    refine x_goto (tgt := 35) d_M_readable_31 (by decide) ?_
    refine x_iret d_M_readable_35 rfl (by first | rfl | assumption) ?_
    exact ⟨by rw [bI_t (Or.inl ((nI_leI (by omega) (by omega)).mp c0))], rfl⟩
  · have c0' : ¬ 8 ≤ t := fun q => c0 (nI_le q (by omega))
    refine x_aload_n d_M_readable_6 rfl ?_
    refine xm_ref (k := 7) (j := 6) d_M_readable_7 hs (by decide) rfl rfl (by decide) wf_M_28 rfl ?_
    refine x_iload_n d_M_readable_10 rfl ?_
    refine x_iconst (v := nI 4) d_M_readable_11 (by decide) ?_
    refine x_irem d_M_readable_12 (by first | decide | assumption) ?_
    rw [e1]
    refine xm_zld d_M_readable_13 hs (by decide) rfl (by first | decide | assumption | omega) ?_
    refine x_if_ne (tgt := 30) d_M_readable_14 (by decide) (fun c1 => ?_) (fun c1 => ?_)
    · refine x_iconst (v := nI 1) d_M_readable_30 (by decide) ?_
      refine x_goto (tgt := 35) d_M_readable_31 (by decide) ?_
      refine x_iret d_M_readable_35 rfl (by first | rfl | assumption) ?_
      exact ⟨by rw [bI_t (Or.inr (Or.inl c1))], rfl⟩
    · refine x_aload_n d_M_readable_17 rfl ?_
      refine xm_ref (k := 7) (j := 6) d_M_readable_18 hs (by decide) rfl rfl (by decide) wf_M_28 rfl ?_
      refine x_iload_n d_M_readable_21 rfl ?_
      refine x_iconst (v := nI 1) d_M_readable_22 (by decide) ?_
      refine x_iadd d_M_readable_23 ?_
      refine x_iconst (v := nI 4) d_M_readable_24 (by decide) ?_
      refine x_irem d_M_readable_25 (by first | decide | assumption) ?_
      rw [nI_add, e2]
      refine xm_zld d_M_readable_26 hs (by decide) rfl (by first | decide | assumption | omega) ?_
      refine x_if_eq (tgt := 34) d_M_readable_27 (by decide) (fun c2 => ?_) (fun c2 => ?_)
      · refine x_iconst (v := nI 0) d_M_readable_34 (by decide) ?_
        refine x_iret d_M_readable_35 rfl (by first | rfl | assumption) ?_
        exact ⟨by rw [bI_f (by rintro (q | q | q); exact c0' q; exact q c1; exact q c2)], rfl⟩
      · refine x_iconst (v := nI 1) d_M_readable_30 (by decide) ?_
        refine x_goto (tgt := 35) d_M_readable_31 (by decide) ?_
        refine x_iret d_M_readable_35 rfl (by first | rfl | assumption) ?_
        exact ⟨by rw [bI_t (Or.inr (Or.inr c2))], rfl⟩
def rns (S : Nat → Nat → Int32) (t : Nat) : Int32 := (S 12 t + S 0 20 - nI 1) / S 0 20
theorem c_M_runs (hs : MSh h0 y) {t : Nat} (ht : t < 6) (hb : ¬ S 0 20 = 0) : xVM l G 0 0 m_M_runs [.ref y, .int (nI t)] (mset y S h0) (fun r h' => r = .inl (some (.int (rns S t))) ∧ h' = mset y S h0) := by
  have ht' : t < mlen 12 := ht
  unfold xVM
  refine x_aload_n d_M_runs_0 rfl ?_
  refine xm_ref (k := 12) (j := 11) d_M_runs_1 hs (by decide) rfl rfl (by decide) wf_M_44 rfl ?_
  refine x_iload_n d_M_runs_4 rfl ?_
  refine xm_ald d_M_runs_5 hs (by decide) rfl (by first | decide | assumption | omega) ?_
  refine x_aload_n d_M_runs_6 rfl ?_
  refine xm_get (j := 20) d_M_runs_7 hs rfl (by decide) wf_M_125 (fun _ _ => rfl) ?_
  refine x_iadd d_M_runs_10 ?_
  refine x_iconst (v := nI 1) d_M_runs_11 (by decide) ?_
  refine x_isub d_M_runs_12 ?_
  refine x_aload_n d_M_runs_13 rfl ?_
  refine xm_get (j := 20) d_M_runs_14 hs rfl (by decide) wf_M_125 (fun _ _ => rfl) ?_
  refine x_idiv d_M_runs_17 (by first | decide | assumption) ?_
  refine x_iret d_M_runs_18 rfl (by first | rfl | assumption) ?_
  exact ⟨rfl, rfl⟩
def jrem (x y : Int32) : Int32 := x - x / y * y
def mdl (v n : Int32) : Int32 := jrem (jrem v n + n) n
theorem c_M_modulo {h : xH} (v n : Int32) (hn : ¬ n = 0) : xVM l G 0 0 m_M_modulo [.int v, .int n] h (fun r h' => r = .inl (some (.int (mdl v n))) ∧ h' = h) := by
  unfold xVM
  refine x_iload_n d_M_modulo_0 rfl ?_
  refine x_iload_n d_M_modulo_1 rfl ?_
  refine x_irem d_M_modulo_2 (by first | decide | assumption) ?_
  refine x_iload_n d_M_modulo_3 rfl ?_
  refine x_iadd d_M_modulo_4 ?_
  refine x_iload_n d_M_modulo_5 rfl ?_
  refine x_irem d_M_modulo_6 (by first | decide | assumption) ?_
  refine x_iret d_M_modulo_7 rfl (by first | rfl | assumption) ?_
  exact ⟨rfl, rfl⟩
/-- pairs of partition p among the first n -/
def pof (S : Nat → Nat → Int32) (p : Int32) : Nat → Nat
  | 0 => 0
  | n + 1 => pof S p n + (if mdl (S 10 n) (S 0 19) = p then 1 else 0)
theorem c_M_pairsOf (hs : MSh h0 y) (p : Int32) {np : Nat} (hp : S 0 12 = nI np) (hnp : np ≤ 300) (hr : ¬ S 0 19 = 0) : xVM l G 1 21 m_M_pairsOf [.ref y, .int p] (mset y S h0) (fun r h' => r = .inl (some (.int (nI (pof S p np)))) ∧ h' = mset y S h0) := by
  have lp : ∀ m i : Nat, i + m = np → xV l G 1 21 m_M_pairsOf 4 [(3, .int (nI i)), (2, .int (nI (pof S p i))), (0, .ref y), (1, .int p)] [] (mset y S h0) (fun r h' => r = .inl (some (.int (nI (pof S p np)))) ∧ h' = mset y S h0) := by
    intro m
    induction m with
    | zero =>
      intro i him
      obtain rfl : i = np := by omega
      refine x_iload_n d_M_pairsOf_4 rfl ?_
      refine x_aload_n d_M_pairsOf_5 rfl ?_
      refine xm_get (j := 12) d_M_pairsOf_6 hs rfl (by decide) wf_M_86 (fun _ _ => rfl) ?_
      rw [hp]
      refine x_icmp_ge_t (tgt := 38) d_M_pairsOf_9 (by decide) ((nI_le (by omega) (by omega))) ?_
      refine x_iload_n d_M_pairsOf_38 rfl ?_
      refine x_iret d_M_pairsOf_39 rfl (by first | rfl | assumption) ?_
      exact ⟨rfl, rfl⟩
    | succ m ih =>
      intro i him
      have hi4 : i < mlen 10 := by show i < 300; omega
      have := ih (i + 1) (by omega)
      refine x_iload_n d_M_pairsOf_4 rfl ?_
      refine x_aload_n d_M_pairsOf_5 rfl ?_
      refine xm_get (j := 12) d_M_pairsOf_6 hs rfl (by decide) wf_M_86 (fun _ _ => rfl) ?_
      rw [hp]
      refine x_icmp_ge_f 38 d_M_pairsOf_9 (by decide) ((nI_ge (by omega) (by omega))) ?_
      refine x_aload_n d_M_pairsOf_12 rfl ?_
      refine xm_ref (k := 10) (j := 9) d_M_pairsOf_13 hs (by decide) rfl rfl (by decide) wf_M_38 rfl ?_
      refine x_iload_n d_M_pairsOf_16 rfl ?_
      refine xm_ald d_M_pairsOf_17 hs (by decide) rfl (by first | decide | assumption | omega) ?_
      refine x_aload_n d_M_pairsOf_18 rfl ?_
      refine xm_get (j := 19) d_M_pairsOf_19 hs rfl (by decide) wf_M_103 (fun _ _ => rfl) ?_
      refine x_callS (M' := m_M_modulo) (As := [_, _]) (fr' := 0) (wd' := 0) d_M_pairsOf_22 pl_M_modulo rfl (Nat.le_of_ble_eq_true rfl) (by decide) (by decide) wc_M_modulo wi_M wl_M_89 ws_M_modulo (by decide) np_M_modulo (Nat.le_of_ble_eq_true rfl) (fun q hq => by cases hq) (c_M_modulo _ _ hr) (fun k a h1 q => by cases q.1) (fun v h1 q => ?_)
      obtain ⟨q1, rfl⟩ := q
      cases q1
      refine x_iload_n d_M_pairsOf_25 rfl ?_
      refine x_icmp_ne (tgt := 32) d_M_pairsOf_26 (by decide) (fun c1 => ?_) (fun c1 => ?_)
      · first | refine x_incN d_M_pairsOf_32 rfl (by decide) ?_ | refine x_inc d_M_pairsOf_32 rfl (by decide) ?_
        refine x_goto (tgt := 4) d_M_pairsOf_35 (by decide) ?_
        rw [show pof S p (i + 1) = pof S p i by simp [pof, c1]] at this
        exact this
      · first | refine x_incN d_M_pairsOf_29 rfl (by decide) ?_ | refine x_inc d_M_pairsOf_29 rfl (by decide) ?_
        first | refine x_incN d_M_pairsOf_32 rfl (by decide) ?_ | refine x_inc d_M_pairsOf_32 rfl (by decide) ?_
        refine x_goto (tgt := 4) d_M_pairsOf_35 (by decide) ?_
        rw [show pof S p (i + 1) = pof S p i + 1 by simp [pof, c1]] at this
        exact this
  unfold xVM
  refine x_iconst (v := nI 0) d_M_pairsOf_0 (by decide) ?_
  refine x_istore_n d_M_pairsOf_1 (by decide) ?_
  refine x_iconst (v := nI 0) d_M_pairsOf_2 (by decide) ?_
  refine x_istore_n d_M_pairsOf_3 (by decide) ?_
  exact lp np 0 (by omega)
def nds (S : Nat → Nat → Int32) (np t : Nat) : Int32 := if t < 8 then nI 2 * S 1 t + rns S t else nI 1 + nI (pof S (nI (t - 8)) np)
theorem c_M_needs (hs : MSh h0 y) {t np : Nat} (ht : t < 6 ∨ (8 ≤ t ∧ t < 11)) (hp : S 0 12 = nI np) (hnp : np ≤ 300) (hr : ¬ S 0 19 = 0) (hb : ¬ S 0 20 = 0) : xVM l G 2 44 m_M_needs [.ref y, .int (nI t)] (mset y S h0) (fun r h' => r = .inl (some (.int (nds S np t))) ∧ h' = mset y S h0) := by
  unfold xVM
  rcases ht with ht | ht
  · have ht' : t < mlen 1 := ht
    refine x_iload_n d_M_needs_0 rfl ?_
    refine x_bipush (v := nI 8) d_M_needs_1 (by decide) ?_
    refine x_icmp_ge_f 23 d_M_needs_3 (by decide) ((nI_ge (by omega) (by omega))) ?_
    refine x_iconst (v := nI 2) d_M_needs_6 (by decide) ?_
    refine x_aload_n d_M_needs_7 rfl ?_
    refine xm_ref (k := 1) (j := 0) d_M_needs_8 hs (by decide) rfl rfl (by decide) wf_M_7 rfl ?_
    refine x_iload_n d_M_needs_11 rfl ?_
    refine xm_ald d_M_needs_12 hs (by decide) rfl (by first | decide | assumption | omega) ?_
    refine x_imul d_M_needs_13 ?_
    refine x_aload_n d_M_needs_14 rfl ?_
    refine x_iload_n d_M_needs_15 rfl ?_
    refine x_callV (M' := m_M_runs) (As := [_]) (fr' := 0) (wd' := 0) d_M_needs_16 hs.1 rfl pl_M_runs rfl (Nat.le_of_ble_eq_true rfl) (by decide) (by decide) wc_M_runs wi_M wl_M_134 wm_M_runs we_M_runs (by decide) np_M_runs (Nat.le_of_ble_eq_true rfl) (fun q hq => by cases hq) (c_M_runs hs ht hb) (fun k a h1 q => by cases q.1) (fun v h1 q => ?_)
    obtain ⟨q1, rfl⟩ := q
    cases q1
    refine x_iadd d_M_needs_19 ?_
    refine x_goto (tgt := 33) d_M_needs_20 (by decide) ?_
    refine x_iret d_M_needs_33 rfl (by first | rfl | assumption) ?_
    exact ⟨by rw [show nds S np t = nI 2 * S 1 t + rns S t from if_pos (by omega)], rfl⟩
  · refine x_iload_n d_M_needs_0 rfl ?_
    refine x_bipush (v := nI 8) d_M_needs_1 (by decide) ?_
    refine x_icmp_ge_t (tgt := 23) d_M_needs_3 (by decide) ((nI_le (by omega) (by omega))) ?_
    refine x_iconst (v := nI 1) d_M_needs_23 (by decide) ?_
    refine x_aload_n d_M_needs_24 rfl ?_
    refine x_iload_n d_M_needs_25 rfl ?_
    refine x_bipush (v := nI 8) d_M_needs_26 (by decide) ?_
    refine x_isub d_M_needs_28 ?_
    rw [nI_sub ht.1]
    refine x_callV (M' := m_M_pairsOf) (As := [_]) (fr' := 1) (wd' := 21) d_M_needs_29 hs.1 rfl pl_M_pairsOf rfl (Nat.le_of_ble_eq_true rfl) (by decide) (by decide) wc_M_pairsOf wi_M wl_M_137 wm_M_pairsOf we_M_pairsOf (by decide) np_M_pairsOf (Nat.le_of_ble_eq_true rfl) (fun q hq => by cases hq) (c_M_pairsOf hs _ hp hnp hr) (fun k a h1 q => by cases q.1) (fun v h1 q => ?_)
    obtain ⟨q1, rfl⟩ := q
    cases q1
    refine x_iadd d_M_needs_32 ?_
    refine x_iret d_M_needs_33 rfl (by first | rfl | assumption) ?_
    exact ⟨by rw [show nds S np t = _ from if_neg (by omega)], rfl⟩
end XM2
