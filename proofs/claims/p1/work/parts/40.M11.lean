/-- in range -/
abbrev rng (v : Int32) (a b : Nat) : Prop := nI a ≤ v ∧ v ≤ nI b
theorem rng_of {v : Int32} {a b : Nat} (ha : a < 2 ^ 31) (hb : b < 2 ^ 31) (h : rng v a b) : ∃ n, v = nI n ∧ a ≤ n ∧ n ≤ b := by
  have h0 : ¬ v < 0 := by
    have := h.1
    rw [Int32.le_iff_toInt_le, nI_toInt ha] at this
    rw [Int32.lt_iff_toInt_lt, Int32.toInt_zero]; omega
  obtain ⟨n, hn, rfl⟩ := nI_of2 (nI_toInt hb) h0 h.2
  exact ⟨n, rfl, (nI_leI ha (by omega)).mp h.1, hn⟩
section XM11
variable {l : Launch} {G : xG} {h0 : xH} {y : Nat} {S : Nat → Nat → Int32}
def spS (S : Nat → Nat → Int32) (w s : Int32) : Nat → Nat → Int32 := if rng w 0 3 ∧ rng s 1 4 then xu (xu S 0 14 (nI 0)) 3 w.toNatClampNeg s else xu S 0 14 (nI 1)
theorem c_M_speed (hs : MSh h0 y) (w s : Int32) : xVM l G 1 22 m_M_speed [.ref y, .int w, .int s] (mset y S h0) (fun r h' => r = .inl none ∧ h' = mset y (spS S w s) h0) := by
  unfold xVM
  refine x_aload_n d_M_speed_0 rfl ?_
  refine x_iload_n d_M_speed_1 rfl ?_
  refine x_iconst (v := nI 0) d_M_speed_2 (by decide) ?_
  refine x_iconst (v := nI 3) d_M_speed_3 (by decide) ?_
  refine x_callS (M' := m_M_in) (As := [_, _, _]) (fr' := 0) (wd' := 0) d_M_speed_4 pl_M_in rfl (Nat.le_of_ble_eq_true rfl) (by decide) (by decide) wc_M_in wi_M wl_M_67 ws_M_in (by decide) np_M_in (Nat.le_of_ble_eq_true rfl) (fun q hq => by cases hq) (c_M_in _ _ _) (fun k a h1 q => by cases q.1) (fun v h1 q => ?_)
  obtain ⟨q1, rfl⟩ := q
  cases q1
  by_cases h1 : rng w 0 3
  · rw [bI_t h1]
    refine x_if_eq_f 23 d_M_speed_7 (by decide) ((by decide)) ?_
    refine x_iload_n d_M_speed_10 rfl ?_
    refine x_iconst (v := nI 1) d_M_speed_11 (by decide) ?_
    refine x_iconst (v := nI 4) d_M_speed_12 (by decide) ?_
    refine x_callS (M' := m_M_in) (As := [_, _, _]) (fr' := 0) (wd' := 0) d_M_speed_13 pl_M_in rfl (Nat.le_of_ble_eq_true rfl) (by decide) (by decide) wc_M_in wi_M wl_M_67 ws_M_in (by decide) np_M_in (Nat.le_of_ble_eq_true rfl) (fun q hq => by cases hq) (c_M_in _ _ _) (fun k a h1 q => by cases q.1) (fun v h1 q => ?_)
    obtain ⟨q1, rfl⟩ := q
    cases q1
    by_cases h2 : rng s 1 4
    · obtain ⟨n, rfl, -, hn⟩ := rng_of (by decide) (by decide) h1
      have n3 : n < mlen 3 := by show n < 4; omega
      rw [bI_t h2]
      refine x_if_eq_f 23 d_M_speed_16 (by decide) ((by decide)) ?_
      refine x_iconst (v := nI 1) d_M_speed_19 (by decide) ?_
      refine x_goto (tgt := 24) d_M_speed_20 (by decide) ?_
      refine x_callV (M' := m_M_bad) (As := [_]) (fr' := 0) (wd' := 0) d_M_speed_24 hs.1 rfl pl_M_bad rfl (Nat.le_of_ble_eq_true rfl) (by decide) (by decide) wc_M_bad wi_M wl_M_71 wm_M_bad we_M_bad (by decide) np_M_bad (Nat.le_of_ble_eq_true rfl) (fun q hq => by cases hq) (c_M_bad hs _) (fun k a h1 q => by cases q.1) (fun v h1 q => ?_)
      obtain ⟨q1, rfl⟩ := q
      cases q1
      rw [bI_f (by decide)]
      refine x_if_eq_t (tgt := 31) d_M_speed_27 (by decide) ((by decide)) ?_
      refine x_aload_n d_M_speed_31 rfl ?_
      refine xm_ref (k := 3) (j := 2) d_M_speed_32 hs (by decide) rfl rfl (by decide) wf_M_16 rfl ?_
      refine x_iload_n d_M_speed_35 rfl ?_
      refine x_iload_n d_M_speed_36 rfl ?_
      refine xm_ast d_M_speed_37 hs (by decide) rfl (by first | decide | assumption | omega) ?_
      refine x_vret d_M_speed_38 rfl ?_
      exact ⟨rfl, by unfold spS; rw [if_pos ⟨h1, h2⟩, nI_clamp (by omega)]⟩
    · rw [bI_f h2]
      refine x_if_eq_t (tgt := 23) d_M_speed_16 (by decide) ((by decide)) ?_
      refine x_iconst (v := nI 0) d_M_speed_23 (by decide) ?_
      refine x_callV (M' := m_M_bad) (As := [_]) (fr' := 0) (wd' := 0) d_M_speed_24 hs.1 rfl pl_M_bad rfl (Nat.le_of_ble_eq_true rfl) (by decide) (by decide) wc_M_bad wi_M wl_M_71 wm_M_bad we_M_bad (by decide) np_M_bad (Nat.le_of_ble_eq_true rfl) (fun q hq => by cases hq) (c_M_bad hs _) (fun k a h1 q => by cases q.1) (fun v h1 q => ?_)
      obtain ⟨q1, rfl⟩ := q
      cases q1
      rw [bI_t nI_0]
      refine x_if_eq_f 31 d_M_speed_27 (by decide) ((by decide)) ?_
      refine x_vret d_M_speed_30 rfl ?_
      exact ⟨rfl, by unfold spS; rw [if_neg (fun q => h2 q.2)]⟩
  · rw [bI_f h1]
    refine x_if_eq_t (tgt := 23) d_M_speed_7 (by decide) ((by decide)) ?_
    refine x_iconst (v := nI 0) d_M_speed_23 (by decide) ?_
    refine x_callV (M' := m_M_bad) (As := [_]) (fr' := 0) (wd' := 0) d_M_speed_24 hs.1 rfl pl_M_bad rfl (Nat.le_of_ble_eq_true rfl) (by decide) (by decide) wc_M_bad wi_M wl_M_71 wm_M_bad we_M_bad (by decide) np_M_bad (Nat.le_of_ble_eq_true rfl) (fun q hq => by cases hq) (c_M_bad hs _) (fun k a h1 q => by cases q.1) (fun v h1 q => ?_)
    obtain ⟨q1, rfl⟩ := q
    cases q1
    rw [bI_t nI_0]
    refine x_if_eq_f 31 d_M_speed_27 (by decide) ((by decide)) ?_
    refine x_vret d_M_speed_30 rfl ?_
    exact ⟨rfl, by unfold spS; rw [if_neg (fun q => h1 q.1)]⟩
theorem c_M_filter (hs : MSh h0 y) (v : Int32) : xVM l G 0 0 m_M_filter [.ref y, .int v] (mset y S h0) (fun r h' => r = .inl none ∧ h' = mset y (xu (xu S 0 14 (nI 0)) 0 15 v) h0) := by
  unfold xVM
  refine x_aload_n d_M_filter_0 rfl ?_
  refine x_iconst (v := nI 0) d_M_filter_1 (by decide) ?_
  refine xm_put (j := 14) d_M_filter_2 hs rfl (by decide) wf_M_64 (Or.inl rfl) (by first | rfl | assumption) rfl (fun _ _ => rfl) ?_
  refine x_aload_n d_M_filter_5 rfl ?_
  refine x_iload_n d_M_filter_6 rfl ?_
  refine xm_put (j := 15) d_M_filter_7 hs rfl (by decide) wf_M_48 (Or.inl rfl) (by first | rfl | assumption) rfl (fun _ _ => rfl) ?_
  refine x_vret d_M_filter_10 rfl ?_
  exact ⟨rfl, rfl⟩
def stS (S : Nat → Nat → Int32) : Nat → Nat → Int32 := if S 0 26 = 0 then xu S 0 14 (nI 1) else gvS (xu (xu S 0 14 (nI 0)) 0 26 (nI 0)) (nI 0) 4
theorem c_M_stop (hs : MSh h0 y) : xVM l G 1 22 m_M_stop [.ref y] (mset y S h0) (fun r h' => r = .inl none ∧ h' = mset y (stS S) h0) := by
  unfold xVM
  refine x_aload_n d_M_stop_0 rfl ?_
  refine x_aload_n d_M_stop_1 rfl ?_
  refine xm_get (j := 26) d_M_stop_2 hs rfl (by decide) wf_M_75 (fun _ _ => rfl) ?_
  refine x_if_eq (tgt := 12) d_M_stop_5 (by decide) (fun c1 => ?_) (fun c1 => ?_)
  · refine x_iconst (v := nI 1) d_M_stop_12 (by decide) ?_
    refine xm_put (j := 14) d_M_stop_13 hs rfl (by decide) wf_M_64 (Or.inl rfl) (by first | rfl | assumption) rfl (fun _ _ => rfl) ?_
    refine x_aload_n d_M_stop_16 rfl ?_
    refine xm_get (j := 26) d_M_stop_17 hs rfl (by decide) wf_M_75 (fun _ _ => rfl) ?_
    rw [show xu S 0 14 (nI 1) 0 26 = S 0 26 from xu_j _ _ _ _ (by decide)]
    refine x_if_ne_f 24 d_M_stop_20 (by decide) (c1) ?_
    refine x_vret d_M_stop_23 rfl ?_
    exact ⟨rfl, by unfold stS; rw [if_pos c1]⟩
  · refine x_iconst (v := nI 0) d_M_stop_8 (by decide) ?_
    refine x_goto (tgt := 13) d_M_stop_9 (by decide) ?_
    refine xm_put (j := 14) d_M_stop_13 hs rfl (by decide) wf_M_64 (Or.inl rfl) (by first | rfl | assumption) rfl (fun _ _ => rfl) ?_
    refine x_aload_n d_M_stop_16 rfl ?_
    refine xm_get (j := 26) d_M_stop_17 hs rfl (by decide) wf_M_75 (fun _ _ => rfl) ?_
    rw [show xu S 0 14 (nI 0) 0 26 = S 0 26 from xu_j _ _ _ _ (by decide)]
    refine x_if_ne_t (tgt := 24) d_M_stop_20 (by decide) (c1) ?_
    refine x_aload_n d_M_stop_24 rfl ?_
    refine x_iconst (v := nI 0) d_M_stop_25 (by decide) ?_
    refine xm_put (j := 26) d_M_stop_26 hs rfl (by decide) wf_M_75 (Or.inl rfl) (by first | rfl | assumption) rfl (fun _ _ => rfl) ?_
    refine x_aload_n d_M_stop_29 rfl ?_
    refine x_iconst (v := nI 0) d_M_stop_30 (by decide) ?_
    refine x_callV (M' := m_M_giveUp) (As := [_]) (fr' := 0) (wd' := 0) d_M_stop_31 hs.1 rfl pl_M_giveUp rfl (Nat.le_of_ble_eq_true rfl) (by decide) (by decide) wc_M_giveUp wi_M wl_M_121 wm_M_giveUp we_M_giveUp (by decide) np_M_giveUp (Nat.le_of_ble_eq_true rfl) (fun q hq => by cases hq) (c_M_giveUp hs _) (fun k a h1 q => by cases q.1) (fun v h1 q => ?_)
    obtain ⟨q1, rfl⟩ := q
    cases q1
    refine x_vret d_M_stop_34 rfl ?_
    exact ⟨rfl, by unfold stS; rw [if_neg c1]⟩
def rnS (S : Nat → Nat → Int32) (c r np : Nat) (n : Int32) : (Nat → Nat → Int32) × Int32 :=
  if rng n 1 100 then (if S 0 26 = 0 then (xu (xu S 0 14 (nI 0)) 0 14 (nI 2), nI 0) else ((rnL (xu S 0 14 (nI 0)) c r np n.toNatClampNeg).1, if (rnL (xu S 0 14 (nI 0)) c r np n.toNatClampNeg).1 0 14 ≤ 0 then nI (rnL (xu S 0 14 (nI 0)) c r np n.toNatClampNeg).2 else nI 0)) else (xu S 0 14 (nI 1), nI 0)
theorem c_M_run (hs : MSh h0 y) {c r np : Nat} (n : Int32) (hT : ¬ S 0 26 = 0 → TI S c r np) : xVM l G 5 117 m_M_run [.ref y, .int n] (mset y S h0) (fun q h' => q = .inl (some (.int (rnS S c r np n).2)) ∧ h' = mset y (rnS S c r np n).1 h0) := by
  unfold xVM
  refine x_aload_n d_M_run_0 rfl ?_
  refine x_iload_n d_M_run_1 rfl ?_
  refine x_iconst (v := nI 1) d_M_run_2 (by decide) ?_
  refine x_bipush (v := nI 100) d_M_run_3 (by decide) ?_
  refine x_callS (M' := m_M_in) (As := [_, _, _]) (fr' := 0) (wd' := 0) d_M_run_5 pl_M_in rfl (Nat.le_of_ble_eq_true rfl) (by decide) (by decide) wc_M_in wi_M wl_M_67 ws_M_in (by decide) np_M_in (Nat.le_of_ble_eq_true rfl) (fun q hq => by cases hq) (c_M_in _ _ _) (fun k a h1 q => by cases q.1) (fun v h1 q => ?_)
  obtain ⟨q1, rfl⟩ := q
  cases q1
  by_cases h1 : rng n 1 100
  · rw [bI_t h1]
    refine x_callV (M' := m_M_bad) (As := [_]) (fr' := 0) (wd' := 0) d_M_run_8 hs.1 rfl pl_M_bad rfl (Nat.le_of_ble_eq_true rfl) (by decide) (by decide) wc_M_bad wi_M wl_M_71 wm_M_bad we_M_bad (by decide) np_M_bad (Nat.le_of_ble_eq_true rfl) (fun q hq => by cases hq) (c_M_bad hs _) (fun k a h1 q => by cases q.1) (fun v h1 q => ?_)
    obtain ⟨q1, rfl⟩ := q
    cases q1
    rw [bI_f (by decide)]
    refine x_if_eq_t (tgt := 16) d_M_run_11 (by decide) ((by decide)) ?_
    refine x_aload_n d_M_run_16 rfl ?_
    refine xm_get (j := 26) d_M_run_17 hs rfl (by decide) wf_M_75 (fun _ _ => rfl) ?_
    rw [show xu S 0 14 (nI 0) 0 26 = S 0 26 from xu_j _ _ _ _ (by decide)]
    by_cases j0 : S 0 26 = 0
    · skip
      refine x_if_ne_f 29 d_M_run_20 (by decide) (j0) ?_
      refine x_aload_n d_M_run_23 rfl ?_
      refine x_iconst (v := nI 2) d_M_run_24 (by decide) ?_
      refine x_callV (M' := m_M_fail) (As := [_]) (fr' := 0) (wd' := 0) d_M_run_25 hs.1 rfl pl_M_fail rfl (Nat.le_of_ble_eq_true rfl) (by decide) (by decide) wc_M_fail wi_M wl_M_82 wm_M_fail we_M_fail (by decide) np_M_fail (Nat.le_of_ble_eq_true rfl) (fun q hq => by cases hq) (c_M_fail hs _) (fun k a h1 q => by cases q.1) (fun v h1 q => ?_)
      obtain ⟨q1, rfl⟩ := q
      cases q1
      refine x_iret d_M_run_28 rfl (by first | rfl | assumption) ?_
      rw [show rnS S c r np n = (xu (xu S 0 14 (nI 0)) 0 14 (nI 2), nI 0) by unfold rnS; rw [if_pos h1, if_pos j0]]
      exact ⟨rfl, rfl⟩
    · have hT1 : TI (xu S 0 14 (nI 0)) c r np := (hT j0).keep (xu_k _ _ _ (by decide)) (xu_j _ _ _ _ (by decide)) (xu_j _ _ _ _ (by decide)) (xu_j _ _ _ _ (by decide)) (xu_j _ _ _ _ (by decide)) (fun v _ => Or.inr (Or.inl (by rw [xu_k _ _ _ (by decide)])))
      have e : rnS S c r np n = ((rnL (xu S 0 14 (nI 0)) c r np n.toNatClampNeg).1, if (rnL (xu S 0 14 (nI 0)) c r np n.toNatClampNeg).1 0 14 ≤ 0 then nI (rnL (xu S 0 14 (nI 0)) c r np n.toNatClampNeg).2 else nI 0) := by unfold rnS; rw [if_pos h1, if_neg j0]
      rw [e]
      obtain ⟨N, rfl, hN1, hN⟩ := rng_of (by decide) (by decide) h1
      rw [nI_clamp (by omega)]
      generalize xu S 0 14 (nI 0) = T at hT1
      have fin : ∀ k : Nat, k < 2 ^ 31 → xV l G 5 117 m_M_run 60 [(2, .int (nI k)), (0, .ref y), (1, .int (nI N))] [] (mset y (rnL T c r np N).1 h0) (fun q h' => q = .inl (some (.int (if (rnL T c r np N).1 0 14 ≤ 0 then nI k else nI 0))) ∧ h' = mset y (rnL T c r np N).1 h0) := by
        intro k hk
        refine x_aload_n d_M_run_60 rfl ?_
        refine xm_get (j := 14) d_M_run_61 hs rfl (by decide) wf_M_64 (fun _ _ => rfl) ?_
        refine x_if_le (tgt := 71) d_M_run_64 (by decide) (fun c9 => ?_) (fun c9 => ?_)
        · refine x_iload_n d_M_run_71 rfl ?_
          refine x_iret d_M_run_72 rfl (by first | rfl | assumption) ?_
          exact ⟨by rw [if_pos c9], rfl⟩
        · refine x_iconst (v := nI 0) d_M_run_67 (by decide) ?_
          refine x_goto (tgt := 72) d_M_run_68 (by decide) ?_
          refine x_iret d_M_run_72 rfl (by first | rfl | assumption) ?_
          exact ⟨by rw [if_neg c9], rfl⟩
      have lp : ∀ m k : Nat, k + m = N → (rnL T c r np k).2 = k → xV l G 5 117 m_M_run 31 [(2, .int (nI k)), (0, .ref y), (1, .int (nI N))] [] (mset y (rnL T c r np k).1 h0) (fun q h' => q = .inl (some (.int (if (rnL T c r np N).1 0 14 ≤ 0 then nI (rnL T c r np N).2 else nI 0))) ∧ h' = mset y (rnL T c r np N).1 h0) := by
        intro m
        induction m with
        | zero =>
          intro k hk he
          obtain rfl : k = N := by omega
          have f := fin k (by omega)
          rw [he]
          refine x_iload_n d_M_run_31 rfl ?_
          refine x_iload_n d_M_run_32 rfl ?_
          refine x_icmp_ge_t (tgt := 60) d_M_run_33 (by decide) ((nI_le (by omega) (by omega))) ?_
          exact f
        | succ m ih =>
          intro k hk he
          refine x_iload_n d_M_run_31 rfl ?_
          refine x_iload_n d_M_run_32 rfl ?_
          refine x_icmp_ge_f 60 d_M_run_33 (by decide) ((nI_ge (by omega) (by omega))) ?_
          refine x_aload_n d_M_run_36 rfl ?_
          refine xm_get (j := 26) d_M_run_37 hs rfl (by decide) wf_M_75 (fun _ _ => rfl) ?_
          by_cases j1 : (rnL T c r np k).1 0 26 = 0
          · have st := rnL_stop (Or.inl j1) (m + 1)
            rw [hk] at st
            have f := fin k (by omega)
            rw [st] at f ⊢
            rw [he]
            refine x_if_eq_t (tgt := 60) d_M_run_40 (by decide) (j1) ?_
            exact f
          · skip
            refine x_if_eq_f 60 d_M_run_40 (by decide) (j1) ?_
            refine x_aload_n d_M_run_43 rfl ?_
            refine xm_get (j := 14) d_M_run_44 hs rfl (by decide) wf_M_64 (fun _ _ => rfl) ?_
            by_cases t1 : (rnL T c r np k).1 0 14 = 0
            · have nx := ih (k + 1) (by omega) (by rw [rnL, if_neg (by rintro (q | q); exact j1 q; exact q t1)]; show (rnL T c r np k).2 + 1 = k + 1; rw [he])
              rw [rnL, if_neg (by rintro (q | q); exact j1 q; exact q t1)] at nx
              dsimp only at nx
              refine x_if_ne_f 60 d_M_run_47 (by decide) (t1) ?_
              refine x_aload_n d_M_run_50 rfl ?_
              refine x_callV (M' := m_M_tick) (As := []) (fr' := 4) (wd' := 94) d_M_run_51 hs.1 rfl pl_M_tick rfl (Nat.le_of_ble_eq_true rfl) (by decide) (by decide) wc_M_tick wi_M wl_M_182 wm_M_tick we_M_tick (by decide) np_M_tick (Nat.le_of_ble_eq_true rfl) (fun q hq => by cases hq) (c_M_tick hs (hT1.run k)) (fun k a h1 q => by cases q.1) (fun v h1 q => ?_)
              obtain ⟨q1, rfl⟩ := q
              cases q1
              first | refine x_incN d_M_run_54 rfl (by decide) ?_ | refine x_inc d_M_run_54 rfl (by decide) ?_
              refine x_goto (tgt := 31) d_M_run_57 (by decide) ?_
              refine xV.loc (nx) (by repeat (first | exact trivial | refine ⟨rfl, ?_⟩))
            · have st := rnL_stop (Or.inr t1) (m + 1)
              rw [hk] at st
              have f := fin k (by omega)
              rw [st] at f ⊢
              rw [he]
              refine x_if_ne_t (tgt := 60) d_M_run_47 (by decide) (t1) ?_
              exact f
      have this := lp N 0 (by omega) rfl
      rw [show rnL T c r np 0 = (T, 0) from rfl] at this
      refine x_if_ne_t (tgt := 29) d_M_run_20 (by decide) (j0) ?_
      refine x_iconst (v := nI 0) d_M_run_29 (by decide) ?_
      refine x_istore_n d_M_run_30 (by decide) ?_
      refine xV.loc (this) (by repeat (first | exact trivial | refine ⟨rfl, ?_⟩))
  · rw [bI_f h1]
    refine x_callV (M' := m_M_bad) (As := [_]) (fr' := 0) (wd' := 0) d_M_run_8 hs.1 rfl pl_M_bad rfl (Nat.le_of_ble_eq_true rfl) (by decide) (by decide) wc_M_bad wi_M wl_M_71 wm_M_bad we_M_bad (by decide) np_M_bad (Nat.le_of_ble_eq_true rfl) (fun q hq => by cases hq) (c_M_bad hs _) (fun k a h1 q => by cases q.1) (fun v h1 q => ?_)
    obtain ⟨q1, rfl⟩ := q
    cases q1
    rw [bI_t nI_0]
    refine x_if_eq_f 16 d_M_run_11 (by decide) ((by decide)) ?_
    refine x_iconst (v := nI 0) d_M_run_14 (by decide) ?_
    refine x_iret d_M_run_15 rfl (by first | rfl | assumption) ?_
    rw [show rnS S c r np n = (xu S 0 14 (nI 1), nI 0) by unfold rnS; rw [if_neg h1]]
    exact ⟨rfl, rfl⟩
def ctV (S : Nat → Nat → Int32) (w : Int32) : Int32 := if w = nI 0 then S 0 13 else if w = nI 1 then bI (¬ S 0 26 = 0) else if w = nI 2 then S 0 21 else if w = nI 3 then S 0 22 else if w = nI 4 then S 0 23 else if w = nI 5 then S 0 24 else if w = nI 6 then S 0 12 else -1
theorem c_M_count (hs : MSh h0 y) (w : Int32) : xVM l G 0 0 m_M_count [.ref y, .int w] (mset y S h0) (fun r h' => r = .inl (some (.int (ctV S w))) ∧ h' = mset y (xu S 0 14 (nI 0)) h0) := by
  unfold xVM
  refine x_aload_n d_M_count_0 rfl ?_
  refine x_iconst (v := nI 0) d_M_count_1 (by decide) ?_
  refine xm_put (j := 14) d_M_count_2 hs rfl (by decide) wf_M_64 (Or.inl rfl) (by first | rfl | assumption) rfl (fun _ _ => rfl) ?_
  refine x_iload_n d_M_count_5 rfl ?_
  by_cases m0 : w = nI 0
  · subst m0
    refine x_swIn (tgt := 48) d_M_count_6 (by decide) (by decide) rfl (by decide) ?_
    refine x_aload_n d_M_count_48 rfl ?_
    refine xm_get (j := 13) d_M_count_49 hs rfl (by decide) wf_M_79 (fun _ _ => rfl) ?_
    refine x_iret d_M_count_52 rfl (by first | rfl | assumption) ?_
    exact ⟨by rw [xu_j _ _ _ _ (by decide)]; rfl, rfl⟩
  by_cases m1 : w = nI 1
  · subst m1
    refine x_swIn (tgt := 53) d_M_count_6 (by decide) (by decide) rfl (by decide) ?_
    refine x_aload_n d_M_count_53 rfl ?_
    refine xm_get (j := 26) d_M_count_54 hs rfl (by decide) wf_M_75 (fun _ _ => rfl) ?_
    rw [xu_j _ _ _ _ (by decide)]
    refine x_if_eq (tgt := 64) d_M_count_57 (by decide) (fun c1 => ?_) (fun c1 => ?_)
    · refine x_iconst (v := nI 0) d_M_count_64 (by decide) ?_
      refine x_iret d_M_count_65 rfl (by first | rfl | assumption) ?_
      exact ⟨by rw [show ctV S (nI 1) = bI (¬ S 0 26 = 0) from rfl, bI_f (fun q => q c1)], rfl⟩
    · refine x_iconst (v := nI 1) d_M_count_60 (by decide) ?_
      refine x_goto (tgt := 65) d_M_count_61 (by decide) ?_
      refine x_iret d_M_count_65 rfl (by first | rfl | assumption) ?_
      exact ⟨by rw [show ctV S (nI 1) = bI (¬ S 0 26 = 0) from rfl, bI_t c1], rfl⟩
  by_cases m2 : w = nI 2
  · subst m2
    refine x_swIn (tgt := 66) d_M_count_6 (by decide) (by decide) rfl (by decide) ?_
    refine x_aload_n d_M_count_66 rfl ?_
    refine xm_get (j := 21) d_M_count_67 hs rfl (by decide) wf_M_170 (fun _ _ => rfl) ?_
    refine x_iret d_M_count_70 rfl (by first | rfl | assumption) ?_
    exact ⟨by rw [xu_j _ _ _ _ (by decide)]; rfl, rfl⟩
  by_cases m3 : w = nI 3
  · subst m3
    refine x_swIn (tgt := 71) d_M_count_6 (by decide) (by decide) rfl (by decide) ?_
    refine x_aload_n d_M_count_71 rfl ?_
    refine xm_get (j := 22) d_M_count_72 hs rfl (by decide) wf_M_164 (fun _ _ => rfl) ?_
    refine x_iret d_M_count_75 rfl (by first | rfl | assumption) ?_
    exact ⟨by rw [xu_j _ _ _ _ (by decide)]; rfl, rfl⟩
  by_cases m4 : w = nI 4
  · subst m4
    refine x_swIn (tgt := 76) d_M_count_6 (by decide) (by decide) rfl (by decide) ?_
    refine x_aload_n d_M_count_76 rfl ?_
    refine xm_get (j := 23) d_M_count_77 hs rfl (by decide) wf_M_154 (fun _ _ => rfl) ?_
    refine x_iret d_M_count_80 rfl (by first | rfl | assumption) ?_
    exact ⟨by rw [xu_j _ _ _ _ (by decide)]; rfl, rfl⟩
  by_cases m5 : w = nI 5
  · subst m5
    refine x_swIn (tgt := 81) d_M_count_6 (by decide) (by decide) rfl (by decide) ?_
    refine x_aload_n d_M_count_81 rfl ?_
    refine xm_get (j := 24) d_M_count_82 hs rfl (by decide) wf_M_118 (fun _ _ => rfl) ?_
    refine x_iret d_M_count_85 rfl (by first | rfl | assumption) ?_
    exact ⟨by rw [xu_j _ _ _ _ (by decide)]; rfl, rfl⟩
  by_cases m6 : w = nI 6
  · subst m6
    refine x_swIn (tgt := 86) d_M_count_6 (by decide) (by decide) rfl (by decide) ?_
    refine x_aload_n d_M_count_86 rfl ?_
    refine xm_get (j := 12) d_M_count_87 hs rfl (by decide) wf_M_86 (fun _ _ => rfl) ?_
    refine x_iret d_M_count_90 rfl (by first | rfl | assumption) ?_
    exact ⟨by rw [xu_j _ _ _ _ (by decide)]; rfl, rfl⟩
  · have t0 := toInt_ne (by omega) m0
    have t1 := toInt_ne (by omega) m1
    have t2 := toInt_ne (by omega) m2
    have t3 := toInt_ne (by omega) m3
    have t4 := toInt_ne (by omega) m4
    have t5 := toInt_ne (by omega) m5
    have t6 := toInt_ne (by omega) m6
    refine x_swOut (tgt := 91) d_M_count_6 (by omega) (by decide) ?_
    refine x_iconst (v := (-1)) d_M_count_91 (by decide) ?_
    refine x_iret d_M_count_92 rfl (by first | rfl | assumption) ?_
    exact ⟨by rw [show ctV S w = -1 by unfold ctV; rw [if_neg m0, if_neg m1, if_neg m2, if_neg m3, if_neg m4, if_neg m5, if_neg m6]], rfl⟩
def owV (S : Nat → Nat → Int32) (w what : Int32) : Int32 := if rng w 0 3 ∧ rng what 0 3 then (if what = 0 then bI (¬ S 7 w.toNatClampNeg = 0) else if what = nI 1 then S 4 w.toNatClampNeg else if what = nI 2 then S 5 w.toNatClampNeg else S 6 w.toNatClampNeg) else nI 0
theorem c_M_ofWorker (hs : MSh h0 y) (w s : Int32) : xVM l G 1 22 m_M_ofWorker [.ref y, .int w, .int s] (mset y S h0) (fun r h' => r = .inl (some (.int (owV S w s))) ∧ h' = mset y (xu S 0 14 (bI (¬ (rng w 0 3 ∧ rng s 0 3)))) h0) := by
  unfold xVM
  refine x_aload_n d_M_ofWorker_0 rfl ?_
  refine x_iload_n d_M_ofWorker_1 rfl ?_
  refine x_iconst (v := nI 0) d_M_ofWorker_2 (by decide) ?_
  refine x_iconst (v := nI 3) d_M_ofWorker_3 (by decide) ?_
  refine x_callS (M' := m_M_in) (As := [_, _, _]) (fr' := 0) (wd' := 0) d_M_ofWorker_4 pl_M_in rfl (Nat.le_of_ble_eq_true rfl) (by decide) (by decide) wc_M_in wi_M wl_M_67 ws_M_in (by decide) np_M_in (Nat.le_of_ble_eq_true rfl) (fun q hq => by cases hq) (c_M_in _ _ _) (fun k a h1 q => by cases q.1) (fun v h1 q => ?_)
  obtain ⟨q1, rfl⟩ := q
  cases q1
  by_cases h1 : rng w 0 3
  · rw [bI_t h1]
    refine x_if_eq_f 23 d_M_ofWorker_7 (by decide) ((by decide)) ?_
    refine x_iload_n d_M_ofWorker_10 rfl ?_
    refine x_iconst (v := nI 0) d_M_ofWorker_11 (by decide) ?_
    refine x_iconst (v := nI 3) d_M_ofWorker_12 (by decide) ?_
    refine x_callS (M' := m_M_in) (As := [_, _, _]) (fr' := 0) (wd' := 0) d_M_ofWorker_13 pl_M_in rfl (Nat.le_of_ble_eq_true rfl) (by decide) (by decide) wc_M_in wi_M wl_M_67 ws_M_in (by decide) np_M_in (Nat.le_of_ble_eq_true rfl) (fun q hq => by cases hq) (c_M_in _ _ _) (fun k a h1 q => by cases q.1) (fun v h1 q => ?_)
    obtain ⟨q1, rfl⟩ := q
    cases q1
    by_cases h2 : rng s 0 3
    · obtain ⟨n, rfl, -, hn⟩ := rng_of (by decide) (by decide) h1
      have n4 : n < mlen 4 := by show n < 4; omega
      have n5 : n < mlen 5 := by show n < 4; omega
      have n6 : n < mlen 6 := by show n < 4; omega
      have n7 : n < mlen 7 := by show n < 4; omega
      have e : owV S (nI n) s = if s = 0 then bI (¬ S 7 n = 0) else if s = nI 1 then S 4 n else if s = nI 2 then S 5 n else S 6 n := by unfold owV; rw [if_pos ⟨h1, h2⟩, nI_clamp (by omega)]
      rw [e, bI_t h2, bI_f (p := ¬ (rng (nI n) 0 3 ∧ rng s 0 3)) (fun q => q ⟨h1, h2⟩)]
      refine x_if_eq_f 23 d_M_ofWorker_16 (by decide) ((by decide)) ?_
      refine x_iconst (v := nI 1) d_M_ofWorker_19 (by decide) ?_
      refine x_goto (tgt := 24) d_M_ofWorker_20 (by decide) ?_
      refine x_callV (M' := m_M_bad) (As := [_]) (fr' := 0) (wd' := 0) d_M_ofWorker_24 hs.1 rfl pl_M_bad rfl (Nat.le_of_ble_eq_true rfl) (by decide) (by decide) wc_M_bad wi_M wl_M_71 wm_M_bad we_M_bad (by decide) np_M_bad (Nat.le_of_ble_eq_true rfl) (fun q hq => by cases hq) (c_M_bad hs _) (fun k a h1 q => by cases q.1) (fun v h1 q => ?_)
      obtain ⟨q1, rfl⟩ := q
      cases q1
      rw [bI_f (by decide)]
      refine x_if_eq_t (tgt := 32) d_M_ofWorker_27 (by decide) ((by decide)) ?_
      refine x_iload_n d_M_ofWorker_32 rfl ?_
      by_cases s0 : s = 0
      · rw [if_pos s0]
        refine x_if_ne_f 53 d_M_ofWorker_33 (by decide) (s0) ?_
        refine x_aload_n d_M_ofWorker_36 rfl ?_
        refine xm_ref (k := 7) (j := 6) d_M_ofWorker_37 hs (by decide) rfl rfl (by decide) wf_M_28 rfl ?_
        refine x_iload_n d_M_ofWorker_40 rfl ?_
        refine xm_zld d_M_ofWorker_41 hs (by decide) rfl (by first | decide | assumption | omega) ?_
        rw [xu_k _ _ _ (by decide)]
        refine x_if_eq (tgt := 49) d_M_ofWorker_42 (by decide) (fun c1 => ?_) (fun c1 => ?_)
        · refine x_iconst (v := nI 0) d_M_ofWorker_49 (by decide) ?_
          refine x_goto (tgt := 87) d_M_ofWorker_50 (by decide) ?_
          refine x_iret d_M_ofWorker_87 rfl (by first | rfl | assumption) ?_
          exact ⟨by rw [bI_f (fun q => q c1)], rfl⟩
        · refine x_iconst (v := nI 1) d_M_ofWorker_45 (by decide) ?_
          refine x_goto (tgt := 87) d_M_ofWorker_46 (by decide) ?_
          refine x_iret d_M_ofWorker_87 rfl (by first | rfl | assumption) ?_
          exact ⟨by rw [bI_t c1], rfl⟩
      · rw [if_neg s0]
        refine x_if_ne_t (tgt := 53) d_M_ofWorker_33 (by decide) (s0) ?_
        refine x_iload_n d_M_ofWorker_53 rfl ?_
        refine x_iconst (v := nI 1) d_M_ofWorker_54 (by decide) ?_
        by_cases s1 : s = nI 1
        · rw [if_pos s1]
          refine x_icmp_ne_f 67 d_M_ofWorker_55 (by decide) (s1) ?_
          refine x_aload_n d_M_ofWorker_58 rfl ?_
          refine xm_ref (k := 4) (j := 3) d_M_ofWorker_59 hs (by decide) rfl rfl (by decide) wf_M_19 rfl ?_
          refine x_iload_n d_M_ofWorker_62 rfl ?_
          refine xm_ald d_M_ofWorker_63 hs (by decide) rfl (by first | decide | assumption | omega) ?_
          refine x_goto (tgt := 87) d_M_ofWorker_64 (by decide) ?_
          refine x_iret d_M_ofWorker_87 rfl (by first | rfl | assumption) ?_
          exact ⟨by rw [xu_k _ _ _ (by decide)], rfl⟩
        · rw [if_neg s1]
          refine x_icmp_ne_t (tgt := 67) d_M_ofWorker_55 (by decide) (s1) ?_
          refine x_iload_n d_M_ofWorker_67 rfl ?_
          refine x_iconst (v := nI 2) d_M_ofWorker_68 (by decide) ?_
          by_cases s2 : s = nI 2
          · rw [if_pos s2]
            refine x_icmp_ne_f 81 d_M_ofWorker_69 (by decide) (s2) ?_
            refine x_aload_n d_M_ofWorker_72 rfl ?_
            refine xm_ref (k := 5) (j := 4) d_M_ofWorker_73 hs (by decide) rfl rfl (by decide) wf_M_22 rfl ?_
            refine x_iload_n d_M_ofWorker_76 rfl ?_
            refine xm_ald d_M_ofWorker_77 hs (by decide) rfl (by first | decide | assumption | omega) ?_
            refine x_goto (tgt := 87) d_M_ofWorker_78 (by decide) ?_
            refine x_iret d_M_ofWorker_87 rfl (by first | rfl | assumption) ?_
            exact ⟨by rw [xu_k _ _ _ (by decide)], rfl⟩
          · rw [if_neg s2]
            refine x_icmp_ne_t (tgt := 81) d_M_ofWorker_69 (by decide) (s2) ?_
            refine x_aload_n d_M_ofWorker_81 rfl ?_
            refine xm_ref (k := 6) (j := 5) d_M_ofWorker_82 hs (by decide) rfl rfl (by decide) wf_M_25 rfl ?_
            refine x_iload_n d_M_ofWorker_85 rfl ?_
            refine xm_ald d_M_ofWorker_86 hs (by decide) rfl (by first | decide | assumption | omega) ?_
            refine x_iret d_M_ofWorker_87 rfl (by first | rfl | assumption) ?_
            exact ⟨by rw [xu_k _ _ _ (by decide)], rfl⟩
    · rw [bI_f h2]
      refine x_if_eq_t (tgt := 23) d_M_ofWorker_16 (by decide) ((by decide)) ?_
      refine x_iconst (v := nI 0) d_M_ofWorker_23 (by decide) ?_
      refine x_callV (M' := m_M_bad) (As := [_]) (fr' := 0) (wd' := 0) d_M_ofWorker_24 hs.1 rfl pl_M_bad rfl (Nat.le_of_ble_eq_true rfl) (by decide) (by decide) wc_M_bad wi_M wl_M_71 wm_M_bad we_M_bad (by decide) np_M_bad (Nat.le_of_ble_eq_true rfl) (fun q hq => by cases hq) (c_M_bad hs _) (fun k a h1 q => by cases q.1) (fun v h1 q => ?_)
      obtain ⟨q1, rfl⟩ := q
      cases q1
      rw [bI_t nI_0]
      refine x_if_eq_f 32 d_M_ofWorker_27 (by decide) ((by decide)) ?_
      refine x_iconst (v := nI 0) d_M_ofWorker_30 (by decide) ?_
      refine x_iret d_M_ofWorker_31 rfl (by first | rfl | assumption) ?_
      exact ⟨by rw [show owV S w s = nI 0 from if_neg (fun q => h2 q.2)], by rw [bI_t (p := ¬ (rng w 0 3 ∧ rng s 0 3)) (fun q => h2 q.2)]⟩
  · rw [bI_f h1]
    refine x_if_eq_t (tgt := 23) d_M_ofWorker_7 (by decide) ((by decide)) ?_
    refine x_iconst (v := nI 0) d_M_ofWorker_23 (by decide) ?_
    refine x_callV (M' := m_M_bad) (As := [_]) (fr' := 0) (wd' := 0) d_M_ofWorker_24 hs.1 rfl pl_M_bad rfl (Nat.le_of_ble_eq_true rfl) (by decide) (by decide) wc_M_bad wi_M wl_M_71 wm_M_bad we_M_bad (by decide) np_M_bad (Nat.le_of_ble_eq_true rfl) (fun q hq => by cases hq) (c_M_bad hs _) (fun k a h1 q => by cases q.1) (fun v h1 q => ?_)
    obtain ⟨q1, rfl⟩ := q
    cases q1
    rw [bI_t nI_0]
    refine x_if_eq_f 32 d_M_ofWorker_27 (by decide) ((by decide)) ?_
    refine x_iconst (v := nI 0) d_M_ofWorker_30 (by decide) ?_
    refine x_iret d_M_ofWorker_31 rfl (by first | rfl | assumption) ?_
    exact ⟨by rw [show owV S w s = nI 0 from if_neg (fun q => h1 q.1)], by rw [bI_t (p := ¬ (rng w 0 3 ∧ rng s 0 3)) (fun q => h1 q.1)]⟩
end XM11
