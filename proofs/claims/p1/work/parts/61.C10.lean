/-- task t is neither done nor being done, and can be done -/
def cfr (C : Nat → Nat → Int32) (tk : Nat → Option Nat) (t : Nat) : Bool := decide (C (taddr t) 4 = -1 ∧ cdo tk t 4 = 0 ∧ cbd C t)
def cfh (C : Nat → Nat → Int32) (tk : Nat → Option Nat) (w t : Nat) : Bool := cfr C tk t && decide (t % 4 = w ∨ (t + 1) % 4 = w)
def cfM (C : Nat → Nat → Int32) (tk : Nat → Option Nat) (w c : Nat) : Option Nat := match lst (cfh C tk w) c with
  | some t => some t
  | none => lst (cfr C tk) c
def cfR (C : Nat → Nat → Int32) (tk : Nat → Option Nat) (r : Nat) : Option Nat := (lst (fun p => cfr C tk (8 + p)) r).map (fun p => 8 + p)
/-- the task for a second time, among the first n from fm on, and what is left of it -/
def csec (C : Nat → Nat → Int32) (tk : Nat → Option Nat) (fm : Nat) : Nat → Option Nat × Int32
  | 0 => (none, nI 0)
  | i + 1 => match cld tk (fm + i) with
    | none => csec C tk fm i
    | some w => if cdo tk (fm + i) 4 ≤ 1 ∧ cbd C (fm + i) ∧ (csec C tk fm i).2 < C (50 + w) 3 then (some (fm + i), C (50 + w) 3) else csec C tk fm i
section XC10
variable {l : Launch} {G : xG} {h0 : xH} {z : Nat} {C : Nat → Nat → Int32} {b : Bool} {tk : Nat → Option Nat}
theorem ltS {p : Nat → Prop} {i : Nat} (h : ∀ j, j < i → p j) (hi : p i) : ∀ j, j < i + 1 → p j := fun j hj => by
  rcases Nat.lt_succ_iff_lt_or_eq.mp hj with h2 | h2
  · exact h j h2
  · rw [h2]; exact hi
theorem c_A_freshM (hs : CSh h0 z) (hN : TN C) (htk : TKo tk) {mp : Int32} (hm : ¬ mp = 0) {w c : Nat} (hw : w < 4) (hc : C 0 8 = nI c) (hc6 : c ≤ 6) : xVM l G 1 23 m_A_freshTask [.ref z, .int mp, .int (nI w)] (cset z C b tk h0) (fun r h' => r = .inl (some (va_rf ((cfM C tk w c).map (fun t => z + taddr t)))) ∧ h' = cset z C b tk h0) := by
  have lp : ∀ m i : Nat, i + m = c → (∀ j, j < i → cfh C tk w j = false) → xV l G 1 23 m_A_freshTask 22 [(5, .int (nI i)), (4, va_rf ((lst (cfr C tk) i).map (fun t => z + taddr t))), (3, .ref (z + 3)), (0, .ref z), (1, .int mp), (2, .int (nI w))] [] (cset z C b tk h0) (fun r h' => r = .inl (some (va_rf ((cfM C tk w c).map (fun t => z + taddr t)))) ∧ h' = cset z C b tk h0) := by
    intro m
    induction m with
    | zero =>
      intro i him hj
      obtain rfl : i = c := by omega
      refine x_iload d_A_freshTask_22 rfl ?_
      first | refine x_aload_n d_A_freshTask_24 rfl ?_ | refine x_aloadq_n d_A_freshTask_24 rfl ?_
      refine x_iload_n d_A_freshTask_25 rfl ?_
      refine x_callV (M' := m_A_taskCount) (As := [_]) (fr' := 0) (wd' := 0) d_A_freshTask_26 hs.A rfl pl_A_taskCount rfl (Nat.le_of_ble_eq_true rfl) (by decide) (by decide) wc_A_taskCount wi_A wl_A_162 wm_A_taskCount we_A_taskCount (by decide) np_A_taskCount (Nat.le_of_ble_eq_true rfl) (fun q hq => by cases hq) (c_A_taskCount hs _) (fun k a h1 q => by cases q.1) (fun v h1 q => ?_)
      obtain ⟨q1, rfl⟩ := q
      cases q1
      rw [if_neg hm, hc]
      refine x_icmp_ge_t (tgt := 98) d_A_freshTask_29 (by decide) ((nI_le (by omega) (by omega))) ?_
      first | refine x_aload d_A_freshTask_98 rfl ?_ | refine x_aloadq d_A_freshTask_98 rfl ?_
      refine x_aret d_A_freshTask_100 rfl ?_
      exact ⟨by unfold cfM; rw [lst_none hj], rfl⟩
    | succ m ih =>
      intro i him hj
      have sk : cfr C tk i = false → xV l G 1 23 m_A_freshTask 92 [(6, .ref (z + taddr i)), (5, .int (nI i)), (4, va_rf ((lst (cfr C tk) i).map (fun t => z + taddr t))), (3, .ref (z + 3)), (0, .ref z), (1, .int mp), (2, .int (nI w))] [] (cset z C b tk h0) (fun r h' => r = .inl (some (va_rf ((cfM C tk w c).map (fun t => z + taddr t)))) ∧ h' = cset z C b tk h0) := by
        intro cf
        have nx := ih (i + 1) (by omega) (ltS hj (by unfold cfh; rw [cf]; rfl))
        rw [lst_miss (p := (cfr C tk)) cf] at nx
        cases hl : lst (cfr C tk) i with
        | none =>
          rw [hl] at nx
          first | refine x_incN d_A_freshTask_92 rfl (by decide) ?_ | refine x_inc d_A_freshTask_92 rfl (by decide) ?_
          refine x_goto (tgt := 22) d_A_freshTask_95 (by decide) ?_
          refine xV.loc (nx) (by repeat (first | exact trivial | refine ⟨rfl, ?_⟩))
        | some s =>
          rw [hl] at nx
          first | refine x_incN d_A_freshTask_92 rfl (by decide) ?_ | refine x_inc d_A_freshTask_92 rfl (by decide) ?_
          refine x_goto (tgt := 22) d_A_freshTask_95 (by decide) ?_
          refine xV.loc (nx) (by repeat (first | exact trivial | refine ⟨rfl, ?_⟩))
      refine x_iload d_A_freshTask_22 rfl ?_
      first | refine x_aload_n d_A_freshTask_24 rfl ?_ | refine x_aloadq_n d_A_freshTask_24 rfl ?_
      refine x_iload_n d_A_freshTask_25 rfl ?_
      refine x_callV (M' := m_A_taskCount) (As := [_]) (fr' := 0) (wd' := 0) d_A_freshTask_26 hs.A rfl pl_A_taskCount rfl (Nat.le_of_ble_eq_true rfl) (by decide) (by decide) wc_A_taskCount wi_A wl_A_162 wm_A_taskCount we_A_taskCount (by decide) np_A_taskCount (Nat.le_of_ble_eq_true rfl) (fun q hq => by cases hq) (c_A_taskCount hs _) (fun k a h1 q => by cases q.1) (fun v h1 q => ?_)
      obtain ⟨q1, rfl⟩ := q
      cases q1
      rw [if_neg hm, hc]
      refine x_icmp_ge_f 98 d_A_freshTask_29 (by decide) ((nI_ge (by omega) (by omega))) ?_
      first | refine x_aload_n d_A_freshTask_32 rfl ?_ | refine x_aloadq_n d_A_freshTask_32 rfl ?_
      refine x_iload d_A_freshTask_33 rfl ?_
      first | refine xc_aaW d_A_freshTask_35 hs (by first | assumption | omega) ?_ | refine xc_aaC d_A_freshTask_35 hs (by first | assumption | omega) ?_ | refine xc_aaM d_A_freshTask_35 hs (by first | assumption | omega) ?_ | refine xc_aaR d_A_freshTask_35 hs (by first | assumption | omega) ?_ | refine xc_aaT d_A_freshTask_35 hs (by first | assumption | omega) ?_ | refine xc_aaO d_A_freshTask_35 hs (by first | assumption | omega) ?_
      first | refine x_astore d_A_freshTask_36 (by decide) ?_ | refine x_astoreq d_A_freshTask_36 (by decide) ?_ | refine x_astoreN d_A_freshTask_36 (by decide) ?_
      first | refine x_aload d_A_freshTask_38 rfl ?_ | refine x_aloadq d_A_freshTask_38 rfl ?_
      refine x_callV (M' := m_T_isDone) (As := []) (fr' := 0) (wd' := 0) d_A_freshTask_40 (hs.T (by first | assumption | omega)) rfl pl_T_isDone rfl (Nat.le_of_ble_eq_true rfl) (by decide) (by decide) wc_T_isDone wi_T wl_A_180 wm_T_isDone we_T_isDone (by decide) np_T_isDone (Nat.le_of_ble_eq_true rfl) (fun q hq => by cases hq) (c_isDone hs (by omega)) (fun k a h1 q => by cases q.1) (fun v h1 q => ?_)
      obtain ⟨q1, rfl⟩ := q
      cases q1
      by_cases d : C (taddr i) 4 = -1
      · rw [bI_f (fun q => q d)]
        refine x_if_ne_f 92 d_A_freshTask_43 (by decide) ((by decide)) ?_
        first | refine x_aload_n d_A_freshTask_46 rfl ?_ | refine x_aloadq_n d_A_freshTask_46 rfl ?_
        first | refine x_aload d_A_freshTask_47 rfl ?_ | refine x_aloadq d_A_freshTask_47 rfl ?_
        refine x_callV (M' := m_A_doers) (As := [_]) (fr' := 0) (wd' := 0) d_A_freshTask_49 hs.A rfl pl_A_doers rfl (Nat.le_of_ble_eq_true rfl) (by decide) (by decide) wc_A_doers wi_A wl_A_277 wm_A_doers we_A_doers (by decide) np_A_doers (Nat.le_of_ble_eq_true rfl) (fun q hq => by cases hq) (c_A_doers hs htk (by omega)) (fun k a h1 q => by cases q.1) (fun v h1 q => ?_)
        obtain ⟨q1, rfl⟩ := q
        cases q1
        have cl := cdo_le tk i 4
        by_cases n0 : cdo tk i 4 = 0
        · rw [n0]
          refine x_if_gt_f 92 d_A_freshTask_52 (by decide) ((by decide)) ?_
          first | refine x_aload_n d_A_freshTask_55 rfl ?_ | refine x_aloadq_n d_A_freshTask_55 rfl ?_
          first | refine x_aload d_A_freshTask_56 rfl ?_ | refine x_aloadq d_A_freshTask_56 rfl ?_
          refine x_callV (M' := m_A_canBeDone) (As := [_]) (fr' := 0) (wd' := 0) d_A_freshTask_58 hs.A rfl pl_A_canBeDone rfl (Nat.le_of_ble_eq_true rfl) (by decide) (by decide) wc_A_canBeDone wi_A wl_A_280 wm_A_canBeDone we_A_canBeDone (by decide) np_A_canBeDone (Nat.le_of_ble_eq_true rfl) (fun q hq => by cases hq) (c_A_canBeDone hs hN (by omega)) (fun k a h1 q => by cases q.1) (fun v h1 q => ?_)
          obtain ⟨q1, rfl⟩ := q
          cases q1
          by_cases cb : cbd C i
          · rw [bI_t cb]
            have fr : cfr C tk i = true := decide_eq_true ⟨d, n0, cb⟩
            refine x_if_ne_t (tgt := 67) d_A_freshTask_61 (by decide) ((by decide)) ?_
            refine x_iload_n d_A_freshTask_67 rfl ?_
            refine x_if_eq_f 83 d_A_freshTask_68 (by decide) (hm) ?_
            refine x_iload d_A_freshTask_71 rfl ?_
            refine x_iload_n d_A_freshTask_73 rfl ?_
            refine x_callS (M' := m_A_isHome) (As := [_, _]) (fr' := 0) (wd' := 0) d_A_freshTask_74 pl_A_isHome rfl (Nat.le_of_ble_eq_true rfl) (by decide) (by decide) wc_A_isHome wi_A wl_A_284 ws_A_isHome (by decide) np_A_isHome (Nat.le_of_ble_eq_true rfl) (fun q hq => by cases hq) (c_A_isHome (by omega) hw) (fun k a h1 q => by cases q.1) (fun v h1 q => ?_)
            obtain ⟨q1, rfl⟩ := q
            cases q1
            by_cases hh : i % 4 = w ∨ (i + 1) % 4 = w
            · rw [bI_t hh]
              refine x_if_eq_f 83 d_A_freshTask_77 (by decide) ((by decide)) ?_
              first | refine x_aload d_A_freshTask_80 rfl ?_ | refine x_aloadq d_A_freshTask_80 rfl ?_
              refine x_aret (o := some (z + taddr i)) d_A_freshTask_82 rfl ?_
              exact ⟨by unfold cfM; rw [lst_first (i := i) (by omega) hj (by unfold cfh; rw [fr, decide_eq_true hh]; rfl)]; rfl, rfl⟩
            · rw [bI_f hh]
              have nx := ih (i + 1) (by omega) (ltS hj (by unfold cfh; rw [fr, decide_eq_false hh]; rfl))
              cases hl : lst (cfr C tk) i with
              | none =>
                rw [lst_hit hl fr] at nx
                refine x_if_eq_t (tgt := 83) d_A_freshTask_77 (by decide) ((by decide)) ?_
                refine x_aloadq (o := none) d_A_freshTask_83 rfl ?_
                refine x_ifnonnullN d_A_freshTask_85 ?_
                first | refine x_aload d_A_freshTask_88 rfl ?_ | refine x_aloadq d_A_freshTask_88 rfl ?_
                first | refine x_astore d_A_freshTask_90 (by decide) ?_ | refine x_astoreq d_A_freshTask_90 (by decide) ?_ | refine x_astoreN d_A_freshTask_90 (by decide) ?_
                first | refine x_incN d_A_freshTask_92 rfl (by decide) ?_ | refine x_inc d_A_freshTask_92 rfl (by decide) ?_
                refine x_goto (tgt := 22) d_A_freshTask_95 (by decide) ?_
                refine xV.loc (nx) (by repeat (first | exact trivial | refine ⟨rfl, ?_⟩))
              | some s =>
                rw [lst_some hl] at nx
                refine x_if_eq_t (tgt := 83) d_A_freshTask_77 (by decide) ((by decide)) ?_
                first | refine x_aload d_A_freshTask_83 rfl ?_ | refine x_aloadq d_A_freshTask_83 rfl ?_
                refine x_ifnonnull (tgt := 92) d_A_freshTask_85 (by decide) ?_
                first | refine x_incN d_A_freshTask_92 rfl (by decide) ?_ | refine x_inc d_A_freshTask_92 rfl (by decide) ?_
                refine x_goto (tgt := 22) d_A_freshTask_95 (by decide) ?_
                refine xV.loc (nx) (by repeat (first | exact trivial | refine ⟨rfl, ?_⟩))
          · rw [bI_f cb]
            refine x_if_ne_f 67 d_A_freshTask_61 (by decide) ((by decide)) ?_
            refine x_goto (tgt := 92) d_A_freshTask_64 (by decide) ?_
            refine xV.loc (sk (decide_eq_false (fun q => cb q.2.2))) (by repeat (first | exact trivial | refine ⟨rfl, ?_⟩))
        · skip
          refine x_if_gt_t (tgt := 92) d_A_freshTask_52 (by decide) ((nI_lt (a := 0) (by omega) (by omega))) ?_
          refine xV.loc (sk (decide_eq_false (fun q => n0 q.2.1))) (by repeat (first | exact trivial | refine ⟨rfl, ?_⟩))
      · rw [bI_t d]
        refine x_if_ne_t (tgt := 92) d_A_freshTask_43 (by decide) ((by decide)) ?_
        refine xV.loc (sk (decide_eq_false (fun q => d q.1))) (by repeat (first | exact trivial | refine ⟨rfl, ?_⟩))
  unfold xVM
  refine x_iload_n d_A_freshTask_0 rfl ?_
  refine x_if_eq_f 11 d_A_freshTask_1 (by decide) (hm) ?_
  first | refine x_aload_n d_A_freshTask_4 rfl ?_ | refine x_aloadq_n d_A_freshTask_4 rfl ?_
  refine xc_refA (j := 2) d_A_freshTask_5 hs rfl (by decide) wf_A_23 (fun _ _ => rfl) hs.r2 ?_
  refine x_goto (tgt := 15) d_A_freshTask_8 (by decide) ?_
  first | refine x_astore_n d_A_freshTask_15 (by decide) ?_ | refine x_astoreq_n d_A_freshTask_15 (by decide) ?_ | refine x_astore_nN d_A_freshTask_15 (by decide) ?_
  refine x_null d_A_freshTask_16 ?_
  first | refine x_astore d_A_freshTask_17 (by decide) ?_ | refine x_astoreq d_A_freshTask_17 (by decide) ?_ | refine x_astoreN d_A_freshTask_17 (by decide) ?_
  refine x_iconst (v := nI 0) d_A_freshTask_19 (by decide) ?_
  refine x_istore d_A_freshTask_20 (by decide) ?_
  refine xV.loc (lp c 0 (by omega) (fun j hj => absurd hj (Nat.not_lt_zero j))) (by repeat (first | exact trivial | refine ⟨rfl, ?_⟩))
theorem c_A_freshR (hs : CSh h0 z) (hN : TN C) (htk : TKo tk) {mp : Int32} (hm : mp = 0) {w c : Nat} (hw : w < 4) (hc : C (jo b) 3 = nI c) (hc6 : c ≤ 3) : xVM l G 1 23 m_A_freshTask [.ref z, .int mp, .int (nI w)] (cset z C b tk h0) (fun r h' => r = .inl (some (va_rf ((lst (fun p => cfr C tk (8 + p)) c).map (fun p => z + taddr (8 + p))))) ∧ h' = cset z C b tk h0) := by
  have lp : ∀ m i : Nat, i + m = c → xV l G 1 23 m_A_freshTask 22 [(5, .int (nI i)), (4, va_rf ((lst (fun p => cfr C tk (8 + p)) i).map (fun p => z + taddr (8 + p)))), (3, .ref (z + 4)), (0, .ref z), (1, .int mp), (2, .int (nI w))] [] (cset z C b tk h0) (fun r h' => r = .inl (some (va_rf ((lst (fun p => cfr C tk (8 + p)) c).map (fun p => z + taddr (8 + p))))) ∧ h' = cset z C b tk h0) := by
    intro m
    induction m with
    | zero =>
      intro i him
      obtain rfl : i = c := by omega
      refine x_iload d_A_freshTask_22 rfl ?_
      first | refine x_aload_n d_A_freshTask_24 rfl ?_ | refine x_aloadq_n d_A_freshTask_24 rfl ?_
      refine x_iload_n d_A_freshTask_25 rfl ?_
      refine x_callV (M' := m_A_taskCount) (As := [_]) (fr' := 0) (wd' := 0) d_A_freshTask_26 hs.A rfl pl_A_taskCount rfl (Nat.le_of_ble_eq_true rfl) (by decide) (by decide) wc_A_taskCount wi_A wl_A_162 wm_A_taskCount we_A_taskCount (by decide) np_A_taskCount (Nat.le_of_ble_eq_true rfl) (fun q hq => by cases hq) (c_A_taskCount hs _) (fun k a h1 q => by cases q.1) (fun v h1 q => ?_)
      obtain ⟨q1, rfl⟩ := q
      cases q1
      rw [if_pos hm, hc]
      refine x_icmp_ge_t (tgt := 98) d_A_freshTask_29 (by decide) ((nI_le (by omega) (by omega))) ?_
      first | refine x_aload d_A_freshTask_98 rfl ?_ | refine x_aloadq d_A_freshTask_98 rfl ?_
      refine x_aret d_A_freshTask_100 rfl ?_
      exact ⟨rfl, rfl⟩
    | succ m ih =>
      intro i him
      have sk : cfr C tk (8 + i) = false → xV l G 1 23 m_A_freshTask 92 [(6, .ref (z + taddr (8 + i))), (5, .int (nI i)), (4, va_rf ((lst (fun p => cfr C tk (8 + p)) i).map (fun p => z + taddr (8 + p)))), (3, .ref (z + 4)), (0, .ref z), (1, .int mp), (2, .int (nI w))] [] (cset z C b tk h0) (fun r h' => r = .inl (some (va_rf ((lst (fun p => cfr C tk (8 + p)) c).map (fun p => z + taddr (8 + p))))) ∧ h' = cset z C b tk h0) := by
        intro cf
        have nx := ih (i + 1) (by omega)
        rw [lst_miss (p := (fun p => cfr C tk (8 + p))) cf] at nx
        cases hl : lst (fun p => cfr C tk (8 + p)) i with
        | none =>
          rw [hl] at nx
          first | refine x_incN d_A_freshTask_92 rfl (by decide) ?_ | refine x_inc d_A_freshTask_92 rfl (by decide) ?_
          refine x_goto (tgt := 22) d_A_freshTask_95 (by decide) ?_
          refine xV.loc (nx) (by repeat (first | exact trivial | refine ⟨rfl, ?_⟩))
        | some s =>
          rw [hl] at nx
          first | refine x_incN d_A_freshTask_92 rfl (by decide) ?_ | refine x_inc d_A_freshTask_92 rfl (by decide) ?_
          refine x_goto (tgt := 22) d_A_freshTask_95 (by decide) ?_
          refine xV.loc (nx) (by repeat (first | exact trivial | refine ⟨rfl, ?_⟩))
      refine x_iload d_A_freshTask_22 rfl ?_
      first | refine x_aload_n d_A_freshTask_24 rfl ?_ | refine x_aloadq_n d_A_freshTask_24 rfl ?_
      refine x_iload_n d_A_freshTask_25 rfl ?_
      refine x_callV (M' := m_A_taskCount) (As := [_]) (fr' := 0) (wd' := 0) d_A_freshTask_26 hs.A rfl pl_A_taskCount rfl (Nat.le_of_ble_eq_true rfl) (by decide) (by decide) wc_A_taskCount wi_A wl_A_162 wm_A_taskCount we_A_taskCount (by decide) np_A_taskCount (Nat.le_of_ble_eq_true rfl) (fun q hq => by cases hq) (c_A_taskCount hs _) (fun k a h1 q => by cases q.1) (fun v h1 q => ?_)
      obtain ⟨q1, rfl⟩ := q
      cases q1
      rw [if_pos hm, hc]
      refine x_icmp_ge_f 98 d_A_freshTask_29 (by decide) ((nI_ge (by omega) (by omega))) ?_
      first | refine x_aload_n d_A_freshTask_32 rfl ?_ | refine x_aloadq_n d_A_freshTask_32 rfl ?_
      refine x_iload d_A_freshTask_33 rfl ?_
      first | refine xc_aaW d_A_freshTask_35 hs (by first | assumption | omega) ?_ | refine xc_aaC d_A_freshTask_35 hs (by first | assumption | omega) ?_ | refine xc_aaM d_A_freshTask_35 hs (by first | assumption | omega) ?_ | refine xc_aaR d_A_freshTask_35 hs (by first | assumption | omega) ?_ | refine xc_aaT d_A_freshTask_35 hs (by first | assumption | omega) ?_ | refine xc_aaO d_A_freshTask_35 hs (by first | assumption | omega) ?_
      first | refine x_astore d_A_freshTask_36 (by decide) ?_ | refine x_astoreq d_A_freshTask_36 (by decide) ?_ | refine x_astoreN d_A_freshTask_36 (by decide) ?_
      first | refine x_aload d_A_freshTask_38 rfl ?_ | refine x_aloadq d_A_freshTask_38 rfl ?_
      refine x_callV (M' := m_T_isDone) (As := []) (fr' := 0) (wd' := 0) d_A_freshTask_40 (hs.T (by first | assumption | omega)) rfl pl_T_isDone rfl (Nat.le_of_ble_eq_true rfl) (by decide) (by decide) wc_T_isDone wi_T wl_A_180 wm_T_isDone we_T_isDone (by decide) np_T_isDone (Nat.le_of_ble_eq_true rfl) (fun q hq => by cases hq) (c_isDone hs (by omega)) (fun k a h1 q => by cases q.1) (fun v h1 q => ?_)
      obtain ⟨q1, rfl⟩ := q
      cases q1
      by_cases d : C (taddr (8 + i)) 4 = -1
      · rw [bI_f (fun q => q d)]
        refine x_if_ne_f 92 d_A_freshTask_43 (by decide) ((by decide)) ?_
        first | refine x_aload_n d_A_freshTask_46 rfl ?_ | refine x_aloadq_n d_A_freshTask_46 rfl ?_
        first | refine x_aload d_A_freshTask_47 rfl ?_ | refine x_aloadq d_A_freshTask_47 rfl ?_
        refine x_callV (M' := m_A_doers) (As := [_]) (fr' := 0) (wd' := 0) d_A_freshTask_49 hs.A rfl pl_A_doers rfl (Nat.le_of_ble_eq_true rfl) (by decide) (by decide) wc_A_doers wi_A wl_A_277 wm_A_doers we_A_doers (by decide) np_A_doers (Nat.le_of_ble_eq_true rfl) (fun q hq => by cases hq) (c_A_doers hs htk (by omega)) (fun k a h1 q => by cases q.1) (fun v h1 q => ?_)
        obtain ⟨q1, rfl⟩ := q
        cases q1
        have cl := cdo_le tk (8 + i) 4
        by_cases n0 : cdo tk (8 + i) 4 = 0
        · rw [n0]
          refine x_if_gt_f 92 d_A_freshTask_52 (by decide) ((by decide)) ?_
          first | refine x_aload_n d_A_freshTask_55 rfl ?_ | refine x_aloadq_n d_A_freshTask_55 rfl ?_
          first | refine x_aload d_A_freshTask_56 rfl ?_ | refine x_aloadq d_A_freshTask_56 rfl ?_
          refine x_callV (M' := m_A_canBeDone) (As := [_]) (fr' := 0) (wd' := 0) d_A_freshTask_58 hs.A rfl pl_A_canBeDone rfl (Nat.le_of_ble_eq_true rfl) (by decide) (by decide) wc_A_canBeDone wi_A wl_A_280 wm_A_canBeDone we_A_canBeDone (by decide) np_A_canBeDone (Nat.le_of_ble_eq_true rfl) (fun q hq => by cases hq) (c_A_canBeDone hs hN (by omega)) (fun k a h1 q => by cases q.1) (fun v h1 q => ?_)
          obtain ⟨q1, rfl⟩ := q
          cases q1
          by_cases cb : cbd C (8 + i)
          · rw [bI_t cb]
            have fr : cfr C tk (8 + i) = true := decide_eq_true ⟨d, n0, cb⟩
            have nx := ih (i + 1) (by omega)
            cases hl : lst (fun p => cfr C tk (8 + p)) i with
            | none =>
              rw [lst_hit hl fr] at nx
              refine x_if_ne_t (tgt := 67) d_A_freshTask_61 (by decide) ((by decide)) ?_
              refine x_iload_n d_A_freshTask_67 rfl ?_
              refine x_if_eq_t (tgt := 83) d_A_freshTask_68 (by decide) (hm) ?_
              refine x_aloadq (o := none) d_A_freshTask_83 rfl ?_
              refine x_ifnonnullN d_A_freshTask_85 ?_
              first | refine x_aload d_A_freshTask_88 rfl ?_ | refine x_aloadq d_A_freshTask_88 rfl ?_
              first | refine x_astore d_A_freshTask_90 (by decide) ?_ | refine x_astoreq d_A_freshTask_90 (by decide) ?_ | refine x_astoreN d_A_freshTask_90 (by decide) ?_
              first | refine x_incN d_A_freshTask_92 rfl (by decide) ?_ | refine x_inc d_A_freshTask_92 rfl (by decide) ?_
              refine x_goto (tgt := 22) d_A_freshTask_95 (by decide) ?_
              refine xV.loc (nx) (by repeat (first | exact trivial | refine ⟨rfl, ?_⟩))
            | some s =>
              rw [lst_some hl] at nx
              refine x_if_ne_t (tgt := 67) d_A_freshTask_61 (by decide) ((by decide)) ?_
              refine x_iload_n d_A_freshTask_67 rfl ?_
              refine x_if_eq_t (tgt := 83) d_A_freshTask_68 (by decide) (hm) ?_
              first | refine x_aload d_A_freshTask_83 rfl ?_ | refine x_aloadq d_A_freshTask_83 rfl ?_
              refine x_ifnonnull (tgt := 92) d_A_freshTask_85 (by decide) ?_
              first | refine x_incN d_A_freshTask_92 rfl (by decide) ?_ | refine x_inc d_A_freshTask_92 rfl (by decide) ?_
              refine x_goto (tgt := 22) d_A_freshTask_95 (by decide) ?_
              refine xV.loc (nx) (by repeat (first | exact trivial | refine ⟨rfl, ?_⟩))
          · rw [bI_f cb]
            refine x_if_ne_f 67 d_A_freshTask_61 (by decide) ((by decide)) ?_
            refine x_goto (tgt := 92) d_A_freshTask_64 (by decide) ?_
            refine xV.loc (sk (decide_eq_false (fun q => cb q.2.2))) (by repeat (first | exact trivial | refine ⟨rfl, ?_⟩))
        · skip
          refine x_if_gt_t (tgt := 92) d_A_freshTask_52 (by decide) ((nI_lt (a := 0) (by omega) (by omega))) ?_
          refine xV.loc (sk (decide_eq_false (fun q => n0 q.2.1))) (by repeat (first | exact trivial | refine ⟨rfl, ?_⟩))
      · rw [bI_t d]
        refine x_if_ne_t (tgt := 92) d_A_freshTask_43 (by decide) ((by decide)) ?_
        refine xV.loc (sk (decide_eq_false (fun q => d q.1))) (by repeat (first | exact trivial | refine ⟨rfl, ?_⟩))
  unfold xVM
  refine x_iload_n d_A_freshTask_0 rfl ?_
  refine x_if_eq_t (tgt := 11) d_A_freshTask_1 (by decide) (hm) ?_
  first | refine x_aload_n d_A_freshTask_11 rfl ?_ | refine x_aloadq_n d_A_freshTask_11 rfl ?_
  refine xc_refA (j := 3) d_A_freshTask_12 hs rfl (by decide) wf_A_27 (fun _ _ => rfl) hs.r3 ?_
  first | refine x_astore_n d_A_freshTask_15 (by decide) ?_ | refine x_astoreq_n d_A_freshTask_15 (by decide) ?_ | refine x_astore_nN d_A_freshTask_15 (by decide) ?_
  refine x_null d_A_freshTask_16 ?_
  first | refine x_astore d_A_freshTask_17 (by decide) ?_ | refine x_astoreq d_A_freshTask_17 (by decide) ?_ | refine x_astoreN d_A_freshTask_17 (by decide) ?_
  refine x_iconst (v := nI 0) d_A_freshTask_19 (by decide) ?_
  refine x_istore d_A_freshTask_20 (by decide) ?_
  refine xV.loc (lp c 0 (by omega)) (by repeat (first | exact trivial | refine ⟨rfl, ?_⟩))
theorem c_A_secondM (hs : CSh h0 z) (hN : TN C) (htk : TKo tk) {mp : Int32} (hm : ¬ mp = 0) {c : Nat} (hc : C 0 8 = nI c) (hc6 : c ≤ 6) : xVM l G 1 23 m_A_taskForSecondTime [.ref z, .int mp] (cset z C b tk h0) (fun r h' => r = .inl (some (va_rf ((csec C tk 0 c).1.map (fun t => z + taddr t)))) ∧ h' = cset z C b tk h0) := by
  have lp : ∀ m i : Nat, i + m = c → xV l G 1 23 m_A_taskForSecondTime 24 [(5, .int (nI i)), (4, .int (csec C tk 0 i).2), (3, va_rf ((csec C tk 0 i).1.map (fun t => z + taddr t))), (2, .ref (z + 3)), (0, .ref z), (1, .int mp)] [] (cset z C b tk h0) (fun r h' => r = .inl (some (va_rf ((csec C tk 0 c).1.map (fun t => z + taddr t)))) ∧ h' = cset z C b tk h0) := by
    intro m
    induction m with
    | zero =>
      intro i him
      obtain rfl : i = c := by omega
      refine x_iload d_A_taskForSecondTime_24 rfl ?_
      first | refine x_aload_n d_A_taskForSecondTime_26 rfl ?_ | refine x_aloadq_n d_A_taskForSecondTime_26 rfl ?_
      refine x_iload_n d_A_taskForSecondTime_27 rfl ?_
      refine x_callV (M' := m_A_taskCount) (As := [_]) (fr' := 0) (wd' := 0) d_A_taskForSecondTime_28 hs.A rfl pl_A_taskCount rfl (Nat.le_of_ble_eq_true rfl) (by decide) (by decide) wc_A_taskCount wi_A wl_A_162 wm_A_taskCount we_A_taskCount (by decide) np_A_taskCount (Nat.le_of_ble_eq_true rfl) (fun q hq => by cases hq) (c_A_taskCount hs _) (fun k a h1 q => by cases q.1) (fun v h1 q => ?_)
      obtain ⟨q1, rfl⟩ := q
      cases q1
      rw [if_neg hm, hc]
      refine x_icmp_ge_t (tgt := 112) d_A_taskForSecondTime_31 (by decide) ((nI_le (by omega) (by omega))) ?_
      first | refine x_aload_n d_A_taskForSecondTime_112 rfl ?_ | refine x_aloadq_n d_A_taskForSecondTime_112 rfl ?_
      refine x_aret d_A_taskForSecondTime_113 rfl ?_
      exact ⟨rfl, rfl⟩
    | succ m ih =>
      intro i him
      have nx := ih (i + 1) (by omega)
      have sk : ∀ v : Int32, csec C tk 0 (i + 1) = csec C tk 0 i → xV l G 1 23 m_A_taskForSecondTime 106 [(7, .int v), (6, .ref (z + taddr (0 + i))), (5, .int (nI i)), (4, .int (csec C tk 0 i).2), (3, va_rf ((csec C tk 0 i).1.map (fun t => z + taddr t))), (2, .ref (z + 3)), (0, .ref z), (1, .int mp)] [] (cset z C b tk h0) (fun r h' => r = .inl (some (va_rf ((csec C tk 0 c).1.map (fun t => z + taddr t)))) ∧ h' = cset z C b tk h0) := by
        intro v cf
        rw [cf] at nx
        first | refine x_incN d_A_taskForSecondTime_106 rfl (by decide) ?_ | refine x_inc d_A_taskForSecondTime_106 rfl (by decide) ?_
        refine x_goto (tgt := 24) d_A_taskForSecondTime_109 (by decide) ?_
        refine xV.loc (nx) (by repeat (first | exact trivial | refine ⟨rfl, ?_⟩))
      refine x_iload d_A_taskForSecondTime_24 rfl ?_
      first | refine x_aload_n d_A_taskForSecondTime_26 rfl ?_ | refine x_aloadq_n d_A_taskForSecondTime_26 rfl ?_
      refine x_iload_n d_A_taskForSecondTime_27 rfl ?_
      refine x_callV (M' := m_A_taskCount) (As := [_]) (fr' := 0) (wd' := 0) d_A_taskForSecondTime_28 hs.A rfl pl_A_taskCount rfl (Nat.le_of_ble_eq_true rfl) (by decide) (by decide) wc_A_taskCount wi_A wl_A_162 wm_A_taskCount we_A_taskCount (by decide) np_A_taskCount (Nat.le_of_ble_eq_true rfl) (fun q hq => by cases hq) (c_A_taskCount hs _) (fun k a h1 q => by cases q.1) (fun v h1 q => ?_)
      obtain ⟨q1, rfl⟩ := q
      cases q1
      rw [if_neg hm, hc]
      refine x_icmp_ge_f 112 d_A_taskForSecondTime_31 (by decide) ((nI_ge (by omega) (by omega))) ?_
      first | refine x_aload_n d_A_taskForSecondTime_34 rfl ?_ | refine x_aloadq_n d_A_taskForSecondTime_34 rfl ?_
      refine x_iload d_A_taskForSecondTime_35 rfl ?_
      first | refine xc_aaW d_A_taskForSecondTime_37 hs (by first | assumption | omega) ?_ | refine xc_aaC d_A_taskForSecondTime_37 hs (by first | assumption | omega) ?_ | refine xc_aaM d_A_taskForSecondTime_37 hs (by first | assumption | omega) ?_ | refine xc_aaR d_A_taskForSecondTime_37 hs (by first | assumption | omega) ?_ | refine xc_aaT d_A_taskForSecondTime_37 hs (by first | assumption | omega) ?_ | refine xc_aaO d_A_taskForSecondTime_37 hs (by first | assumption | omega) ?_
      rw [show taddr i = taddr (0 + i) by rw [Nat.zero_add]]
      first | refine x_astore d_A_taskForSecondTime_38 (by decide) ?_ | refine x_astoreq d_A_taskForSecondTime_38 (by decide) ?_ | refine x_astoreN d_A_taskForSecondTime_38 (by decide) ?_
      first | refine x_aload_n d_A_taskForSecondTime_40 rfl ?_ | refine x_aloadq_n d_A_taskForSecondTime_40 rfl ?_
      first | refine x_aload d_A_taskForSecondTime_41 rfl ?_ | refine x_aloadq d_A_taskForSecondTime_41 rfl ?_
      refine x_callV (M' := m_A_leastDoer) (As := [_]) (fr' := 0) (wd' := 0) d_A_taskForSecondTime_43 hs.A rfl pl_A_leastDoer rfl (Nat.le_of_ble_eq_true rfl) (by decide) (by decide) wc_A_leastDoer wi_A wl_A_187 wm_A_leastDoer we_A_leastDoer (by decide) np_A_leastDoer (Nat.le_of_ble_eq_true rfl) (fun q hq => by cases hq) (c_A_leastDoer hs htk (t := (0 + i)) (by omega)) (fun k a h1 q => by cases q.1) (fun v h1 q => ?_)
      obtain ⟨q1, rfl⟩ := q
      cases q1
      refine x_istore d_A_taskForSecondTime_46 (by decide) ?_
      refine x_iload d_A_taskForSecondTime_48 rfl ?_
      refine x_iconst (v := (-1)) d_A_taskForSecondTime_50 (by decide) ?_
      cases hl : cld tk (0 + i) with
      | none =>
        rw [show oI none = -1 from rfl]
        refine x_icmp_eq_t (tgt := 106) d_A_taskForSecondTime_51 (by decide) (rfl) ?_
        refine xV.loc (sk _ (by rw [csec, hl])) (by repeat (first | exact trivial | refine ⟨rfl, ?_⟩))
      | some w =>
        have w4 : w < 4 := (lst_lt hl).1
        have cl := cdo_le tk (0 + i) 4
        rw [show oI (some w) = nI w from rfl]
        refine x_icmp_eq_f 106 d_A_taskForSecondTime_51 (by decide) ((nI_nm1 (by omega))) ?_
        first | refine x_aload_n d_A_taskForSecondTime_54 rfl ?_ | refine x_aloadq_n d_A_taskForSecondTime_54 rfl ?_
        first | refine x_aload d_A_taskForSecondTime_55 rfl ?_ | refine x_aloadq d_A_taskForSecondTime_55 rfl ?_
        refine x_callV (M' := m_A_doers) (As := [_]) (fr' := 0) (wd' := 0) d_A_taskForSecondTime_57 hs.A rfl pl_A_doers rfl (Nat.le_of_ble_eq_true rfl) (by decide) (by decide) wc_A_doers wi_A wl_A_277 wm_A_doers we_A_doers (by decide) np_A_doers (Nat.le_of_ble_eq_true rfl) (fun q hq => by cases hq) (c_A_doers hs htk (t := (0 + i)) (by omega)) (fun k a h1 q => by cases q.1) (fun v h1 q => ?_)
        obtain ⟨q1, rfl⟩ := q
        cases q1
        refine x_iconst (v := nI 1) d_A_taskForSecondTime_60 (by decide) ?_
        by_cases n1 : cdo tk (0 + i) 4 ≤ 1
        · skip
          refine x_icmp_gt_f 106 d_A_taskForSecondTime_61 (by decide) ((nI_nlt (by omega) (by omega))) ?_
          first | refine x_aload_n d_A_taskForSecondTime_64 rfl ?_ | refine x_aloadq_n d_A_taskForSecondTime_64 rfl ?_
          first | refine x_aload d_A_taskForSecondTime_65 rfl ?_ | refine x_aloadq d_A_taskForSecondTime_65 rfl ?_
          refine x_callV (M' := m_A_canBeDone) (As := [_]) (fr' := 0) (wd' := 0) d_A_taskForSecondTime_67 hs.A rfl pl_A_canBeDone rfl (Nat.le_of_ble_eq_true rfl) (by decide) (by decide) wc_A_canBeDone wi_A wl_A_280 wm_A_canBeDone we_A_canBeDone (by decide) np_A_canBeDone (Nat.le_of_ble_eq_true rfl) (fun q hq => by cases hq) (c_A_canBeDone hs hN (t := (0 + i)) (by omega)) (fun k a h1 q => by cases q.1) (fun v h1 q => ?_)
          obtain ⟨q1, rfl⟩ := q
          cases q1
          by_cases cb : cbd C (0 + i)
          · rw [bI_t cb]
            refine x_if_ne_t (tgt := 76) d_A_taskForSecondTime_70 (by decide) ((by decide)) ?_
            first | refine x_aload_n d_A_taskForSecondTime_76 rfl ?_ | refine x_aloadq_n d_A_taskForSecondTime_76 rfl ?_
            refine xc_refA (j := 0) d_A_taskForSecondTime_77 hs rfl (by decide) wf_A_11 (fun _ _ => rfl) hs.r0 ?_
            refine x_iload d_A_taskForSecondTime_80 rfl ?_
            first | refine xc_aaW d_A_taskForSecondTime_82 hs (by first | assumption | omega) ?_ | refine xc_aaC d_A_taskForSecondTime_82 hs (by first | assumption | omega) ?_ | refine xc_aaM d_A_taskForSecondTime_82 hs (by first | assumption | omega) ?_ | refine xc_aaR d_A_taskForSecondTime_82 hs (by first | assumption | omega) ?_ | refine xc_aaT d_A_taskForSecondTime_82 hs (by first | assumption | omega) ?_ | refine xc_aaO d_A_taskForSecondTime_82 hs (by first | assumption | omega) ?_
            refine xc_get (kc := 5) (j := 3) d_A_taskForSecondTime_83 (hs.K (by first | assumption | omega)) (by omega) rfl (by decide) wf_A_193 (fun _ _ => rfl) ?_
            refine x_iload d_A_taskForSecondTime_86 rfl ?_
            by_cases mx : (csec C tk 0 i).2 < C (50 + w) 3
            · rw [show csec C tk 0 (i + 1) = (some (0 + i), C (50 + w) 3) by rw [csec, hl]; exact if_pos ⟨n1, cb, mx⟩] at nx
              refine x_icmp_le_f 106 d_A_taskForSecondTime_88 (by decide) ((Int32.not_le.mpr mx)) ?_
              first | refine x_aload d_A_taskForSecondTime_91 rfl ?_ | refine x_aloadq d_A_taskForSecondTime_91 rfl ?_
              first | refine x_astore_n d_A_taskForSecondTime_93 (by decide) ?_ | refine x_astoreq_n d_A_taskForSecondTime_93 (by decide) ?_ | refine x_astore_nN d_A_taskForSecondTime_93 (by decide) ?_
              first | refine x_aload_n d_A_taskForSecondTime_94 rfl ?_ | refine x_aloadq_n d_A_taskForSecondTime_94 rfl ?_
              refine xc_refA (j := 0) d_A_taskForSecondTime_95 hs rfl (by decide) wf_A_11 (fun _ _ => rfl) hs.r0 ?_
              refine x_iload d_A_taskForSecondTime_98 rfl ?_
              first | refine xc_aaW d_A_taskForSecondTime_100 hs (by first | assumption | omega) ?_ | refine xc_aaC d_A_taskForSecondTime_100 hs (by first | assumption | omega) ?_ | refine xc_aaM d_A_taskForSecondTime_100 hs (by first | assumption | omega) ?_ | refine xc_aaR d_A_taskForSecondTime_100 hs (by first | assumption | omega) ?_ | refine xc_aaT d_A_taskForSecondTime_100 hs (by first | assumption | omega) ?_ | refine xc_aaO d_A_taskForSecondTime_100 hs (by first | assumption | omega) ?_
              refine xc_get (kc := 5) (j := 3) d_A_taskForSecondTime_101 (hs.K (by first | assumption | omega)) (by omega) rfl (by decide) wf_A_193 (fun _ _ => rfl) ?_
              refine x_istore d_A_taskForSecondTime_104 (by decide) ?_
              first | refine x_incN d_A_taskForSecondTime_106 rfl (by decide) ?_ | refine x_inc d_A_taskForSecondTime_106 rfl (by decide) ?_
              refine x_goto (tgt := 24) d_A_taskForSecondTime_109 (by decide) ?_
              refine xV.loc (nx) (by repeat (first | exact trivial | refine ⟨rfl, ?_⟩))
            · skip
              refine x_icmp_le_t (tgt := 106) d_A_taskForSecondTime_88 (by decide) ((Int32.not_lt.mp mx)) ?_
              refine xV.loc (sk _ (by rw [csec, hl]; exact if_neg (fun q => mx q.2.2))) (by repeat (first | exact trivial | refine ⟨rfl, ?_⟩))
          · rw [bI_f cb]
            refine x_if_ne_f 76 d_A_taskForSecondTime_70 (by decide) ((by decide)) ?_
            refine x_goto (tgt := 106) d_A_taskForSecondTime_73 (by decide) ?_
            refine xV.loc (sk _ (by rw [csec, hl]; exact if_neg (fun q => cb q.2.1))) (by repeat (first | exact trivial | refine ⟨rfl, ?_⟩))
        · skip
          refine x_icmp_gt_t (tgt := 106) d_A_taskForSecondTime_61 (by decide) ((nI_lt (by omega) (by omega))) ?_
          refine xV.loc (sk _ (by rw [csec, hl]; exact if_neg (fun q => n1 q.1))) (by repeat (first | exact trivial | refine ⟨rfl, ?_⟩))
  unfold xVM
  refine x_iload_n d_A_taskForSecondTime_0 rfl ?_
  refine x_if_eq_f 11 d_A_taskForSecondTime_1 (by decide) (hm) ?_
  first | refine x_aload_n d_A_taskForSecondTime_4 rfl ?_ | refine x_aloadq_n d_A_taskForSecondTime_4 rfl ?_
  refine xc_refA (j := 2) d_A_taskForSecondTime_5 hs rfl (by decide) wf_A_23 (fun _ _ => rfl) hs.r2 ?_
  refine x_goto (tgt := 15) d_A_taskForSecondTime_8 (by decide) ?_
  first | refine x_astore_n d_A_taskForSecondTime_15 (by decide) ?_ | refine x_astoreq_n d_A_taskForSecondTime_15 (by decide) ?_ | refine x_astore_nN d_A_taskForSecondTime_15 (by decide) ?_
  refine x_null d_A_taskForSecondTime_16 ?_
  first | refine x_astore_n d_A_taskForSecondTime_17 (by decide) ?_ | refine x_astoreq_n d_A_taskForSecondTime_17 (by decide) ?_ | refine x_astore_nN d_A_taskForSecondTime_17 (by decide) ?_
  refine x_iconst (v := nI 0) d_A_taskForSecondTime_18 (by decide) ?_
  refine x_istore d_A_taskForSecondTime_19 (by decide) ?_
  refine x_iconst (v := nI 0) d_A_taskForSecondTime_21 (by decide) ?_
  refine x_istore d_A_taskForSecondTime_22 (by decide) ?_
  refine xV.loc (lp c 0 (by omega)) (by repeat (first | exact trivial | refine ⟨rfl, ?_⟩))
theorem c_A_secondR (hs : CSh h0 z) (hN : TN C) (htk : TKo tk) {mp : Int32} (hm : mp = 0) {c : Nat} (hc : C (jo b) 3 = nI c) (hc6 : c ≤ 3) : xVM l G 1 23 m_A_taskForSecondTime [.ref z, .int mp] (cset z C b tk h0) (fun r h' => r = .inl (some (va_rf ((csec C tk 8 c).1.map (fun t => z + taddr t)))) ∧ h' = cset z C b tk h0) := by
  have lp : ∀ m i : Nat, i + m = c → xV l G 1 23 m_A_taskForSecondTime 24 [(5, .int (nI i)), (4, .int (csec C tk 8 i).2), (3, va_rf ((csec C tk 8 i).1.map (fun t => z + taddr t))), (2, .ref (z + 4)), (0, .ref z), (1, .int mp)] [] (cset z C b tk h0) (fun r h' => r = .inl (some (va_rf ((csec C tk 8 c).1.map (fun t => z + taddr t)))) ∧ h' = cset z C b tk h0) := by
    intro m
    induction m with
    | zero =>
      intro i him
      obtain rfl : i = c := by omega
      refine x_iload d_A_taskForSecondTime_24 rfl ?_
      first | refine x_aload_n d_A_taskForSecondTime_26 rfl ?_ | refine x_aloadq_n d_A_taskForSecondTime_26 rfl ?_
      refine x_iload_n d_A_taskForSecondTime_27 rfl ?_
      refine x_callV (M' := m_A_taskCount) (As := [_]) (fr' := 0) (wd' := 0) d_A_taskForSecondTime_28 hs.A rfl pl_A_taskCount rfl (Nat.le_of_ble_eq_true rfl) (by decide) (by decide) wc_A_taskCount wi_A wl_A_162 wm_A_taskCount we_A_taskCount (by decide) np_A_taskCount (Nat.le_of_ble_eq_true rfl) (fun q hq => by cases hq) (c_A_taskCount hs _) (fun k a h1 q => by cases q.1) (fun v h1 q => ?_)
      obtain ⟨q1, rfl⟩ := q
      cases q1
      rw [if_pos hm, hc]
      refine x_icmp_ge_t (tgt := 112) d_A_taskForSecondTime_31 (by decide) ((nI_le (by omega) (by omega))) ?_
      first | refine x_aload_n d_A_taskForSecondTime_112 rfl ?_ | refine x_aloadq_n d_A_taskForSecondTime_112 rfl ?_
      refine x_aret d_A_taskForSecondTime_113 rfl ?_
      exact ⟨rfl, rfl⟩
    | succ m ih =>
      intro i him
      have nx := ih (i + 1) (by omega)
      have sk : ∀ v : Int32, csec C tk 8 (i + 1) = csec C tk 8 i → xV l G 1 23 m_A_taskForSecondTime 106 [(7, .int v), (6, .ref (z + taddr (8 + i))), (5, .int (nI i)), (4, .int (csec C tk 8 i).2), (3, va_rf ((csec C tk 8 i).1.map (fun t => z + taddr t))), (2, .ref (z + 4)), (0, .ref z), (1, .int mp)] [] (cset z C b tk h0) (fun r h' => r = .inl (some (va_rf ((csec C tk 8 c).1.map (fun t => z + taddr t)))) ∧ h' = cset z C b tk h0) := by
        intro v cf
        rw [cf] at nx
        first | refine x_incN d_A_taskForSecondTime_106 rfl (by decide) ?_ | refine x_inc d_A_taskForSecondTime_106 rfl (by decide) ?_
        refine x_goto (tgt := 24) d_A_taskForSecondTime_109 (by decide) ?_
        refine xV.loc (nx) (by repeat (first | exact trivial | refine ⟨rfl, ?_⟩))
      refine x_iload d_A_taskForSecondTime_24 rfl ?_
      first | refine x_aload_n d_A_taskForSecondTime_26 rfl ?_ | refine x_aloadq_n d_A_taskForSecondTime_26 rfl ?_
      refine x_iload_n d_A_taskForSecondTime_27 rfl ?_
      refine x_callV (M' := m_A_taskCount) (As := [_]) (fr' := 0) (wd' := 0) d_A_taskForSecondTime_28 hs.A rfl pl_A_taskCount rfl (Nat.le_of_ble_eq_true rfl) (by decide) (by decide) wc_A_taskCount wi_A wl_A_162 wm_A_taskCount we_A_taskCount (by decide) np_A_taskCount (Nat.le_of_ble_eq_true rfl) (fun q hq => by cases hq) (c_A_taskCount hs _) (fun k a h1 q => by cases q.1) (fun v h1 q => ?_)
      obtain ⟨q1, rfl⟩ := q
      cases q1
      rw [if_pos hm, hc]
      refine x_icmp_ge_f 112 d_A_taskForSecondTime_31 (by decide) ((nI_ge (by omega) (by omega))) ?_
      first | refine x_aload_n d_A_taskForSecondTime_34 rfl ?_ | refine x_aloadq_n d_A_taskForSecondTime_34 rfl ?_
      refine x_iload d_A_taskForSecondTime_35 rfl ?_
      first | refine xc_aaW d_A_taskForSecondTime_37 hs (by first | assumption | omega) ?_ | refine xc_aaC d_A_taskForSecondTime_37 hs (by first | assumption | omega) ?_ | refine xc_aaM d_A_taskForSecondTime_37 hs (by first | assumption | omega) ?_ | refine xc_aaR d_A_taskForSecondTime_37 hs (by first | assumption | omega) ?_ | refine xc_aaT d_A_taskForSecondTime_37 hs (by first | assumption | omega) ?_ | refine xc_aaO d_A_taskForSecondTime_37 hs (by first | assumption | omega) ?_
      first | refine x_astore d_A_taskForSecondTime_38 (by decide) ?_ | refine x_astoreq d_A_taskForSecondTime_38 (by decide) ?_ | refine x_astoreN d_A_taskForSecondTime_38 (by decide) ?_
      first | refine x_aload_n d_A_taskForSecondTime_40 rfl ?_ | refine x_aloadq_n d_A_taskForSecondTime_40 rfl ?_
      first | refine x_aload d_A_taskForSecondTime_41 rfl ?_ | refine x_aloadq d_A_taskForSecondTime_41 rfl ?_
      refine x_callV (M' := m_A_leastDoer) (As := [_]) (fr' := 0) (wd' := 0) d_A_taskForSecondTime_43 hs.A rfl pl_A_leastDoer rfl (Nat.le_of_ble_eq_true rfl) (by decide) (by decide) wc_A_leastDoer wi_A wl_A_187 wm_A_leastDoer we_A_leastDoer (by decide) np_A_leastDoer (Nat.le_of_ble_eq_true rfl) (fun q hq => by cases hq) (c_A_leastDoer hs htk (t := (8 + i)) (by omega)) (fun k a h1 q => by cases q.1) (fun v h1 q => ?_)
      obtain ⟨q1, rfl⟩ := q
      cases q1
      refine x_istore d_A_taskForSecondTime_46 (by decide) ?_
      refine x_iload d_A_taskForSecondTime_48 rfl ?_
      refine x_iconst (v := (-1)) d_A_taskForSecondTime_50 (by decide) ?_
      cases hl : cld tk (8 + i) with
      | none =>
        rw [show oI none = -1 from rfl]
        refine x_icmp_eq_t (tgt := 106) d_A_taskForSecondTime_51 (by decide) (rfl) ?_
        refine xV.loc (sk _ (by rw [csec, hl])) (by repeat (first | exact trivial | refine ⟨rfl, ?_⟩))
      | some w =>
        have w4 : w < 4 := (lst_lt hl).1
        have cl := cdo_le tk (8 + i) 4
        rw [show oI (some w) = nI w from rfl]
        refine x_icmp_eq_f 106 d_A_taskForSecondTime_51 (by decide) ((nI_nm1 (by omega))) ?_
        first | refine x_aload_n d_A_taskForSecondTime_54 rfl ?_ | refine x_aloadq_n d_A_taskForSecondTime_54 rfl ?_
        first | refine x_aload d_A_taskForSecondTime_55 rfl ?_ | refine x_aloadq d_A_taskForSecondTime_55 rfl ?_
        refine x_callV (M' := m_A_doers) (As := [_]) (fr' := 0) (wd' := 0) d_A_taskForSecondTime_57 hs.A rfl pl_A_doers rfl (Nat.le_of_ble_eq_true rfl) (by decide) (by decide) wc_A_doers wi_A wl_A_277 wm_A_doers we_A_doers (by decide) np_A_doers (Nat.le_of_ble_eq_true rfl) (fun q hq => by cases hq) (c_A_doers hs htk (t := (8 + i)) (by omega)) (fun k a h1 q => by cases q.1) (fun v h1 q => ?_)
        obtain ⟨q1, rfl⟩ := q
        cases q1
        refine x_iconst (v := nI 1) d_A_taskForSecondTime_60 (by decide) ?_
        by_cases n1 : cdo tk (8 + i) 4 ≤ 1
        · skip
          refine x_icmp_gt_f 106 d_A_taskForSecondTime_61 (by decide) ((nI_nlt (by omega) (by omega))) ?_
          first | refine x_aload_n d_A_taskForSecondTime_64 rfl ?_ | refine x_aloadq_n d_A_taskForSecondTime_64 rfl ?_
          first | refine x_aload d_A_taskForSecondTime_65 rfl ?_ | refine x_aloadq d_A_taskForSecondTime_65 rfl ?_
          refine x_callV (M' := m_A_canBeDone) (As := [_]) (fr' := 0) (wd' := 0) d_A_taskForSecondTime_67 hs.A rfl pl_A_canBeDone rfl (Nat.le_of_ble_eq_true rfl) (by decide) (by decide) wc_A_canBeDone wi_A wl_A_280 wm_A_canBeDone we_A_canBeDone (by decide) np_A_canBeDone (Nat.le_of_ble_eq_true rfl) (fun q hq => by cases hq) (c_A_canBeDone hs hN (t := (8 + i)) (by omega)) (fun k a h1 q => by cases q.1) (fun v h1 q => ?_)
          obtain ⟨q1, rfl⟩ := q
          cases q1
          by_cases cb : cbd C (8 + i)
          · rw [bI_t cb]
            refine x_if_ne_t (tgt := 76) d_A_taskForSecondTime_70 (by decide) ((by decide)) ?_
            first | refine x_aload_n d_A_taskForSecondTime_76 rfl ?_ | refine x_aloadq_n d_A_taskForSecondTime_76 rfl ?_
            refine xc_refA (j := 0) d_A_taskForSecondTime_77 hs rfl (by decide) wf_A_11 (fun _ _ => rfl) hs.r0 ?_
            refine x_iload d_A_taskForSecondTime_80 rfl ?_
            first | refine xc_aaW d_A_taskForSecondTime_82 hs (by first | assumption | omega) ?_ | refine xc_aaC d_A_taskForSecondTime_82 hs (by first | assumption | omega) ?_ | refine xc_aaM d_A_taskForSecondTime_82 hs (by first | assumption | omega) ?_ | refine xc_aaR d_A_taskForSecondTime_82 hs (by first | assumption | omega) ?_ | refine xc_aaT d_A_taskForSecondTime_82 hs (by first | assumption | omega) ?_ | refine xc_aaO d_A_taskForSecondTime_82 hs (by first | assumption | omega) ?_
            refine xc_get (kc := 5) (j := 3) d_A_taskForSecondTime_83 (hs.K (by first | assumption | omega)) (by omega) rfl (by decide) wf_A_193 (fun _ _ => rfl) ?_
            refine x_iload d_A_taskForSecondTime_86 rfl ?_
            by_cases mx : (csec C tk 8 i).2 < C (50 + w) 3
            · rw [show csec C tk 8 (i + 1) = (some (8 + i), C (50 + w) 3) by rw [csec, hl]; exact if_pos ⟨n1, cb, mx⟩] at nx
              refine x_icmp_le_f 106 d_A_taskForSecondTime_88 (by decide) ((Int32.not_le.mpr mx)) ?_
              first | refine x_aload d_A_taskForSecondTime_91 rfl ?_ | refine x_aloadq d_A_taskForSecondTime_91 rfl ?_
              first | refine x_astore_n d_A_taskForSecondTime_93 (by decide) ?_ | refine x_astoreq_n d_A_taskForSecondTime_93 (by decide) ?_ | refine x_astore_nN d_A_taskForSecondTime_93 (by decide) ?_
              first | refine x_aload_n d_A_taskForSecondTime_94 rfl ?_ | refine x_aloadq_n d_A_taskForSecondTime_94 rfl ?_
              refine xc_refA (j := 0) d_A_taskForSecondTime_95 hs rfl (by decide) wf_A_11 (fun _ _ => rfl) hs.r0 ?_
              refine x_iload d_A_taskForSecondTime_98 rfl ?_
              first | refine xc_aaW d_A_taskForSecondTime_100 hs (by first | assumption | omega) ?_ | refine xc_aaC d_A_taskForSecondTime_100 hs (by first | assumption | omega) ?_ | refine xc_aaM d_A_taskForSecondTime_100 hs (by first | assumption | omega) ?_ | refine xc_aaR d_A_taskForSecondTime_100 hs (by first | assumption | omega) ?_ | refine xc_aaT d_A_taskForSecondTime_100 hs (by first | assumption | omega) ?_ | refine xc_aaO d_A_taskForSecondTime_100 hs (by first | assumption | omega) ?_
              refine xc_get (kc := 5) (j := 3) d_A_taskForSecondTime_101 (hs.K (by first | assumption | omega)) (by omega) rfl (by decide) wf_A_193 (fun _ _ => rfl) ?_
              refine x_istore d_A_taskForSecondTime_104 (by decide) ?_
              first | refine x_incN d_A_taskForSecondTime_106 rfl (by decide) ?_ | refine x_inc d_A_taskForSecondTime_106 rfl (by decide) ?_
              refine x_goto (tgt := 24) d_A_taskForSecondTime_109 (by decide) ?_
              refine xV.loc (nx) (by repeat (first | exact trivial | refine ⟨rfl, ?_⟩))
            · skip
              refine x_icmp_le_t (tgt := 106) d_A_taskForSecondTime_88 (by decide) ((Int32.not_lt.mp mx)) ?_
              refine xV.loc (sk _ (by rw [csec, hl]; exact if_neg (fun q => mx q.2.2))) (by repeat (first | exact trivial | refine ⟨rfl, ?_⟩))
          · rw [bI_f cb]
            refine x_if_ne_f 76 d_A_taskForSecondTime_70 (by decide) ((by decide)) ?_
            refine x_goto (tgt := 106) d_A_taskForSecondTime_73 (by decide) ?_
            refine xV.loc (sk _ (by rw [csec, hl]; exact if_neg (fun q => cb q.2.1))) (by repeat (first | exact trivial | refine ⟨rfl, ?_⟩))
        · skip
          refine x_icmp_gt_t (tgt := 106) d_A_taskForSecondTime_61 (by decide) ((nI_lt (by omega) (by omega))) ?_
          refine xV.loc (sk _ (by rw [csec, hl]; exact if_neg (fun q => n1 q.1))) (by repeat (first | exact trivial | refine ⟨rfl, ?_⟩))
  unfold xVM
  refine x_iload_n d_A_taskForSecondTime_0 rfl ?_
  refine x_if_eq_t (tgt := 11) d_A_taskForSecondTime_1 (by decide) (hm) ?_
  first | refine x_aload_n d_A_taskForSecondTime_11 rfl ?_ | refine x_aloadq_n d_A_taskForSecondTime_11 rfl ?_
  refine xc_refA (j := 3) d_A_taskForSecondTime_12 hs rfl (by decide) wf_A_27 (fun _ _ => rfl) hs.r3 ?_
  first | refine x_astore_n d_A_taskForSecondTime_15 (by decide) ?_ | refine x_astoreq_n d_A_taskForSecondTime_15 (by decide) ?_ | refine x_astore_nN d_A_taskForSecondTime_15 (by decide) ?_
  refine x_null d_A_taskForSecondTime_16 ?_
  first | refine x_astore_n d_A_taskForSecondTime_17 (by decide) ?_ | refine x_astoreq_n d_A_taskForSecondTime_17 (by decide) ?_ | refine x_astore_nN d_A_taskForSecondTime_17 (by decide) ?_
  refine x_iconst (v := nI 0) d_A_taskForSecondTime_18 (by decide) ?_
  refine x_istore d_A_taskForSecondTime_19 (by decide) ?_
  refine x_iconst (v := nI 0) d_A_taskForSecondTime_21 (by decide) ?_
  refine x_istore d_A_taskForSecondTime_22 (by decide) ?_
  refine xV.loc (lp c 0 (by omega)) (by repeat (first | exact trivial | refine ⟨rfl, ?_⟩))
theorem c_take (hs : CSh h0 z) {w t : Nat} (hw : w < 4) (ht : tok t) : xVM l G 0 0 m_K_take [.ref (z + (50 + w)), .ref (z + taddr t)] (cset z C b tk h0) (fun r h' => r = .inl none ∧ h' = cset z (xu C (50 + w) 3 (C (taddr t) 2)) b (xr tk w (some t)) h0) :=
  xV.imp (c_K_take (h := cset z C b tk h0) (hs.K hw) (hs.T ht)) (fun r h' q => ⟨q.1, q.2.trans (by
    have e := cset_wT (z := z) (C := C) (b := b) (tk := tk) (h0 := h0) (o := some t) hw
    rw [show (some t).map (fun t => z + taddr t) = some (z + taddr t) from rfl] at e
    rw [e, cset_w (by omega), cset_I (taddr_lt ht).1])⟩)
end XC10
