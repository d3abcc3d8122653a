/-- which task worker w gets, and whether it is one for a second time -/
def gvF (C : Nat → Nat → Int32) (tk : Nat → Option Nat) (c r w : Nat) : Option Nat × Bool :=
  if ∀ t, t < c → ¬ C (taddr t) 4 = -1 then (match cfR C tk r with
    | some t => (some t, false)
    | none => ((csec C tk 8 r).1, true))
  else (match cfM C tk w c with
    | some t => (some t, false)
    | none => ((csec C tk 0 c).1, true))
def gvP (C : Nat → Nat → Int32) (tk : Nat → Option Nat) (w : Nat) : Option Nat × Bool → (Nat → Nat → Int32) × (Nat → Option Nat)
  | (none, _) => (C, tk)
  | (some t, s) => (xu (if s = true then xu C 0 13 (C 0 13 + nI 1) else C) (50 + w) 3 (C (taddr t) 2), xr tk w (some t))
def gvC (C : Nat → Nat → Int32) (tk : Nat → Option Nat) (c r w : Nat) : (Nat → Nat → Int32) × (Nat → Option Nat) := gvP C tk w (gvF C tk c r w)
theorem csec_lt {C : Nat → Nat → Int32} {tk : Nat → Option Nat} {fm t : Nat} : ∀ {n : Nat}, (csec C tk fm n).1 = some t → fm ≤ t ∧ t < fm + n
  | 0, h => by cases h
  | n + 1, h => by
    rw [csec] at h
    cases hl : cld tk (fm + n) with
    | none =>
      rw [hl] at h
      have := csec_lt (n := n) h
      omega
    | some w =>
      rw [hl] at h
      dsimp only at h
      split at h
      · have e : fm + n = t := Option.some.inj h
        omega
      · have := csec_lt (n := n) h
        omega
theorem cfR_lt {C : Nat → Nat → Int32} {tk : Nat → Option Nat} {r t : Nat} (h : cfR C tk r = some t) : 8 ≤ t ∧ t < 8 + r := by
  unfold cfR at h
  cases hl : lst (fun p => cfr C tk (8 + p)) r with
  | none => rw [hl] at h; cases h
  | some p =>
    rw [hl] at h
    have e : 8 + p = t := Option.some.inj h
    have := (lst_lt hl).1
    omega
theorem cfM_lt {C : Nat → Nat → Int32} {tk : Nat → Option Nat} {w c t : Nat} (h : cfM C tk w c = some t) : t < c := by
  unfold cfM at h
  cases hl : lst (cfh C tk w) c with
  | none => rw [hl] at h; exact (lst_lt h).1
  | some p =>
    rw [hl] at h
    obtain rfl : p = t := Option.some.inj h
    exact (lst_lt hl).1
theorem gvF_lt {C : Nat → Nat → Int32} {tk : Nat → Option Nat} {c r w t : Nat} (h : (gvF C tk c r w).1 = some t) : t < c ∨ (8 ≤ t ∧ t < 8 + r) := by
  unfold gvF at h
  split at h
  · cases hf : cfR C tk r with
    | some s =>
      rw [hf] at h
      obtain rfl : s = t := Option.some.inj h
      exact Or.inr (cfR_lt hf)
    | none => rw [hf] at h; exact Or.inr (csec_lt h)
  · cases hf : cfM C tk w c with
    | some s =>
      rw [hf] at h
      obtain rfl : s = t := Option.some.inj h
      exact Or.inl (cfM_lt hf)
    | none => rw [hf] at h; have := csec_lt h; exact Or.inl (by omega)
section XC11
variable {l : Launch} {G : xG} {h0 : xH} {z : Nat} {C : Nat → Nat → Int32} {b : Bool} {tk : Nat → Option Nat}
theorem c_A_giveTask (hs : CSh h0 z) (hN : TN C) (htk : TKo tk) {w c r : Nat} (hw : w < 4) (hc : C 0 8 = nI c) (hc6 : c ≤ 6) (hr : C (jo b) 3 = nI r) (hr3 : r ≤ 3) :
    xVM l G 2 50 m_A_giveTask [.ref z, .int (nI w)] (cset z C b tk h0) (fun q h' => q = .inl none ∧ h' = cset z (gvC C tk c r w).1 b (gvC C tk c r w).2 h0) := by
  unfold xVM
  first | refine x_aload_n d_A_giveTask_0 rfl ?_ | refine x_aloadq_n d_A_giveTask_0 rfl ?_
  refine x_iconst (v := nI 1) d_A_giveTask_1 (by decide) ?_
  refine x_callV (M' := m_A_allDone) (As := [_]) (fr' := 1) (wd' := 21) d_A_giveTask_2 hs.A rfl pl_A_allDone rfl (Nat.le_of_ble_eq_true rfl) (by decide) (by decide) wc_A_allDone wi_A wl_A_170 wm_A_allDone we_A_allDone (by decide) np_A_allDone (Nat.le_of_ble_eq_true rfl) (fun q hq => by cases hq) (c_A_allDoneM hs (by decide) hc hc6) (fun k a h1 q => by cases q.1) (fun v h1 q => ?_)
  obtain ⟨q1, rfl⟩ := q
  cases q1
  by_cases md : ∀ t, t < c → ¬ C (taddr t) 4 = -1
  · have eF : gvF C tk c r w = (match cfR C tk r with
      | some t => (some t, false)
      | none => ((csec C tk 8 r).1, true)) := if_pos md
    rw [bI_t md]
    refine x_if_ne_t (tgt := 12) d_A_giveTask_5 (by decide) ((by decide)) ?_
    refine x_iconst (v := nI 0) d_A_giveTask_12 (by decide) ?_
    refine x_istore_n d_A_giveTask_13 (by decide) ?_
    first | refine x_aload_n d_A_giveTask_14 rfl ?_ | refine x_aloadq_n d_A_giveTask_14 rfl ?_
    refine x_iload_n d_A_giveTask_15 rfl ?_
    refine x_iload_n d_A_giveTask_16 rfl ?_
    refine x_callV (M' := m_A_freshTask) (As := [_, _]) (fr' := 1) (wd' := 23) d_A_giveTask_17 hs.A rfl pl_A_freshTask rfl (Nat.le_of_ble_eq_true rfl) (by decide) (by decide) wc_A_freshTask wi_A wl_A_266 wm_A_freshTask we_A_freshTask (by decide) np_A_freshTask (Nat.le_of_ble_eq_true rfl) (fun q hq => by cases hq) (c_A_freshR hs hN htk rfl hw hr hr3) (fun k a h1 q => by cases q.1) (fun v h1 q => ?_)
    obtain ⟨q1, rfl⟩ := q
    cases q1
    first | refine x_astore_n d_A_giveTask_20 (by decide) ?_ | refine x_astoreq_n d_A_giveTask_20 (by decide) ?_ | refine x_astore_nN d_A_giveTask_20 (by decide) ?_
    first | refine x_aload_n d_A_giveTask_21 rfl ?_ | refine x_aloadq_n d_A_giveTask_21 rfl ?_
    cases hf : lst (fun p => cfr C tk (8 + p)) r with
    | some p =>
      have hp := (lst_lt hf).1
      have ec : cfR C tk r = some (8 + p) := by unfold cfR; rw [hf]; rfl
      rw [show gvC C tk c r w = (xu C (50 + w) 3 (C (taddr (8 + p)) 2), xr tk w (some (8 + p))) by unfold gvC; rw [eF, ec]; rfl]
      refine x_ifnonnull (tgt := 46) d_A_giveTask_22 (by decide) ?_
      first | refine x_aload_n d_A_giveTask_46 rfl ?_ | refine x_aloadq_n d_A_giveTask_46 rfl ?_
      refine xc_refA (j := 0) d_A_giveTask_47 hs rfl (by decide) wf_A_11 (fun _ _ => rfl) hs.r0 ?_
      refine x_iload_n d_A_giveTask_50 rfl ?_
      first | refine xc_aaW d_A_giveTask_51 hs (by first | assumption | omega) ?_ | refine xc_aaC d_A_giveTask_51 hs (by first | assumption | omega) ?_ | refine xc_aaM d_A_giveTask_51 hs (by first | assumption | omega) ?_ | refine xc_aaR d_A_giveTask_51 hs (by first | assumption | omega) ?_ | refine xc_aaT d_A_giveTask_51 hs (by first | assumption | omega) ?_ | refine xc_aaO d_A_giveTask_51 hs (by first | assumption | omega) ?_
      first | refine x_aload_n d_A_giveTask_52 rfl ?_ | refine x_aloadq_n d_A_giveTask_52 rfl ?_
      refine x_callV (M' := m_K_take) (As := [_]) (fr' := 0) (wd' := 0) d_A_giveTask_53 (hs.K (by first | assumption | omega)) rfl pl_K_take rfl (Nat.le_of_ble_eq_true rfl) (by decide) (by decide) wc_K_take wi_K wl_A_274 wm_K_take we_K_take (by decide) np_K_take (Nat.le_of_ble_eq_true rfl) (fun q hq => by cases hq) (c_take hs hw (t := 8 + p) (by omega)) (fun k a h1 q => by cases q.1) (fun v h1 q => ?_)
      obtain ⟨q1, rfl⟩ := q
      cases q1
      refine x_vret d_A_giveTask_56 rfl ?_
      exact ⟨rfl, rfl⟩
    | none =>
      have ec : cfR C tk r = none := by unfold cfR; rw [hf]; rfl
      refine x_ifnonnullN d_A_giveTask_22 ?_
      first | refine x_aload_n d_A_giveTask_25 rfl ?_ | refine x_aloadq_n d_A_giveTask_25 rfl ?_
      refine x_iload_n d_A_giveTask_26 rfl ?_
      refine x_callV (M' := m_A_taskForSecondTime) (As := [_]) (fr' := 1) (wd' := 23) d_A_giveTask_27 hs.A rfl pl_A_taskForSecondTime rfl (Nat.le_of_ble_eq_true rfl) (by decide) (by decide) wc_A_taskForSecondTime wi_A wl_A_270 wm_A_taskForSecondTime we_A_taskForSecondTime (by decide) np_A_taskForSecondTime (Nat.le_of_ble_eq_true rfl) (fun q hq => by cases hq) (c_A_secondR hs hN htk rfl hr hr3) (fun k a h1 q => by cases q.1) (fun v h1 q => ?_)
      obtain ⟨q1, rfl⟩ := q
      cases q1
      first | refine x_astore_n d_A_giveTask_30 (by decide) ?_ | refine x_astoreq_n d_A_giveTask_30 (by decide) ?_ | refine x_astore_nN d_A_giveTask_30 (by decide) ?_
      first | refine x_aload_n d_A_giveTask_31 rfl ?_ | refine x_aloadq_n d_A_giveTask_31 rfl ?_
      cases hg : (csec C tk 8 r).1 with
      | none =>
        rw [show gvC C tk c r w = (C, tk) by unfold gvC; rw [eF, ec]; dsimp only; rw [hg]; rfl]
        refine x_ifnonnullN d_A_giveTask_32 ?_
        refine x_vret d_A_giveTask_35 rfl ?_
        exact ⟨rfl, rfl⟩
      | some t =>
        have tl := csec_lt hg
        have ta := taddr_lt (show tok t by omega)
        rw [show gvC C tk c r w = (xu (xu C 0 13 (C 0 13 + nI 1)) (50 + w) 3 (C (taddr t) 2), xr tk w (some t)) by unfold gvC; rw [eF, ec]; dsimp only; rw [hg]; rfl]
        refine x_ifnonnull (tgt := 36) d_A_giveTask_32 (by decide) ?_
        first | refine x_aload_n d_A_giveTask_36 rfl ?_ | refine x_aloadq_n d_A_giveTask_36 rfl ?_
        refine x_dup d_A_giveTask_37 rfl ?_
        refine xc_getA (j := 13) d_A_giveTask_38 hs rfl (by decide) wf_A_70 (fun _ _ => rfl) ?_
        refine x_iconst (v := nI 1) d_A_giveTask_41 (by decide) ?_
        refine x_iadd d_A_giveTask_42 ?_
        refine xc_putA (j := 13) d_A_giveTask_43 hs rfl (by decide) wf_A_70 (Or.inl rfl) (by first | rfl | assumption) rfl (fun _ _ => rfl) ?_
        first | refine x_aload_n d_A_giveTask_46 rfl ?_ | refine x_aloadq_n d_A_giveTask_46 rfl ?_
        refine xc_refA (j := 0) d_A_giveTask_47 hs rfl (by decide) wf_A_11 (fun _ _ => rfl) hs.r0 ?_
        refine x_iload_n d_A_giveTask_50 rfl ?_
        first | refine xc_aaW d_A_giveTask_51 hs (by first | assumption | omega) ?_ | refine xc_aaC d_A_giveTask_51 hs (by first | assumption | omega) ?_ | refine xc_aaM d_A_giveTask_51 hs (by first | assumption | omega) ?_ | refine xc_aaR d_A_giveTask_51 hs (by first | assumption | omega) ?_ | refine xc_aaT d_A_giveTask_51 hs (by first | assumption | omega) ?_ | refine xc_aaO d_A_giveTask_51 hs (by first | assumption | omega) ?_
        first | refine x_aload_n d_A_giveTask_52 rfl ?_ | refine x_aloadq_n d_A_giveTask_52 rfl ?_
        refine x_callV (M' := m_K_take) (As := [_]) (fr' := 0) (wd' := 0) d_A_giveTask_53 (hs.K (by first | assumption | omega)) rfl pl_K_take rfl (Nat.le_of_ble_eq_true rfl) (by decide) (by decide) wc_K_take wi_K wl_A_274 wm_K_take we_K_take (by decide) np_K_take (Nat.le_of_ble_eq_true rfl) (fun q hq => by cases hq) (c_take hs hw (t := t) (by omega)) (fun k a h1 q => by cases q.1) (fun v h1 q => ?_)
        obtain ⟨q1, rfl⟩ := q
        cases q1
        refine x_vret d_A_giveTask_56 rfl ?_
        exact ⟨rfl, by rw [show xu C 0 13 (C 0 13 + nI 1) (taddr t) 2 = C (taddr t) 2 from if_neg (by omega)]⟩
  · have eF : gvF C tk c r w = (match cfM C tk w c with
      | some t => (some t, false)
      | none => ((csec C tk 0 c).1, true)) := if_neg md
    rw [bI_f md]
    refine x_if_ne_f 12 d_A_giveTask_5 (by decide) ((by decide)) ?_
    refine x_iconst (v := nI 1) d_A_giveTask_8 (by decide) ?_
    refine x_goto (tgt := 13) d_A_giveTask_9 (by decide) ?_
    refine x_istore_n d_A_giveTask_13 (by decide) ?_
    first | refine x_aload_n d_A_giveTask_14 rfl ?_ | refine x_aloadq_n d_A_giveTask_14 rfl ?_
    refine x_iload_n d_A_giveTask_15 rfl ?_
    refine x_iload_n d_A_giveTask_16 rfl ?_
    refine x_callV (M' := m_A_freshTask) (As := [_, _]) (fr' := 1) (wd' := 23) d_A_giveTask_17 hs.A rfl pl_A_freshTask rfl (Nat.le_of_ble_eq_true rfl) (by decide) (by decide) wc_A_freshTask wi_A wl_A_266 wm_A_freshTask we_A_freshTask (by decide) np_A_freshTask (Nat.le_of_ble_eq_true rfl) (fun q hq => by cases hq) (c_A_freshM hs hN htk (by decide) hw hc hc6) (fun k a h1 q => by cases q.1) (fun v h1 q => ?_)
    obtain ⟨q1, rfl⟩ := q
    cases q1
    first | refine x_astore_n d_A_giveTask_20 (by decide) ?_ | refine x_astoreq_n d_A_giveTask_20 (by decide) ?_ | refine x_astore_nN d_A_giveTask_20 (by decide) ?_
    first | refine x_aload_n d_A_giveTask_21 rfl ?_ | refine x_aloadq_n d_A_giveTask_21 rfl ?_
    cases hf : cfM C tk w c with
    | some t =>
      have tl := cfM_lt hf
      rw [show gvC C tk c r w = (xu C (50 + w) 3 (C (taddr t) 2), xr tk w (some t)) by unfold gvC; rw [eF, hf]; rfl]
      refine x_ifnonnull (tgt := 46) d_A_giveTask_22 (by decide) ?_
      first | refine x_aload_n d_A_giveTask_46 rfl ?_ | refine x_aloadq_n d_A_giveTask_46 rfl ?_
      refine xc_refA (j := 0) d_A_giveTask_47 hs rfl (by decide) wf_A_11 (fun _ _ => rfl) hs.r0 ?_
      refine x_iload_n d_A_giveTask_50 rfl ?_
      first | refine xc_aaW d_A_giveTask_51 hs (by first | assumption | omega) ?_ | refine xc_aaC d_A_giveTask_51 hs (by first | assumption | omega) ?_ | refine xc_aaM d_A_giveTask_51 hs (by first | assumption | omega) ?_ | refine xc_aaR d_A_giveTask_51 hs (by first | assumption | omega) ?_ | refine xc_aaT d_A_giveTask_51 hs (by first | assumption | omega) ?_ | refine xc_aaO d_A_giveTask_51 hs (by first | assumption | omega) ?_
      first | refine x_aload_n d_A_giveTask_52 rfl ?_ | refine x_aloadq_n d_A_giveTask_52 rfl ?_
      refine x_callV (M' := m_K_take) (As := [_]) (fr' := 0) (wd' := 0) d_A_giveTask_53 (hs.K (by first | assumption | omega)) rfl pl_K_take rfl (Nat.le_of_ble_eq_true rfl) (by decide) (by decide) wc_K_take wi_K wl_A_274 wm_K_take we_K_take (by decide) np_K_take (Nat.le_of_ble_eq_true rfl) (fun q hq => by cases hq) (c_take hs hw (t := t) (by omega)) (fun k a h1 q => by cases q.1) (fun v h1 q => ?_)
      obtain ⟨q1, rfl⟩ := q
      cases q1
      refine x_vret d_A_giveTask_56 rfl ?_
      exact ⟨rfl, rfl⟩
    | none =>
      refine x_ifnonnullN d_A_giveTask_22 ?_
      first | refine x_aload_n d_A_giveTask_25 rfl ?_ | refine x_aloadq_n d_A_giveTask_25 rfl ?_
      refine x_iload_n d_A_giveTask_26 rfl ?_
      refine x_callV (M' := m_A_taskForSecondTime) (As := [_]) (fr' := 1) (wd' := 23) d_A_giveTask_27 hs.A rfl pl_A_taskForSecondTime rfl (Nat.le_of_ble_eq_true rfl) (by decide) (by decide) wc_A_taskForSecondTime wi_A wl_A_270 wm_A_taskForSecondTime we_A_taskForSecondTime (by decide) np_A_taskForSecondTime (Nat.le_of_ble_eq_true rfl) (fun q hq => by cases hq) (c_A_secondM hs hN htk (by decide) hc hc6) (fun k a h1 q => by cases q.1) (fun v h1 q => ?_)
      obtain ⟨q1, rfl⟩ := q
      cases q1
      first | refine x_astore_n d_A_giveTask_30 (by decide) ?_ | refine x_astoreq_n d_A_giveTask_30 (by decide) ?_ | refine x_astore_nN d_A_giveTask_30 (by decide) ?_
      first | refine x_aload_n d_A_giveTask_31 rfl ?_ | refine x_aloadq_n d_A_giveTask_31 rfl ?_
      cases hg : (csec C tk 0 c).1 with
      | none =>
        rw [show gvC C tk c r w = (C, tk) by unfold gvC; rw [eF, hf]; dsimp only; rw [hg]; rfl]
        refine x_ifnonnullN d_A_giveTask_32 ?_
        refine x_vret d_A_giveTask_35 rfl ?_
        exact ⟨rfl, rfl⟩
      | some t =>
        have tl := csec_lt hg
        have ta := taddr_lt (show tok t by omega)
        rw [show gvC C tk c r w = (xu (xu C 0 13 (C 0 13 + nI 1)) (50 + w) 3 (C (taddr t) 2), xr tk w (some t)) by unfold gvC; rw [eF, hf]; dsimp only; rw [hg]; rfl]
        refine x_ifnonnull (tgt := 36) d_A_giveTask_32 (by decide) ?_
        first | refine x_aload_n d_A_giveTask_36 rfl ?_ | refine x_aloadq_n d_A_giveTask_36 rfl ?_
        refine x_dup d_A_giveTask_37 rfl ?_
        refine xc_getA (j := 13) d_A_giveTask_38 hs rfl (by decide) wf_A_70 (fun _ _ => rfl) ?_
        refine x_iconst (v := nI 1) d_A_giveTask_41 (by decide) ?_
        refine x_iadd d_A_giveTask_42 ?_
        refine xc_putA (j := 13) d_A_giveTask_43 hs rfl (by decide) wf_A_70 (Or.inl rfl) (by first | rfl | assumption) rfl (fun _ _ => rfl) ?_
        first | refine x_aload_n d_A_giveTask_46 rfl ?_ | refine x_aloadq_n d_A_giveTask_46 rfl ?_
        refine xc_refA (j := 0) d_A_giveTask_47 hs rfl (by decide) wf_A_11 (fun _ _ => rfl) hs.r0 ?_
        refine x_iload_n d_A_giveTask_50 rfl ?_
        first | refine xc_aaW d_A_giveTask_51 hs (by first | assumption | omega) ?_ | refine xc_aaC d_A_giveTask_51 hs (by first | assumption | omega) ?_ | refine xc_aaM d_A_giveTask_51 hs (by first | assumption | omega) ?_ | refine xc_aaR d_A_giveTask_51 hs (by first | assumption | omega) ?_ | refine xc_aaT d_A_giveTask_51 hs (by first | assumption | omega) ?_ | refine xc_aaO d_A_giveTask_51 hs (by first | assumption | omega) ?_
        first | refine x_aload_n d_A_giveTask_52 rfl ?_ | refine x_aloadq_n d_A_giveTask_52 rfl ?_
        refine x_callV (M' := m_K_take) (As := [_]) (fr' := 0) (wd' := 0) d_A_giveTask_53 (hs.K (by first | assumption | omega)) rfl pl_K_take rfl (Nat.le_of_ble_eq_true rfl) (by decide) (by decide) wc_K_take wi_K wl_A_274 wm_K_take we_K_take (by decide) np_K_take (Nat.le_of_ble_eq_true rfl) (fun q hq => by cases hq) (c_take hs hw (t := t) (by omega)) (fun k a h1 q => by cases q.1) (fun v h1 q => ?_)
        obtain ⟨q1, rfl⟩ := q
        cases q1
        refine x_vret d_A_giveTask_56 rfl ?_
        exact ⟨rfl, by rw [show xu C 0 13 (C 0 13 + nI 1) (taddr t) 2 = C (taddr t) 2 from if_neg (by omega)]⟩
def hasT (tk : Nat → Option Nat) (t : Nat) : Nat → Bool := fun o => decide (tk o = some t)
def cptC (C : Nat → Nat → Int32) (tk : Nat → Option Nat) (w t : Nat) : Nat → Nat → Int32 := dpC (xu C (taddr t) 4 (nI w)) (hasT tk t) 4
def cptT (tk : Nat → Option Nat) (t : Nat) : Nat → Option Nat := dpT tk (hasT tk t) 4
theorem cpt_pre (hs : CSh h0 z) (htk : TKo tk) {w t : Nat} (hw : w < 4) (ht : tk w = some t) {Q : xR → xH → Prop}
    (nx : xV l G 3 69 m_A_completeTask 56 [(2, .ref (z + taddr t)), (0, .ref z), (1, .int (nI w))] [] (cset z (cptC C tk w t) b (cptT tk t) h0) Q) :
    xV l G 3 69 m_A_completeTask 0 [(0, .ref z), (1, .int (nI w))] [] (cset z C b tk h0) Q := by
  have htt := htk w t hw ht
  generalize hD : xu C (taddr t) 4 (nI w) = D
  have lp : ∀ m i : Nat, i + m = 4 → xV l G 3 69 m_A_completeTask 23 [(3, .int (nI i)), (2, .ref (z + taddr t)), (0, .ref z), (1, .int (nI w))] [] (cset z (dpC D (hasT tk t) i) b (dpT tk (hasT tk t) i) h0) Q := by
    intro m
    induction m with
    | zero =>
      intro i him
      obtain rfl : i = 4 := by omega
      unfold cptC cptT at nx
      rw [hD] at nx
      refine x_iload_n d_A_completeTask_23 rfl ?_
      refine x_iconst (v := nI 4) d_A_completeTask_24 (by decide) ?_
      refine x_icmp_ge_t (tgt := 56) d_A_completeTask_25 (by decide) ((nI_le (by omega) (by omega))) ?_
      refine xV.loc (nx) (by repeat (first | exact trivial | refine ⟨rfl, ?_⟩))
    | succ m ih =>
      intro i him
      have nx := ih (i + 1) (by omega)
      refine x_iload_n d_A_completeTask_23 rfl ?_
      refine x_iconst (v := nI 4) d_A_completeTask_24 (by decide) ?_
      refine x_icmp_ge_f 56 d_A_completeTask_25 (by decide) ((nI_ge (by omega) (by omega))) ?_
      first | refine x_aload_n d_A_completeTask_28 rfl ?_ | refine x_aloadq_n d_A_completeTask_28 rfl ?_
      refine xc_refA (j := 0) d_A_completeTask_29 hs rfl (by decide) wf_A_11 (fun _ _ => rfl) hs.r0 ?_
      refine x_iload_n d_A_completeTask_32 rfl ?_
      first | refine xc_aaW d_A_completeTask_33 hs (by first | assumption | omega) ?_ | refine xc_aaC d_A_completeTask_33 hs (by first | assumption | omega) ?_ | refine xc_aaM d_A_completeTask_33 hs (by first | assumption | omega) ?_ | refine xc_aaR d_A_completeTask_33 hs (by first | assumption | omega) ?_ | refine xc_aaT d_A_completeTask_33 hs (by first | assumption | omega) ?_ | refine xc_aaO d_A_completeTask_33 hs (by first | assumption | omega) ?_
      refine xc_task d_A_completeTask_34 hs (by first | assumption | omega) rfl (by decide) wf_A_237 (fun _ _ => rfl) ?_
      first | refine x_aload_n d_A_completeTask_37 rfl ?_ | refine x_aloadq_n d_A_completeTask_37 rfl ?_
      rw [dpT_n (Nat.le_refl i)]
      refine x_acmp_ne (tgt := 50) (ry := some _) d_A_completeTask_38 (by decide) (fun c1 => ?_) (fun c1 => ?_)
      · have e : hasT tk t i = false := decide_eq_false (fun q => c1 ((tk_is htk (by omega) htt).mpr q))
        rw [← dpC_m e, ← dpT_m e] at nx
        first | refine x_incN d_A_completeTask_50 rfl (by decide) ?_ | refine x_inc d_A_completeTask_50 rfl (by decide) ?_
        refine x_goto (tgt := 23) d_A_completeTask_53 (by decide) ?_
        refine xV.loc (nx) (by repeat (first | exact trivial | refine ⟨rfl, ?_⟩))
      · have e : hasT tk t i = true := decide_eq_true ((tk_is htk (by omega) htt).mp c1)
        first | refine x_aload_n d_A_completeTask_41 rfl ?_ | refine x_aloadq_n d_A_completeTask_41 rfl ?_
        refine xc_refA (j := 0) d_A_completeTask_42 hs rfl (by decide) wf_A_11 (fun _ _ => rfl) hs.r0 ?_
        refine x_iload_n d_A_completeTask_45 rfl ?_
        first | refine xc_aaW d_A_completeTask_46 hs (by first | assumption | omega) ?_ | refine xc_aaC d_A_completeTask_46 hs (by first | assumption | omega) ?_ | refine xc_aaM d_A_completeTask_46 hs (by first | assumption | omega) ?_ | refine xc_aaR d_A_completeTask_46 hs (by first | assumption | omega) ?_ | refine xc_aaT d_A_completeTask_46 hs (by first | assumption | omega) ?_ | refine xc_aaO d_A_completeTask_46 hs (by first | assumption | omega) ?_
        refine x_callV (M' := m_K_drop) (As := []) (fr' := 0) (wd' := 0) d_A_completeTask_47 (hs.K (by first | assumption | omega)) rfl pl_K_drop rfl (Nat.le_of_ble_eq_true rfl) (by decide) (by decide) wc_K_drop wi_K wl_A_95 wm_K_drop we_K_drop (by decide) np_K_drop (Nat.le_of_ble_eq_true rfl) (fun q hq => by cases hq) (c_drop hs (by omega)) (fun k a h1 q => by cases q.1) (fun v h1 q => ?_)
        obtain ⟨q1, rfl⟩ := q
        cases q1
        first | refine x_incN d_A_completeTask_50 rfl (by decide) ?_ | refine x_inc d_A_completeTask_50 rfl (by decide) ?_
        refine x_goto (tgt := 23) d_A_completeTask_53 (by decide) ?_
        rw [dpC_s e, dpT_s e]
        refine xV.loc (nx) (by repeat (first | exact trivial | refine ⟨rfl, ?_⟩))
  have this := lp 4 0 (by omega)
  rw [dpC_0, dpT_0] at this
  first | refine x_aload_n d_A_completeTask_0 rfl ?_ | refine x_aloadq_n d_A_completeTask_0 rfl ?_
  refine xc_refA (j := 0) d_A_completeTask_1 hs rfl (by decide) wf_A_11 (fun _ _ => rfl) hs.r0 ?_
  refine x_iload_n d_A_completeTask_4 rfl ?_
  first | refine xc_aaW d_A_completeTask_5 hs (by first | assumption | omega) ?_ | refine xc_aaC d_A_completeTask_5 hs (by first | assumption | omega) ?_ | refine xc_aaM d_A_completeTask_5 hs (by first | assumption | omega) ?_ | refine xc_aaR d_A_completeTask_5 hs (by first | assumption | omega) ?_ | refine xc_aaT d_A_completeTask_5 hs (by first | assumption | omega) ?_ | refine xc_aaO d_A_completeTask_5 hs (by first | assumption | omega) ?_
  refine xc_task d_A_completeTask_6 hs (by first | assumption | omega) rfl (by decide) wf_A_237 (fun _ _ => rfl) ?_
  rw [ht]
  refine x_astore_n d_A_completeTask_9 (by decide) ?_
  first | refine x_aload_n d_A_completeTask_10 rfl ?_ | refine x_aloadq_n d_A_completeTask_10 rfl ?_
  refine x_ifnonnull (tgt := 16) d_A_completeTask_11 (by decide) ?_
  first | refine x_aload_n d_A_completeTask_16 rfl ?_ | refine x_aloadq_n d_A_completeTask_16 rfl ?_
  refine x_iload_n d_A_completeTask_17 rfl ?_
  refine xc_put (kc := 4) (j := 4) d_A_completeTask_18 (hs.T (by first | assumption | omega)) (taddr_lt (by first | assumption | omega)).1 rfl (by decide) wf_A_184 (Or.inl rfl) (by first | rfl | assumption) rfl (fun _ _ => rfl) ?_
  refine x_iconst (v := nI 0) d_A_completeTask_21 (by decide) ?_
  refine x_istore_n d_A_completeTask_22 (by decide) ?_
  rw [hD]
  refine xV.loc (this) (by repeat (first | exact trivial | refine ⟨rfl, ?_⟩))
theorem cptC_k {w t k j : Nat} (h1 : ¬ (k = taddr t ∧ j = 4)) (h2 : ¬ (50 ≤ k ∧ k < 54 ∧ j = 3)) : cptC C tk w t k j = C k j := by
  unfold cptC
  rw [dpC_k (by omega), show xu C (taddr t) 4 (nI w) k j = C k j from if_neg h1]
theorem c_A_completeM (hs : CSh h0 z) (hN : TN C) (htk : TKo tk) {w t : Nat} (hw : w < 4) (ht : tk w = some t) (h8 : t < 8) :
    xVM l G 3 69 m_A_completeTask [.ref z, .int (nI w)] (cset z C b tk h0) (fun q h' => q = .inl (some (.int (nI 1))) ∧ h' = cset z (cptC C tk w t) b (cptT tk t) h0) := by
  have htt := htk w t hw ht
  have ta := taddr_lt htt
  obtain ⟨n1, n2⟩ := hN t htt
  unfold xVM
  refine cpt_pre hs htk hw ht ?_
  first | refine x_aload_n d_A_completeTask_56 rfl ?_ | refine x_aloadq_n d_A_completeTask_56 rfl ?_
  refine xc_get (kc := 4) (j := 0) d_A_completeTask_57 (hs.T (by first | assumption | omega)) (taddr_lt (by first | assumption | omega)).1 rfl (by decide) wf_A_257 (fun _ _ => rfl) ?_
  rw [cptC_k (by omega) (by omega), n1, if_pos h8]
  refine x_if_ne_t (tgt := 77) d_A_completeTask_60 (by decide) ((by decide)) ?_
  refine x_iconst (v := nI 1) d_A_completeTask_77 (by decide) ?_
  refine x_goto (tgt := 82) d_A_completeTask_78 (by decide) ?_
  refine x_iret d_A_completeTask_82 rfl (by first | rfl | assumption) ?_
  exact ⟨rfl, rfl⟩
theorem c_A_completeR (hs : CSh h0 z) (hN : TN C) (htk : TKo tk) {w p : Nat} (hw : w < 4) (ht : tk w = some (8 + p)) {q : List KV} (hq : pqS C (jo b + 3 + 6 * p) q = C) (hq6 : q.length ≤ 216) (hk6 : rk none q ≤ 36) :
    xVM l G 3 69 m_A_completeTask [.ref z, .int (nI w)] (cset z C b tk h0) (fun r h' => r = .inl (some (.int (bI ((crd (C (jo b) 2) (C (jo b) 4) q [] none).1 = true)))) ∧ h' = cset z (pqS (cptC C tk w (8 + p)) (jo b + 6 + 6 * p) (crd (C (jo b) 2) (C (jo b) 4) q [] none).2) b (cptT tk (8 + p)) h0) := by
  have htt := htk w _ hw ht
  have hp : p < 3 := by omega
  have ta := taddr_lt htt
  have hj := jo_lt b
  obtain ⟨n1, n2⟩ := hN _ htt
  have hq2 : pqS (cptC C tk w (8 + p)) (jo b + 3 + 6 * p) q = cptC C tk w (8 + p) := by
    funext k j
    by_cases hk : k = jo b + 3 + 6 * p ∨ k = jo b + 3 + 6 * p + 1 ∨ k = jo b + 3 + 6 * p + 2
    · rw [cptC_k (by omega) (by omega), ← congrFun (congrFun hq k) j]
      unfold pqS
      rw [cptC_k (by omega) (by omega)]
    · exact pq_k (by omega)
  have e2 : cptC C tk w (8 + p) (jo b) 2 = C (jo b) 2 := cptC_k (by omega) (by omega)
  have e4 : cptC C tk w (8 + p) (jo b) 4 = C (jo b) 4 := cptC_k (by omega) (by omega)
  unfold xVM
  refine cpt_pre hs htk hw ht ?_
  first | refine x_aload_n d_A_completeTask_56 rfl ?_ | refine x_aloadq_n d_A_completeTask_56 rfl ?_
  refine xc_get (kc := 4) (j := 0) d_A_completeTask_57 (hs.T (by first | assumption | omega)) (taddr_lt (by first | assumption | omega)).1 rfl (by decide) wf_A_257 (fun _ _ => rfl) ?_
  rw [cptC_k (by omega) (by omega), n1, if_neg (by omega)]
  refine x_if_ne_f 77 d_A_completeTask_60 (by decide) ((by decide)) ?_
  first | refine x_aload_n d_A_completeTask_63 rfl ?_ | refine x_aloadq_n d_A_completeTask_63 rfl ?_
  refine xc_refA (j := 5) d_A_completeTask_64 hs rfl (by decide) wf_A_42 (fun _ _ => rfl) cset_job ?_
  first | refine x_aload_n d_A_completeTask_67 rfl ?_ | refine x_aloadq_n d_A_completeTask_67 rfl ?_
  refine xc_get (kc := 4) (j := 1) d_A_completeTask_68 (hs.T (by first | assumption | omega)) (taddr_lt (by first | assumption | omega)).1 rfl (by decide) wf_A_260 (fun _ _ => rfl) ?_
  rw [cptC_k (by omega) (by omega), n2, show (8 + p) % 8 = p by omega]
  refine x_callV (M' := m_J_reduce) (As := [_]) (fr' := 2) (wd' := 43) d_A_completeTask_71 (hs.J _) rfl pl_J_reduce rfl (Nat.le_of_ble_eq_true rfl) (by decide) (by decide) wc_J_reduce wi_J wl_A_263 wm_J_reduce we_J_reduce (by decide) np_J_reduce (Nat.le_of_ble_eq_true rfl) (fun q hq => by cases hq) (c_J_reduce hs hp hq2 hq6 hk6) (fun k a h1 q => by cases q.1) (fun v h1 q => ?_)
  obtain ⟨q1, rfl⟩ := q
  cases q1
  rw [e2, e4]
  by_cases ok : (crd (C (jo b) 2) (C (jo b) 4) q [] none).1 = true
  · rw [bI_t ok]
    refine x_if_eq_f 81 d_A_completeTask_74 (by decide) ((by decide)) ?_
    refine x_iconst (v := nI 1) d_A_completeTask_77 (by decide) ?_
    refine x_goto (tgt := 82) d_A_completeTask_78 (by decide) ?_
    refine x_iret d_A_completeTask_82 rfl (by first | rfl | assumption) ?_
    exact ⟨rfl, rfl⟩
  · rw [bI_f ok]
    refine x_if_eq_t (tgt := 81) d_A_completeTask_74 (by decide) ((by decide)) ?_
    refine x_iconst (v := nI 0) d_A_completeTask_81 (by decide) ?_
    refine x_iret d_A_completeTask_82 rfl (by first | rfl | assumption) ?_
    exact ⟨rfl, rfl⟩
def duN (C : Nat → Nat → Int32) (w : Nat) : Int32 := xmin (C (50 + w) 1) (C (50 + w) 3)
def duC (C : Nat → Nat → Int32) (w : Nat) : Nat → Nat → Int32 := xu (xu C (50 + w) 4 (C (50 + w) 4 + duN C w)) (50 + w) 3 (C (50 + w) 3 - duN C w)
theorem c_du0 (hs : CSh h0 z) {w : Nat} (hw : w < 4) (ht : tk w = none) : xVM l G 1 21 m_K_doUnits [.ref (z + (50 + w))] (cset z C b tk h0) (fun r h' => r = .inl (some (.int (nI 0))) ∧ h' = cset z C b tk h0) :=
  c_K_doUnits0 (hs.K hw) ((cset_tk hw).trans (by rw [ht]; rfl))
theorem c_du1 (hs : CSh h0 z) {w t : Nat} (hw : w < 4) (ht : tk w = some t) : xVM l G 1 21 m_K_doUnits [.ref (z + (50 + w))] (cset z C b tk h0) (fun r h' => r = .inl (some (.int (bI (C (50 + w) 3 - duN C w = 0)))) ∧ h' = cset z (duC C w) b tk h0) := by
  have e : ∀ j, xI (cset z C b tk h0) (z + (50 + w)) j = C (50 + w) j := fun j => cset_I (by omega)
  refine xV.imp (c_K_doUnits1 (h := cset z C b tk h0) (hs.K hw) ((cset_tk hw).trans (by rw [ht]; rfl))) (fun r h' q => ⟨q.1.trans ?_, q.2.trans ?_⟩)
  · rw [e, e]; rfl
  · rw [e, e, e, cset_w (by omega), cset_w (by omega)]; rfl
end XC11
