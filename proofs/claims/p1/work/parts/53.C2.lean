section XC2
variable {l : Launch} {G : xG} {h0 : xH} {z : Nat} {C : Nat → Nat → Int32} {b : Bool} {tk : Nat → Option Nat}
abbrev cbd (C : Nat → Nat → Int32) (t : Nat) : Prop := 8 ≤ t ∨ ¬ C (50 + t % 4) 0 = 0 ∨ ¬ C (50 + (t + 1) % 4) 0 = 0
theorem c_A_canBeDone (hs : CSh h0 z) (hN : TN C) {t : Nat} (ht : tok t) : xVM l G 0 0 m_A_canBeDone [.ref z, .ref (z + taddr t)] (cset z C b tk h0) (fun r h' => r = .inl (some (.int (bI (cbd C t)))) ∧ h' = cset z C b tk h0) := by
  obtain ⟨n1, n2⟩ := hN t ht
  unfold xVM
  first | refine x_aload_n d_A_canBeDone_0 rfl ?_ | refine x_aloadq_n d_A_canBeDone_0 rfl ?_
  refine xc_get (kc := 4) (j := 1) d_A_canBeDone_1 (hs.T (by first | assumption | omega)) (taddr_lt (by first | assumption | omega)).1 rfl (by decide) wf_A_260 (fun _ _ => rfl) ?_
  refine x_istore_n d_A_canBeDone_4 (by decide) ?_
  first | refine x_aload_n d_A_canBeDone_5 rfl ?_ | refine x_aloadq_n d_A_canBeDone_5 rfl ?_
  refine xc_get (kc := 4) (j := 0) d_A_canBeDone_6 (hs.T (by first | assumption | omega)) (taddr_lt (by first | assumption | omega)).1 rfl (by decide) wf_A_257 (fun _ _ => rfl) ?_
  rw [n1, n2]
  by_cases h8 : t < 8
  · have e8 : t % 8 = t := by omega
    rw [if_pos h8, e8]
    have e1 : nI t - nI t / nI 4 * nI 4 = nI (t % 4) := nI_rem (by omega) (by omega)
    have e2 : nI (t + 1) - nI (t + 1) / nI 4 * nI 4 = nI ((t + 1) % 4) := nI_rem (by omega) (by omega)
    refine x_if_eq_f 42 d_A_canBeDone_9 (by decide) ((by decide)) ?_
    first | refine x_aload_n d_A_canBeDone_12 rfl ?_ | refine x_aloadq_n d_A_canBeDone_12 rfl ?_
    refine xc_refA (j := 0) d_A_canBeDone_13 hs rfl (by decide) wf_A_11 (fun _ _ => rfl) hs.r0 ?_
    refine x_iload_n d_A_canBeDone_16 rfl ?_
    refine x_iconst (v := nI 4) d_A_canBeDone_17 (by decide) ?_
    refine x_irem d_A_canBeDone_18 (by first | decide | assumption) ?_
    rw [e1]
    first | refine xc_aaW d_A_canBeDone_19 hs (by first | assumption | omega) ?_ | refine xc_aaC d_A_canBeDone_19 hs (by first | assumption | omega) ?_ | refine xc_aaM d_A_canBeDone_19 hs (by first | assumption | omega) ?_ | refine xc_aaR d_A_canBeDone_19 hs (by first | assumption | omega) ?_ | refine xc_aaT d_A_canBeDone_19 hs (by first | assumption | omega) ?_ | refine xc_aaO d_A_canBeDone_19 hs (by first | assumption | omega) ?_
    refine xc_get (kc := 5) (j := 0) d_A_canBeDone_20 (hs.K (by first | assumption | omega)) (by omega) rfl (by decide) wf_A_92 (fun _ _ => rfl) ?_
    refine x_if_ne (tgt := 42) d_A_canBeDone_23 (by decide) (fun c1 => ?_) (fun c1 => ?_)
    · refine x_iconst (v := nI 1) d_A_canBeDone_42 (by decide) ?_
      refine x_goto (tgt := 47) d_A_canBeDone_43 (by decide) ?_
      refine x_iret d_A_canBeDone_47 rfl (by first | rfl | assumption) ?_
      exact ⟨by rw [bI_t (Or.inr (Or.inl c1))], rfl⟩
    · first | refine x_aload_n d_A_canBeDone_26 rfl ?_ | refine x_aloadq_n d_A_canBeDone_26 rfl ?_
      refine xc_refA (j := 0) d_A_canBeDone_27 hs rfl (by decide) wf_A_11 (fun _ _ => rfl) hs.r0 ?_
      refine x_iload_n d_A_canBeDone_30 rfl ?_
      refine x_iconst (v := nI 1) d_A_canBeDone_31 (by decide) ?_
      refine x_iadd d_A_canBeDone_32 ?_
      refine x_iconst (v := nI 4) d_A_canBeDone_33 (by decide) ?_
      refine x_irem d_A_canBeDone_34 (by first | decide | assumption) ?_
      rw [nI_add, e2]
      first | refine xc_aaW d_A_canBeDone_35 hs (by first | assumption | omega) ?_ | refine xc_aaC d_A_canBeDone_35 hs (by first | assumption | omega) ?_ | refine xc_aaM d_A_canBeDone_35 hs (by first | assumption | omega) ?_ | refine xc_aaR d_A_canBeDone_35 hs (by first | assumption | omega) ?_ | refine xc_aaT d_A_canBeDone_35 hs (by first | assumption | omega) ?_ | refine xc_aaO d_A_canBeDone_35 hs (by first | assumption | omega) ?_
      refine xc_get (kc := 5) (j := 0) d_A_canBeDone_36 (hs.K (by first | assumption | omega)) (by omega) rfl (by decide) wf_A_92 (fun _ _ => rfl) ?_
      refine x_if_eq (tgt := 46) d_A_canBeDone_39 (by decide) (fun c2 => ?_) (fun c2 => ?_)
      · refine x_iconst (v := nI 0) d_A_canBeDone_46 (by decide) ?_
        refine x_iret d_A_canBeDone_47 rfl (by first | rfl | assumption) ?_
        exact ⟨by rw [bI_f (by rintro (q | q | q); omega; exact q c1; exact q c2)], rfl⟩
      · refine x_iconst (v := nI 1) d_A_canBeDone_42 (by decide) ?_
        refine x_goto (tgt := 47) d_A_canBeDone_43 (by decide) ?_
        refine x_iret d_A_canBeDone_47 rfl (by first | rfl | assumption) ?_
        exact ⟨by rw [bI_t (Or.inr (Or.inr c2))], rfl⟩
  · rw [if_neg h8]
    refine x_if_eq_t (tgt := 42) d_A_canBeDone_9 (by decide) ((by decide)) ?_
    refine x_iconst (v := nI 1) d_A_canBeDone_42 (by decide) ?_
    refine x_goto (tgt := 47) d_A_canBeDone_43 (by decide) ?_
    refine x_iret d_A_canBeDone_47 rfl (by first | rfl | assumption) ?_
    exact ⟨by rw [bI_t (Or.inl (by omega))], rfl⟩
theorem c_A_isHome {h : xH} {c w : Nat} (hc : c < 6) (hw : w < 4) : xVM l G 0 0 m_A_isHome [.int (nI c), .int (nI w)] h (fun r h' => r = .inl (some (.int (bI (c % 4 = w ∨ (c + 1) % 4 = w)))) ∧ h' = h) := by
  have e1 : nI c - nI c / nI 4 * nI 4 = nI (c % 4) := nI_rem (by omega) (by omega)
  have e2 : nI (c + 1) - nI (c + 1) / nI 4 * nI 4 = nI ((c + 1) % 4) := nI_rem (by omega) (by omega)
  unfold xVM
  refine x_iload_n d_A_isHome_0 rfl ?_
  refine x_iload_n d_A_isHome_1 rfl ?_
  refine x_iconst (v := nI 4) d_A_isHome_2 (by decide) ?_
  refine x_irem d_A_isHome_3 (by first | decide | assumption) ?_
  rw [e1]
  refine x_icmp_eq (tgt := 16) d_A_isHome_4 (by decide) (fun c1 => ?_) (fun c1 => ?_)
  · refine x_iconst (v := nI 1) d_A_isHome_16 (by decide) ?_
    refine x_goto (tgt := 21) d_A_isHome_17 (by decide) ?_
    refine x_iret d_A_isHome_21 rfl (by first | rfl | assumption) ?_
    exact ⟨by rw [bI_t (Or.inl ((nI_eq (by omega) (by omega)).mp c1).symm)], rfl⟩
  · refine x_iload_n d_A_isHome_7 rfl ?_
    refine x_iload_n d_A_isHome_8 rfl ?_
    refine x_iconst (v := nI 1) d_A_isHome_9 (by decide) ?_
    refine x_iadd d_A_isHome_10 ?_
    refine x_iconst (v := nI 4) d_A_isHome_11 (by decide) ?_
    refine x_irem d_A_isHome_12 (by first | decide | assumption) ?_
    rw [nI_add, e2]
    refine x_icmp_ne (tgt := 20) d_A_isHome_13 (by decide) (fun c2 => ?_) (fun c2 => ?_)
    · refine x_iconst (v := nI 0) d_A_isHome_20 (by decide) ?_
      refine x_iret d_A_isHome_21 rfl (by first | rfl | assumption) ?_
      exact ⟨by rw [bI_f (by rintro (q | q); exact c1 (by rw [q]); exact c2 (by rw [q]))], rfl⟩
    · refine x_iconst (v := nI 1) d_A_isHome_16 (by decide) ?_
      refine x_goto (tgt := 21) d_A_isHome_17 (by decide) ?_
      refine x_iret d_A_isHome_21 rfl (by first | rfl | assumption) ?_
      exact ⟨by rw [bI_t (Or.inr ((nI_eq (by omega) (by omega)).mp c2).symm)], rfl⟩
theorem cdo_le (tk : Nat → Option Nat) (t : Nat) : ∀ n, cdo tk t n ≤ n
  | 0 => Nat.le_refl 0
  | n + 1 => by
    have := cdo_le tk t n
    unfold cdo
    split <;> omega
theorem c_A_stateOf (hs : CSh h0 z) (htk : TKo tk) {t : Nat} (ht : tok t) : xVM l G 1 23 m_A_stateOf [.ref z, .ref (z + taddr t)] (cset z C b tk h0) (fun r h' => r = .inl (some (.int (if C (taddr t) 4 = -1 then (if 0 < cdo tk t 4 then nI 1 else nI 0) else nI 2))) ∧ h' = cset z C b tk h0) := by
  unfold xVM
  first | refine x_aload_n d_A_stateOf_0 rfl ?_ | refine x_aloadq_n d_A_stateOf_0 rfl ?_
  refine x_callV (M' := m_T_isDone) (As := []) (fr' := 0) (wd' := 0) d_A_stateOf_1 (hs.T (by first | assumption | omega)) rfl pl_T_isDone rfl (Nat.le_of_ble_eq_true rfl) (by decide) (by decide) wc_T_isDone wi_T wl_A_180 wm_T_isDone we_T_isDone (by decide) np_T_isDone (Nat.le_of_ble_eq_true rfl) (fun q hq => by cases hq) (c_isDone hs ht) (fun k a h1 q => by cases q.1) (fun v h1 q => ?_)
  obtain ⟨q1, rfl⟩ := q
  cases q1
  by_cases d : C (taddr t) 4 = -1
  · rw [bI_f (fun q => q d), if_pos d]
    refine x_if_eq_t (tgt := 9) d_A_stateOf_4 (by decide) ((by decide)) ?_
    first | refine x_aload_n d_A_stateOf_9 rfl ?_ | refine x_aloadq_n d_A_stateOf_9 rfl ?_
    first | refine x_aload_n d_A_stateOf_10 rfl ?_ | refine x_aloadq_n d_A_stateOf_10 rfl ?_
    refine x_callV (M' := m_A_doers) (As := [_]) (fr' := 0) (wd' := 0) d_A_stateOf_11 hs.A rfl pl_A_doers rfl (Nat.le_of_ble_eq_true rfl) (by decide) (by decide) wc_A_doers wi_A wl_A_277 wm_A_doers we_A_doers (by decide) np_A_doers (Nat.le_of_ble_eq_true rfl) (fun q hq => by cases hq) (c_A_doers hs htk ht) (fun k a h1 q => by cases q.1) (fun v h1 q => ?_)
    obtain ⟨q1, rfl⟩ := q
    cases q1
    have := cdo_le tk t 4
    by_cases n0 : 0 < cdo tk t 4
    · rw [if_pos n0]
      refine x_if_le_f 21 d_A_stateOf_14 (by decide) ((nI_nle n0 (by omega))) ?_
      refine x_iconst (v := nI 1) d_A_stateOf_17 (by decide) ?_
      refine x_goto (tgt := 22) d_A_stateOf_18 (by decide) ?_
      refine x_iret d_A_stateOf_22 rfl (by first | rfl | assumption) ?_
      exact ⟨rfl, rfl⟩
    · rw [if_neg n0]
      refine x_if_le_t (tgt := 21) d_A_stateOf_14 (by decide) ((by rw [show cdo tk t 4 = 0 by omega]; decide)) ?_
      refine x_iconst (v := nI 0) d_A_stateOf_21 (by decide) ?_
      refine x_iret d_A_stateOf_22 rfl (by first | rfl | assumption) ?_
      exact ⟨rfl, rfl⟩
  · rw [bI_t d, if_neg d]
    refine x_if_eq_f 9 d_A_stateOf_4 (by decide) ((by decide)) ?_
    refine x_iconst (v := nI 2) d_A_stateOf_7 (by decide) ?_
    refine x_iret d_A_stateOf_8 rfl (by first | rfl | assumption) ?_
    exact ⟨rfl, rfl⟩
theorem c_K_taskNumber (hs : CSh h0 z) (hN : TN C) (htk : TKo tk) {w : Nat} (hw : w < 4) : xVM l G 0 0 m_K_taskNumber [.ref (z + (50 + w))] (cset z C b tk h0) (fun r h' => r = .inl (some (.int (oI (tk w)))) ∧ h' = cset z C b tk h0) := by
  unfold xVM
  first | refine x_aload_n d_K_taskNumber_0 rfl ?_ | refine x_aloadq_n d_K_taskNumber_0 rfl ?_
  refine xc_task d_K_taskNumber_1 hs (by first | assumption | omega) rfl (by decide) wf_K_19 (fun _ _ => rfl) ?_
  cases ht : tk w with
  | none =>
    refine x_ifnonnullN d_K_taskNumber_4 ?_
    refine x_iconst (v := (-1)) d_K_taskNumber_7 (by decide) ?_
    refine x_iret d_K_taskNumber_8 rfl (by first | rfl | assumption) ?_
    exact ⟨rfl, rfl⟩
  | some t =>
    have htt := htk w t hw ht
    obtain ⟨n1, n2⟩ := hN t htt
    refine x_ifnonnull (tgt := 9) d_K_taskNumber_4 (by decide) ?_
    first | refine x_aload_n d_K_taskNumber_9 rfl ?_ | refine x_aloadq_n d_K_taskNumber_9 rfl ?_
    refine xc_task d_K_taskNumber_10 hs (by first | assumption | omega) rfl (by decide) wf_K_19 (fun _ _ => rfl) ?_
    rw [ht]
    refine xc_get (kc := 4) (j := 0) (k := taddr t) d_K_taskNumber_13 (hs.T htt) (taddr_lt htt).1 rfl (by decide) wf_K_40 (fun _ _ => rfl) ?_
    rw [n1]
    by_cases h8 : t < 8
    · rw [if_pos h8]
      refine x_if_eq_f 29 d_K_taskNumber_16 (by decide) ((by decide)) ?_
      first | refine x_aload_n d_K_taskNumber_19 rfl ?_ | refine x_aloadq_n d_K_taskNumber_19 rfl ?_
      refine xc_task d_K_taskNumber_20 hs (by first | assumption | omega) rfl (by decide) wf_K_19 (fun _ _ => rfl) ?_
      rw [ht]
      refine xc_get (kc := 4) (j := 1) (k := taddr t) d_K_taskNumber_23 (hs.T htt) (taddr_lt htt).1 rfl (by decide) wf_K_43 (fun _ _ => rfl) ?_
      refine x_goto (tgt := 39) d_K_taskNumber_26 (by decide) ?_
      rw [n2]
      refine x_iret d_K_taskNumber_39 rfl (by first | rfl | assumption) ?_
      exact ⟨by rw [show t % 8 = t by omega]; rfl, rfl⟩
    · rw [if_neg h8]
      refine x_if_eq_t (tgt := 29) d_K_taskNumber_16 (by decide) ((by decide)) ?_
      refine x_bipush (v := nI 8) d_K_taskNumber_29 (by decide) ?_
      first | refine x_aload_n d_K_taskNumber_31 rfl ?_ | refine x_aloadq_n d_K_taskNumber_31 rfl ?_
      refine xc_task d_K_taskNumber_32 hs (by first | assumption | omega) rfl (by decide) wf_K_19 (fun _ _ => rfl) ?_
      rw [ht]
      refine xc_get (kc := 4) (j := 1) (k := taddr t) d_K_taskNumber_35 (hs.T htt) (taddr_lt htt).1 rfl (by decide) wf_K_43 (fun _ _ => rfl) ?_
      rw [n2]
      refine x_iadd d_K_taskNumber_38 ?_
      rw [nI_add]
      refine x_iret d_K_taskNumber_39 rfl (by first | rfl | assumption) ?_
      exact ⟨by rw [show 8 + t % 8 = t by omega]; rfl, rfl⟩
theorem cset_drop {w : Nat} (hw : w < 4) : xwI (xwP (cset z C b tk h0) (z + (50 + w)) 2 none) (z + (50 + w)) 3 0 = cset z (xu C (50 + w) 3 (nI 0)) b (xr tk w none) h0 := by
  have e := cset_wT (z := z) (C := C) (b := b) (tk := tk) (h0 := h0) (o := none) hw
  rw [show (none : Option Nat).map (fun t => z + taddr t) = none from rfl] at e
  rw [e, cset_w (by omega)]
  rfl
theorem c_drop (hs : CSh h0 z) {w : Nat} (hw : w < 4) : xVM l G 0 0 m_K_drop [.ref (z + (50 + w))] (cset z C b tk h0) (fun r h' => r = .inl none ∧ h' = cset z (xu C (50 + w) 3 (nI 0)) b (xr tk w none) h0) :=
  xV.imp (c_K_drop (h := cset z C b tk h0) (hs.K hw)) (fun r h' q => ⟨q.1, q.2.trans (cset_drop hw)⟩)
/-- the workers below n that have p lose their tasks -/
def dpC (C : Nat → Nat → Int32) (p : Nat → Bool) (n : Nat) : Nat → Nat → Int32 := fun k j => if 50 ≤ k ∧ k < 50 + n ∧ j = 3 ∧ p (k - 50) = true then nI 0 else C k j
def dpT (tk : Nat → Option Nat) (p : Nat → Bool) (n : Nat) : Nat → Option Nat := fun w => if w < n ∧ p w = true then none else tk w
theorem dpC_0 (C : Nat → Nat → Int32) (p : Nat → Bool) : dpC C p 0 = C := by
  funext k j; exact if_neg (by omega)
theorem dpT_0 (tk : Nat → Option Nat) (p : Nat → Bool) : dpT tk p 0 = tk := by
  funext w; exact if_neg (by omega)
theorem dpC_k {C : Nat → Nat → Int32} {p : Nat → Bool} {n k j : Nat} (h : k < 50 ∨ 50 + n ≤ k ∨ j ≠ 3) : dpC C p n k j = C k j := if_neg (by omega)
theorem dpT_n {tk : Nat → Option Nat} {p : Nat → Bool} {n w : Nat} (h : n ≤ w) : dpT tk p n w = tk w := if_neg (by omega)
theorem dpC_s {C : Nat → Nat → Int32} {p : Nat → Bool} {n : Nat} (hp : p n = true) : xu (dpC C p n) (50 + n) 3 (nI 0) = dpC C p (n + 1) := by
  funext k j
  by_cases h : k = 50 + n ∧ j = 3
  · obtain ⟨rfl, rfl⟩ := h
    rw [xu_s]; unfold dpC; rw [if_pos ⟨by omega, by omega, rfl, by rw [Nat.add_sub_cancel_left]; exact hp⟩]
  · rw [show xu (dpC C p n) (50 + n) 3 (nI 0) k j = dpC C p n k j from if_neg h]
    have : (50 ≤ k ∧ k < 50 + n ∧ j = 3 ∧ p (k - 50) = true) ↔ (50 ≤ k ∧ k < 50 + (n + 1) ∧ j = 3 ∧ p (k - 50) = true) := by
      constructor
      · rintro ⟨a, c, d, e⟩; exact ⟨a, by omega, d, e⟩
      · rintro ⟨a, c, d, e⟩; exact ⟨a, by omega, d, e⟩
    simp only [dpC, this]
theorem dpT_s {tk : Nat → Option Nat} {p : Nat → Bool} {n : Nat} (hp : p n = true) : xr (dpT tk p n) n none = dpT tk p (n + 1) := by
  funext w
  by_cases h : w = n
  · subst h
    rw [xr_s]; unfold dpT; rw [if_pos ⟨by omega, hp⟩]
  · rw [xr_n _ _ h]
    have : (w < n ∧ p w = true) ↔ (w < n + 1 ∧ p w = true) := by
      constructor
      · rintro ⟨a, c⟩; exact ⟨by omega, c⟩
      · rintro ⟨a, c⟩; exact ⟨by omega, c⟩
    simp only [dpT, this]
theorem dpC_m {C : Nat → Nat → Int32} {p : Nat → Bool} {n : Nat} (hp : p n = false) : dpC C p n = dpC C p (n + 1) := by
  funext k j
  have : (50 ≤ k ∧ k < 50 + n ∧ j = 3 ∧ p (k - 50) = true) ↔ (50 ≤ k ∧ k < 50 + (n + 1) ∧ j = 3 ∧ p (k - 50) = true) := by
    constructor
    · rintro ⟨a, c, d, e⟩; exact ⟨a, by omega, d, e⟩
    · rintro ⟨a, c, d, e⟩
      refine ⟨a, ?_, d, e⟩
      by_cases hk : k = 50 + n
      · rw [hk, Nat.add_sub_cancel_left, hp] at e; cases e
      · omega
  simp only [dpC, this]
theorem dpT_m {tk : Nat → Option Nat} {p : Nat → Bool} {n : Nat} (hp : p n = false) : dpT tk p n = dpT tk p (n + 1) := by
  funext w
  have : (w < n ∧ p w = true) ↔ (w < n + 1 ∧ p w = true) := by
    constructor
    · rintro ⟨a, c⟩; exact ⟨by omega, c⟩
    · rintro ⟨a, c⟩
      refine ⟨?_, c⟩
      by_cases hk : w = n
      · rw [hk, hp] at c; cases c
      · omega
  simp only [dpT, this]
theorem c_A_giveUpJob (hs : CSh h0 z) : xVM l G 1 20 m_A_giveUpJob [.ref z] (cset z C b tk h0) (fun r h' => r = .inl none ∧ h' = cset z (dpC (xu C 0 7 (nI 0)) (fun _ => true) 4) b (dpT tk (fun _ => true) 4) h0) := by
  generalize hD : xu C 0 7 (nI 0) = D
  have lp : ∀ m i : Nat, i + m = 4 → xV l G 1 20 m_A_giveUpJob 7 [(1, .int (nI i)), (0, .ref z)] [] (cset z (dpC D (fun _ => true) i) b (dpT tk (fun _ => true) i) h0) (fun r h' => r = .inl none ∧ h' = cset z (dpC D (fun _ => true) 4) b (dpT tk (fun _ => true) 4) h0) := by
    intro m
    induction m with
    | zero =>
      intro i him
      obtain rfl : i = 4 := by omega
      refine x_iload_n d_A_giveUpJob_7 rfl ?_
      refine x_iconst (v := nI 4) d_A_giveUpJob_8 (by decide) ?_
      refine x_icmp_ge_t (tgt := 27) d_A_giveUpJob_9 (by decide) ((nI_le (by omega) (by omega))) ?_
      refine x_vret d_A_giveUpJob_27 rfl ?_
      exact ⟨rfl, rfl⟩
    | succ m ih =>
      intro i him
      have nx := ih (i + 1) (by omega)
      refine x_iload_n d_A_giveUpJob_7 rfl ?_
      refine x_iconst (v := nI 4) d_A_giveUpJob_8 (by decide) ?_
      refine x_icmp_ge_f 27 d_A_giveUpJob_9 (by decide) ((nI_ge (by omega) (by omega))) ?_
      first | refine x_aload_n d_A_giveUpJob_12 rfl ?_ | refine x_aloadq_n d_A_giveUpJob_12 rfl ?_
      refine xc_refA (j := 0) d_A_giveUpJob_13 hs rfl (by decide) wf_A_11 (fun _ _ => rfl) hs.r0 ?_
      refine x_iload_n d_A_giveUpJob_16 rfl ?_
      first | refine xc_aaW d_A_giveUpJob_17 hs (by first | assumption | omega) ?_ | refine xc_aaC d_A_giveUpJob_17 hs (by first | assumption | omega) ?_ | refine xc_aaM d_A_giveUpJob_17 hs (by first | assumption | omega) ?_ | refine xc_aaR d_A_giveUpJob_17 hs (by first | assumption | omega) ?_ | refine xc_aaT d_A_giveUpJob_17 hs (by first | assumption | omega) ?_ | refine xc_aaO d_A_giveUpJob_17 hs (by first | assumption | omega) ?_
      refine x_callV (M' := m_K_drop) (As := []) (fr' := 0) (wd' := 0) d_A_giveUpJob_18 (hs.K (by first | assumption | omega)) rfl pl_K_drop rfl (Nat.le_of_ble_eq_true rfl) (by decide) (by decide) wc_K_drop wi_K wl_A_95 wm_K_drop we_K_drop (by decide) np_K_drop (Nat.le_of_ble_eq_true rfl) (fun q hq => by cases hq) (c_drop hs (by omega)) (fun k a h1 q => by cases q.1) (fun v h1 q => ?_)
      obtain ⟨q1, rfl⟩ := q
      cases q1
      first | refine x_incN d_A_giveUpJob_21 rfl (by decide) ?_ | refine x_inc d_A_giveUpJob_21 rfl (by decide) ?_
      refine x_goto (tgt := 7) d_A_giveUpJob_24 (by decide) ?_
      rw [dpC_s rfl, dpT_s rfl]
      exact nx
  have this := lp 4 0 (by omega)
  rw [dpC_0, dpT_0] at this
  unfold xVM
  first | refine x_aload_n d_A_giveUpJob_0 rfl ?_ | refine x_aloadq_n d_A_giveUpJob_0 rfl ?_
  refine x_iconst (v := nI 0) d_A_giveUpJob_1 (by decide) ?_
  refine xc_putA (j := 7) d_A_giveUpJob_2 hs rfl (by decide) wf_A_49 (Or.inl rfl) (by first | rfl | assumption) rfl (fun _ _ => rfl) ?_
  refine x_iconst (v := nI 0) d_A_giveUpJob_5 (by decide) ?_
  refine x_istore_n d_A_giveUpJob_6 (by decide) ?_
  rw [hD]
  refine xV.loc (this) (by repeat (first | exact trivial | refine ⟨rfl, ?_⟩))
def isR (tk : Nat → Option Nat) (w : Nat) : Bool := match tk w with
  | none => false
  | some t => decide (8 ≤ t)
theorem c_A_giveUpReduceTasks (hs : CSh h0 z) (hN : TN C) (htk : TKo tk) : xVM l G 1 20 m_A_giveUpReduceTasks [.ref z] (cset z C b tk h0) (fun r h' => r = .inl none ∧ h' = cset z (dpC C (isR tk) 4) b (dpT tk (isR tk) 4) h0) := by
  have lp : ∀ m i : Nat, i + m = 4 → xV l G 1 20 m_A_giveUpReduceTasks 2 [(1, .int (nI i)), (0, .ref z)] [] (cset z (dpC C (isR tk) i) b (dpT tk (isR tk) i) h0) (fun r h' => r = .inl none ∧ h' = cset z (dpC C (isR tk) 4) b (dpT tk (isR tk) 4) h0) := by
    intro m
    induction m with
    | zero =>
      intro i him
      obtain rfl : i = 4 := by omega
      refine x_iload_n d_A_giveUpReduceTasks_2 rfl ?_
      refine x_iconst (v := nI 4) d_A_giveUpReduceTasks_3 (by decide) ?_
      refine x_icmp_ge_t (tgt := 43) d_A_giveUpReduceTasks_4 (by decide) ((nI_le (by omega) (by omega))) ?_
      refine x_vret d_A_giveUpReduceTasks_43 rfl ?_
      exact ⟨rfl, rfl⟩
    | succ m ih =>
      intro i him
      have nx := ih (i + 1) (by omega)
      refine x_iload_n d_A_giveUpReduceTasks_2 rfl ?_
      refine x_iconst (v := nI 4) d_A_giveUpReduceTasks_3 (by decide) ?_
      refine x_icmp_ge_f 43 d_A_giveUpReduceTasks_4 (by decide) ((nI_ge (by omega) (by omega))) ?_
      first | refine x_aload_n d_A_giveUpReduceTasks_7 rfl ?_ | refine x_aloadq_n d_A_giveUpReduceTasks_7 rfl ?_
      refine xc_refA (j := 0) d_A_giveUpReduceTasks_8 hs rfl (by decide) wf_A_11 (fun _ _ => rfl) hs.r0 ?_
      refine x_iload_n d_A_giveUpReduceTasks_11 rfl ?_
      first | refine xc_aaW d_A_giveUpReduceTasks_12 hs (by first | assumption | omega) ?_ | refine xc_aaC d_A_giveUpReduceTasks_12 hs (by first | assumption | omega) ?_ | refine xc_aaM d_A_giveUpReduceTasks_12 hs (by first | assumption | omega) ?_ | refine xc_aaR d_A_giveUpReduceTasks_12 hs (by first | assumption | omega) ?_ | refine xc_aaT d_A_giveUpReduceTasks_12 hs (by first | assumption | omega) ?_ | refine xc_aaO d_A_giveUpReduceTasks_12 hs (by first | assumption | omega) ?_
      refine xc_task d_A_giveUpReduceTasks_13 hs (by first | assumption | omega) rfl (by decide) wf_A_237 (fun _ _ => rfl) ?_
      rw [dpT_n (Nat.le_refl i)]
      cases ht : tk i with
      | none =>
        have e : isR tk i = false := by unfold isR; rw [ht]
        rw [← dpC_m e, ← dpT_m e] at nx
        refine x_astore_nN d_A_giveUpReduceTasks_16 (by decide) ?_
        refine x_aloadq_n (o := none) d_A_giveUpReduceTasks_17 rfl ?_
        refine x_ifnullN (tgt := 37) d_A_giveUpReduceTasks_18 (by decide) ?_
        first | refine x_incN d_A_giveUpReduceTasks_37 rfl (by decide) ?_ | refine x_inc d_A_giveUpReduceTasks_37 rfl (by decide) ?_
        refine x_goto (tgt := 2) d_A_giveUpReduceTasks_40 (by decide) ?_
        refine xV.loc (nx) (by repeat (first | exact trivial | refine ⟨rfl, ?_⟩))
      | some t =>
        have htt := htk i t (by omega) ht
        obtain ⟨n1, n2⟩ := hN t htt
        have ta := taddr_lt htt
        refine x_astore_n d_A_giveUpReduceTasks_16 (by decide) ?_
        first | refine x_aload_n d_A_giveUpReduceTasks_17 rfl ?_ | refine x_aloadq_n d_A_giveUpReduceTasks_17 rfl ?_
        refine x_ifnull d_A_giveUpReduceTasks_18 ?_
        first | refine x_aload_n d_A_giveUpReduceTasks_21 rfl ?_ | refine x_aloadq_n d_A_giveUpReduceTasks_21 rfl ?_
        refine xc_get (kc := 4) (j := 0) d_A_giveUpReduceTasks_22 (hs.T (by first | assumption | omega)) (taddr_lt (by first | assumption | omega)).1 rfl (by decide) wf_A_257 (fun _ _ => rfl) ?_
        rw [dpC_k (by omega), n1]
        by_cases h8 : t < 8
        · have e : isR tk i = false := by unfold isR; rw [ht]; exact decide_eq_false (by omega)
          rw [← dpC_m e, ← dpT_m e] at nx
          rw [if_pos h8]
          refine x_if_ne_t (tgt := 37) d_A_giveUpReduceTasks_25 (by decide) ((by decide)) ?_
          first | refine x_incN d_A_giveUpReduceTasks_37 rfl (by decide) ?_ | refine x_inc d_A_giveUpReduceTasks_37 rfl (by decide) ?_
          refine x_goto (tgt := 2) d_A_giveUpReduceTasks_40 (by decide) ?_
          refine xV.loc (nx) (by repeat (first | exact trivial | refine ⟨rfl, ?_⟩))
        · have e : isR tk i = true := by unfold isR; rw [ht]; exact decide_eq_true (by omega)
          rw [if_neg h8]
          refine x_if_ne_f 37 d_A_giveUpReduceTasks_25 (by decide) ((by decide)) ?_
          first | refine x_aload_n d_A_giveUpReduceTasks_28 rfl ?_ | refine x_aloadq_n d_A_giveUpReduceTasks_28 rfl ?_
          refine xc_refA (j := 0) d_A_giveUpReduceTasks_29 hs rfl (by decide) wf_A_11 (fun _ _ => rfl) hs.r0 ?_
          refine x_iload_n d_A_giveUpReduceTasks_32 rfl ?_
          first | refine xc_aaW d_A_giveUpReduceTasks_33 hs (by first | assumption | omega) ?_ | refine xc_aaC d_A_giveUpReduceTasks_33 hs (by first | assumption | omega) ?_ | refine xc_aaM d_A_giveUpReduceTasks_33 hs (by first | assumption | omega) ?_ | refine xc_aaR d_A_giveUpReduceTasks_33 hs (by first | assumption | omega) ?_ | refine xc_aaT d_A_giveUpReduceTasks_33 hs (by first | assumption | omega) ?_ | refine xc_aaO d_A_giveUpReduceTasks_33 hs (by first | assumption | omega) ?_
          refine x_callV (M' := m_K_drop) (As := []) (fr' := 0) (wd' := 0) d_A_giveUpReduceTasks_34 (hs.K (by first | assumption | omega)) rfl pl_K_drop rfl (Nat.le_of_ble_eq_true rfl) (by decide) (by decide) wc_K_drop wi_K wl_A_95 wm_K_drop we_K_drop (by decide) np_K_drop (Nat.le_of_ble_eq_true rfl) (fun q hq => by cases hq) (c_drop hs (by omega)) (fun k a h1 q => by cases q.1) (fun v h1 q => ?_)
          obtain ⟨q1, rfl⟩ := q
          cases q1
          first | refine x_incN d_A_giveUpReduceTasks_37 rfl (by decide) ?_ | refine x_inc d_A_giveUpReduceTasks_37 rfl (by decide) ?_
          refine x_goto (tgt := 2) d_A_giveUpReduceTasks_40 (by decide) ?_
          rw [dpC_s e, dpT_s e]
          refine xV.loc (nx) (by repeat (first | exact trivial | refine ⟨rfl, ?_⟩))
  have this := lp 4 0 (by omega)
  rw [dpC_0, dpT_0] at this
  unfold xVM
  refine x_iconst (v := nI 0) d_A_giveUpReduceTasks_0 (by decide) ?_
  refine x_istore_n d_A_giveUpReduceTasks_1 (by decide) ?_
  refine xV.loc (this) (by repeat (first | exact trivial | refine ⟨rfl, ?_⟩))
end XC2
