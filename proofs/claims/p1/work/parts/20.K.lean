/-! Math -/
theorem c_Z_max {l : Launch} {G : xG} {h : xH} (a b : Int32) : xVM l G 0 0 m_Z_max [.int a, .int b] h (fun r h' => r = .inl (some (.int (if a < b then b else a))) ∧ h' = h) := by
  unfold xVM
  refine x_iload_n d_Z_max_0 rfl ?_
  refine x_iload_n d_Z_max_1 rfl ?_
  refine x_icmp_lt (tgt := 9) d_Z_max_2 (by decide) (fun c1 => ?_) (fun c1 => ?_)
  · refine x_iload_n d_Z_max_9 rfl ?_
    exact x_iret d_Z_max_10 rfl rfl ⟨by rw [if_pos c1], rfl⟩
  · refine x_iload_n d_Z_max_5 rfl ?_
    refine x_goto (tgt := 10) d_Z_max_6 (by decide) ?_
    exact x_iret d_Z_max_10 rfl rfl ⟨by rw [if_neg c1], rfl⟩
theorem c_Z_min {l : Launch} {G : xG} {h : xH} (a b : Int32) : xVM l G 0 0 m_Z_min [.int a, .int b] h (fun r h' => r = .inl (some (.int (if b < a then b else a))) ∧ h' = h) := by
  unfold xVM
  refine x_iload_n d_Z_min_0 rfl ?_
  refine x_iload_n d_Z_min_1 rfl ?_
  refine x_icmp_gt (tgt := 9) d_Z_min_2 (by decide) (fun c1 => ?_) (fun c1 => ?_)
  · refine x_iload_n d_Z_min_9 rfl ?_
    exact x_iret d_Z_min_10 rfl rfl ⟨by rw [if_pos c1], rfl⟩
  · refine x_iload_n d_Z_min_5 rfl ?_
    refine x_goto (tgt := 10) d_Z_min_6 (by decide) ?_
    exact x_iret d_Z_min_10 rfl rfl ⟨by rw [if_neg c1], rfl⟩
def xabsL (x : Int64) : Int64 := if 0 ≤ lg_cmp x 0 then x else -x
theorem c_Z_abs {l : Launch} {G : xG} {h : xH} (a : Int64) : xVM l G 0 0 m_Z_abs [.long a] h (fun r h' => r = .inl (some (.long (xabsL a))) ∧ h' = h) := by
  unfold xVM
  refine x_lload_n d_Z_abs_0 rfl ?_
  refine x_lconst (v := 0) d_Z_abs_1 (by decide) ?_
  refine x_lcmp d_Z_abs_2 ?_
  refine x_if_ge (tgt := 11) d_Z_abs_3 (by decide) (fun c1 => ?_) (fun c1 => ?_)
  · refine x_lload_n d_Z_abs_11 rfl ?_
    exact x_lret d_Z_abs_12 rfl ⟨by unfold xabsL; rw [if_pos c1], rfl⟩
  · refine x_lload_n d_Z_abs_6 rfl ?_
    refine x_lneg d_Z_abs_7 ?_
    refine x_goto (tgt := 12) d_Z_abs_8 (by decide) ?_
    exact x_lret d_Z_abs_12 rfl ⟨by unfold xabsL; rw [if_neg c1], rfl⟩
def xfm (x y : Int32) : Int32 := if 0 ≤ x ^^^ y then x - x / y * y else if x - x / y * y = 0 then x - x / y * y else (x - x / y * y) + y
theorem c_Z_floorMod {l : Launch} {G : xG} {h : xH} (a b : Int32) (hb : ¬ b = 0) : xVM l G 0 0 m_Z_floorMod [.int a, .int b] h (fun r h' => r = .inl (some (.int (xfm a b))) ∧ h' = h) := by
  unfold xVM
  refine x_iload_n d_Z_floorMod_0 rfl ?_
  refine x_iload_n d_Z_floorMod_1 rfl ?_
  refine x_irem d_Z_floorMod_2 hb ?_
  refine x_istore_n d_Z_floorMod_3 (by decide) ?_
  refine x_iload_n d_Z_floorMod_4 rfl ?_
  refine x_iload_n d_Z_floorMod_5 rfl ?_
  refine x_ixor d_Z_floorMod_6 ?_
  refine x_if_ge (tgt := 18) d_Z_floorMod_7 (by decide) (fun c1 => ?_) (fun c1 => ?_)
  · refine x_iload_n d_Z_floorMod_18 rfl ?_
    exact x_iret d_Z_floorMod_19 rfl rfl ⟨by unfold xfm; rw [if_pos c1], rfl⟩
  · refine x_iload_n d_Z_floorMod_10 rfl ?_
    refine x_if_eq (tgt := 18) d_Z_floorMod_11 (by decide) (fun c2 => ?_) (fun c2 => ?_)
    · refine x_iload_n d_Z_floorMod_18 rfl ?_
      exact x_iret d_Z_floorMod_19 rfl rfl ⟨by unfold xfm; rw [if_neg c1, if_pos c2], rfl⟩
    · refine x_iload_n d_Z_floorMod_14 rfl ?_
      refine x_iload_n d_Z_floorMod_15 rfl ?_
      refine x_iadd d_Z_floorMod_16 ?_
      exact x_iret d_Z_floorMod_17 rfl rfl ⟨by unfold xfm; rw [if_neg c1, if_neg c2], rfl⟩
/-! Worker -/
theorem c_K_drop {l : Launch} {G : xG} {h : xH} {a : Nat} (hT : xT h a = 6) : xVM l G 0 0 m_K_drop [.ref a] h (fun r h' => r = .inl none ∧ h' = xwI (xwP h a 2 none) a 3 0) := by
  unfold xVM
  refine x_aload_n d_K_drop_0 rfl ?_
  refine x_null d_K_drop_1 ?_
  refine x_putP (x := none) (k := 5) (j := 2) d_K_drop_2 (by assumption) rfl (by decide) wf_K_19 (Or.inl rfl) rfl rfl rfl ?_
  refine x_aload_n d_K_drop_5 rfl ?_
  refine x_iconst (v := 0) d_K_drop_6 (by decide) ?_
  refine x_putI (k := 5) (j := 3) d_K_drop_7 (by assumption) rfl (by decide) wf_K_23 (Or.inl rfl) (by first | rfl | assumption) rfl rfl ?_
  exact x_vret d_K_drop_10 rfl ⟨rfl, rfl⟩
theorem c_K_take {l : Launch} {G : xG} {h : xH} {a t : Nat} (hT : xT h a = 6) (hT2 : xT h t = 5) : xVM l G 0 0 m_K_take [.ref a, .ref t] h (fun r h' => r = .inl none ∧ h' = xwI (xwP h a 2 (some t)) a 3 (xI h t 2)) := by
  unfold xVM
  refine x_aload_n d_K_take_0 rfl ?_
  refine x_aload_n d_K_take_1 rfl ?_
  refine x_putP (x := some t) (k := 5) (j := 2) d_K_take_2 (by assumption) rfl (by decide) wf_K_19 (Or.inl rfl) rfl rfl rfl ?_
  refine x_aload_n d_K_take_5 rfl ?_
  refine x_aload_n d_K_take_6 rfl ?_
  refine x_getI (k := 4) (j := 2) d_K_take_7 (by assumption) rfl (by decide) wf_K_29 rfl ?_
  refine x_putI (k := 5) (j := 3) d_K_take_10 (by assumption) rfl (by decide) wf_K_23 (Or.inl rfl) (by first | rfl | assumption) rfl rfl ?_
  exact x_vret d_K_take_13 rfl ⟨rfl, rfl⟩
/-- doUnits: what a worker's tick does -/
theorem c_K_doUnits0 {l : Launch} {G : xG} {h : xH} {a : Nat} (hT : xT h a = 6) (hp : xP h a 2 = none) : xVM l G 1 21 m_K_doUnits [.ref a] h (fun r h' => r = .inl (some (.int 0)) ∧ h' = h) := by
  unfold xVM
  refine x_aload_n d_K_doUnits_0 rfl ?_
  refine x_getQ (k := 5) (j := 2) d_K_doUnits_1 (by assumption) rfl (by decide) wf_K_19 rfl ?_
  rw [hp]
  refine x_ifnonnullN d_K_doUnits_4 ?_
  refine x_iconst (v := 0) d_K_doUnits_7 (by decide) ?_
  exact x_iret d_K_doUnits_8 rfl rfl ⟨rfl, rfl⟩
def xmin (a b : Int32) : Int32 := if b < a then b else a
theorem c_K_doUnits1 {l : Launch} {G : xG} {h : xH} {a t : Nat} (hT : xT h a = 6) (hp : xP h a 2 = some t) : xVM l G 1 21 m_K_doUnits [.ref a] h
    (fun r h' => r = .inl (some (.int (if xI h a 3 - xmin (xI h a 1) (xI h a 3) = 0 then 1 else 0))) ∧ h' = xwI (xwI h a 4 (xI h a 4 + xmin (xI h a 1) (xI h a 3))) a 3 (xI h a 3 - xmin (xI h a 1) (xI h a 3))) := by
  unfold xVM
  refine x_aload_n d_K_doUnits_0 rfl ?_
  refine x_getR (k := 5) (j := 2) d_K_doUnits_1 (by assumption) rfl (by decide) wf_K_19 rfl (by assumption) ?_
  refine x_ifnonnull (tgt := 9) d_K_doUnits_4 (by decide) ?_
  refine x_aload_n d_K_doUnits_9 rfl ?_
  refine x_getI (k := 5) (j := 1) d_K_doUnits_10 (by assumption) rfl (by decide) wf_K_15 rfl ?_
  refine x_aload_n d_K_doUnits_13 rfl ?_
  refine x_getI (k := 5) (j := 3) d_K_doUnits_14 (by assumption) rfl (by decide) wf_K_23 rfl ?_
  refine x_callS (M' := m_Z_min) (As := [.int (xI h a 1), .int (xI h a 3)]) (st := []) (fr' := 0) (wd' := 0) d_K_doUnits_17 pl_Z_min rfl (Nat.le_of_ble_eq_true rfl) (by decide) (by decide) wc_Z_min wi_Z wl_K_34 ws_Z_min (by decide) np_Z_min (Nat.le_of_ble_eq_true rfl) (fun q hq => by cases hq) (c_Z_min _ _) (fun k a h1 q => by cases q.1) (fun v h1 q => ?_)
  obtain ⟨q1, q2⟩ := q
  cases q1
  rw [q2]
  show xV l G 1 21 m_K_doUnits 20 _ [.int (xmin (xI h a 1) (xI h a 3))] h _
  refine x_istore_n d_K_doUnits_20 (by decide) ?_
  refine x_aload_n d_K_doUnits_21 rfl ?_
  refine x_dup d_K_doUnits_22 rfl ?_
  refine x_getI (k := 5) (j := 4) d_K_doUnits_23 (by assumption) rfl (by decide) wf_K_26 rfl ?_
  refine x_iload_n d_K_doUnits_26 rfl ?_
  refine x_iadd d_K_doUnits_27 ?_
  refine x_putI (k := 5) (j := 4) d_K_doUnits_28 (by assumption) rfl (by decide) wf_K_26 (Or.inl rfl) (by first | rfl | assumption) rfl rfl ?_
  refine x_aload_n d_K_doUnits_31 rfl ?_
  refine x_dup d_K_doUnits_32 rfl ?_
  refine x_getI (k := 5) (j := 3) d_K_doUnits_33 (by assumption) rfl (by decide) wf_K_23 rfl ?_
  refine x_iload_n d_K_doUnits_36 rfl ?_
  refine x_isub d_K_doUnits_37 ?_
  refine x_putI (k := 5) (j := 3) d_K_doUnits_38 (by assumption) rfl (by decide) wf_K_23 (Or.inl rfl) (by first | rfl | assumption) rfl rfl ?_
  refine x_aload_n d_K_doUnits_41 rfl ?_
  refine x_getI (k := 5) (j := 3) d_K_doUnits_42 (by assumption) rfl (by decide) wf_K_23 rfl ?_
  have e1 : ∀ m : Int32, xu (xu (xI h) a 4 (xI h a 4 + m)) a 3 (xu (xI h) a 4 (xI h a 4 + m) a 3 - m) a 3 = xI h a 3 - m := fun m => by rw [xu_s, xu_j _ _ _ _ (by decide)]
  have e2 : ∀ m : Int32, xwI (xwI h a 4 (xI h a 4 + m)) a 3 (xu (xI h) a 4 (xI h a 4 + m) a 3 - m) = xwI (xwI h a 4 (xI h a 4 + m)) a 3 (xI h a 3 - m) := fun m => by rw [xu_j _ _ _ _ (by decide)]
  refine x_if_ne (tgt := 52) d_K_doUnits_45 (by decide) (fun c1 => ?_) (fun c1 => ?_)
  · refine x_iconst (v := 0) d_K_doUnits_52 (by decide) ?_
    refine x_iret d_K_doUnits_53 rfl rfl ⟨?_, e2 _⟩
    rw [if_neg (fun z => c1 ((e1 _).trans z))]
  · refine x_iconst (v := 1) d_K_doUnits_48 (by decide) ?_
    refine x_goto (tgt := 53) d_K_doUnits_49 (by decide) ?_
    refine x_iret d_K_doUnits_53 rfl rfl ⟨?_, e2 _⟩
    rw [if_pos ((e1 _).symm.trans c1)]
/-! Task -/
theorem c_T_isDone {l : Launch} {G : xG} {h : xH} {a : Nat} (hT : xT h a = 5) : xVM l G 0 0 m_T_isDone [.ref a] h (fun r h' => r = .inl (some (.int (if xI h a 4 = -1 then 0 else 1))) ∧ h' = h) := by
  unfold xVM
  refine x_aload_n d_T_isDone_0 rfl ?_
  refine x_getI (k := 4) (j := 4) d_T_isDone_1 (by assumption) rfl (by decide) wf_T_18 rfl ?_
  refine x_iconst (v := (-1)) d_T_isDone_4 (by decide) ?_
  refine x_icmp_eq (tgt := 12) d_T_isDone_5 (by decide) (fun c1 => ?_) (fun c1 => ?_)
  · refine x_iconst (v := 0) d_T_isDone_12 (by decide) ?_
    exact x_iret d_T_isDone_13 rfl rfl ⟨by rw [if_pos c1], rfl⟩
  · refine x_iconst (v := 1) d_T_isDone_8 (by decide) ?_
    refine x_goto (tgt := 13) d_T_isDone_9 (by decide) ?_
    exact x_iret d_T_isDone_13 rfl rfl ⟨by rw [if_neg c1], rfl⟩
theorem c_T_renew {l : Launch} {G : xG} {h : xH} {a : Nat} (u r0 : Int32) (hT : xT h a = 5) : xVM l G 0 0 m_T_renew [.ref a, .int u, .int r0] h (fun r h' => r = .inl none ∧ h' = xwI (xwI (xwI h a 2 (u + r0)) a 3 r0) a 4 (-1)) := by
  unfold xVM
  refine x_aload_n d_T_renew_0 rfl ?_
  refine x_iload_n d_T_renew_1 rfl ?_
  refine x_iload_n d_T_renew_2 rfl ?_
  refine x_iadd d_T_renew_3 ?_
  refine x_putI (k := 4) (j := 2) d_T_renew_4 (by assumption) rfl (by decide) wf_T_9 (Or.inl rfl) (by first | rfl | assumption) rfl rfl ?_
  refine x_aload_n d_T_renew_7 rfl ?_
  refine x_iload_n d_T_renew_8 rfl ?_
  refine x_putI (k := 4) (j := 3) d_T_renew_9 (by assumption) rfl (by decide) wf_T_15 (Or.inl rfl) (by first | rfl | assumption) rfl rfl ?_
  refine x_aload_n d_T_renew_12 rfl ?_
  refine x_iconst (v := (-1)) d_T_renew_13 (by decide) ?_
  refine x_putI (k := 4) (j := 4) d_T_renew_14 (by assumption) rfl (by decide) wf_T_18 (Or.inl rfl) (by first | rfl | assumption) rfl rfl ?_
  exact x_vret d_T_renew_17 rfl ⟨rfl, rfl⟩
