abbrev CRR : Type := ((((Nat → Nat → Int32) × (Nat → Option Nat)) × Bool) × Nat) × Nat
/-- m ticks, d are through: the cells, the tasks, which job; how many ticks; how it came out -/
def rnC (b : Bool) (Q : Nat → List KV) (c r : Nat) : Nat → Nat → (Nat → Nat → Int32) → (Nat → Option Nat) → CRR
  | 0, d, C, tk => ((((C, tk), b), d), 0)
  | m + 1, d, C, tk => if C 0 7 = 0 then ((((C, tk), b), d), 0) else
      if (ctS C tk b Q c r).2 = 0 then (if (ctS C tk b Q c r).1.2 = b then rnC b Q c r m (d + 1) (ctS C tk b Q c r).1.1.1 (ctS C tk b Q c r).1.1.2 else (((ctS C tk b Q c r).1, d + 1), 0))
      else (((ctS C tk b Q c r).1, d), (ctS C tk b Q c r).2)
def rnP (z : Nat) (h0 : xH) (o : CRR) : xR → xH → Prop := match o.2 with
  | 0 => fun q h' => q = .inl (some (.int (nI o.1.2))) ∧ h' = cset z o.1.1.1.1 o.1.1.2 o.1.1.1.2 h0
  | 1 => fun q h' => q = .inr (1, xnx (cset z o.1.1.1.1 o.1.1.2 o.1.1.1.2 h0)) ∧ h' = thrw 1 (cset z o.1.1.1.1 o.1.1.2 o.1.1.1.2 h0)
  | _ + 2 => fun q h' => q = .inr (3, xnx (cset z o.1.1.1.1 o.1.1.2 o.1.1.1.2 h0)) ∧ h' = thrw 3 (cset z o.1.1.1.1 o.1.1.2 o.1.1.1.2 h0)
theorem ctS_flip {C : Nat → Nat → Int32} {tk : Nat → Option Nat} {b : Bool} {Q : Nat → List KV} {c r : Nat} (h : ¬ (ctS C tk b Q c r).1.2 = b) : (ctS C tk b Q c r).1.1.1 0 7 = 0 := by
  unfold ctS ctE at h ⊢
  split
  · rename_i n2; rw [if_pos n2] at h; exact absurd rfl h
  · rename_i n2
    rw [if_neg n2] at h
    split
    · dsimp only
      unfold eJC
      rw [show ∀ (f : Nat → Nat → Int32) v, xu f 0 12 v 0 7 = f 0 7 from fun f v => if_neg (by omega), xu_s]; rfl
    · rename_i na
      rw [if_neg na] at h
      split at h <;> exact absurd rfl h
theorem ctS_code {C : Nat → Nat → Int32} {tk : Nat → Option Nat} {b : Bool} {Q : Nat → List KV} {c r : Nat} : (ctS C tk b Q c r).2 = 0 ∨ (ctS C tk b Q c r).2 = 1 ∨ (ctS C tk b Q c r).2 = 2 := by
  unfold ctS ctE
  split
  · exact Or.inr (Or.inr rfl)
  · split
    · exact Or.inl rfl
    · split
      · exact Or.inl rfl
      · exact Or.inr (Or.inl rfl)
section XC13
variable {l : Launch} {G : xG} {h0 : xH} {z : Nat} {C : Nat → Nat → Int32} {b : Bool} {tk : Nat → Option Nat} {Q : Nat → List KV} {c r : Nat}
theorem c_A_run (hnt : l.stackTraces = false) (hs : CSh h0 z) (hI : CI C tk b Q c r) {n : Nat} (hok : rng (nI n) 1 100) (hn : n ≤ 100) (hu : ¬ C 0 7 = 0) :
    xVM l G 8 124 m_A_run [.ref z, .int (nI n)] (cset z C b tk h0) (rnP z h0 (rnC b Q c r n 0 C tk)) := by
  have lp : ∀ (m d : Nat) (C : Nat → Nat → Int32) (tk : Nat → Option Nat), d + m = n → CI C tk b Q c r → xV l G 8 124 m_A_run 13 [(2, .int (nI d)), (0, .ref z), (1, .int (nI n))] [] (cset z C b tk h0) (rnP z h0 (rnC b Q c r m d C tk)) := by
    intro m
    induction m with
    | zero =>
      intro d C tk hd hI
      obtain rfl : d = n := by omega
      refine x_iload_n d_A_run_13 rfl ?_
      refine x_iload_n d_A_run_14 rfl ?_
      refine x_icmp_ge_t (tgt := 62) d_A_run_15 (by decide) ((nI_le (by omega) (by omega))) ?_
      refine x_iload_n d_A_run_62 rfl ?_
      refine x_iret d_A_run_63 rfl (by first | rfl | assumption) ?_
      exact ⟨rfl, rfl⟩
    | succ m ih =>
      intro d C tk hd hI
      rw [rnC]
      by_cases u : C 0 7 = 0
      · rw [if_pos u]
        refine x_iload_n d_A_run_13 rfl ?_
        refine x_iload_n d_A_run_14 rfl ?_
        refine x_icmp_ge_f 62 d_A_run_15 (by decide) ((nI_ge (by omega) (by omega))) ?_
        first | refine x_aload_n d_A_run_18 rfl ?_ | refine x_aloadq_n d_A_run_18 rfl ?_
        refine xc_getA (j := 7) d_A_run_19 hs rfl (by decide) wf_A_49 (fun _ _ => rfl) ?_
        refine x_if_eq_t (tgt := 62) d_A_run_22 (by decide) (u) ?_
        refine x_iload_n d_A_run_62 rfl ?_
        refine x_iret d_A_run_63 rfl (by first | rfl | assumption) ?_
        exact ⟨rfl, rfl⟩
      · rw [if_neg u]
        have ih2 := ih (d + 1) (ctS C tk b Q c r).1.1.1 (ctS C tk b Q c r).1.1.2 (by omega)
        have hts := hI.ts
        have hfl := ctS_flip (C := C) (tk := tk) (b := b) (Q := Q) (c := c) (r := r)
        have hco := ctS_code (C := C) (tk := tk) (b := b) (Q := Q) (c := c) (r := r)
        refine x_iload_n d_A_run_13 rfl ?_
        refine x_iload_n d_A_run_14 rfl ?_
        refine x_icmp_ge_f 62 d_A_run_15 (by decide) ((nI_ge (by omega) (by omega))) ?_
        first | refine x_aload_n d_A_run_18 rfl ?_ | refine x_aloadq_n d_A_run_18 rfl ?_
        refine xc_getA (j := 7) d_A_run_19 hs rfl (by decide) wf_A_49 (fun _ _ => rfl) ?_
        refine x_if_eq_f 62 d_A_run_22 (by decide) (u) ?_
        first | refine x_aload_n d_A_run_25 rfl ?_ | refine x_aloadq_n d_A_run_25 rfl ?_
        refine x_callV (M' := m_A_passTick) (As := []) (fr' := 4) (wd' := 92) d_A_run_26 hs.A rfl pl_A_passTick rfl (Nat.le_of_ble_eq_true rfl) (by decide) (by decide) wc_A_passTick wi_A wl_A_130 wm_A_passTick we_A_passTick (by decide) np_A_passTick (Nat.le_of_ble_eq_true rfl) (fun q hq => by cases hq) (c_A_passTick hs hI) (fun k a h1 q => by cases q.1) (fun v h1 q => ?_)
        obtain ⟨q1, rfl⟩ := q
        cases q1
        refine x_istore_n d_A_run_29 (by decide) ?_
        refine x_iload_n d_A_run_30 rfl ?_
        refine x_iconst (v := nI 1) d_A_run_31 (by decide) ?_
        generalize ctS C tk b Q c r = o at *
        obtain ⟨⟨⟨C', tk'⟩, b'⟩, k⟩ := o
        dsimp only at *
        rcases hco with rfl | rfl | rfl
        · rw [if_pos rfl]
          by_cases hb : b' = b
          · subst hb
            rw [if_pos rfl]
            have nx := ih2 (hts rfl)
            refine x_icmp_ne_t (tgt := 43) d_A_run_32 (by decide) ((by decide)) ?_
            refine x_iload_n d_A_run_43 rfl ?_
            refine x_iconst (v := nI 2) d_A_run_44 (by decide) ?_
            refine x_icmp_ne_t (tgt := 56) d_A_run_45 (by decide) ((by decide)) ?_
            first | refine x_incN d_A_run_56 rfl (by decide) ?_ | refine x_inc d_A_run_56 rfl (by decide) ?_
            refine x_goto (tgt := 13) d_A_run_59 (by decide) ?_
            refine xV.loc (nx) (by repeat (first | exact trivial | refine ⟨rfl, ?_⟩))
          · rw [if_neg hb]
            have u2 := hfl hb
            by_cases dn : d + 1 < n
            · skip
              refine x_icmp_ne_t (tgt := 43) d_A_run_32 (by decide) ((by decide)) ?_
              refine x_iload_n d_A_run_43 rfl ?_
              refine x_iconst (v := nI 2) d_A_run_44 (by decide) ?_
              refine x_icmp_ne_t (tgt := 56) d_A_run_45 (by decide) ((by decide)) ?_
              first | refine x_incN d_A_run_56 rfl (by decide) ?_ | refine x_inc d_A_run_56 rfl (by decide) ?_
              refine x_goto (tgt := 13) d_A_run_59 (by decide) ?_
              refine x_iload_n d_A_run_13 rfl ?_
              refine x_iload_n d_A_run_14 rfl ?_
              refine x_icmp_ge_f 62 d_A_run_15 (by decide) ((nI_ge dn (by omega))) ?_
              first | refine x_aload_n d_A_run_18 rfl ?_ | refine x_aloadq_n d_A_run_18 rfl ?_
              refine xc_getA (j := 7) d_A_run_19 hs rfl (by decide) wf_A_49 (fun _ _ => rfl) ?_
              refine x_if_eq_t (tgt := 62) d_A_run_22 (by decide) (u2) ?_
              refine x_iload_n d_A_run_62 rfl ?_
              refine x_iret d_A_run_63 rfl (by first | rfl | assumption) ?_
              exact ⟨rfl, rfl⟩
            · skip
              refine x_icmp_ne_t (tgt := 43) d_A_run_32 (by decide) ((by decide)) ?_
              refine x_iload_n d_A_run_43 rfl ?_
              refine x_iconst (v := nI 2) d_A_run_44 (by decide) ?_
              refine x_icmp_ne_t (tgt := 56) d_A_run_45 (by decide) ((by decide)) ?_
              first | refine x_incN d_A_run_56 rfl (by decide) ?_ | refine x_inc d_A_run_56 rfl (by decide) ?_
              refine x_goto (tgt := 13) d_A_run_59 (by decide) ?_
              refine x_iload_n d_A_run_13 rfl ?_
              refine x_iload_n d_A_run_14 rfl ?_
              refine x_icmp_ge_t (tgt := 62) d_A_run_15 (by decide) ((nI_le (by omega) (by omega))) ?_
              refine x_iload_n d_A_run_62 rfl ?_
              refine x_iret d_A_run_63 rfl (by first | rfl | assumption) ?_
              exact ⟨rfl, rfl⟩
        · rw [if_neg (by decide)]
          refine x_icmp_ne_f 43 d_A_run_32 (by decide) ((by decide)) ?_
          exact x_thr1 rfl d_A_run_35 d_A_run_38 d_A_run_39 d_A_run_42 rfl hnt (by decide) (by decide) (Nat.le_of_ble_eq_true rfl) ⟨rfl, rfl⟩
        · rw [if_neg (by decide)]
          refine x_icmp_ne_t (tgt := 43) d_A_run_32 (by decide) ((by decide)) ?_
          refine x_iload_n d_A_run_43 rfl ?_
          refine x_iconst (v := nI 2) d_A_run_44 (by decide) ?_
          refine x_icmp_ne_f 56 d_A_run_45 (by decide) ((by decide)) ?_
          exact x_thr3 rfl d_A_run_48 d_A_run_51 d_A_run_52 d_A_run_55 rfl hnt (by decide) (by decide) (Nat.le_of_ble_eq_true rfl) ⟨rfl, rfl⟩
  have this := lp n 0 C tk (by omega) hI
  unfold xVM
  refine x_iload_n d_A_run_0 rfl ?_
  refine x_iconst (v := nI 1) d_A_run_1 (by decide) ?_
  refine x_bipush (v := nI 100) d_A_run_2 (by decide) ?_
  refine x_callS (M' := m_A_demandRange) (As := [_, _, _]) (fr' := 7) (wd' := 102) d_A_run_4 pl_A_demandRange rfl (Nat.le_of_ble_eq_true rfl) (by decide) (by decide) wc_A_demandRange wi_A wl_A_81 ws_A_demandRange (by decide) np_A_demandRange (Nat.le_of_ble_eq_true rfl) (fun q hq => by cases hq) (c_A_range hok) (fun k a h1 q => by cases q.1) (fun v h1 q => ?_)
  obtain ⟨q1, rfl⟩ := q
  cases q1
  first | refine x_aload_n d_A_run_7 rfl ?_ | refine x_aloadq_n d_A_run_7 rfl ?_
  refine x_callV (M' := m_A_demandJob) (As := []) (fr' := 7) (wd' := 102) d_A_run_8 hs.A rfl pl_A_demandJob rfl (Nat.le_of_ble_eq_true rfl) (by decide) (by decide) wc_A_demandJob wi_A wl_A_127 wm_A_demandJob we_A_demandJob (by decide) np_A_demandJob (Nat.le_of_ble_eq_true rfl) (fun q hq => by cases hq) (c_A_job hs hu) (fun k a h1 q => by cases q.1) (fun v h1 q => ?_)
  obtain ⟨q1, rfl⟩ := q
  cases q1
  refine x_iconst (v := nI 0) d_A_run_11 (by decide) ?_
  refine x_istore_n d_A_run_12 (by decide) ?_
  refine xV.loc (this) (by repeat (first | exact trivial | refine ⟨rfl, ?_⟩))
theorem c_A_runX0 (hnt : l.stackTraces = false) {h : xH} {n : Int32} (hok : ¬ rng n 1 100) : xVM l G 8 124 m_A_run [.ref z, .int n] h (fun q h' => q = .inr (0, xnx h) ∧ h' = thrw 0 h) := by
  unfold xVM
  refine x_iload_n d_A_run_0 rfl ?_
  refine x_iconst (v := nI 1) d_A_run_1 (by decide) ?_
  refine x_bipush (v := nI 100) d_A_run_2 (by decide) ?_
  refine x_callS (M' := m_A_demandRange) (As := [_, _, _]) (fr' := 7) (wd' := 102) d_A_run_4 pl_A_demandRange rfl (Nat.le_of_ble_eq_true rfl) (by decide) (by decide) wc_A_demandRange wi_A wl_A_81 ws_A_demandRange (by decide) np_A_demandRange (Nat.le_of_ble_eq_true rfl) (fun q hq => by cases hq) (c_A_rangeX hnt hok) (fun k a h1 q => ?_) (fun v h1 q => by cases q.1)
  obtain ⟨q1, rfl⟩ := q
  cases q1
  exact ⟨rfl, rfl⟩
theorem c_A_runX1 (hnt : l.stackTraces = false) (hs : CSh h0 z) {n : Int32} (hok : rng n 1 100) (hu : C 0 7 = 0) : xVM l G 8 124 m_A_run [.ref z, .int n] (cset z C b tk h0) (fun q h' => q = .inr (1, xnx (cset z C b tk h0)) ∧ h' = thrw 1 (cset z C b tk h0)) := by
  unfold xVM
  refine x_iload_n d_A_run_0 rfl ?_
  refine x_iconst (v := nI 1) d_A_run_1 (by decide) ?_
  refine x_bipush (v := nI 100) d_A_run_2 (by decide) ?_
  refine x_callS (M' := m_A_demandRange) (As := [_, _, _]) (fr' := 7) (wd' := 102) d_A_run_4 pl_A_demandRange rfl (Nat.le_of_ble_eq_true rfl) (by decide) (by decide) wc_A_demandRange wi_A wl_A_81 ws_A_demandRange (by decide) np_A_demandRange (Nat.le_of_ble_eq_true rfl) (fun q hq => by cases hq) (c_A_range hok) (fun k a h1 q => by cases q.1) (fun v h1 q => ?_)
  obtain ⟨q1, rfl⟩ := q
  cases q1
  first | refine x_aload_n d_A_run_7 rfl ?_ | refine x_aloadq_n d_A_run_7 rfl ?_
  refine x_callV (M' := m_A_demandJob) (As := []) (fr' := 7) (wd' := 102) d_A_run_8 hs.A rfl pl_A_demandJob rfl (Nat.le_of_ble_eq_true rfl) (by decide) (by decide) wc_A_demandJob wi_A wl_A_127 wm_A_demandJob we_A_demandJob (by decide) np_A_demandJob (Nat.le_of_ble_eq_true rfl) (fun q hq => by cases hq) (c_A_jobX hnt hs hu) (fun k a h1 q => ?_) (fun v h1 q => by cases q.1)
  obtain ⟨q1, rfl⟩ := q
  cases q1
  exact ⟨rfl, rfl⟩
def ctsV (C : Nat → Nat → Int32) (tk : Nat → Option Nat) (c : Nat) (mp : Int32) (k : Nat) (w : Int32) : Int32 :=
  if w = nI 0 then (if C (taddr k) 4 = -1 then (if 0 < cdo tk k 4 then nI 1 else nI 0) else nI 2)
  else if w = nI 1 then (if ¬ mp = 0 ∨ (∀ t, t < c → ¬ C (taddr t) 4 = -1) then C (taddr k) 2 else nI 0)
  else if w = nI 2 then C (taddr k) 3 else if C (taddr k) 4 = -1 then oI (cld tk k) else C (taddr k) 4
theorem ta_65 (hs : CSh h0 z) (htk : TKo tk) {mp : Int32} {t k w : Nat} (hw : w < 4) (hk : tok k) (hc : C 0 8 = nI c) (hc6 : c ≤ 6) : xV l G 8 124 m_A_task 65 [(4, .ref (z + taddr k)), (0, .ref z), (1, .int mp), (2, .int (nI t)), (3, .int (nI w))] [] (cset z C b tk h0) (fun q h' => q = .inl (some (.int (ctsV C tk c mp k (nI w)))) ∧ h' = cset z C b tk h0) := by
  have hta := taddr_lt hk
  refine x_iload_n d_A_task_65 rfl ?_
  obtain rfl | rfl | rfl | rfl : w = 0 ∨ w = 1 ∨ w = 2 ∨ w = 3 := by omega
  · skip
    refine x_swIn (tgt := 92) d_A_task_66 (by decide) (by decide) rfl (by decide) ?_
    first | refine x_aload_n d_A_task_92 rfl ?_ | refine x_aloadq_n d_A_task_92 rfl ?_
    first | refine x_aload d_A_task_93 rfl ?_ | refine x_aloadq d_A_task_93 rfl ?_
    refine x_callV (M' := m_A_stateOf) (As := [_]) (fr' := 1) (wd' := 23) d_A_task_95 hs.A rfl pl_A_stateOf rfl (Nat.le_of_ble_eq_true rfl) (by decide) (by decide) wc_A_stateOf wi_A wl_A_166 wm_A_stateOf we_A_stateOf (by decide) np_A_stateOf (Nat.le_of_ble_eq_true rfl) (fun q hq => by cases hq) (c_A_stateOf hs htk hk) (fun k a h1 q => by cases q.1) (fun v h1 q => ?_)
    obtain ⟨q1, rfl⟩ := q
    cases q1
    refine x_iret d_A_task_98 rfl (by first | rfl | assumption) ?_
    exact ⟨by unfold ctsV; rw [if_pos rfl], rfl⟩
  · have e : ctsV C tk c mp k (nI 1) = (if ¬ mp = 0 ∨ (∀ t, t < c → ¬ C (taddr t) 4 = -1) then C (taddr k) 2 else nI 0) := by unfold ctsV; rw [if_neg (by decide), if_pos rfl]
    rw [e]
    by_cases hm : mp = 0
    · skip
      refine x_swIn (tgt := 99) d_A_task_66 (by decide) (by decide) rfl (by decide) ?_
      refine x_iload_n d_A_task_99 rfl ?_
      refine x_if_ne_f 111 d_A_task_100 (by decide) (hm) ?_
      first | refine x_aload_n d_A_task_103 rfl ?_ | refine x_aloadq_n d_A_task_103 rfl ?_
      refine x_iconst (v := nI 1) d_A_task_104 (by decide) ?_
      refine x_callV (M' := m_A_allDone) (As := [_]) (fr' := 1) (wd' := 21) d_A_task_105 hs.A rfl pl_A_allDone rfl (Nat.le_of_ble_eq_true rfl) (by decide) (by decide) wc_A_allDone wi_A wl_A_170 wm_A_allDone we_A_allDone (by decide) np_A_allDone (Nat.le_of_ble_eq_true rfl) (fun q hq => by cases hq) (c_A_allDoneM hs (by decide) hc hc6) (fun k a h1 q => by cases q.1) (fun v h1 q => ?_)
      obtain ⟨q1, rfl⟩ := q
      cases q1
      by_cases md : ∀ t, t < c → ¬ C (taddr t) 4 = -1
      · rw [bI_t md, if_pos (Or.inr md)]
        refine x_if_eq_f 119 d_A_task_108 (by decide) ((by decide)) ?_
        first | refine x_aload d_A_task_111 rfl ?_ | refine x_aloadq d_A_task_111 rfl ?_
        refine xc_get (kc := 4) (j := 2) d_A_task_113 (hs.T (by first | assumption | omega)) (taddr_lt (by first | assumption | omega)).1 rfl (by decide) wf_A_174 (fun _ _ => rfl) ?_
        refine x_goto (tgt := 120) d_A_task_116 (by decide) ?_
        refine x_iret d_A_task_120 rfl (by first | rfl | assumption) ?_
        exact ⟨rfl, rfl⟩
      · rw [bI_f md, if_neg (by rintro (q | q); exact q hm; exact md q)]
        refine x_if_eq_t (tgt := 119) d_A_task_108 (by decide) ((by decide)) ?_
        refine x_iconst (v := nI 0) d_A_task_119 (by decide) ?_
        refine x_iret d_A_task_120 rfl (by first | rfl | assumption) ?_
        exact ⟨rfl, rfl⟩
    · rw [if_pos (Or.inl hm)]
      refine x_swIn (tgt := 99) d_A_task_66 (by decide) (by decide) rfl (by decide) ?_
      refine x_iload_n d_A_task_99 rfl ?_
      refine x_if_ne_t (tgt := 111) d_A_task_100 (by decide) (hm) ?_
      first | refine x_aload d_A_task_111 rfl ?_ | refine x_aloadq d_A_task_111 rfl ?_
      refine xc_get (kc := 4) (j := 2) d_A_task_113 (hs.T (by first | assumption | omega)) (taddr_lt (by first | assumption | omega)).1 rfl (by decide) wf_A_174 (fun _ _ => rfl) ?_
      refine x_goto (tgt := 120) d_A_task_116 (by decide) ?_
      refine x_iret d_A_task_120 rfl (by first | rfl | assumption) ?_
      exact ⟨rfl, rfl⟩
  · skip
    refine x_swIn (tgt := 121) d_A_task_66 (by decide) (by decide) rfl (by decide) ?_
    first | refine x_aload d_A_task_121 rfl ?_ | refine x_aloadq d_A_task_121 rfl ?_
    refine xc_get (kc := 4) (j := 3) d_A_task_123 (hs.T (by first | assumption | omega)) (taddr_lt (by first | assumption | omega)).1 rfl (by decide) wf_A_177 (fun _ _ => rfl) ?_
    refine x_iret d_A_task_126 rfl (by first | rfl | assumption) ?_
    exact ⟨by unfold ctsV; rw [if_neg (by decide), if_neg (by decide), if_pos rfl], rfl⟩
  · have e : ctsV C tk c mp k (nI 3) = (if C (taddr k) 4 = -1 then oI (cld tk k) else C (taddr k) 4) := by unfold ctsV; rw [if_neg (by decide), if_neg (by decide), if_neg (by decide)]
    rw [e]
    refine x_swOut (tgt := 127) d_A_task_66 (Or.inr (by decide)) (by decide) ?_
    first | refine x_aload d_A_task_127 rfl ?_ | refine x_aloadq d_A_task_127 rfl ?_
    refine x_callV (M' := m_T_isDone) (As := []) (fr' := 0) (wd' := 0) d_A_task_129 (hs.T (by first | assumption | omega)) rfl pl_T_isDone rfl (Nat.le_of_ble_eq_true rfl) (by decide) (by decide) wc_T_isDone wi_T wl_A_180 wm_T_isDone we_T_isDone (by decide) np_T_isDone (Nat.le_of_ble_eq_true rfl) (fun q hq => by cases hq) (c_isDone hs hk) (fun k a h1 q => by cases q.1) (fun v h1 q => ?_)
    obtain ⟨q1, rfl⟩ := q
    cases q1
    by_cases d : C (taddr k) 4 = -1
    · rw [bI_f (fun q => q d), if_pos d]
      refine x_if_eq_t (tgt := 143) d_A_task_132 (by decide) ((by decide)) ?_
      first | refine x_aload_n d_A_task_143 rfl ?_ | refine x_aloadq_n d_A_task_143 rfl ?_
      first | refine x_aload d_A_task_144 rfl ?_ | refine x_aloadq d_A_task_144 rfl ?_
      refine x_callV (M' := m_A_leastDoer) (As := [_]) (fr' := 0) (wd' := 0) d_A_task_146 hs.A rfl pl_A_leastDoer rfl (Nat.le_of_ble_eq_true rfl) (by decide) (by decide) wc_A_leastDoer wi_A wl_A_187 wm_A_leastDoer we_A_leastDoer (by decide) np_A_leastDoer (Nat.le_of_ble_eq_true rfl) (fun q hq => by cases hq) (c_A_leastDoer hs htk hk) (fun k a h1 q => by cases q.1) (fun v h1 q => ?_)
      obtain ⟨q1, rfl⟩ := q
      cases q1
      refine x_iret d_A_task_149 rfl (by first | rfl | assumption) ?_
      exact ⟨rfl, rfl⟩
    · rw [bI_t d, if_neg d]
      refine x_if_eq_f 143 d_A_task_132 (by decide) ((by decide)) ?_
      first | refine x_aload d_A_task_135 rfl ?_ | refine x_aloadq d_A_task_135 rfl ?_
      refine xc_get (kc := 4) (j := 4) d_A_task_137 (hs.T (by first | assumption | omega)) (taddr_lt (by first | assumption | omega)).1 rfl (by decide) wf_A_184 (fun _ _ => rfl) ?_
      refine x_goto (tgt := 149) d_A_task_140 (by decide) ?_
      refine x_iret d_A_task_149 rfl (by first | rfl | assumption) ?_
      exact ⟨rfl, rfl⟩
theorem ta_pre {mp : Int32} {t w : Int32} {h : xH} {P : xR → xH → Prop} (nx : xV l G 8 124 m_A_task 14 [(0, .ref z), (1, .int mp), (2, .int t), (3, .int w)] [.int (nI (if mp = 0 then 2 else 5)), .int (nI 0), .int t] h P) : xV l G 8 124 m_A_task 0 [(0, .ref z), (1, .int mp), (2, .int t), (3, .int w)] [] h P := by
  refine x_iload_n d_A_task_0 rfl ?_
  refine x_iconst (v := nI 0) d_A_task_1 (by decide) ?_
  refine x_iload_n d_A_task_2 rfl ?_
  by_cases hm : mp = 0
  · rw [if_pos hm] at nx
    refine x_if_eq_t (tgt := 11) d_A_task_3 (by decide) (hm) ?_
    refine x_iconst (v := nI 3) d_A_task_11 (by decide) ?_
    refine x_iconst (v := nI 1) d_A_task_12 (by decide) ?_
    refine x_isub d_A_task_13 ?_
    rw [nI_sub (by omega)]
    exact nx
  · rw [if_neg hm] at nx
    refine x_if_eq_f 11 d_A_task_3 (by decide) (hm) ?_
    refine x_bipush (v := nI 6) d_A_task_6 (by decide) ?_
    refine x_goto (tgt := 12) d_A_task_8 (by decide) ?_
    refine x_iconst (v := nI 1) d_A_task_12 (by decide) ?_
    refine x_isub d_A_task_13 ?_
    rw [nI_sub (by omega)]
    exact nx
theorem c_A_task (hs : CSh h0 z) (htk : TKo tk) {mp w : Int32} {t r : Nat} (hok : okt mp (nI t) w) (hu : ¬ C 0 7 = 0) (hc : C 0 8 = nI c) (hc6 : c ≤ 6) (hr : C (jo b) 3 = nI r) (hr3 : r ≤ 3) (htc : t < (if mp = 0 then r else c)) :
    xVM l G 8 124 m_A_task [.ref z, .int mp, .int (nI t), .int w] (cset z C b tk h0) (fun q h' => q = .inl (some (.int (ctsV C tk c mp (tsK mp t) w))) ∧ h' = cset z C b tk h0) := by
  obtain ⟨n, rfl, -, hn⟩ := rng_of (by decide) (by decide) hok.2
  unfold xVM
  refine ta_pre ?_
  refine x_callS (M' := m_A_demandRange) (As := [_, _, _]) (fr' := 7) (wd' := 102) d_A_task_14 pl_A_demandRange rfl (Nat.le_of_ble_eq_true rfl) (by decide) (by decide) wc_A_demandRange wi_A wl_A_81 ws_A_demandRange (by decide) np_A_demandRange (Nat.le_of_ble_eq_true rfl) (fun q hq => by cases hq) (c_A_range hok.1) (fun k a h1 q => by cases q.1) (fun v h1 q => ?_)
  obtain ⟨q1, rfl⟩ := q
  cases q1
  refine x_iload_n d_A_task_17 rfl ?_
  refine x_iconst (v := nI 0) d_A_task_18 (by decide) ?_
  refine x_iconst (v := nI 3) d_A_task_19 (by decide) ?_
  refine x_callS (M' := m_A_demandRange) (As := [_, _, _]) (fr' := 7) (wd' := 102) d_A_task_20 pl_A_demandRange rfl (Nat.le_of_ble_eq_true rfl) (by decide) (by decide) wc_A_demandRange wi_A wl_A_81 ws_A_demandRange (by decide) np_A_demandRange (Nat.le_of_ble_eq_true rfl) (fun q hq => by cases hq) (c_A_range hok.2) (fun k a h1 q => by cases q.1) (fun v h1 q => ?_)
  obtain ⟨q1, rfl⟩ := q
  cases q1
  first | refine x_aload_n d_A_task_23 rfl ?_ | refine x_aloadq_n d_A_task_23 rfl ?_
  refine x_callV (M' := m_A_demandJob) (As := []) (fr' := 7) (wd' := 102) d_A_task_24 hs.A rfl pl_A_demandJob rfl (Nat.le_of_ble_eq_true rfl) (by decide) (by decide) wc_A_demandJob wi_A wl_A_127 wm_A_demandJob we_A_demandJob (by decide) np_A_demandJob (Nat.le_of_ble_eq_true rfl) (fun q hq => by cases hq) (c_A_job hs hu) (fun k a h1 q => by cases q.1) (fun v h1 q => ?_)
  obtain ⟨q1, rfl⟩ := q
  cases q1
  refine x_iload_n d_A_task_27 rfl ?_
  first | refine x_aload_n d_A_task_28 rfl ?_ | refine x_aloadq_n d_A_task_28 rfl ?_
  refine x_iload_n d_A_task_29 rfl ?_
  refine x_callV (M' := m_A_taskCount) (As := [_]) (fr' := 0) (wd' := 0) d_A_task_30 hs.A rfl pl_A_taskCount rfl (Nat.le_of_ble_eq_true rfl) (by decide) (by decide) wc_A_taskCount wi_A wl_A_162 wm_A_taskCount we_A_taskCount (by decide) np_A_taskCount (Nat.le_of_ble_eq_true rfl) (fun q hq => by cases hq) (c_A_taskCount hs _) (fun k a h1 q => by cases q.1) (fun v h1 q => ?_)
  obtain ⟨q1, rfl⟩ := q
  cases q1
  by_cases hm : mp = 0
  · rw [if_pos hm] at htc
    have k3 : t < 3 := by omega
    have nx := ta_65 (l := l) (G := G) (b := b) hs htk (mp := mp) (t := t) (k := 8 + t) (w := n) (by omega) (by omega) hc hc6
    rw [if_pos hm, hr, show tsK mp t = 8 + t by unfold tsK; rw [if_pos hm, Nat.add_comm]]
    refine x_icmp_lt_t (tgt := 44) d_A_task_33 (by decide) ((nI_lt htc (by omega))) ?_
    refine x_iload_n d_A_task_44 rfl ?_
    refine x_if_eq_t (tgt := 57) d_A_task_45 (by decide) (hm) ?_
    first | refine x_aload_n d_A_task_57 rfl ?_ | refine x_aloadq_n d_A_task_57 rfl ?_
    refine xc_refA (j := 3) d_A_task_58 hs rfl (by decide) wf_A_27 (fun _ _ => rfl) hs.r3 ?_
    refine x_iload_n d_A_task_61 rfl ?_
    first | refine xc_aaW d_A_task_62 hs (by first | assumption | omega) ?_ | refine xc_aaC d_A_task_62 hs (by first | assumption | omega) ?_ | refine xc_aaM d_A_task_62 hs (by first | assumption | omega) ?_ | refine xc_aaR d_A_task_62 hs (by first | assumption | omega) ?_ | refine xc_aaT d_A_task_62 hs (by first | assumption | omega) ?_ | refine xc_aaO d_A_task_62 hs (by first | assumption | omega) ?_
    first | refine x_astore d_A_task_63 (by decide) ?_ | refine x_astoreq d_A_task_63 (by decide) ?_ | refine x_astoreN d_A_task_63 (by decide) ?_
    refine xV.loc (nx) (by repeat (first | exact trivial | refine ⟨rfl, ?_⟩))
  · rw [if_neg hm] at htc
    have k6 : t < 6 := by omega
    have nx := ta_65 (l := l) (G := G) (b := b) hs htk (mp := mp) (t := t) (k := t) (w := n) (by omega) (by omega) hc hc6
    rw [if_neg hm, hc, show tsK mp t = t by unfold tsK; rw [if_neg hm]]
    refine x_icmp_lt_t (tgt := 44) d_A_task_33 (by decide) ((nI_lt htc (by omega))) ?_
    refine x_iload_n d_A_task_44 rfl ?_
    refine x_if_eq_f 57 d_A_task_45 (by decide) (hm) ?_
    first | refine x_aload_n d_A_task_48 rfl ?_ | refine x_aloadq_n d_A_task_48 rfl ?_
    refine xc_refA (j := 2) d_A_task_49 hs rfl (by decide) wf_A_23 (fun _ _ => rfl) hs.r2 ?_
    refine x_iload_n d_A_task_52 rfl ?_
    first | refine xc_aaW d_A_task_53 hs (by first | assumption | omega) ?_ | refine xc_aaC d_A_task_53 hs (by first | assumption | omega) ?_ | refine xc_aaM d_A_task_53 hs (by first | assumption | omega) ?_ | refine xc_aaR d_A_task_53 hs (by first | assumption | omega) ?_ | refine xc_aaT d_A_task_53 hs (by first | assumption | omega) ?_ | refine xc_aaO d_A_task_53 hs (by first | assumption | omega) ?_
    refine x_goto (tgt := 63) d_A_task_54 (by decide) ?_
    first | refine x_astore d_A_task_63 (by decide) ?_ | refine x_astoreq d_A_task_63 (by decide) ?_ | refine x_astoreN d_A_task_63 (by decide) ?_
    refine xV.loc (nx) (by repeat (first | exact trivial | refine ⟨rfl, ?_⟩))
theorem c_A_taskX0 (hnt : l.stackTraces = false) {h : xH} {mp t w : Int32} (hok : ¬ okt mp t w) : xVM l G 8 124 m_A_task [.ref z, .int mp, .int t, .int w] h (fun q h' => q = .inr (0, xnx h) ∧ h' = thrw 0 h) := by
  unfold xVM
  refine ta_pre ?_
  by_cases g1 : rng t 0 (if mp = 0 then 2 else 5)
  · skip
    refine x_callS (M' := m_A_demandRange) (As := [_, _, _]) (fr' := 7) (wd' := 102) d_A_task_14 pl_A_demandRange rfl (Nat.le_of_ble_eq_true rfl) (by decide) (by decide) wc_A_demandRange wi_A wl_A_81 ws_A_demandRange (by decide) np_A_demandRange (Nat.le_of_ble_eq_true rfl) (fun q hq => by cases hq) (c_A_range g1) (fun k a h1 q => by cases q.1) (fun v h1 q => ?_)
    obtain ⟨q1, rfl⟩ := q
    cases q1
    refine x_iload_n d_A_task_17 rfl ?_
    refine x_iconst (v := nI 0) d_A_task_18 (by decide) ?_
    refine x_iconst (v := nI 3) d_A_task_19 (by decide) ?_
    refine x_callS (M' := m_A_demandRange) (As := [_, _, _]) (fr' := 7) (wd' := 102) d_A_task_20 pl_A_demandRange rfl (Nat.le_of_ble_eq_true rfl) (by decide) (by decide) wc_A_demandRange wi_A wl_A_81 ws_A_demandRange (by decide) np_A_demandRange (Nat.le_of_ble_eq_true rfl) (fun q hq => by cases hq) (c_A_rangeX hnt (fun q => hok ⟨g1, q⟩)) (fun k a h1 q => ?_) (fun v h1 q => by cases q.1)
    obtain ⟨q1, rfl⟩ := q
    cases q1
    exact ⟨rfl, rfl⟩
  · skip
    refine x_callS (M' := m_A_demandRange) (As := [_, _, _]) (fr' := 7) (wd' := 102) d_A_task_14 pl_A_demandRange rfl (Nat.le_of_ble_eq_true rfl) (by decide) (by decide) wc_A_demandRange wi_A wl_A_81 ws_A_demandRange (by decide) np_A_demandRange (Nat.le_of_ble_eq_true rfl) (fun q hq => by cases hq) (c_A_rangeX hnt g1) (fun k a h1 q => ?_) (fun v h1 q => by cases q.1)
    obtain ⟨q1, rfl⟩ := q
    cases q1
    exact ⟨rfl, rfl⟩
theorem c_A_taskX1 (hnt : l.stackTraces = false) (hs : CSh h0 z) {mp t w : Int32} (hok : okt mp t w) (hu : C 0 7 = 0) : xVM l G 8 124 m_A_task [.ref z, .int mp, .int t, .int w] (cset z C b tk h0) (fun q h' => q = .inr (1, xnx (cset z C b tk h0)) ∧ h' = thrw 1 (cset z C b tk h0)) := by
  unfold xVM
  refine ta_pre ?_
  refine x_callS (M' := m_A_demandRange) (As := [_, _, _]) (fr' := 7) (wd' := 102) d_A_task_14 pl_A_demandRange rfl (Nat.le_of_ble_eq_true rfl) (by decide) (by decide) wc_A_demandRange wi_A wl_A_81 ws_A_demandRange (by decide) np_A_demandRange (Nat.le_of_ble_eq_true rfl) (fun q hq => by cases hq) (c_A_range hok.1) (fun k a h1 q => by cases q.1) (fun v h1 q => ?_)
  obtain ⟨q1, rfl⟩ := q
  cases q1
  refine x_iload_n d_A_task_17 rfl ?_
  refine x_iconst (v := nI 0) d_A_task_18 (by decide) ?_
  refine x_iconst (v := nI 3) d_A_task_19 (by decide) ?_
  refine x_callS (M' := m_A_demandRange) (As := [_, _, _]) (fr' := 7) (wd' := 102) d_A_task_20 pl_A_demandRange rfl (Nat.le_of_ble_eq_true rfl) (by decide) (by decide) wc_A_demandRange wi_A wl_A_81 ws_A_demandRange (by decide) np_A_demandRange (Nat.le_of_ble_eq_true rfl) (fun q hq => by cases hq) (c_A_range hok.2) (fun k a h1 q => by cases q.1) (fun v h1 q => ?_)
  obtain ⟨q1, rfl⟩ := q
  cases q1
  first | refine x_aload_n d_A_task_23 rfl ?_ | refine x_aloadq_n d_A_task_23 rfl ?_
  refine x_callV (M' := m_A_demandJob) (As := []) (fr' := 7) (wd' := 102) d_A_task_24 hs.A rfl pl_A_demandJob rfl (Nat.le_of_ble_eq_true rfl) (by decide) (by decide) wc_A_demandJob wi_A wl_A_127 wm_A_demandJob we_A_demandJob (by decide) np_A_demandJob (Nat.le_of_ble_eq_true rfl) (fun q hq => by cases hq) (c_A_jobX hnt hs hu) (fun k a h1 q => ?_) (fun v h1 q => by cases q.1)
  obtain ⟨q1, rfl⟩ := q
  cases q1
  exact ⟨rfl, rfl⟩
theorem c_A_taskX2 (hnt : l.stackTraces = false) (hs : CSh h0 z) {mp w : Int32} {t r : Nat} (hok : okt mp (nI t) w) (ht6 : t < 6) (hu : ¬ C 0 7 = 0) (hc : C 0 8 = nI c) (hc6 : c ≤ 6) (hr : C (jo b) 3 = nI r) (hr3 : r ≤ 3) (htc : (if mp = 0 then r else c) ≤ t) :
    xVM l G 8 124 m_A_task [.ref z, .int mp, .int (nI t), .int w] (cset z C b tk h0) (fun q h' => q = .inr (2, xnx (cset z C b tk h0)) ∧ h' = thrw 2 (cset z C b tk h0)) := by
  unfold xVM
  refine ta_pre ?_
  refine x_callS (M' := m_A_demandRange) (As := [_, _, _]) (fr' := 7) (wd' := 102) d_A_task_14 pl_A_demandRange rfl (Nat.le_of_ble_eq_true rfl) (by decide) (by decide) wc_A_demandRange wi_A wl_A_81 ws_A_demandRange (by decide) np_A_demandRange (Nat.le_of_ble_eq_true rfl) (fun q hq => by cases hq) (c_A_range hok.1) (fun k a h1 q => by cases q.1) (fun v h1 q => ?_)
  obtain ⟨q1, rfl⟩ := q
  cases q1
  refine x_iload_n d_A_task_17 rfl ?_
  refine x_iconst (v := nI 0) d_A_task_18 (by decide) ?_
  refine x_iconst (v := nI 3) d_A_task_19 (by decide) ?_
  refine x_callS (M' := m_A_demandRange) (As := [_, _, _]) (fr' := 7) (wd' := 102) d_A_task_20 pl_A_demandRange rfl (Nat.le_of_ble_eq_true rfl) (by decide) (by decide) wc_A_demandRange wi_A wl_A_81 ws_A_demandRange (by decide) np_A_demandRange (Nat.le_of_ble_eq_true rfl) (fun q hq => by cases hq) (c_A_range hok.2) (fun k a h1 q => by cases q.1) (fun v h1 q => ?_)
  obtain ⟨q1, rfl⟩ := q
  cases q1
  first | refine x_aload_n d_A_task_23 rfl ?_ | refine x_aloadq_n d_A_task_23 rfl ?_
  refine x_callV (M' := m_A_demandJob) (As := []) (fr' := 7) (wd' := 102) d_A_task_24 hs.A rfl pl_A_demandJob rfl (Nat.le_of_ble_eq_true rfl) (by decide) (by decide) wc_A_demandJob wi_A wl_A_127 wm_A_demandJob we_A_demandJob (by decide) np_A_demandJob (Nat.le_of_ble_eq_true rfl) (fun q hq => by cases hq) (c_A_job hs hu) (fun k a h1 q => by cases q.1) (fun v h1 q => ?_)
  obtain ⟨q1, rfl⟩ := q
  cases q1
  refine x_iload_n d_A_task_27 rfl ?_
  first | refine x_aload_n d_A_task_28 rfl ?_ | refine x_aloadq_n d_A_task_28 rfl ?_
  refine x_iload_n d_A_task_29 rfl ?_
  refine x_callV (M' := m_A_taskCount) (As := [_]) (fr' := 0) (wd' := 0) d_A_task_30 hs.A rfl pl_A_taskCount rfl (Nat.le_of_ble_eq_true rfl) (by decide) (by decide) wc_A_taskCount wi_A wl_A_162 wm_A_taskCount we_A_taskCount (by decide) np_A_taskCount (Nat.le_of_ble_eq_true rfl) (fun q hq => by cases hq) (c_A_taskCount hs _) (fun k a h1 q => by cases q.1) (fun v h1 q => ?_)
  obtain ⟨q1, rfl⟩ := q
  cases q1
  by_cases hm : mp = 0
  · rw [if_pos hm] at htc
    rw [if_pos hm, hr]
    refine x_icmp_lt_f 44 d_A_task_33 (by decide) ((nI_nlt htc (by omega))) ?_
    exact x_thr2 rfl d_A_task_36 d_A_task_39 d_A_task_40 d_A_task_43 rfl hnt (by decide) (by decide) (Nat.le_of_ble_eq_true rfl) ⟨rfl, rfl⟩
  · rw [if_neg hm] at htc
    rw [if_neg hm, hc]
    refine x_icmp_lt_f 44 d_A_task_33 (by decide) ((nI_nlt htc (by omega))) ?_
    exact x_thr2 rfl d_A_task_36 d_A_task_39 d_A_task_40 d_A_task_43 rfl hnt (by decide) (by decide) (Nat.le_of_ble_eq_true rfl) ⟨rfl, rfl⟩
end XC13
