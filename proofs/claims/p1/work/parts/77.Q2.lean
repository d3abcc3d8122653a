/-- what a wrapper comes to: cd: the code of each throw -/
def wP (QA : xR → xH → Prop) (a : Nat) (cd : Nat → Nat) : xR → xH → Prop := fun r h' => (∃ i h1, QA (.inl (some (.int i))) h1 ∧ r = .inl (some (.int (nI 0))) ∧ h' = xwJ h1 a 0 i.toInt64) ∨ (∃ k q, QA (.inr (k, q)) h' ∧ r = .inl (some (.int (nI (cd k)))))
def wV (QA : xR → xH → Prop) (cd : Nat → Nat) : xR → xH → Prop := fun r h' => (QA (.inl none) h' ∧ r = .inl (some (.int (nI 0)))) ∨ (∃ k q, QA (.inr (k, q)) h' ∧ r = .inl (some (.int (nI (cd k)))))
section XQ2
variable {l : Launch} {G : xG} {H : xH} {QA : xR → xH → Prop} {z a : Nat}
abbrev cd_chunk : Nat → Nat := fun k => if k = 0 then 1 else 2
theorem w_chunk {x : Int64} {n f : Int32} (hT : xT H z = 0 + 1) (hq : xVM l G 8 124 m_A_chunk [.ref z, .long x, .int n, .int f] H QA) (ok : ∀ v h1, QA (.inl v) h1 → ∃ i, v = some (.int i) ∧ xT h1 a = 102 ∧ xN h1 a = 1) (bad : ∀ k q h1, QA (.inr (k, q)) h1 → k = 0 ∨ k = 1) : xVM l G 9 148 m_L_chunk [.ref z, .long x, .int n, .int f, .ref a] H (wP QA a cd_chunk) := by
  unfold xVM
  first | refine x_aload d_L_chunk_0 rfl ?_ | refine x_aloadq d_L_chunk_0 rfl ?_
  refine x_iconst (v := nI 0) d_L_chunk_2 (by decide) ?_
  first | refine x_aload_n d_L_chunk_3 rfl ?_ | refine x_aloadq_n d_L_chunk_3 rfl ?_
  refine x_lload_n d_L_chunk_4 rfl ?_
  refine x_iload_n d_L_chunk_5 rfl ?_
  refine x_iload d_L_chunk_6 rfl ?_
  refine x_callVC (M' := m_A_chunk) (As := [_, _, _]) (fr' := 8) (wd' := 124) d_L_chunk_8 hT rfl pl_A_chunk rfl (Nat.le_of_ble_eq_true rfl) (by decide) (by decide) wc_A_chunk wi_A wl_L_7 wm_A_chunk we_A_chunk (by decide) np_A_chunk (Nat.le_of_ble_eq_true rfl) (hq) (fun k e h1 q => ?_) (fun v h1 q => ?_)
  · rcases bad _ _ _ q with rfl | rfl
    · refine ⟨16, ⟨[], [(0, 13, 20, 15)], 0, 13, 13, _, rfl, by decide, by decide, by decide, rfl, wk_L_13, wz_IllegalArgumentException, (fun y hy => by cases hy)⟩, ?_⟩
      first | refine x_astore d_L_chunk_16 (by decide) ?_ | refine x_astoreq d_L_chunk_16 (by decide) ?_ | refine x_astoreN d_L_chunk_16 (by decide) ?_
      refine x_iconst (v := nI 1) d_L_chunk_18 (by decide) ?_
      refine x_iret d_L_chunk_19 rfl (by first | rfl | assumption) ?_
      exact Or.inr ⟨0, _, q, rfl⟩
    · refine ⟨20, ⟨[(0, 13, 16, 13)], [], 0, 13, 15, _, rfl, by decide, by decide, by decide, rfl, wk_L_15, wz_IllegalStateException, (fun y hy => by cases List.mem_singleton.mp hy; exact ⟨by decide, _, wk_L_13, by decide +kernel⟩)⟩, ?_⟩
      first | refine x_astore d_L_chunk_20 (by decide) ?_ | refine x_astoreq d_L_chunk_20 (by decide) ?_ | refine x_astoreN d_L_chunk_20 (by decide) ?_
      refine x_iconst (v := nI 2) d_L_chunk_22 (by decide) ?_
      refine x_iret d_L_chunk_23 rfl (by first | rfl | assumption) ?_
      exact Or.inr ⟨1, _, q, rfl⟩
  · obtain ⟨i, rfl, t1, t2⟩ := ok _ _ q
    refine x_i2l d_L_chunk_11 ?_
    refine x_last0 d_L_chunk_12 (by assumption) (by assumption) ?_
    refine x_goto (tgt := 24) d_L_chunk_13 (by decide) ?_
    refine x_iconst (v := nI 0) d_L_chunk_24 (by decide) ?_
    refine x_iret d_L_chunk_25 rfl (by first | rfl | assumption) ?_
    exact Or.inl ⟨i, h1, q, rfl, rfl⟩
abbrev cd_worker : Nat → Nat := fun k => 1
theorem w_worker {n f : Int32} (hT : xT H z = 0 + 1) (hq : xVM l G 8 124 m_A_worker [.ref z, .int n, .int f] H QA) (ok : ∀ v h1, QA (.inl v) h1 → v = none) (bad : ∀ k q h1, QA (.inr (k, q)) h1 → k = 0) : xVM l G 9 146 m_L_worker [.ref z, .int n, .int f] H (wV QA cd_worker) := by
  unfold xVM
  first | refine x_aload_n d_L_worker_0 rfl ?_ | refine x_aloadq_n d_L_worker_0 rfl ?_
  refine x_iload_n d_L_worker_1 rfl ?_
  refine x_iload_n d_L_worker_2 rfl ?_
  refine x_callVC (M' := m_A_worker) (As := [_, _]) (fr' := 8) (wd' := 124) d_L_worker_3 hT rfl pl_A_worker rfl (Nat.le_of_ble_eq_true rfl) (by decide) (by decide) wc_A_worker wi_A wl_L_17 wm_A_worker we_A_worker (by decide) np_A_worker (Nat.le_of_ble_eq_true rfl) (hq) (fun k e h1 q => ?_) (fun v h1 q => ?_)
  · obtain rfl := bad _ _ _ q
    refine ⟨9, ⟨[], [], 0, 6, 13, _, rfl, by decide, by decide, by decide, rfl, wk_L_13, wz_IllegalArgumentException, (fun y hy => by cases hy)⟩, ?_⟩
    first | refine x_astore_n d_L_worker_9 (by decide) ?_ | refine x_astoreq_n d_L_worker_9 (by decide) ?_ | refine x_astore_nN d_L_worker_9 (by decide) ?_
    refine x_iconst (v := nI 1) d_L_worker_10 (by decide) ?_
    refine x_iret d_L_worker_11 rfl (by first | rfl | assumption) ?_
    exact Or.inr ⟨0, _, q, rfl⟩
  · obtain rfl := ok _ _ q
    refine x_goto (tgt := 12) d_L_worker_6 (by decide) ?_
    refine x_iconst (v := nI 0) d_L_worker_12 (by decide) ?_
    refine x_iret d_L_worker_13 rfl (by first | rfl | assumption) ?_
    exact Or.inl ⟨q, rfl⟩
abbrev cd_speed : Nat → Nat := fun k => 1
theorem w_speed {n f : Int32} (hT : xT H z = 0 + 1) (hq : xVM l G 8 124 m_A_speed [.ref z, .int n, .int f] H QA) (ok : ∀ v h1, QA (.inl v) h1 → v = none) (bad : ∀ k q h1, QA (.inr (k, q)) h1 → k = 0) : xVM l G 9 146 m_L_speed [.ref z, .int n, .int f] H (wV QA cd_speed) := by
  unfold xVM
  first | refine x_aload_n d_L_speed_0 rfl ?_ | refine x_aloadq_n d_L_speed_0 rfl ?_
  refine x_iload_n d_L_speed_1 rfl ?_
  refine x_iload_n d_L_speed_2 rfl ?_
  refine x_callVC (M' := m_A_speed) (As := [_, _]) (fr' := 8) (wd' := 124) d_L_speed_3 hT rfl pl_A_speed rfl (Nat.le_of_ble_eq_true rfl) (by decide) (by decide) wc_A_speed wi_A wl_L_21 wm_A_speed we_A_speed (by decide) np_A_speed (Nat.le_of_ble_eq_true rfl) (hq) (fun k e h1 q => ?_) (fun v h1 q => ?_)
  · obtain rfl := bad _ _ _ q
    refine ⟨9, ⟨[], [], 0, 6, 13, _, rfl, by decide, by decide, by decide, rfl, wk_L_13, wz_IllegalArgumentException, (fun y hy => by cases hy)⟩, ?_⟩
    first | refine x_astore_n d_L_speed_9 (by decide) ?_ | refine x_astoreq_n d_L_speed_9 (by decide) ?_ | refine x_astore_nN d_L_speed_9 (by decide) ?_
    refine x_iconst (v := nI 1) d_L_speed_10 (by decide) ?_
    refine x_iret d_L_speed_11 rfl (by first | rfl | assumption) ?_
    exact Or.inr ⟨0, _, q, rfl⟩
  · obtain rfl := ok _ _ q
    refine x_goto (tgt := 12) d_L_speed_6 (by decide) ?_
    refine x_iconst (v := nI 0) d_L_speed_12 (by decide) ?_
    refine x_iret d_L_speed_13 rfl (by first | rfl | assumption) ?_
    exact Or.inl ⟨q, rfl⟩
abbrev cd_begin : Nat → Nat := fun k => if k = 0 then 1 else 2
theorem w_begin {m r p B : Int32} (hT : xT H z = 0 + 1) (hq : xVM l G 8 124 m_A_begin [.ref z, .int m, .int r, .int p, .int B] H QA) (ok : ∀ v h1, QA (.inl v) h1 → ∃ i, v = some (.int i) ∧ xT h1 a = 102 ∧ xN h1 a = 1) (bad : ∀ k q h1, QA (.inr (k, q)) h1 → k = 0 ∨ k = 1) : xVM l G 9 149 m_L_begin [.ref z, .int m, .int r, .int p, .int B, .ref a] H (wP QA a cd_begin) := by
  unfold xVM
  first | refine x_aload d_L_begin_0 rfl ?_ | refine x_aloadq d_L_begin_0 rfl ?_
  refine x_iconst (v := nI 0) d_L_begin_2 (by decide) ?_
  first | refine x_aload_n d_L_begin_3 rfl ?_ | refine x_aloadq_n d_L_begin_3 rfl ?_
  refine x_iload_n d_L_begin_4 rfl ?_
  refine x_iload_n d_L_begin_5 rfl ?_
  refine x_iload_n d_L_begin_6 rfl ?_
  refine x_iload d_L_begin_7 rfl ?_
  refine x_callVC (M' := m_A_begin) (As := [_, _, _, _]) (fr' := 8) (wd' := 124) d_L_begin_9 hT rfl pl_A_begin rfl (Nat.le_of_ble_eq_true rfl) (by decide) (by decide) wc_A_begin wi_A wl_L_25 wm_A_begin we_A_begin (by decide) np_A_begin (Nat.le_of_ble_eq_true rfl) (hq) (fun k e h1 q => ?_) (fun v h1 q => ?_)
  · rcases bad _ _ _ q with rfl | rfl
    · refine ⟨17, ⟨[], [(0, 14, 21, 15)], 0, 14, 13, _, rfl, by decide, by decide, by decide, rfl, wk_L_13, wz_IllegalArgumentException, (fun y hy => by cases hy)⟩, ?_⟩
      first | refine x_astore d_L_begin_17 (by decide) ?_ | refine x_astoreq d_L_begin_17 (by decide) ?_ | refine x_astoreN d_L_begin_17 (by decide) ?_
      refine x_iconst (v := nI 1) d_L_begin_19 (by decide) ?_
      refine x_iret d_L_begin_20 rfl (by first | rfl | assumption) ?_
      exact Or.inr ⟨0, _, q, rfl⟩
    · refine ⟨21, ⟨[(0, 14, 17, 13)], [], 0, 14, 15, _, rfl, by decide, by decide, by decide, rfl, wk_L_15, wz_IllegalStateException, (fun y hy => by cases List.mem_singleton.mp hy; exact ⟨by decide, _, wk_L_13, by decide +kernel⟩)⟩, ?_⟩
      first | refine x_astore d_L_begin_21 (by decide) ?_ | refine x_astoreq d_L_begin_21 (by decide) ?_ | refine x_astoreN d_L_begin_21 (by decide) ?_
      refine x_iconst (v := nI 2) d_L_begin_23 (by decide) ?_
      refine x_iret d_L_begin_24 rfl (by first | rfl | assumption) ?_
      exact Or.inr ⟨1, _, q, rfl⟩
  · obtain ⟨i, rfl, t1, t2⟩ := ok _ _ q
    refine x_i2l d_L_begin_12 ?_
    refine x_last0 d_L_begin_13 (by assumption) (by assumption) ?_
    refine x_goto (tgt := 25) d_L_begin_14 (by decide) ?_
    refine x_iconst (v := nI 0) d_L_begin_25 (by decide) ?_
    refine x_iret d_L_begin_26 rfl (by first | rfl | assumption) ?_
    exact Or.inl ⟨i, h1, q, rfl, rfl⟩
abbrev cd_run : Nat → Nat := fun k => if k = 0 then 1 else if k = 1 then 2 else 3
theorem w_run {n : Int32} (hT : xT H z = 0 + 1) (hq : xVM l G 8 124 m_A_run [.ref z, .int n] H QA) (ok : ∀ v h1, QA (.inl v) h1 → ∃ i, v = some (.int i) ∧ xT h1 a = 102 ∧ xN h1 a = 1) (bad : ∀ k q h1, QA (.inr (k, q)) h1 → k = 0 ∨ k = 1 ∨ k = 3) : xVM l G 9 147 m_L_run [.ref z, .int n, .ref a] H (wP QA a cd_run) := by
  unfold xVM
  first | refine x_aload_n d_L_run_0 rfl ?_ | refine x_aloadq_n d_L_run_0 rfl ?_
  refine x_iconst (v := nI 0) d_L_run_1 (by decide) ?_
  first | refine x_aload_n d_L_run_2 rfl ?_ | refine x_aloadq_n d_L_run_2 rfl ?_
  refine x_iload_n d_L_run_3 rfl ?_
  refine x_callVC (M' := m_A_run) (As := [_]) (fr' := 8) (wd' := 124) d_L_run_4 hT rfl pl_A_run rfl (Nat.le_of_ble_eq_true rfl) (by decide) (by decide) wc_A_run wi_A wl_L_29 wm_A_run we_A_run (by decide) np_A_run (Nat.le_of_ble_eq_true rfl) (hq) (fun k e h1 q => ?_) (fun v h1 q => ?_)
  · rcases bad _ _ _ q with rfl | rfl | rfl
    · refine ⟨12, ⟨[], [(0, 9, 15, 15), (0, 9, 18, 33)], 0, 9, 13, _, rfl, by decide, by decide, by decide, rfl, wk_L_13, wz_IllegalArgumentException, (fun y hy => by cases hy)⟩, ?_⟩
      first | refine x_astore_n d_L_run_12 (by decide) ?_ | refine x_astoreq_n d_L_run_12 (by decide) ?_ | refine x_astore_nN d_L_run_12 (by decide) ?_
      refine x_iconst (v := nI 1) d_L_run_13 (by decide) ?_
      refine x_iret d_L_run_14 rfl (by first | rfl | assumption) ?_
      exact Or.inr ⟨0, _, q, rfl⟩
    · refine ⟨15, ⟨[(0, 9, 12, 13)], [(0, 9, 18, 33)], 0, 9, 15, _, rfl, by decide, by decide, by decide, rfl, wk_L_15, wz_IllegalStateException, (fun y hy => by cases List.mem_singleton.mp hy; exact ⟨by decide, _, wk_L_13, by decide +kernel⟩)⟩, ?_⟩
      first | refine x_astore_n d_L_run_15 (by decide) ?_ | refine x_astoreq_n d_L_run_15 (by decide) ?_ | refine x_astore_nN d_L_run_15 (by decide) ?_
      refine x_iconst (v := nI 2) d_L_run_16 (by decide) ?_
      refine x_iret d_L_run_17 rfl (by first | rfl | assumption) ?_
      exact Or.inr ⟨1, _, q, rfl⟩
    · refine ⟨18, ⟨[(0, 9, 12, 13), (0, 9, 15, 15)], [], 0, 9, 33, _, rfl, by decide, by decide, by decide, rfl, wk_L_33, wz_ArithmeticException, (fun y hy => by rcases List.mem_cons.mp hy with rfl | hy; exact ⟨by decide, _, wk_L_13, by decide +kernel⟩; cases List.mem_singleton.mp hy; exact ⟨by decide, _, wk_L_15, by decide +kernel⟩)⟩, ?_⟩
      first | refine x_astore_n d_L_run_18 (by decide) ?_ | refine x_astoreq_n d_L_run_18 (by decide) ?_ | refine x_astore_nN d_L_run_18 (by decide) ?_
      refine x_iconst (v := nI 3) d_L_run_19 (by decide) ?_
      refine x_iret d_L_run_20 rfl (by first | rfl | assumption) ?_
      exact Or.inr ⟨3, _, q, rfl⟩
  · obtain ⟨i, rfl, t1, t2⟩ := ok _ _ q
    refine x_i2l d_L_run_7 ?_
    refine x_last0 d_L_run_8 (by assumption) (by assumption) ?_
    refine x_goto (tgt := 21) d_L_run_9 (by decide) ?_
    refine x_iconst (v := nI 0) d_L_run_21 (by decide) ?_
    refine x_iret d_L_run_22 rfl (by first | rfl | assumption) ?_
    exact Or.inl ⟨i, h1, q, rfl, rfl⟩
abbrev cd_stop : Nat → Nat := fun k => 1
theorem w_stop  (hT : xT H z = 0 + 1) (hq : xVM l G 8 122 m_A_stop [.ref z] H QA) (ok : ∀ v h1, QA (.inl v) h1 → v = none) (bad : ∀ k q h1, QA (.inr (k, q)) h1 → k = 1) : xVM l G 9 142 m_L_stop [.ref z] H (wV QA cd_stop) := by
  unfold xVM
  first | refine x_aload_n d_L_stop_0 rfl ?_ | refine x_aloadq_n d_L_stop_0 rfl ?_
  refine x_callVC (M' := m_A_stop) (As := []) (fr' := 8) (wd' := 122) d_L_stop_1 hT rfl pl_A_stop rfl (Nat.le_of_ble_eq_true rfl) (by decide) (by decide) wc_A_stop wi_A wl_L_35 wm_A_stop we_A_stop (by decide) np_A_stop (Nat.le_of_ble_eq_true rfl) (hq) (fun k e h1 q => ?_) (fun v h1 q => ?_)
  · obtain rfl := bad _ _ _ q
    refine ⟨7, ⟨[], [], 0, 4, 15, _, rfl, by decide, by decide, by decide, rfl, wk_L_15, wz_IllegalStateException, (fun y hy => by cases hy)⟩, ?_⟩
    first | refine x_astore_n d_L_stop_7 (by decide) ?_ | refine x_astoreq_n d_L_stop_7 (by decide) ?_ | refine x_astore_nN d_L_stop_7 (by decide) ?_
    refine x_iconst (v := nI 1) d_L_stop_8 (by decide) ?_
    refine x_iret d_L_stop_9 rfl (by first | rfl | assumption) ?_
    exact Or.inr ⟨1, _, q, rfl⟩
  · obtain rfl := ok _ _ q
    refine x_goto (tgt := 10) d_L_stop_4 (by decide) ?_
    refine x_iconst (v := nI 0) d_L_stop_10 (by decide) ?_
    refine x_iret d_L_stop_11 rfl (by first | rfl | assumption) ?_
    exact Or.inl ⟨q, rfl⟩
abbrev cd_output : Nat → Nat := fun k => if k = 0 then 1 else 2
theorem w_output {p i w : Int32} (hT : xT H z = 0 + 1) (hq : xVM l G 8 124 m_A_output [.ref z, .int p, .int i, .int w] H QA) (ok : ∀ v h1, QA (.inl v) h1 → ∃ i, v = some (.int i) ∧ xT h1 a = 102 ∧ xN h1 a = 1) (bad : ∀ k q h1, QA (.inr (k, q)) h1 → k = 0 ∨ k = 2) : xVM l G 9 148 m_L_output [.ref z, .int p, .int i, .int w, .ref a] H (wP QA a cd_output) := by
  unfold xVM
  first | refine x_aload d_L_output_0 rfl ?_ | refine x_aloadq d_L_output_0 rfl ?_
  refine x_iconst (v := nI 0) d_L_output_2 (by decide) ?_
  first | refine x_aload_n d_L_output_3 rfl ?_ | refine x_aloadq_n d_L_output_3 rfl ?_
  refine x_iload_n d_L_output_4 rfl ?_
  refine x_iload_n d_L_output_5 rfl ?_
  refine x_iload_n d_L_output_6 rfl ?_
  refine x_callVC (M' := m_A_output) (As := [_, _, _]) (fr' := 8) (wd' := 124) d_L_output_7 hT rfl pl_A_output rfl (Nat.le_of_ble_eq_true rfl) (by decide) (by decide) wc_A_output wi_A wl_L_38 wm_A_output we_A_output (by decide) np_A_output (Nat.le_of_ble_eq_true rfl) (hq) (fun k e h1 q => ?_) (fun v h1 q => ?_)
  · rcases bad _ _ _ q with rfl | rfl
    · refine ⟨15, ⟨[], [(0, 12, 19, 42)], 0, 12, 13, _, rfl, by decide, by decide, by decide, rfl, wk_L_13, wz_IllegalArgumentException, (fun y hy => by cases hy)⟩, ?_⟩
      first | refine x_astore d_L_output_15 (by decide) ?_ | refine x_astoreq d_L_output_15 (by decide) ?_ | refine x_astoreN d_L_output_15 (by decide) ?_
      refine x_iconst (v := nI 1) d_L_output_17 (by decide) ?_
      refine x_iret d_L_output_18 rfl (by first | rfl | assumption) ?_
      exact Or.inr ⟨0, _, q, rfl⟩
    · refine ⟨19, ⟨[(0, 12, 15, 13)], [], 0, 12, 42, _, rfl, by decide, by decide, by decide, rfl, wk_L_42, wz_NoSuchElementException, (fun y hy => by cases List.mem_singleton.mp hy; exact ⟨by decide, _, wk_L_13, by decide +kernel⟩)⟩, ?_⟩
      first | refine x_astore d_L_output_19 (by decide) ?_ | refine x_astoreq d_L_output_19 (by decide) ?_ | refine x_astoreN d_L_output_19 (by decide) ?_
      refine x_iconst (v := nI 2) d_L_output_21 (by decide) ?_
      refine x_iret d_L_output_22 rfl (by first | rfl | assumption) ?_
      exact Or.inr ⟨2, _, q, rfl⟩
  · obtain ⟨i, rfl, t1, t2⟩ := ok _ _ q
    refine x_i2l d_L_output_10 ?_
    refine x_last0 d_L_output_11 (by assumption) (by assumption) ?_
    refine x_goto (tgt := 23) d_L_output_12 (by decide) ?_
    refine x_iconst (v := nI 0) d_L_output_23 (by decide) ?_
    refine x_iret d_L_output_24 rfl (by first | rfl | assumption) ?_
    exact Or.inl ⟨i, h1, q, rfl, rfl⟩
abbrev cd_find : Nat → Nat := fun k => 1
theorem w_find {n : Int32} (hT : xT H z = 0 + 1) (hq : xVM l G 7 102 m_A_find [.ref z, .int n] H QA) (ok : ∀ v h1, QA (.inl v) h1 → ∃ i, v = some (.int i) ∧ xT h1 a = 102 ∧ xN h1 a = 1) (bad : ∀ k q h1, QA (.inr (k, q)) h1 → k = 2) : xVM l G 8 125 m_L_find [.ref z, .int n, .ref a] H (wP QA a cd_find) := by
  unfold xVM
  first | refine x_aload_n d_L_find_0 rfl ?_ | refine x_aloadq_n d_L_find_0 rfl ?_
  refine x_iconst (v := nI 0) d_L_find_1 (by decide) ?_
  first | refine x_aload_n d_L_find_2 rfl ?_ | refine x_aloadq_n d_L_find_2 rfl ?_
  refine x_iload_n d_L_find_3 rfl ?_
  refine x_callVC (M' := m_A_find) (As := [_]) (fr' := 7) (wd' := 102) d_L_find_4 hT rfl pl_A_find rfl (Nat.le_of_ble_eq_true rfl) (by decide) (by decide) wc_A_find wi_A wl_L_44 wm_A_find we_A_find (by decide) np_A_find (Nat.le_of_ble_eq_true rfl) (hq) (fun k e h1 q => ?_) (fun v h1 q => ?_)
  · obtain rfl := bad _ _ _ q
    refine ⟨12, ⟨[], [], 0, 9, 42, _, rfl, by decide, by decide, by decide, rfl, wk_L_42, wz_NoSuchElementException, (fun y hy => by cases hy)⟩, ?_⟩
    first | refine x_astore_n d_L_find_12 (by decide) ?_ | refine x_astoreq_n d_L_find_12 (by decide) ?_ | refine x_astore_nN d_L_find_12 (by decide) ?_
    refine x_iconst (v := nI 1) d_L_find_13 (by decide) ?_
    refine x_iret d_L_find_14 rfl (by first | rfl | assumption) ?_
    exact Or.inr ⟨2, _, q, rfl⟩
  · obtain ⟨i, rfl, t1, t2⟩ := ok _ _ q
    refine x_i2l d_L_find_7 ?_
    refine x_last0 d_L_find_8 (by assumption) (by assumption) ?_
    refine x_goto (tgt := 15) d_L_find_9 (by decide) ?_
    refine x_iconst (v := nI 0) d_L_find_15 (by decide) ?_
    refine x_iret d_L_find_16 rfl (by first | rfl | assumption) ?_
    exact Or.inl ⟨i, h1, q, rfl, rfl⟩
abbrev cd_task : Nat → Nat := fun k => if k = 0 then 1 else if k = 2 then 2 else 3
theorem w_task {m t w : Int32} (hT : xT H z = 0 + 1) (hq : xVM l G 8 124 m_A_task [.ref z, .int m, .int t, .int w] H QA) (ok : ∀ v h1, QA (.inl v) h1 → ∃ i, v = some (.int i) ∧ xT h1 a = 102 ∧ xN h1 a = 1) (bad : ∀ k q h1, QA (.inr (k, q)) h1 → k = 0 ∨ k = 2 ∨ k = 1) : xVM l G 9 148 m_L_task [.ref z, .int m, .int t, .int w, .ref a] H (wP QA a cd_task) := by
  unfold xVM
  first | refine x_aload d_L_task_0 rfl ?_ | refine x_aloadq d_L_task_0 rfl ?_
  refine x_iconst (v := nI 0) d_L_task_2 (by decide) ?_
  first | refine x_aload_n d_L_task_3 rfl ?_ | refine x_aloadq_n d_L_task_3 rfl ?_
  refine x_iload_n d_L_task_4 rfl ?_
  refine x_iload_n d_L_task_5 rfl ?_
  refine x_iload_n d_L_task_6 rfl ?_
  refine x_callVC (M' := m_A_task) (As := [_, _, _]) (fr' := 8) (wd' := 124) d_L_task_7 hT rfl pl_A_task rfl (Nat.le_of_ble_eq_true rfl) (by decide) (by decide) wc_A_task wi_A wl_L_47 wm_A_task we_A_task (by decide) np_A_task (Nat.le_of_ble_eq_true rfl) (hq) (fun k e h1 q => ?_) (fun v h1 q => ?_)
  · rcases bad _ _ _ q with rfl | rfl | rfl
    · refine ⟨15, ⟨[], [(0, 12, 19, 42), (0, 12, 23, 15)], 0, 12, 13, _, rfl, by decide, by decide, by decide, rfl, wk_L_13, wz_IllegalArgumentException, (fun y hy => by cases hy)⟩, ?_⟩
      first | refine x_astore d_L_task_15 (by decide) ?_ | refine x_astoreq d_L_task_15 (by decide) ?_ | refine x_astoreN d_L_task_15 (by decide) ?_
      refine x_iconst (v := nI 1) d_L_task_17 (by decide) ?_
      refine x_iret d_L_task_18 rfl (by first | rfl | assumption) ?_
      exact Or.inr ⟨0, _, q, rfl⟩
    · refine ⟨19, ⟨[(0, 12, 15, 13)], [(0, 12, 23, 15)], 0, 12, 42, _, rfl, by decide, by decide, by decide, rfl, wk_L_42, wz_NoSuchElementException, (fun y hy => by cases List.mem_singleton.mp hy; exact ⟨by decide, _, wk_L_13, by decide +kernel⟩)⟩, ?_⟩
      first | refine x_astore d_L_task_19 (by decide) ?_ | refine x_astoreq d_L_task_19 (by decide) ?_ | refine x_astoreN d_L_task_19 (by decide) ?_
      refine x_iconst (v := nI 2) d_L_task_21 (by decide) ?_
      refine x_iret d_L_task_22 rfl (by first | rfl | assumption) ?_
      exact Or.inr ⟨2, _, q, rfl⟩
    · refine ⟨23, ⟨[(0, 12, 15, 13), (0, 12, 19, 42)], [], 0, 12, 15, _, rfl, by decide, by decide, by decide, rfl, wk_L_15, wz_IllegalStateException, (fun y hy => by rcases List.mem_cons.mp hy with rfl | hy; exact ⟨by decide, _, wk_L_13, by decide +kernel⟩; cases List.mem_singleton.mp hy; exact ⟨by decide, _, wk_L_42, by decide +kernel⟩)⟩, ?_⟩
      first | refine x_astore d_L_task_23 (by decide) ?_ | refine x_astoreq d_L_task_23 (by decide) ?_ | refine x_astoreN d_L_task_23 (by decide) ?_
      refine x_iconst (v := nI 3) d_L_task_25 (by decide) ?_
      refine x_iret d_L_task_26 rfl (by first | rfl | assumption) ?_
      exact Or.inr ⟨1, _, q, rfl⟩
  · obtain ⟨i, rfl, t1, t2⟩ := ok _ _ q
    refine x_i2l d_L_task_10 ?_
    refine x_last0 d_L_task_11 (by assumption) (by assumption) ?_
    refine x_goto (tgt := 27) d_L_task_12 (by decide) ?_
    refine x_iconst (v := nI 0) d_L_task_27 (by decide) ?_
    refine x_iret d_L_task_28 rfl (by first | rfl | assumption) ?_
    exact Or.inl ⟨i, h1, q, rfl, rfl⟩
abbrev cd_ofWorker : Nat → Nat := fun k => 1
theorem w_ofWorker {n f : Int32} (hT : xT H z = 0 + 1) (hq : xVM l G 8 124 m_A_ofWorker [.ref z, .int n, .int f] H QA) (ok : ∀ v h1, QA (.inl v) h1 → ∃ i, v = some (.int i) ∧ xT h1 a = 102 ∧ xN h1 a = 1) (bad : ∀ k q h1, QA (.inr (k, q)) h1 → k = 0) : xVM l G 9 146 m_L_ofWorker [.ref z, .int n, .int f, .ref a] H (wP QA a cd_ofWorker) := by
  unfold xVM
  first | refine x_aload_n d_L_ofWorker_0 rfl ?_ | refine x_aloadq_n d_L_ofWorker_0 rfl ?_
  refine x_iconst (v := nI 0) d_L_ofWorker_1 (by decide) ?_
  first | refine x_aload_n d_L_ofWorker_2 rfl ?_ | refine x_aloadq_n d_L_ofWorker_2 rfl ?_
  refine x_iload_n d_L_ofWorker_3 rfl ?_
  refine x_iload_n d_L_ofWorker_4 rfl ?_
  refine x_callVC (M' := m_A_ofWorker) (As := [_, _]) (fr' := 8) (wd' := 124) d_L_ofWorker_5 hT rfl pl_A_ofWorker rfl (Nat.le_of_ble_eq_true rfl) (by decide) (by decide) wc_A_ofWorker wi_A wl_L_51 wm_A_ofWorker we_A_ofWorker (by decide) np_A_ofWorker (Nat.le_of_ble_eq_true rfl) (hq) (fun k e h1 q => ?_) (fun v h1 q => ?_)
  · obtain rfl := bad _ _ _ q
    refine ⟨13, ⟨[], [], 0, 10, 13, _, rfl, by decide, by decide, by decide, rfl, wk_L_13, wz_IllegalArgumentException, (fun y hy => by cases hy)⟩, ?_⟩
    first | refine x_astore d_L_ofWorker_13 (by decide) ?_ | refine x_astoreq d_L_ofWorker_13 (by decide) ?_ | refine x_astoreN d_L_ofWorker_13 (by decide) ?_
    refine x_iconst (v := nI 1) d_L_ofWorker_15 (by decide) ?_
    refine x_iret d_L_ofWorker_16 rfl (by first | rfl | assumption) ?_
    exact Or.inr ⟨0, _, q, rfl⟩
  · obtain ⟨i, rfl, t1, t2⟩ := ok _ _ q
    refine x_i2l d_L_ofWorker_8 ?_
    refine x_last0 d_L_ofWorker_9 (by assumption) (by assumption) ?_
    refine x_goto (tgt := 17) d_L_ofWorker_10 (by decide) ?_
    refine x_iconst (v := nI 0) d_L_ofWorker_17 (by decide) ?_
    refine x_iret d_L_ofWorker_18 rfl (by first | rfl | assumption) ?_
    exact Or.inl ⟨i, h1, q, rfl, rfl⟩
end XQ2
