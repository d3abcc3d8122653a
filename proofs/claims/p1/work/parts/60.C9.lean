/-- one value more, in the class -/
def comb (r x v : Int32) : Int32 := if r = nI 0 then x + v else if r = nI 1 then x + nI 1 else if r = nI 2 then (if x < v then v else x) else if r = nI 3 then x * nI 31 + v else if r = nI 4 then (if v = 0 then nI 0 else x / v) else x
def ini (r v : Int32) : Int32 := if r = nI 1 then nI 1 else v
/-- what the pairs of a partition are reduced to: A the keys that are through, y the last -/
def crd (r f : Int32) : List KV → List KV → Option KV → Bool × List KV
  | [], A, y => (true, A ++ y.toList)
  | x :: q, A, none => if x.2 < f then crd r f q A none else crd r f q A (some (x.1, ini r x.2))
  | x :: q, A, some y => if x.2 < f then crd r f q A (some y) else if y.1 = x.1 then (if r = nI 4 ∧ x.2 = 0 then (false, A ++ [y]) else crd r f q A (some (y.1, comb r y.2 x.2))) else crd r f q (A ++ [y]) (some (x.1, ini r x.2))
/-- how often the key changes -/
def rk : Option Int32 → List KV → Nat
  | _, [] => 0
  | k, x :: q => (if k = some x.1 then 0 else 1) + rk (some x.1) q
theorem rk_le (k k' : Option Int32) : ∀ q, rk k q ≤ 1 + rk k' q
  | [] => by simp [rk]
  | x :: q => by unfold rk; split <;> split <;> omega
theorem rk_skip (k : Option Int32) (x : KV) (q : List KV) : rk k q ≤ rk k (x :: q) := by
  show rk k q ≤ (if k = some x.1 then 0 else 1) + rk (some x.1) q
  split
  · rename_i h; rw [h]; omega
  · exact rk_le _ _ _
theorem nI_nm1 {i : Nat} (h : i < 2 ^ 31) : ¬ nI i = -1 := fun q => by
  have e := congrArg Int32.toInt q
  rw [nI_toInt h, show (-1 : Int32).toInt = -1 from rfl] at e
  omega
theorem nI_ofp {i : Int32} (h : 0 ≤ i) : ∃ k, i = nI k ∧ k < 2 ^ 31 := by
  rw [Int32.le_iff_toInt_le, Int32.toInt_zero] at h
  have h2 := Int32.toInt_lt i
  refine ⟨i.toInt.toNat, ?_, by omega⟩
  apply Int32.toInt_inj.mp
  rw [nI_toInt (by omega)]
  omega
theorem idxOf_lt {f : Nat → Int32} {k : Int32} {i : Nat} : ∀ {n : Nat}, idxOf f k n = some i → i < n ∧ f i = k
  | 0, h => by cases h
  | n + 1, h => by
    unfold idxOf at h
    cases hx : idxOf f k n with
    | some j =>
      rw [hx] at h
      obtain rfl : j = i := Option.some.inj h
      have := idxOf_lt hx
      exact ⟨by omega, this.2⟩
    | none =>
      rw [hx] at h
      dsimp only at h
      split at h
      · rename_i e; obtain rfl : n = i := Option.some.inj h; exact ⟨by omega, e⟩
      · cases h
section XC9
variable {l : Launch} {G : xG} {h0 : xH} {z : Nat} {C : Nat → Nat → Int32} {b : Bool} {tk : Nat → Option Nat}
theorem c_idx (hs : CSh h0 z) {o cap : Nat} (ho : isP o cap) (k : Int32) {n : Nat} (hn : C o 2 = nI n) (hc : n ≤ cap) : xVM l G 0 0 m_P_indexOf [.ref (z + o), .int k] (cset z C b tk h0) (fun r h' => r = .inl (some (.int (oI (idxOf (C (o + 1)) k n)))) ∧ h' = cset z C b tk h0) := by
  have h1 := isP_lt ho
  refine xV.imp (c_P_indexOf (h := cset z C b tk h0) k (Prs_of hs ho) ((cset_I (by omega)).trans hn) hc) (fun r h' q9 => ⟨q9.1.trans ?_, q9.2⟩)
  rw [show xI (cset z C b tk h0) (z + (o + 1)) = C (o + 1) from funext (fun j => cset_I (by omega))]
  cases idxOf (C (o + 1)) k n <;> rfl
theorem c_J_combine {h : xH} (r x v : Int32) : xVM l G 1 21 m_J_combine [.int r, .int x, .int v] h (fun q h' => q = .inl (some (.int (comb r x v))) ∧ h' = h) := by
  unfold xVM
  refine x_iload_n d_J_combine_0 rfl ?_
  by_cases m0 : r = nI 0
  · subst m0
    refine x_swIn (tgt := 36) d_J_combine_1 (by decide) (by decide) rfl (by decide) ?_
    refine x_iload_n d_J_combine_36 rfl ?_
    refine x_iload_n d_J_combine_37 rfl ?_
    refine x_iadd d_J_combine_38 ?_
    refine x_iret d_J_combine_39 rfl (by first | rfl | assumption) ?_
    exact ⟨by unfold comb; rw [if_pos rfl], rfl⟩
  by_cases m1 : r = nI 1
  · subst m1
    refine x_swIn (tgt := 40) d_J_combine_1 (by decide) (by decide) rfl (by decide) ?_
    refine x_iload_n d_J_combine_40 rfl ?_
    refine x_iconst (v := nI 1) d_J_combine_41 (by decide) ?_
    refine x_iadd d_J_combine_42 ?_
    refine x_iret d_J_combine_43 rfl (by first | rfl | assumption) ?_
    exact ⟨by unfold comb; rw [if_neg m0, if_pos rfl], rfl⟩
  by_cases m2 : r = nI 2
  · subst m2
    refine x_swIn (tgt := 44) d_J_combine_1 (by decide) (by decide) rfl (by decide) ?_
    refine x_iload_n d_J_combine_44 rfl ?_
    refine x_iload_n d_J_combine_45 rfl ?_
    refine x_callS (M' := m_Z_max) (As := [_, _]) (fr' := 0) (wd' := 0) d_J_combine_46 pl_Z_max rfl (Nat.le_of_ble_eq_true rfl) (by decide) (by decide) wc_Z_max wi_Z wl_J_37 ws_Z_max (by decide) np_Z_max (Nat.le_of_ble_eq_true rfl) (fun q hq => by cases hq) (c_Z_max _ _) (fun k a h1 q => by cases q.1) (fun v h1 q => ?_)
    obtain ⟨q1, rfl⟩ := q
    cases q1
    refine x_iret d_J_combine_49 rfl (by first | rfl | assumption) ?_
    exact ⟨by unfold comb; rw [if_neg m0, if_neg m1, if_pos rfl], rfl⟩
  by_cases m3 : r = nI 3
  · subst m3
    refine x_swIn (tgt := 50) d_J_combine_1 (by decide) (by decide) rfl (by decide) ?_
    refine x_iload_n d_J_combine_50 rfl ?_
    refine x_bipush (v := nI 31) d_J_combine_51 (by decide) ?_
    refine x_imul d_J_combine_53 ?_
    refine x_iload_n d_J_combine_54 rfl ?_
    refine x_iadd d_J_combine_55 ?_
    refine x_iret d_J_combine_56 rfl (by first | rfl | assumption) ?_
    exact ⟨by unfold comb; rw [if_neg m0, if_neg m1, if_neg m2, if_pos rfl], rfl⟩
  by_cases m4 : r = nI 4
  · subst m4
    by_cases v0 : v = 0
    · skip
      refine x_swIn (tgt := 57) d_J_combine_1 (by decide) (by decide) rfl (by decide) ?_
      refine x_iload_n d_J_combine_57 rfl ?_
      refine x_if_ne_f 65 d_J_combine_58 (by decide) (v0) ?_
      refine x_iconst (v := nI 0) d_J_combine_61 (by decide) ?_
      refine x_goto (tgt := 68) d_J_combine_62 (by decide) ?_
      refine x_iret d_J_combine_68 rfl (by first | rfl | assumption) ?_
      exact ⟨by unfold comb; rw [if_neg m0, if_neg m1, if_neg m2, if_neg m3, if_pos rfl, if_pos v0], rfl⟩
    · skip
      refine x_swIn (tgt := 57) d_J_combine_1 (by decide) (by decide) rfl (by decide) ?_
      refine x_iload_n d_J_combine_57 rfl ?_
      refine x_if_ne_t (tgt := 65) d_J_combine_58 (by decide) (v0) ?_
      refine x_iload_n d_J_combine_65 rfl ?_
      refine x_iload_n d_J_combine_66 rfl ?_
      refine x_idiv d_J_combine_67 (by first | decide | assumption) ?_
      refine x_iret d_J_combine_68 rfl (by first | rfl | assumption) ?_
      exact ⟨by unfold comb; rw [if_neg m0, if_neg m1, if_neg m2, if_neg m3, if_pos rfl, if_neg v0], rfl⟩
  · have t0 := toInt_ne (by omega) m0
    have t1 := toInt_ne (by omega) m1
    have t2 := toInt_ne (by omega) m2
    have t3 := toInt_ne (by omega) m3
    have t4 := toInt_ne (by omega) m4
    refine x_swOut (tgt := 69) d_J_combine_1 (by omega) (by decide) ?_
    refine x_iload_n d_J_combine_69 rfl ?_
    refine x_iret d_J_combine_70 rfl (by first | rfl | assumption) ?_
    exact ⟨by unfold comb; rw [if_neg m0, if_neg m1, if_neg m2, if_neg m3, if_neg m4], rfl⟩
theorem c_J_reduce (hs : CSh h0 z) {d : Bool} {p : Nat} (hp : p < 3) {q : List KV} (hq : pqS C (jo d + 3 + 6 * p) q = C) (hq6 : q.length ≤ 216) (hk6 : rk none q ≤ 36) :
    xVM l G 2 43 m_J_reduce [.ref (z + jo d), .int (nI p)] (cset z C b tk h0) (fun r h' => r = .inl (some (.int (bI ((crd (C (jo d) 2) (C (jo d) 4) q [] none).1 = true)))) ∧ h' = cset z (pqS C (jo d + 6 + 6 * p) (crd (C (jo d) 2) (C (jo d) 4) q [] none).2) b tk h0) := by
  have ip : isP (jo d + 3 + 6 * p) 216 := isPt hp
  have io : isP (jo d + 6 + 6 * p) 36 := isPo hp
  have hn : C (jo d + 3 + 6 * p) 2 = nI q.length := by rw [← hq]; exact pq_n
  have lp : ∀ (B A A' : List KV) (y : Option KV), A ++ B = q → (y = none → A' = []) → (A' ++ y.toList).length + rk (y.map (fun x => x.1)) B ≤ 36 →
      xV l G 2 43 m_J_reduce 22 [(4, .int (nI A.length)), (3, .ref (z + (jo d + 6 + 6 * p))), (2, .ref (z + (jo d + 3 + 6 * p))), (0, .ref (z + jo d)), (1, .int (nI p))] [] (cset z (pqS C (jo d + 6 + 6 * p) (A' ++ y.toList)) b tk h0)
        (fun r h' => r = .inl (some (.int (bI ((crd (C (jo d) 2) (C (jo d) 4) B A' y).1 = true)))) ∧ h' = cset z (pqS C (jo d + 6 + 6 * p) (crd (C (jo d) 2) (C (jo d) 4) B A' y).2) b tk h0) := by
    intro B
    induction B with
    | nil =>
      intro A A' y hA hy h36
      rw [List.append_nil] at hA
      subst hA
      refine x_iload d_J_reduce_22 rfl ?_
      first | refine x_aload_n d_J_reduce_24 rfl ?_ | refine x_aloadq_n d_J_reduce_24 rfl ?_
      refine xc_get (kc := 3) (j := 2) d_J_reduce_25 (hs.P (by assumption)) (P75 (by assumption)) rfl (by decide) wf_J_34 (fun _ _ => rfl) ?_
      rw [pq_k (by omega), hn]
      refine x_icmp_ge_t (tgt := 154) d_J_reduce_28 (by decide) ((nI_le (by omega) (by omega))) ?_
      refine x_iconst (v := nI 1) d_J_reduce_154 (by decide) ?_
      refine x_iret d_J_reduce_155 rfl (by first | rfl | assumption) ?_
      exact ⟨by rw [show (crd (C (jo d) 2) (C (jo d) 4) [] A' y).1 = true by cases y <;> rfl, bI_t rfl], by rw [show (crd (C (jo d) 2) (C (jo d) 4) [] A' y).2 = A' ++ y.toList by cases y <;> rfl]⟩
    | cons x B ih =>
      intro A A' y hA hy h36
      have hl : A.length < q.length := by rw [← hA]; simp
      have hl6 : A.length < 216 := by omega
      have ek : ∀ L, pqS C (jo d + 6 + 6 * p) L (jo d + 3 + 6 * p + 1) A.length = x.1 := fun L => by rw [pq_k (by omega), ← hq, ← hA]; exact pq_key
      have ev : ∀ L, pqS C (jo d + 6 + 6 * p) L (jo d + 3 + 6 * p + 2) A.length = x.2 := fun L => by rw [pq_k (by omega), ← hq, ← hA]; exact pq_val
      have hA1 : (A ++ [x]) ++ B = q := by rw [← hA]; simp
      have hA2 : (A ++ [x]).length = A.length + 1 := by simp
      refine x_iload d_J_reduce_22 rfl ?_
      first | refine x_aload_n d_J_reduce_24 rfl ?_ | refine x_aloadq_n d_J_reduce_24 rfl ?_
      refine xc_get (kc := 3) (j := 2) d_J_reduce_25 (hs.P (by assumption)) (P75 (by assumption)) rfl (by decide) wf_J_34 (fun _ _ => rfl) ?_
      rw [pq_k (by omega), hn]
      refine x_icmp_ge_f 154 d_J_reduce_28 (by decide) ((nI_ge hl (by omega))) ?_
      first | refine x_aload_n d_J_reduce_31 rfl ?_ | refine x_aloadq_n d_J_reduce_31 rfl ?_
      refine xc_ref (kc := 3) (j := 1) d_J_reduce_32 (hs.P (by assumption)) ⟨P1 (by assumption), by decide⟩ rfl (by decide) wf_J_54 (fun _ _ => rfl) (hs.P2 (by assumption)).2.1 ?_
      refine x_iload d_J_reduce_35 rfl ?_
      first | refine xc_aldK d_J_reduce_37 hs (by assumption) (by first | assumption | omega) ?_ | refine xc_aldV d_J_reduce_37 hs (by assumption) (by first | assumption | omega) ?_ | refine xc_aldN d_J_reduce_37 hs (by first | assumption | omega) (by first | assumption | omega) ?_
      rw [ev]
      refine x_istore d_J_reduce_38 (by decide) ?_
      refine x_iload d_J_reduce_40 rfl ?_
      first | refine x_aload_n d_J_reduce_42 rfl ?_ | refine x_aloadq_n d_J_reduce_42 rfl ?_
      refine xc_get (kc := 2) (j := 4) d_J_reduce_43 (hs.J _) (jo75 _) rfl (by decide) wf_J_28 (fun _ _ => rfl) ?_
      rw [pq_k (by omega)]
      by_cases cv : x.2 < C (jo d) 4
      · have nx := ih (A ++ [x]) A' y hA1 hy (by have := rk_skip (y.map (fun x => x.1)) x B; omega)
        rw [hA2] at nx
        rw [show crd (C (jo d) 2) (C (jo d) 4) (x :: B) A' y = crd (C (jo d) 2) (C (jo d) 4) B A' y by cases y <;> exact if_pos cv]
        refine x_icmp_ge_f 52 d_J_reduce_46 (by decide) ((Int32.not_le.mpr cv)) ?_
        refine x_goto (tgt := 148) d_J_reduce_49 (by decide) ?_
        first | refine x_incN d_J_reduce_148 rfl (by decide) ?_ | refine x_inc d_J_reduce_148 rfl (by decide) ?_
        refine x_goto (tgt := 22) d_J_reduce_151 (by decide) ?_
        refine xV.loc (nx) (by repeat (first | exact trivial | refine ⟨rfl, ?_⟩))
      · cases y with
        | none =>
          obtain rfl := hy rfl
          rw [show rk (Option.map (fun x => x.1) (none : Option KV)) (x :: B) = 1 + rk (some x.1) B from rfl] at h36
          have nx := ih (A ++ [x]) [] (some (x.1, ini (C (jo d) 2) x.2)) hA1 (fun q => by cases q) (by show 1 + rk (some x.1) B ≤ 36; have h37 : 0 + (1 + rk (some x.1) B) ≤ 36 := h36; omega)
          rw [hA2] at nx
          rw [show crd (C (jo d) 2) (C (jo d) 4) (x :: B) [] none = crd (C (jo d) 2) (C (jo d) 4) B [] (some (x.1, ini (C (jo d) 2) x.2)) from if_neg cv]
          refine x_icmp_ge_t (tgt := 52) d_J_reduce_46 (by decide) ((Int32.not_lt.mp cv)) ?_
          first | refine x_aload_n d_J_reduce_52 rfl ?_ | refine x_aloadq_n d_J_reduce_52 rfl ?_
          refine xc_get (kc := 3) (j := 2) d_J_reduce_53 (hs.P (by assumption)) (P75 (by assumption)) rfl (by decide) wf_J_34 (fun _ _ => rfl) ?_
          rw [pq_n, show (([] : List KV) ++ (none : Option KV).toList).length = 0 from rfl]
          refine x_iconst (v := nI 1) d_J_reduce_56 (by decide) ?_
          refine x_isub d_J_reduce_57 ?_
          refine x_istore d_J_reduce_58 (by decide) ?_
          refine x_iload d_J_reduce_60 rfl ?_
          refine x_if_lt_t (tgt := 82) d_J_reduce_62 (by decide) ((by decide)) ?_
          first | refine x_aload_n d_J_reduce_82 rfl ?_ | refine x_aloadq_n d_J_reduce_82 rfl ?_
          first | refine x_aload_n d_J_reduce_83 rfl ?_ | refine x_aloadq_n d_J_reduce_83 rfl ?_
          refine xc_ref (kc := 3) (j := 0) d_J_reduce_84 (hs.P (by assumption)) ⟨P1 (by assumption), by decide⟩ rfl (by decide) wf_J_46 (fun _ _ => rfl) (hs.P2 (by assumption)).1 ?_
          refine x_iload d_J_reduce_87 rfl ?_
          first | refine xc_aldK d_J_reduce_89 hs (by assumption) (by first | assumption | omega) ?_ | refine xc_aldV d_J_reduce_89 hs (by assumption) (by first | assumption | omega) ?_ | refine xc_aldN d_J_reduce_89 hs (by first | assumption | omega) (by first | assumption | omega) ?_
          first | refine x_aload_n d_J_reduce_90 rfl ?_ | refine x_aloadq_n d_J_reduce_90 rfl ?_
          refine xc_get (kc := 2) (j := 2) d_J_reduce_91 (hs.J _) (jo75 _) rfl (by decide) wf_J_20 (fun _ _ => rfl) ?_
          refine x_iconst (v := nI 1) d_J_reduce_94 (by decide) ?_
          rw [ek, pq_k (by omega)]
          by_cases r1 : C (jo d) 2 = nI 1
          · rw [show ini (C (jo d) 2) x.2 = nI 1 from if_pos r1] at nx ⊢
            refine x_icmp_ne_f 102 d_J_reduce_95 (by decide) (r1) ?_
            refine x_iconst (v := nI 1) d_J_reduce_98 (by decide) ?_
            refine x_goto (tgt := 104) d_J_reduce_99 (by decide) ?_
            refine x_callV (M' := m_P_append) (As := [_, _]) (fr' := 0) (wd' := 0) d_J_reduce_104 (hs.P (by assumption)) rfl pl_P_append rfl (Nat.le_of_ble_eq_true rfl) (by decide) (by decide) wc_P_append wi_P wl_J_61 wm_P_append we_P_append (by decide) np_P_append (Nat.le_of_ble_eq_true rfl) (fun q hq => by cases hq) (c_app hs io _ _ (by decide)) (fun k a h1 q => by cases q.1) (fun v h1 q => ?_)
            obtain ⟨q1, rfl⟩ := q
            cases q1
            refine x_goto (tgt := 148) d_J_reduce_107 (by decide) ?_
            first | refine x_incN d_J_reduce_148 rfl (by decide) ?_ | refine x_inc d_J_reduce_148 rfl (by decide) ?_
            refine x_goto (tgt := 22) d_J_reduce_151 (by decide) ?_
            rw [show [] ++ (none : Option KV).toList ++ [(x.1, nI 1)] = [] ++ (some (x.1, nI 1)).toList from rfl]
            refine xV.loc (nx) (by repeat (first | exact trivial | refine ⟨rfl, ?_⟩))
          · rw [show ini (C (jo d) 2) x.2 = x.2 from if_neg r1] at nx ⊢
            refine x_icmp_ne_t (tgt := 102) d_J_reduce_95 (by decide) (r1) ?_
            refine x_iload d_J_reduce_102 rfl ?_
            refine x_callV (M' := m_P_append) (As := [_, _]) (fr' := 0) (wd' := 0) d_J_reduce_104 (hs.P (by assumption)) rfl pl_P_append rfl (Nat.le_of_ble_eq_true rfl) (by decide) (by decide) wc_P_append wi_P wl_J_61 wm_P_append we_P_append (by decide) np_P_append (Nat.le_of_ble_eq_true rfl) (fun q hq => by cases hq) (c_app hs io _ _ (by decide)) (fun k a h1 q => by cases q.1) (fun v h1 q => ?_)
            obtain ⟨q1, rfl⟩ := q
            cases q1
            refine x_goto (tgt := 148) d_J_reduce_107 (by decide) ?_
            first | refine x_incN d_J_reduce_148 rfl (by decide) ?_ | refine x_inc d_J_reduce_148 rfl (by decide) ?_
            refine x_goto (tgt := 22) d_J_reduce_151 (by decide) ?_
            rw [show [] ++ (none : Option KV).toList ++ [(x.1, x.2)] = [] ++ (some (x.1, x.2)).toList from rfl]
            refine xV.loc (nx) (by repeat (first | exact trivial | refine ⟨rfl, ?_⟩))
        | some y =>
          rw [Option.toList_some] at h36 ⊢
          have hl2 : (A' ++ [y]).length = A'.length + 1 := by simp
          have hy6 : A'.length < 36 := by omega
          have eo : pqS C (jo d + 6 + 6 * p) (A' ++ [y]) (jo d + 6 + 6 * p + 1) A'.length = y.1 := pq_key
          have eu : pqS C (jo d + 6 + 6 * p) (A' ++ [y]) (jo d + 6 + 6 * p + 2) A'.length = y.2 := pq_val
          rw [show rk (Option.map (fun x => x.1) (some y)) (x :: B) = (if some y.1 = some x.1 then 0 else 1) + rk (some x.1) B from rfl] at h36
          refine x_icmp_ge_t (tgt := 52) d_J_reduce_46 (by decide) ((Int32.not_lt.mp cv)) ?_
          first | refine x_aload_n d_J_reduce_52 rfl ?_ | refine x_aloadq_n d_J_reduce_52 rfl ?_
          refine xc_get (kc := 3) (j := 2) d_J_reduce_53 (hs.P (by assumption)) (P75 (by assumption)) rfl (by decide) wf_J_34 (fun _ _ => rfl) ?_
          rw [pq_n, hl2]
          refine x_iconst (v := nI 1) d_J_reduce_56 (by decide) ?_
          refine x_isub d_J_reduce_57 ?_
          rw [nI_sub (by omega), Nat.add_sub_cancel]
          refine x_istore d_J_reduce_58 (by decide) ?_
          refine x_iload d_J_reduce_60 rfl ?_
          refine x_if_lt_f 82 d_J_reduce_62 (by decide) ((Int32.not_lt.mpr (nI_pos' (by omega)))) ?_
          first | refine x_aload_n d_J_reduce_65 rfl ?_ | refine x_aloadq_n d_J_reduce_65 rfl ?_
          refine xc_ref (kc := 3) (j := 0) d_J_reduce_66 (hs.P (by assumption)) ⟨P1 (by assumption), by decide⟩ rfl (by decide) wf_J_46 (fun _ _ => rfl) (hs.P2 (by assumption)).1 ?_
          refine x_iload d_J_reduce_69 rfl ?_
          first | refine xc_aldK d_J_reduce_71 hs (by assumption) (by first | assumption | omega) ?_ | refine xc_aldV d_J_reduce_71 hs (by assumption) (by first | assumption | omega) ?_ | refine xc_aldN d_J_reduce_71 hs (by first | assumption | omega) (by first | assumption | omega) ?_
          first | refine x_aload_n d_J_reduce_72 rfl ?_ | refine x_aloadq_n d_J_reduce_72 rfl ?_
          refine xc_ref (kc := 3) (j := 0) d_J_reduce_73 (hs.P (by assumption)) ⟨P1 (by assumption), by decide⟩ rfl (by decide) wf_J_46 (fun _ _ => rfl) (hs.P2 (by assumption)).1 ?_
          refine x_iload d_J_reduce_76 rfl ?_
          first | refine xc_aldK d_J_reduce_78 hs (by assumption) (by first | assumption | omega) ?_ | refine xc_aldV d_J_reduce_78 hs (by assumption) (by first | assumption | omega) ?_ | refine xc_aldN d_J_reduce_78 hs (by first | assumption | omega) (by first | assumption | omega) ?_
          rw [eo, ek]
          by_cases ky : y.1 = x.1
          · rw [if_pos (congrArg some ky)] at h36
            have tl : ¬ (C (jo d) 2 = nI 4 ∧ x.2 = 0) → xV l G 2 43 m_J_reduce 125 [(6, .int (nI A'.length)), (5, .int x.2), (4, .int (nI A.length)), (3, .ref (z + (jo d + 6 + 6 * p))), (2, .ref (z + (jo d + 3 + 6 * p))), (0, .ref (z + jo d)), (1, .int (nI p))] [] (cset z (pqS C (jo d + 6 + 6 * p) (A' ++ [y])) b tk h0)
                (fun r h' => r = .inl (some (.int (bI ((crd (C (jo d) 2) (C (jo d) 4) (x :: B) A' (some y)).1 = true)))) ∧ h' = cset z (pqS C (jo d + 6 + 6 * p) (crd (C (jo d) 2) (C (jo d) 4) (x :: B) A' (some y)).2) b tk h0) := by
              intro nq
              have nx := ih (A ++ [x]) A' (some (y.1, comb (C (jo d) 2) y.2 x.2)) hA1 (fun q => by cases q) (by rw [Option.toList_some, List.length_append, List.length_singleton]; show A'.length + 1 + rk (some y.1) B ≤ 36; rw [ky]; omega)
              rw [hA2, Option.toList_some] at nx
              rw [show crd (C (jo d) 2) (C (jo d) 4) (x :: B) A' (some y) = crd (C (jo d) 2) (C (jo d) 4) B A' (some (y.1, comb (C (jo d) 2) y.2 x.2)) by rw [crd, if_neg cv, if_pos ky, if_neg nq]]
              first | refine x_aload_n d_J_reduce_125 rfl ?_ | refine x_aloadq_n d_J_reduce_125 rfl ?_
              refine xc_ref (kc := 3) (j := 1) d_J_reduce_126 (hs.P (by assumption)) ⟨P1 (by assumption), by decide⟩ rfl (by decide) wf_J_54 (fun _ _ => rfl) (hs.P2 (by assumption)).2.1 ?_
              refine x_iload d_J_reduce_129 rfl ?_
              first | refine x_aload_n d_J_reduce_131 rfl ?_ | refine x_aloadq_n d_J_reduce_131 rfl ?_
              refine xc_get (kc := 2) (j := 2) d_J_reduce_132 (hs.J _) (jo75 _) rfl (by decide) wf_J_20 (fun _ _ => rfl) ?_
              first | refine x_aload_n d_J_reduce_135 rfl ?_ | refine x_aloadq_n d_J_reduce_135 rfl ?_
              refine xc_ref (kc := 3) (j := 1) d_J_reduce_136 (hs.P (by assumption)) ⟨P1 (by assumption), by decide⟩ rfl (by decide) wf_J_54 (fun _ _ => rfl) (hs.P2 (by assumption)).2.1 ?_
              refine x_iload d_J_reduce_139 rfl ?_
              first | refine xc_aldK d_J_reduce_141 hs (by assumption) (by first | assumption | omega) ?_ | refine xc_aldV d_J_reduce_141 hs (by assumption) (by first | assumption | omega) ?_ | refine xc_aldN d_J_reduce_141 hs (by first | assumption | omega) (by first | assumption | omega) ?_
              refine x_iload d_J_reduce_142 rfl ?_
              rw [eu, pq_k (by omega)]
              refine x_callS (M' := m_J_combine) (As := [_, _, _]) (fr' := 1) (wd' := 21) d_J_reduce_144 pl_J_combine rfl (Nat.le_of_ble_eq_true rfl) (by decide) (by decide) wc_J_combine wi_J wl_J_64 ws_J_combine (by decide) np_J_combine (Nat.le_of_ble_eq_true rfl) (fun q hq => by cases hq) (c_J_combine _ _ _) (fun k a h1 q => by cases q.1) (fun v h1 q => ?_)
              obtain ⟨q1, rfl⟩ := q
              cases q1
              first | refine xc_astK d_J_reduce_147 hs (by assumption) (by first | assumption | omega) ?_ | refine xc_astV d_J_reduce_147 hs (by assumption) (by first | assumption | omega) ?_ | refine xc_astN d_J_reduce_147 hs (by first | assumption | omega) (by first | assumption | omega) ?_
              first | refine x_incN d_J_reduce_148 rfl (by decide) ?_ | refine x_inc d_J_reduce_148 rfl (by decide) ?_
              refine x_goto (tgt := 22) d_J_reduce_151 (by decide) ?_
              rw [pq_wv]
              refine xV.loc (nx) (by repeat (first | exact trivial | refine ⟨rfl, ?_⟩))
            refine x_icmp_eq_t (tgt := 110) d_J_reduce_79 (by decide) (ky) ?_
            first | refine x_aload_n d_J_reduce_110 rfl ?_ | refine x_aloadq_n d_J_reduce_110 rfl ?_
            refine xc_get (kc := 2) (j := 2) d_J_reduce_111 (hs.J _) (jo75 _) rfl (by decide) wf_J_20 (fun _ _ => rfl) ?_
            refine x_iconst (v := nI 4) d_J_reduce_114 (by decide) ?_
            rw [pq_k (by omega)]
            by_cases r4 : C (jo d) 2 = nI 4
            · by_cases v0 : x.2 = 0
              · rw [show crd (C (jo d) 2) (C (jo d) 4) (x :: B) A' (some y) = (false, A' ++ [y]) by rw [crd, if_neg cv, if_pos ky, if_pos ⟨r4, v0⟩]]
                refine x_icmp_ne_f 125 d_J_reduce_115 (by decide) (r4) ?_
                refine x_iload d_J_reduce_118 rfl ?_
                refine x_if_ne_f 125 d_J_reduce_120 (by decide) (v0) ?_
                refine x_iconst (v := nI 0) d_J_reduce_123 (by decide) ?_
                refine x_iret d_J_reduce_124 rfl (by first | rfl | assumption) ?_
                exact ⟨by rw [bI_f (fun q => Bool.false_ne_true q)], rfl⟩
              · skip
                refine x_icmp_ne_f 125 d_J_reduce_115 (by decide) (r4) ?_
                refine x_iload d_J_reduce_118 rfl ?_
                refine x_if_ne_t (tgt := 125) d_J_reduce_120 (by decide) (v0) ?_
                refine xV.loc (tl (fun q => v0 q.2)) (by repeat (first | exact trivial | refine ⟨rfl, ?_⟩))
            · skip
              refine x_icmp_ne_t (tgt := 125) d_J_reduce_115 (by decide) (r4) ?_
              refine xV.loc (tl (fun q => r4 q.1)) (by repeat (first | exact trivial | refine ⟨rfl, ?_⟩))
          · rw [if_neg (fun q => ky (Option.some.inj q))] at h36
            have nx := ih (A ++ [x]) (A' ++ [y]) (some (x.1, ini (C (jo d) 2) x.2)) hA1 (fun q => by cases q) (by rw [Option.toList_some, List.length_append (as := A' ++ [y]), List.length_singleton]; show (A' ++ [y]).length + 1 + rk (some x.1) B ≤ 36; omega)
            rw [hA2, Option.toList_some] at nx
            rw [show crd (C (jo d) 2) (C (jo d) 4) (x :: B) A' (some y) = crd (C (jo d) 2) (C (jo d) 4) B (A' ++ [y]) (some (x.1, ini (C (jo d) 2) x.2)) by rw [crd, if_neg cv, if_neg ky]]
            refine x_icmp_eq_f 110 d_J_reduce_79 (by decide) (ky) ?_
            first | refine x_aload_n d_J_reduce_82 rfl ?_ | refine x_aloadq_n d_J_reduce_82 rfl ?_
            first | refine x_aload_n d_J_reduce_83 rfl ?_ | refine x_aloadq_n d_J_reduce_83 rfl ?_
            refine xc_ref (kc := 3) (j := 0) d_J_reduce_84 (hs.P (by assumption)) ⟨P1 (by assumption), by decide⟩ rfl (by decide) wf_J_46 (fun _ _ => rfl) (hs.P2 (by assumption)).1 ?_
            refine x_iload d_J_reduce_87 rfl ?_
            first | refine xc_aldK d_J_reduce_89 hs (by assumption) (by first | assumption | omega) ?_ | refine xc_aldV d_J_reduce_89 hs (by assumption) (by first | assumption | omega) ?_ | refine xc_aldN d_J_reduce_89 hs (by first | assumption | omega) (by first | assumption | omega) ?_
            first | refine x_aload_n d_J_reduce_90 rfl ?_ | refine x_aloadq_n d_J_reduce_90 rfl ?_
            refine xc_get (kc := 2) (j := 2) d_J_reduce_91 (hs.J _) (jo75 _) rfl (by decide) wf_J_20 (fun _ _ => rfl) ?_
            refine x_iconst (v := nI 1) d_J_reduce_94 (by decide) ?_
            rw [ek, pq_k (by omega)]
            by_cases r1 : C (jo d) 2 = nI 1
            · rw [show ini (C (jo d) 2) x.2 = nI 1 from if_pos r1] at nx ⊢
              refine x_icmp_ne_f 102 d_J_reduce_95 (by decide) (r1) ?_
              refine x_iconst (v := nI 1) d_J_reduce_98 (by decide) ?_
              refine x_goto (tgt := 104) d_J_reduce_99 (by decide) ?_
              refine x_callV (M' := m_P_append) (As := [_, _]) (fr' := 0) (wd' := 0) d_J_reduce_104 (hs.P (by assumption)) rfl pl_P_append rfl (Nat.le_of_ble_eq_true rfl) (by decide) (by decide) wc_P_append wi_P wl_J_61 wm_P_append we_P_append (by decide) np_P_append (Nat.le_of_ble_eq_true rfl) (fun q hq => by cases hq) (c_app hs io _ _ (by omega)) (fun k a h1 q => by cases q.1) (fun v h1 q => ?_)
              obtain ⟨q1, rfl⟩ := q
              cases q1
              refine x_goto (tgt := 148) d_J_reduce_107 (by decide) ?_
              first | refine x_incN d_J_reduce_148 rfl (by decide) ?_ | refine x_inc d_J_reduce_148 rfl (by decide) ?_
              refine x_goto (tgt := 22) d_J_reduce_151 (by decide) ?_
              refine xV.loc (nx) (by repeat (first | exact trivial | refine ⟨rfl, ?_⟩))
            · rw [show ini (C (jo d) 2) x.2 = x.2 from if_neg r1] at nx ⊢
              refine x_icmp_ne_t (tgt := 102) d_J_reduce_95 (by decide) (r1) ?_
              refine x_iload d_J_reduce_102 rfl ?_
              refine x_callV (M' := m_P_append) (As := [_, _]) (fr' := 0) (wd' := 0) d_J_reduce_104 (hs.P (by assumption)) rfl pl_P_append rfl (Nat.le_of_ble_eq_true rfl) (by decide) (by decide) wc_P_append wi_P wl_J_61 wm_P_append we_P_append (by decide) np_P_append (Nat.le_of_ble_eq_true rfl) (fun q hq => by cases hq) (c_app hs io _ _ (by omega)) (fun k a h1 q => by cases q.1) (fun v h1 q => ?_)
              obtain ⟨q1, rfl⟩ := q
              cases q1
              refine x_goto (tgt := 148) d_J_reduce_107 (by decide) ?_
              first | refine x_incN d_J_reduce_148 rfl (by decide) ?_ | refine x_inc d_J_reduce_148 rfl (by decide) ?_
              refine x_goto (tgt := 22) d_J_reduce_151 (by decide) ?_
              refine xV.loc (nx) (by repeat (first | exact trivial | refine ⟨rfl, ?_⟩))
  have this := lp q [] [] none rfl (fun _ => rfl) (by show 0 + rk none q ≤ 36; omega)
  unfold xVM
  first | refine x_aload_n d_J_reduce_0 rfl ?_ | refine x_aloadq_n d_J_reduce_0 rfl ?_
  refine xc_ref (kc := 2) (j := 0) d_J_reduce_1 (hs.J _) ⟨jo1 _, by decide⟩ rfl (by decide) wf_J_11 (fun _ _ => rfl) (hs.J2 _).1 ?_
  refine x_iload_n d_J_reduce_4 rfl ?_
  first | refine xc_aaW d_J_reduce_5 hs (by first | assumption | omega) ?_ | refine xc_aaC d_J_reduce_5 hs (by first | assumption | omega) ?_ | refine xc_aaM d_J_reduce_5 hs (by first | assumption | omega) ?_ | refine xc_aaR d_J_reduce_5 hs (by first | assumption | omega) ?_ | refine xc_aaT d_J_reduce_5 hs (by first | assumption | omega) ?_ | refine xc_aaO d_J_reduce_5 hs (by first | assumption | omega) ?_
  first | refine x_astore_n d_J_reduce_6 (by decide) ?_ | refine x_astoreq_n d_J_reduce_6 (by decide) ?_ | refine x_astore_nN d_J_reduce_6 (by decide) ?_
  first | refine x_aload_n d_J_reduce_7 rfl ?_ | refine x_aloadq_n d_J_reduce_7 rfl ?_
  refine xc_ref (kc := 2) (j := 1) d_J_reduce_8 (hs.J _) ⟨jo1 _, by decide⟩ rfl (by decide) wf_J_17 (fun _ _ => rfl) (hs.J2 _).2.1 ?_
  refine x_iload_n d_J_reduce_11 rfl ?_
  first | refine xc_aaW d_J_reduce_12 hs (by first | assumption | omega) ?_ | refine xc_aaC d_J_reduce_12 hs (by first | assumption | omega) ?_ | refine xc_aaM d_J_reduce_12 hs (by first | assumption | omega) ?_ | refine xc_aaR d_J_reduce_12 hs (by first | assumption | omega) ?_ | refine xc_aaT d_J_reduce_12 hs (by first | assumption | omega) ?_ | refine xc_aaO d_J_reduce_12 hs (by first | assumption | omega) ?_
  first | refine x_astore_n d_J_reduce_13 (by decide) ?_ | refine x_astoreq_n d_J_reduce_13 (by decide) ?_ | refine x_astore_nN d_J_reduce_13 (by decide) ?_
  first | refine x_aload_n d_J_reduce_14 rfl ?_ | refine x_aloadq_n d_J_reduce_14 rfl ?_
  refine x_iconst (v := nI 0) d_J_reduce_15 (by decide) ?_
  refine xc_put (kc := 3) (j := 2) d_J_reduce_16 (hs.P (by assumption)) (P75 (by assumption)) rfl (by decide) wf_J_34 (Or.inl rfl) (by first | rfl | assumption) rfl (fun _ _ => rfl) ?_
  refine x_iconst (v := nI 0) d_J_reduce_19 (by decide) ?_
  refine x_istore d_J_reduce_20 (by decide) ?_
  rw [pq_nil]
  refine xV.loc (this) (by repeat (first | exact trivial | refine ⟨rfl, ?_⟩))
theorem c_A_find (hs : CSh h0 z) (key : Int32) {r n i : Nat} (hr : C (jo (!b)) 3 = nI r) (hr3 : r ≤ 3) (hn : C (jo (!b) + 6 + 6 * pt (max r 1) key) 2 = nI n) (hn3 : n ≤ 36) (hi : idxOf (C (jo (!b) + 6 + 6 * pt (max r 1) key + 1)) key n = some i) :
    xVM l G 7 102 m_A_find [.ref z, .int key] (cset z C b tk h0) (fun q h' => q = .inl (some (.int (C (jo (!b) + 6 + 6 * pt (max r 1) key + 2) i))) ∧ h' = cset z C b tk h0) := by
  have p3 : pt (max r 1) key < 3 := by have := pt_lt (show 0 < max r 1 by omega) key; omega
  have io : isP (jo (!b) + 6 + 6 * pt (max r 1) key) 36 := isPo p3
  have il := (idxOf_lt hi).1
  have i36 : i < 36 := by omega
  unfold xVM
  first | refine x_aload_n d_A_find_0 rfl ?_ | refine x_aloadq_n d_A_find_0 rfl ?_
  refine xc_refA (j := 6) d_A_find_1 hs rfl (by decide) wf_A_46 (fun _ _ => rfl) cset_end ?_
  refine xc_ref (kc := 2) (j := 1) d_A_find_4 (hs.J _) ⟨jo1 _, by decide⟩ rfl (by decide) wf_A_146 (fun _ _ => rfl) (hs.J2 _).2.1 ?_
  first | refine x_aload_n d_A_find_7 rfl ?_ | refine x_aloadq_n d_A_find_7 rfl ?_
  refine xc_refA (j := 6) d_A_find_8 hs rfl (by decide) wf_A_46 (fun _ _ => rfl) cset_end ?_
  refine x_iload_n d_A_find_11 rfl ?_
  refine x_callV (M' := m_J_partitionOf) (As := [_]) (fr' := 1) (wd' := 22) d_A_find_12 (hs.J _) rfl pl_J_partitionOf rfl (Nat.le_of_ble_eq_true rfl) (by decide) (by decide) wc_J_partitionOf wi_J wl_A_156 wm_J_partitionOf we_J_partitionOf (by decide) np_J_partitionOf (Nat.le_of_ble_eq_true rfl) (fun q hq => by cases hq) (c_J_partitionOf hs _ hr hr3) (fun k a h1 q => by cases q.1) (fun v h1 q => ?_)
  obtain ⟨q1, rfl⟩ := q
  cases q1
  first | refine xc_aaW d_A_find_15 hs (by first | assumption | omega) ?_ | refine xc_aaC d_A_find_15 hs (by first | assumption | omega) ?_ | refine xc_aaM d_A_find_15 hs (by first | assumption | omega) ?_ | refine xc_aaR d_A_find_15 hs (by first | assumption | omega) ?_ | refine xc_aaT d_A_find_15 hs (by first | assumption | omega) ?_ | refine xc_aaO d_A_find_15 hs (by first | assumption | omega) ?_
  first | refine x_astore_n d_A_find_16 (by decide) ?_ | refine x_astoreq_n d_A_find_16 (by decide) ?_ | refine x_astore_nN d_A_find_16 (by decide) ?_
  first | refine x_aload_n d_A_find_17 rfl ?_ | refine x_aloadq_n d_A_find_17 rfl ?_
  refine x_iload_n d_A_find_18 rfl ?_
  refine x_callV (M' := m_P_indexOf) (As := [_]) (fr' := 0) (wd' := 0) d_A_find_19 (hs.P (by assumption)) rfl pl_P_indexOf rfl (Nat.le_of_ble_eq_true rfl) (by decide) (by decide) wc_P_indexOf wi_P wl_A_159 wm_P_indexOf we_P_indexOf (by decide) np_P_indexOf (Nat.le_of_ble_eq_true rfl) (fun q hq => by cases hq) (c_idx hs io _ hn hn3) (fun k a h1 q => by cases q.1) (fun v h1 q => ?_)
  obtain ⟨q1, rfl⟩ := q
  cases q1
  refine x_istore_n d_A_find_22 (by decide) ?_
  refine x_iload_n d_A_find_23 rfl ?_
  refine x_iconst (v := (-1)) d_A_find_24 (by decide) ?_
  rw [hi, show oI (some i) = nI i from rfl]
  refine x_icmp_ne_t (tgt := 36) d_A_find_25 (by decide) ((nI_nm1 (by omega))) ?_
  first | refine x_aload_n d_A_find_36 rfl ?_ | refine x_aloadq_n d_A_find_36 rfl ?_
  refine xc_ref (kc := 3) (j := 1) d_A_find_37 (hs.P (by assumption)) ⟨P1 (by assumption), by decide⟩ rfl (by decide) wf_A_153 (fun _ _ => rfl) (hs.P2 (by assumption)).2.1 ?_
  refine x_iload_n d_A_find_40 rfl ?_
  first | refine xc_aldK d_A_find_41 hs (by assumption) (by first | assumption | omega) ?_ | refine xc_aldV d_A_find_41 hs (by assumption) (by first | assumption | omega) ?_ | refine xc_aldN d_A_find_41 hs (by first | assumption | omega) (by first | assumption | omega) ?_
  refine x_iret d_A_find_42 rfl (by first | rfl | assumption) ?_
  exact ⟨rfl, rfl⟩
theorem c_A_findX (hnt : l.stackTraces = false) (hs : CSh h0 z) (key : Int32) {r n : Nat} (hr : C (jo (!b)) 3 = nI r) (hr3 : r ≤ 3) (hn : C (jo (!b) + 6 + 6 * pt (max r 1) key) 2 = nI n) (hn3 : n ≤ 36) (hi : idxOf (C (jo (!b) + 6 + 6 * pt (max r 1) key + 1)) key n = none) :
    xVM l G 7 102 m_A_find [.ref z, .int key] (cset z C b tk h0) (fun q h' => q = .inr (2, xnx (cset z C b tk h0)) ∧ h' = thrw 2 (cset z C b tk h0)) := by
  have p3 : pt (max r 1) key < 3 := by have := pt_lt (show 0 < max r 1 by omega) key; omega
  have io : isP (jo (!b) + 6 + 6 * pt (max r 1) key) 36 := isPo p3
  unfold xVM
  first | refine x_aload_n d_A_find_0 rfl ?_ | refine x_aloadq_n d_A_find_0 rfl ?_
  refine xc_refA (j := 6) d_A_find_1 hs rfl (by decide) wf_A_46 (fun _ _ => rfl) cset_end ?_
  refine xc_ref (kc := 2) (j := 1) d_A_find_4 (hs.J _) ⟨jo1 _, by decide⟩ rfl (by decide) wf_A_146 (fun _ _ => rfl) (hs.J2 _).2.1 ?_
  first | refine x_aload_n d_A_find_7 rfl ?_ | refine x_aloadq_n d_A_find_7 rfl ?_
  refine xc_refA (j := 6) d_A_find_8 hs rfl (by decide) wf_A_46 (fun _ _ => rfl) cset_end ?_
  refine x_iload_n d_A_find_11 rfl ?_
  refine x_callV (M' := m_J_partitionOf) (As := [_]) (fr' := 1) (wd' := 22) d_A_find_12 (hs.J _) rfl pl_J_partitionOf rfl (Nat.le_of_ble_eq_true rfl) (by decide) (by decide) wc_J_partitionOf wi_J wl_A_156 wm_J_partitionOf we_J_partitionOf (by decide) np_J_partitionOf (Nat.le_of_ble_eq_true rfl) (fun q hq => by cases hq) (c_J_partitionOf hs _ hr hr3) (fun k a h1 q => by cases q.1) (fun v h1 q => ?_)
  obtain ⟨q1, rfl⟩ := q
  cases q1
  first | refine xc_aaW d_A_find_15 hs (by first | assumption | omega) ?_ | refine xc_aaC d_A_find_15 hs (by first | assumption | omega) ?_ | refine xc_aaM d_A_find_15 hs (by first | assumption | omega) ?_ | refine xc_aaR d_A_find_15 hs (by first | assumption | omega) ?_ | refine xc_aaT d_A_find_15 hs (by first | assumption | omega) ?_ | refine xc_aaO d_A_find_15 hs (by first | assumption | omega) ?_
  first | refine x_astore_n d_A_find_16 (by decide) ?_ | refine x_astoreq_n d_A_find_16 (by decide) ?_ | refine x_astore_nN d_A_find_16 (by decide) ?_
  first | refine x_aload_n d_A_find_17 rfl ?_ | refine x_aloadq_n d_A_find_17 rfl ?_
  refine x_iload_n d_A_find_18 rfl ?_
  refine x_callV (M' := m_P_indexOf) (As := [_]) (fr' := 0) (wd' := 0) d_A_find_19 (hs.P (by assumption)) rfl pl_P_indexOf rfl (Nat.le_of_ble_eq_true rfl) (by decide) (by decide) wc_P_indexOf wi_P wl_A_159 wm_P_indexOf we_P_indexOf (by decide) np_P_indexOf (Nat.le_of_ble_eq_true rfl) (fun q hq => by cases hq) (c_idx hs io _ hn hn3) (fun k a h1 q => by cases q.1) (fun v h1 q => ?_)
  obtain ⟨q1, rfl⟩ := q
  cases q1
  refine x_istore_n d_A_find_22 (by decide) ?_
  refine x_iload_n d_A_find_23 rfl ?_
  refine x_iconst (v := (-1)) d_A_find_24 (by decide) ?_
  rw [hi, show oI none = -1 from rfl]
  refine x_icmp_ne_f 36 d_A_find_25 (by decide) (rfl) ?_
  exact x_thr2 rfl d_A_find_28 d_A_find_31 d_A_find_32 d_A_find_35 rfl hnt (by decide) (by decide) (Nat.le_of_ble_eq_true rfl) ⟨rfl, rfl⟩
abbrev oko (p w : Int32) : Prop := rng p 0 2 ∧ rng w 0 1
theorem c_A_output (hs : CSh h0 z) {p : Nat} {i w : Int32} {r n : Nat} (hok : oko (nI p) w) (hr : C (jo (!b)) 3 = nI r) (hr3 : r ≤ 3) (hpr : p < r) (hn : C (jo (!b) + 6 + 6 * p) 2 = nI n) (hn3 : n ≤ 36) (hi : i = -1 ∨ ∃ k, i = nI k ∧ k < n) :
    xVM l G 8 124 m_A_output [.ref z, .int (nI p), .int i, .int w] (cset z C b tk h0) (fun q h' => q = .inl (some (.int (if i = -1 then nI n else if w = 0 then C (jo (!b) + 6 + 6 * p + 1) i.toNatClampNeg else C (jo (!b) + 6 + 6 * p + 2) i.toNatClampNeg))) ∧ h' = cset z C b tk h0) := by
  have p3 : p < 3 := by omega
  have io : isP (jo (!b) + 6 + 6 * p) 36 := isPo p3
  unfold xVM
  refine x_iload_n d_A_output_0 rfl ?_
  refine x_iconst (v := nI 0) d_A_output_1 (by decide) ?_
  refine x_iconst (v := nI 2) d_A_output_2 (by decide) ?_
  refine x_callS (M' := m_A_demandRange) (As := [_, _, _]) (fr' := 7) (wd' := 102) d_A_output_3 pl_A_demandRange rfl (Nat.le_of_ble_eq_true rfl) (by decide) (by decide) wc_A_demandRange wi_A wl_A_81 ws_A_demandRange (by decide) np_A_demandRange (Nat.le_of_ble_eq_true rfl) (fun q hq => by cases hq) (c_A_range hok.1) (fun k a h1 q => by cases q.1) (fun v h1 q => ?_)
  obtain ⟨q1, rfl⟩ := q
  cases q1
  refine x_iload_n d_A_output_6 rfl ?_
  refine x_iconst (v := nI 0) d_A_output_7 (by decide) ?_
  refine x_iconst (v := nI 1) d_A_output_8 (by decide) ?_
  refine x_callS (M' := m_A_demandRange) (As := [_, _, _]) (fr' := 7) (wd' := 102) d_A_output_9 pl_A_demandRange rfl (Nat.le_of_ble_eq_true rfl) (by decide) (by decide) wc_A_demandRange wi_A wl_A_81 ws_A_demandRange (by decide) np_A_demandRange (Nat.le_of_ble_eq_true rfl) (fun q hq => by cases hq) (c_A_range hok.2) (fun k a h1 q => by cases q.1) (fun v h1 q => ?_)
  obtain ⟨q1, rfl⟩ := q
  cases q1
  refine x_iload_n d_A_output_12 rfl ?_
  first | refine x_aload_n d_A_output_13 rfl ?_ | refine x_aloadq_n d_A_output_13 rfl ?_
  refine xc_refA (j := 6) d_A_output_14 hs rfl (by decide) wf_A_46 (fun _ _ => rfl) cset_end ?_
  refine xc_get (kc := 2) (j := 3) d_A_output_17 (hs.J _) (jo75 _) rfl (by decide) wf_A_140 (fun _ _ => rfl) ?_
  rw [hr]
  refine x_icmp_lt_t (tgt := 31) d_A_output_20 (by decide) ((nI_lt hpr (by omega))) ?_
  first | refine x_aload_n d_A_output_31 rfl ?_ | refine x_aloadq_n d_A_output_31 rfl ?_
  refine xc_refA (j := 6) d_A_output_32 hs rfl (by decide) wf_A_46 (fun _ _ => rfl) cset_end ?_
  refine xc_ref (kc := 2) (j := 1) d_A_output_35 (hs.J _) ⟨jo1 _, by decide⟩ rfl (by decide) wf_A_146 (fun _ _ => rfl) (hs.J2 _).2.1 ?_
  refine x_iload_n d_A_output_38 rfl ?_
  first | refine xc_aaW d_A_output_39 hs (by first | assumption | omega) ?_ | refine xc_aaC d_A_output_39 hs (by first | assumption | omega) ?_ | refine xc_aaM d_A_output_39 hs (by first | assumption | omega) ?_ | refine xc_aaR d_A_output_39 hs (by first | assumption | omega) ?_ | refine xc_aaT d_A_output_39 hs (by first | assumption | omega) ?_ | refine xc_aaO d_A_output_39 hs (by first | assumption | omega) ?_
  first | refine x_astore d_A_output_40 (by decide) ?_ | refine x_astoreq d_A_output_40 (by decide) ?_ | refine x_astoreN d_A_output_40 (by decide) ?_
  refine x_iload_n d_A_output_42 rfl ?_
  refine x_iconst (v := (-1)) d_A_output_43 (by decide) ?_
  by_cases i1 : i = -1
  · skip
    refine x_icmp_ne_f 53 d_A_output_44 (by decide) (i1) ?_
    first | refine x_aload d_A_output_47 rfl ?_ | refine x_aloadq d_A_output_47 rfl ?_
    refine xc_get (kc := 3) (j := 2) d_A_output_49 (hs.P (by assumption)) (P75 (by assumption)) rfl (by decide) wf_A_126 (fun _ _ => rfl) ?_
    rw [hn]
    refine x_iret d_A_output_52 rfl (by first | rfl | assumption) ?_
    exact ⟨by rw [if_pos i1], rfl⟩
  · obtain ⟨k, rfl, hk⟩ : ∃ k, i = nI k ∧ k < n := by rcases hi with q | q; exact absurd q i1; exact q
    have k36 : k < 36 := by omega
    rw [if_neg i1, nI_clamp (by omega)]
    refine x_icmp_ne_t (tgt := 53) d_A_output_44 (by decide) (i1) ?_
    refine x_iload_n d_A_output_53 rfl ?_
    refine x_if_lt_f 66 d_A_output_54 (by decide) ((Int32.not_lt.mpr (nI_pos' (by omega)))) ?_
    refine x_iload_n d_A_output_57 rfl ?_
    first | refine x_aload d_A_output_58 rfl ?_ | refine x_aloadq d_A_output_58 rfl ?_
    refine xc_get (kc := 3) (j := 2) d_A_output_60 (hs.P (by assumption)) (P75 (by assumption)) rfl (by decide) wf_A_126 (fun _ _ => rfl) ?_
    rw [hn]
    refine x_icmp_lt_t (tgt := 74) d_A_output_63 (by decide) ((nI_lt hk (by omega))) ?_
    refine x_iload_n d_A_output_74 rfl ?_
    refine x_if_ne (tgt := 88) d_A_output_75 (by decide) (fun c1 => ?_) (fun c1 => ?_)
    · rw [if_neg c1]
      first | refine x_aload d_A_output_88 rfl ?_ | refine x_aloadq d_A_output_88 rfl ?_
      refine xc_ref (kc := 3) (j := 1) d_A_output_90 (hs.P (by assumption)) ⟨P1 (by assumption), by decide⟩ rfl (by decide) wf_A_153 (fun _ _ => rfl) (hs.P2 (by assumption)).2.1 ?_
      refine x_iload_n d_A_output_93 rfl ?_
      first | refine xc_aldK d_A_output_94 hs (by assumption) (by first | assumption | omega) ?_ | refine xc_aldV d_A_output_94 hs (by assumption) (by first | assumption | omega) ?_ | refine xc_aldN d_A_output_94 hs (by first | assumption | omega) (by first | assumption | omega) ?_
      refine x_iret d_A_output_95 rfl (by first | rfl | assumption) ?_
      exact ⟨rfl, rfl⟩
    · rw [if_pos c1]
      first | refine x_aload d_A_output_78 rfl ?_ | refine x_aloadq d_A_output_78 rfl ?_
      refine xc_ref (kc := 3) (j := 0) d_A_output_80 (hs.P (by assumption)) ⟨P1 (by assumption), by decide⟩ rfl (by decide) wf_A_149 (fun _ _ => rfl) (hs.P2 (by assumption)).1 ?_
      refine x_iload_n d_A_output_83 rfl ?_
      first | refine xc_aldK d_A_output_84 hs (by assumption) (by first | assumption | omega) ?_ | refine xc_aldV d_A_output_84 hs (by assumption) (by first | assumption | omega) ?_ | refine xc_aldN d_A_output_84 hs (by first | assumption | omega) (by first | assumption | omega) ?_
      refine x_goto (tgt := 95) d_A_output_85 (by decide) ?_
      refine x_iret d_A_output_95 rfl (by first | rfl | assumption) ?_
      exact ⟨rfl, rfl⟩
theorem c_A_outputX0 (hnt : l.stackTraces = false) {h : xH} {p i w : Int32} (hok : ¬ oko p w) : xVM l G 8 124 m_A_output [.ref z, .int p, .int i, .int w] h (fun q h' => q = .inr (0, xnx h) ∧ h' = thrw 0 h) := by
  unfold xVM
  refine x_iload_n d_A_output_0 rfl ?_
  refine x_iconst (v := nI 0) d_A_output_1 (by decide) ?_
  refine x_iconst (v := nI 2) d_A_output_2 (by decide) ?_
  by_cases g1 : rng p 0 2
  · skip
    refine x_callS (M' := m_A_demandRange) (As := [_, _, _]) (fr' := 7) (wd' := 102) d_A_output_3 pl_A_demandRange rfl (Nat.le_of_ble_eq_true rfl) (by decide) (by decide) wc_A_demandRange wi_A wl_A_81 ws_A_demandRange (by decide) np_A_demandRange (Nat.le_of_ble_eq_true rfl) (fun q hq => by cases hq) (c_A_range g1) (fun k a h1 q => by cases q.1) (fun v h1 q => ?_)
    obtain ⟨q1, rfl⟩ := q
    cases q1
    refine x_iload_n d_A_output_6 rfl ?_
    refine x_iconst (v := nI 0) d_A_output_7 (by decide) ?_
    refine x_iconst (v := nI 1) d_A_output_8 (by decide) ?_
    refine x_callS (M' := m_A_demandRange) (As := [_, _, _]) (fr' := 7) (wd' := 102) d_A_output_9 pl_A_demandRange rfl (Nat.le_of_ble_eq_true rfl) (by decide) (by decide) wc_A_demandRange wi_A wl_A_81 ws_A_demandRange (by decide) np_A_demandRange (Nat.le_of_ble_eq_true rfl) (fun q hq => by cases hq) (c_A_rangeX hnt (fun q => hok ⟨g1, q⟩)) (fun k a h1 q => ?_) (fun v h1 q => by cases q.1)
    obtain ⟨q1, rfl⟩ := q
    cases q1
    exact ⟨rfl, rfl⟩
  · skip
    refine x_callS (M' := m_A_demandRange) (As := [_, _, _]) (fr' := 7) (wd' := 102) d_A_output_3 pl_A_demandRange rfl (Nat.le_of_ble_eq_true rfl) (by decide) (by decide) wc_A_demandRange wi_A wl_A_81 ws_A_demandRange (by decide) np_A_demandRange (Nat.le_of_ble_eq_true rfl) (fun q hq => by cases hq) (c_A_rangeX hnt g1) (fun k a h1 q => ?_) (fun v h1 q => by cases q.1)
    obtain ⟨q1, rfl⟩ := q
    cases q1
    exact ⟨rfl, rfl⟩
theorem c_A_outputX2 (hnt : l.stackTraces = false) (hs : CSh h0 z) {p : Nat} {i w : Int32} {r n : Nat} (hok : oko (nI p) w) (hp3 : p < 3) (hr : C (jo (!b)) 3 = nI r) (hr3 : r ≤ 3) (hn : C (jo (!b) + 6 + 6 * p) 2 = nI n) (hn3 : n ≤ 36) (hi : r ≤ p ∨ (¬ i = -1 ∧ ¬ ∃ k, i = nI k ∧ k < n)) :
    xVM l G 8 124 m_A_output [.ref z, .int (nI p), .int i, .int w] (cset z C b tk h0) (fun q h' => q = .inr (2, xnx (cset z C b tk h0)) ∧ h' = thrw 2 (cset z C b tk h0)) := by
  have io : isP (jo (!b) + 6 + 6 * p) 36 := isPo hp3
  unfold xVM
  refine x_iload_n d_A_output_0 rfl ?_
  refine x_iconst (v := nI 0) d_A_output_1 (by decide) ?_
  refine x_iconst (v := nI 2) d_A_output_2 (by decide) ?_
  refine x_callS (M' := m_A_demandRange) (As := [_, _, _]) (fr' := 7) (wd' := 102) d_A_output_3 pl_A_demandRange rfl (Nat.le_of_ble_eq_true rfl) (by decide) (by decide) wc_A_demandRange wi_A wl_A_81 ws_A_demandRange (by decide) np_A_demandRange (Nat.le_of_ble_eq_true rfl) (fun q hq => by cases hq) (c_A_range hok.1) (fun k a h1 q => by cases q.1) (fun v h1 q => ?_)
  obtain ⟨q1, rfl⟩ := q
  cases q1
  refine x_iload_n d_A_output_6 rfl ?_
  refine x_iconst (v := nI 0) d_A_output_7 (by decide) ?_
  refine x_iconst (v := nI 1) d_A_output_8 (by decide) ?_
  refine x_callS (M' := m_A_demandRange) (As := [_, _, _]) (fr' := 7) (wd' := 102) d_A_output_9 pl_A_demandRange rfl (Nat.le_of_ble_eq_true rfl) (by decide) (by decide) wc_A_demandRange wi_A wl_A_81 ws_A_demandRange (by decide) np_A_demandRange (Nat.le_of_ble_eq_true rfl) (fun q hq => by cases hq) (c_A_range hok.2) (fun k a h1 q => by cases q.1) (fun v h1 q => ?_)
  obtain ⟨q1, rfl⟩ := q
  cases q1
  refine x_iload_n d_A_output_12 rfl ?_
  first | refine x_aload_n d_A_output_13 rfl ?_ | refine x_aloadq_n d_A_output_13 rfl ?_
  refine xc_refA (j := 6) d_A_output_14 hs rfl (by decide) wf_A_46 (fun _ _ => rfl) cset_end ?_
  refine xc_get (kc := 2) (j := 3) d_A_output_17 (hs.J _) (jo75 _) rfl (by decide) wf_A_140 (fun _ _ => rfl) ?_
  rw [hr]
  by_cases hpr : p < r
  · obtain ⟨i1, i2⟩ : ¬ i = -1 ∧ ¬ ∃ k, i = nI k ∧ k < n := by rcases hi with q | q; omega; exact q
    refine x_icmp_lt_t (tgt := 31) d_A_output_20 (by decide) ((nI_lt hpr (by omega))) ?_
    first | refine x_aload_n d_A_output_31 rfl ?_ | refine x_aloadq_n d_A_output_31 rfl ?_
    refine xc_refA (j := 6) d_A_output_32 hs rfl (by decide) wf_A_46 (fun _ _ => rfl) cset_end ?_
    refine xc_ref (kc := 2) (j := 1) d_A_output_35 (hs.J _) ⟨jo1 _, by decide⟩ rfl (by decide) wf_A_146 (fun _ _ => rfl) (hs.J2 _).2.1 ?_
    refine x_iload_n d_A_output_38 rfl ?_
    first | refine xc_aaW d_A_output_39 hs (by first | assumption | omega) ?_ | refine xc_aaC d_A_output_39 hs (by first | assumption | omega) ?_ | refine xc_aaM d_A_output_39 hs (by first | assumption | omega) ?_ | refine xc_aaR d_A_output_39 hs (by first | assumption | omega) ?_ | refine xc_aaT d_A_output_39 hs (by first | assumption | omega) ?_ | refine xc_aaO d_A_output_39 hs (by first | assumption | omega) ?_
    first | refine x_astore d_A_output_40 (by decide) ?_ | refine x_astoreq d_A_output_40 (by decide) ?_ | refine x_astoreN d_A_output_40 (by decide) ?_
    refine x_iload_n d_A_output_42 rfl ?_
    refine x_iconst (v := (-1)) d_A_output_43 (by decide) ?_
    refine x_icmp_ne_t (tgt := 53) d_A_output_44 (by decide) (i1) ?_
    refine x_iload_n d_A_output_53 rfl ?_
    by_cases i0 : i < 0
    · skip
      refine x_if_lt_t (tgt := 66) d_A_output_54 (by decide) (i0) ?_
      exact x_thr2 rfl d_A_output_66 d_A_output_69 d_A_output_70 d_A_output_73 rfl hnt (by decide) (by decide) (Nat.le_of_ble_eq_true rfl) ⟨rfl, rfl⟩
    · obtain ⟨k, rfl, hk⟩ : ∃ k, i = nI k ∧ k < 2 ^ 31 := nI_ofp (Int32.not_lt.mp i0)
      refine x_if_lt_f 66 d_A_output_54 (by decide) (i0) ?_
      refine x_iload_n d_A_output_57 rfl ?_
      first | refine x_aload d_A_output_58 rfl ?_ | refine x_aloadq d_A_output_58 rfl ?_
      refine xc_get (kc := 3) (j := 2) d_A_output_60 (hs.P (by assumption)) (P75 (by assumption)) rfl (by decide) wf_A_126 (fun _ _ => rfl) ?_
      rw [hn]
      refine x_icmp_lt_f 74 d_A_output_63 (by decide) ((nI_nlt (Nat.not_lt.mp (fun q => i2 ⟨k, rfl, q⟩)) (by omega))) ?_
      exact x_thr2 rfl d_A_output_66 d_A_output_69 d_A_output_70 d_A_output_73 rfl hnt (by decide) (by decide) (Nat.le_of_ble_eq_true rfl) ⟨rfl, rfl⟩
  · skip
    refine x_icmp_lt_f 31 d_A_output_20 (by decide) ((nI_nlt (by omega) (by omega))) ?_
    exact x_thr2 rfl d_A_output_23 d_A_output_26 d_A_output_27 d_A_output_30 rfl hnt (by decide) (by decide) (Nat.le_of_ble_eq_true rfl) ⟨rfl, rfl⟩
def ccV (C : Nat → Nat → Int32) (sz : Nat → Nat) (c : Nat) (w : Int32) : Int32 := if w = nI 0 then C 0 8 else if w = nI 1 then bI (¬ C 0 7 = 0) else if w = nI 2 then C 0 11 else if w = nI 3 then C 0 12 else if w = nI 4 then C 0 13 else if w = nI 5 then C 0 14 else if w = nI 6 then nI (caL (C 0 9) C sz c).length else -1
theorem c_A_count (hs : CSh h0 z) (w : Int32) {c : Nat} {sz : Nat → Nat} (hc : C 0 8 = nI c) (hc6 : c ≤ 6) (hn : ∀ t, t < c → C (54 + 3 * t) 1 = nI (sz t) ∧ sz t ≤ 6) (hv : ∀ t i, t < c → i < sz t → (C (55 + 3 * t) i).toInt.natAbs < 10 ^ 6) :
    xVM l G 4 91 m_A_count [.ref z, .int w] (cset z C b tk h0) (fun q h' => ∃ E', AG E' C ∧ q = .inl (some (.int (ccV C sz c w))) ∧ h' = cset z E' b tk h0) := by
  unfold xVM
  refine x_iload_n d_A_count_0 rfl ?_
  by_cases m0 : w = nI 0
  · subst m0
    refine x_swIn (tgt := 44) d_A_count_1 (by decide) (by decide) rfl (by decide) ?_
    first | refine x_aload_n d_A_count_44 rfl ?_ | refine x_aloadq_n d_A_count_44 rfl ?_
    refine xc_getA (j := 8) d_A_count_45 hs rfl (by decide) wf_A_53 (fun _ _ => rfl) ?_
    refine x_iret d_A_count_48 rfl (by first | rfl | assumption) ?_
    exact ⟨C, AG.refl C, by unfold ccV; rw [if_pos rfl], rfl⟩
  by_cases m1 : w = nI 1
  · subst m1
    by_cases u : C 0 7 = 0
    · skip
      refine x_swIn (tgt := 49) d_A_count_1 (by decide) (by decide) rfl (by decide) ?_
      first | refine x_aload_n d_A_count_49 rfl ?_ | refine x_aloadq_n d_A_count_49 rfl ?_
      refine xc_getA (j := 7) d_A_count_50 hs rfl (by decide) wf_A_49 (fun _ _ => rfl) ?_
      refine x_if_eq_t (tgt := 60) d_A_count_53 (by decide) (u) ?_
      refine x_iconst (v := nI 0) d_A_count_60 (by decide) ?_
      refine x_iret d_A_count_61 rfl (by first | rfl | assumption) ?_
      exact ⟨C, AG.refl C, by unfold ccV; rw [if_neg m0, if_pos rfl, bI_f (fun q => q u)], rfl⟩
    · skip
      refine x_swIn (tgt := 49) d_A_count_1 (by decide) (by decide) rfl (by decide) ?_
      first | refine x_aload_n d_A_count_49 rfl ?_ | refine x_aloadq_n d_A_count_49 rfl ?_
      refine xc_getA (j := 7) d_A_count_50 hs rfl (by decide) wf_A_49 (fun _ _ => rfl) ?_
      refine x_if_eq_f 60 d_A_count_53 (by decide) (u) ?_
      refine x_iconst (v := nI 1) d_A_count_56 (by decide) ?_
      refine x_goto (tgt := 61) d_A_count_57 (by decide) ?_
      refine x_iret d_A_count_61 rfl (by first | rfl | assumption) ?_
      exact ⟨C, AG.refl C, by unfold ccV; rw [if_neg m0, if_pos rfl, bI_t u], rfl⟩
  by_cases m2 : w = nI 2
  · subst m2
    refine x_swIn (tgt := 62) d_A_count_1 (by decide) (by decide) rfl (by decide) ?_
    first | refine x_aload_n d_A_count_62 rfl ?_ | refine x_aloadq_n d_A_count_62 rfl ?_
    refine xc_getA (j := 11) d_A_count_63 hs rfl (by decide) wf_A_64 (fun _ _ => rfl) ?_
    refine x_iret d_A_count_66 rfl (by first | rfl | assumption) ?_
    exact ⟨C, AG.refl C, by unfold ccV; rw [if_neg m0, if_neg m1, if_pos rfl], rfl⟩
  by_cases m3 : w = nI 3
  · subst m3
    refine x_swIn (tgt := 67) d_A_count_1 (by decide) (by decide) rfl (by decide) ?_
    first | refine x_aload_n d_A_count_67 rfl ?_ | refine x_aloadq_n d_A_count_67 rfl ?_
    refine xc_getA (j := 12) d_A_count_68 hs rfl (by decide) wf_A_67 (fun _ _ => rfl) ?_
    refine x_iret d_A_count_71 rfl (by first | rfl | assumption) ?_
    exact ⟨C, AG.refl C, by unfold ccV; rw [if_neg m0, if_neg m1, if_neg m2, if_pos rfl], rfl⟩
  by_cases m4 : w = nI 4
  · subst m4
    refine x_swIn (tgt := 72) d_A_count_1 (by decide) (by decide) rfl (by decide) ?_
    first | refine x_aload_n d_A_count_72 rfl ?_ | refine x_aloadq_n d_A_count_72 rfl ?_
    refine xc_getA (j := 13) d_A_count_73 hs rfl (by decide) wf_A_70 (fun _ _ => rfl) ?_
    refine x_iret d_A_count_76 rfl (by first | rfl | assumption) ?_
    exact ⟨C, AG.refl C, by unfold ccV; rw [if_neg m0, if_neg m1, if_neg m2, if_neg m3, if_pos rfl], rfl⟩
  by_cases m5 : w = nI 5
  · subst m5
    refine x_swIn (tgt := 77) d_A_count_1 (by decide) (by decide) rfl (by decide) ?_
    first | refine x_aload_n d_A_count_77 rfl ?_ | refine x_aloadq_n d_A_count_77 rfl ?_
    refine xc_getA (j := 14) d_A_count_78 hs rfl (by decide) wf_A_73 (fun _ _ => rfl) ?_
    refine x_iret d_A_count_81 rfl (by first | rfl | assumption) ?_
    exact ⟨C, AG.refl C, by unfold ccV; rw [if_neg m0, if_neg m1, if_neg m2, if_neg m3, if_neg m4, if_pos rfl], rfl⟩
  by_cases m6 : w = nI 6
  · subst m6
    refine x_swIn (tgt := 82) d_A_count_1 (by decide) (by decide) rfl (by decide) ?_
    first | refine x_aload_n d_A_count_82 rfl ?_ | refine x_aloadq_n d_A_count_82 rfl ?_
    refine x_callV (M' := m_A_pairsOfChunks) (As := []) (fr' := 3) (wd' := 68) d_A_count_83 hs.A rfl pl_A_pairsOfChunks rfl (Nat.le_of_ble_eq_true rfl) (by decide) (by decide) wc_A_pairsOfChunks wi_A wl_A_199 wm_A_pairsOfChunks we_A_pairsOfChunks (by decide) np_A_pairsOfChunks (Nat.le_of_ble_eq_true rfl) (fun q hq => by cases hq) (c_A_pairsOfChunks hs hc hc6 hn rfl hv) (fun k a h1 q => by obtain ⟨_, _, q, _⟩ := q; cases q) (fun v h1 q => ?_)
    obtain ⟨E2, hE2, q1, rfl⟩ := q
    cases q1
    refine x_iret d_A_count_86 rfl (by first | rfl | assumption) ?_
    exact ⟨E2, hE2, by unfold ccV; rw [if_neg m0, if_neg m1, if_neg m2, if_neg m3, if_neg m4, if_neg m5, if_pos rfl], rfl⟩
  · have t0 := toInt_ne (by omega) m0
    have t1 := toInt_ne (by omega) m1
    have t2 := toInt_ne (by omega) m2
    have t3 := toInt_ne (by omega) m3
    have t4 := toInt_ne (by omega) m4
    have t5 := toInt_ne (by omega) m5
    have t6 := toInt_ne (by omega) m6
    refine x_swOut (tgt := 87) d_A_count_1 (by omega) (by decide) ?_
    refine x_iconst (v := (-1)) d_A_count_87 (by decide) ?_
    refine x_iret d_A_count_88 rfl (by first | rfl | assumption) ?_
    exact ⟨C, AG.refl C, by unfold ccV; rw [if_neg m0, if_neg m1, if_neg m2, if_neg m3, if_neg m4, if_neg m5, if_neg m6], rfl⟩
end XC9
