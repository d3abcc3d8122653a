/-- the pairs of n numbers by mapper m -/
def ccL (m : Int32) (f : Nat → Int32) : Nat → List KV
  | 0 => []
  | n + 1 => ccL m f n ++ cmpL m (f n)
def caL (m : Int32) (C : Nat → Nat → Int32) (sz : Nat → Nat) : Nat → List KV
  | 0 => []
  | c + 1 => caL m C sz c ++ ccL m (C (55 + 3 * c)) (sz c)
theorem cmpL_len (m v : Int32) : (cmpL m v).length ≤ 6 := by
  unfold cmpL; split
  · exact mpL_len m v
  · simp
theorem ccL_len (m : Int32) (f : Nat → Int32) : ∀ n, (ccL m f n).length ≤ 6 * n
  | 0 => Nat.le_refl 0
  | n + 1 => by
    have h1 := ccL_len m f n
    have h2 := cmpL_len m (f n)
    unfold ccL; rw [List.length_append]; omega
theorem caL_len (m : Int32) (C : Nat → Nat → Int32) {sz : Nat → Nat} : ∀ c, (∀ t, t < c → sz t ≤ 6) → (caL m C sz c).length ≤ 36 * c
  | 0, _ => Nat.le_refl 0
  | c + 1, h => by
    have h1 := caL_len m C c (fun t ht => h t (by omega))
    have h2 := ccL_len m (C (55 + 3 * c)) (sz c)
    have h3 := h c (by omega)
    unfold caL; rw [List.length_append]; omega
theorem tkQ_app (r : Nat) (Q : Nat → List KV) (a c : List KV) : tkQ r Q (a ++ c) = tkQ r (tkQ r Q a) c := List.foldl_append
theorem tkQ_len (r : Nat) : ∀ (q : List KV) (Q : Nat → List KV) (i : Nat), (tkQ r Q q i).length ≤ (Q i).length + q.length
  | [], Q, i => by show (Q i).length ≤ _; omega
  | x :: q, Q, i => by
    have h := tkQ_len r q (upQ Q (pt r x.1) (insB x (Q (pt r x.1)))) i
    have e : (upQ Q (pt r x.1) (insB x (Q (pt r x.1))) i).length ≤ (Q i).length + 1 := by
      unfold upQ; split
      · rename_i e; rw [insB_len, e]; omega
      · omega
    show (tkQ r (upQ Q (pt r x.1) (insB x (Q (pt r x.1)))) q i).length ≤ _
    rw [List.length_cons]; omega
theorem AG.refl (C : Nat → Nat → Int32) : AG C C := fun _ _ _ _ _ => rfl
theorem AG.xu {E D : Nat → Nat → Int32} (h : AG E D) (k j : Nat) (v : Int32) : AG (xu E k j v) (xu D k j v) := fun k' j' h5 h6 h7 => by
  show (if k' = k ∧ j' = j then v else E k' j') = if k' = k ∧ j' = j then v else D k' j'
  rw [h k' j' h5 h6 h7]
section XC7
variable {l : Launch} {G : xG} {h0 : xH} {z : Nat} {C : Nat → Nat → Int32} {b : Bool} {tk : Nat → Option Nat}
theorem c_A_mapChunk (hs : CSh h0 z) {E : Nat → Nat → Int32} {Q : Nat → List KV} {c n r : Nat} {m : Int32} (hc : c < 6) (hn : E (54 + 3 * c) 1 = nI n) (hn6 : n ≤ 6) (hm : E 0 9 = m) (hr : E (jo b) 3 = nI r) (hr3 : r ≤ 3) (hv : ∀ i, i < n → (E (55 + 3 * c) i).toInt.natAbs < 10 ^ 6) (hQ : ∀ i, i < 3 → (Q i).length + 6 * n ≤ 216) :
    xVM l G 3 68 m_A_mapChunk [.ref z, .int (nI c)] (cset z (tqS E b Q) b tk h0) (fun q h' => ∃ E', AG E' E ∧ q = .inl (some (.int (nI (ccL m (E (55 + 3 * c)) n).length))) ∧ h' = cset z (tqS E' b (tkQ (max r 1) Q (ccL m (E (55 + 3 * c)) n))) b tk h0) := by
  have hj := jo_lt b
  have lp : ∀ (k i : Nat) (D : Nat → Nat → Int32), i + k = n → AG D E → xV l G 3 68 m_A_mapChunk 4 [(3, .int (nI i)), (2, .int (nI (ccL m (E (55 + 3 * c)) i).length)), (0, .ref z), (1, .int (nI c))] [] (cset z (tqS D b (tkQ (max r 1) Q (ccL m (E (55 + 3 * c)) i))) b tk h0)
      (fun q h' => ∃ E', AG E' E ∧ q = .inl (some (.int (nI (ccL m (E (55 + 3 * c)) n).length))) ∧ h' = cset z (tqS E' b (tkQ (max r 1) Q (ccL m (E (55 + 3 * c)) n))) b tk h0) := by
    intro k
    induction k with
    | zero =>
      intro i D hi hD
      obtain rfl : i = n := by omega
      refine x_iload_n d_A_mapChunk_4 rfl ?_
      first | refine x_aload_n d_A_mapChunk_5 rfl ?_ | refine x_aloadq_n d_A_mapChunk_5 rfl ?_
      refine xc_refA (j := 1) d_A_mapChunk_6 hs rfl (by decide) wf_A_17 (fun _ _ => rfl) hs.r1 ?_
      refine x_iload_n d_A_mapChunk_9 rfl ?_
      first | refine xc_aaW d_A_mapChunk_10 hs (by first | assumption | omega) ?_ | refine xc_aaC d_A_mapChunk_10 hs (by first | assumption | omega) ?_ | refine xc_aaM d_A_mapChunk_10 hs (by first | assumption | omega) ?_ | refine xc_aaR d_A_mapChunk_10 hs (by first | assumption | omega) ?_ | refine xc_aaT d_A_mapChunk_10 hs (by first | assumption | omega) ?_ | refine xc_aaO d_A_mapChunk_10 hs (by first | assumption | omega) ?_
      refine xc_get (kc := 1) (j := 1) d_A_mapChunk_11 (hs.Ch (by first | assumption | omega)) (by omega) rfl (by decide) wf_A_107 (fun _ _ => rfl) ?_
      rw [tq_out (by omega), hD _ _ (by omega) (by omega) (by omega), hn]
      refine x_icmp_ge_t (tgt := 66) d_A_mapChunk_14 (by decide) ((nI_le (by omega) (by omega))) ?_
      refine x_iload_n d_A_mapChunk_66 rfl ?_
      refine x_iret d_A_mapChunk_67 rfl (by first | rfl | assumption) ?_
      exact ⟨D, hD, rfl, rfl⟩
    | succ k ih =>
      intro i D hi hD
      have i6 : i < 6 := by omega
      have nx := ih (i + 1) (pqS D 5 (cmpL m (E (55 + 3 * c) i))) (by omega) (hD.pq _)
      have cl := cmpL_len m (E (55 + 3 * c) i)
      have c2 := ccL_len m (E (55 + 3 * c)) i
      refine x_iload_n d_A_mapChunk_4 rfl ?_
      first | refine x_aload_n d_A_mapChunk_5 rfl ?_ | refine x_aloadq_n d_A_mapChunk_5 rfl ?_
      refine xc_refA (j := 1) d_A_mapChunk_6 hs rfl (by decide) wf_A_17 (fun _ _ => rfl) hs.r1 ?_
      refine x_iload_n d_A_mapChunk_9 rfl ?_
      first | refine xc_aaW d_A_mapChunk_10 hs (by first | assumption | omega) ?_ | refine xc_aaC d_A_mapChunk_10 hs (by first | assumption | omega) ?_ | refine xc_aaM d_A_mapChunk_10 hs (by first | assumption | omega) ?_ | refine xc_aaR d_A_mapChunk_10 hs (by first | assumption | omega) ?_ | refine xc_aaT d_A_mapChunk_10 hs (by first | assumption | omega) ?_ | refine xc_aaO d_A_mapChunk_10 hs (by first | assumption | omega) ?_
      refine xc_get (kc := 1) (j := 1) d_A_mapChunk_11 (hs.Ch (by first | assumption | omega)) (by omega) rfl (by decide) wf_A_107 (fun _ _ => rfl) ?_
      rw [tq_out (by omega), hD _ _ (by omega) (by omega) (by omega), hn]
      refine x_icmp_ge_f 66 d_A_mapChunk_14 (by decide) ((nI_ge (by omega) (by omega))) ?_
      first | refine x_aload_n d_A_mapChunk_17 rfl ?_ | refine x_aloadq_n d_A_mapChunk_17 rfl ?_
      refine xc_getA (j := 9) d_A_mapChunk_18 hs rfl (by decide) wf_A_57 (fun _ _ => rfl) ?_
      rw [tq_out (by omega), hD _ _ (by omega) (by omega) (by omega), hm]
      first | refine x_aload_n d_A_mapChunk_21 rfl ?_ | refine x_aloadq_n d_A_mapChunk_21 rfl ?_
      refine xc_refA (j := 1) d_A_mapChunk_22 hs rfl (by decide) wf_A_17 (fun _ _ => rfl) hs.r1 ?_
      refine x_iload_n d_A_mapChunk_25 rfl ?_
      first | refine xc_aaW d_A_mapChunk_26 hs (by first | assumption | omega) ?_ | refine xc_aaC d_A_mapChunk_26 hs (by first | assumption | omega) ?_ | refine xc_aaM d_A_mapChunk_26 hs (by first | assumption | omega) ?_ | refine xc_aaR d_A_mapChunk_26 hs (by first | assumption | omega) ?_ | refine xc_aaT d_A_mapChunk_26 hs (by first | assumption | omega) ?_ | refine xc_aaO d_A_mapChunk_26 hs (by first | assumption | omega) ?_
      refine xc_ref (kc := 1) (j := 0) d_A_mapChunk_27 (hs.Ch (by first | assumption | omega)) ⟨by omega, by decide⟩ rfl (by decide) wf_A_210 (fun _ _ => rfl) (hs.C2 (by first | assumption | omega)).1 ?_
      refine x_iload_n d_A_mapChunk_30 rfl ?_
      first | refine xc_aldK d_A_mapChunk_31 hs (by assumption) (by first | assumption | omega) ?_ | refine xc_aldV d_A_mapChunk_31 hs (by assumption) (by first | assumption | omega) ?_ | refine xc_aldN d_A_mapChunk_31 hs (by first | assumption | omega) (by first | assumption | omega) ?_
      rw [tq_out (by omega), hD _ _ (by omega) (by omega) (by omega)]
      first | refine x_aload_n d_A_mapChunk_32 rfl ?_ | refine x_aloadq_n d_A_mapChunk_32 rfl ?_
      refine xc_refA (j := 4) d_A_mapChunk_33 hs rfl (by decide) wf_A_35 (fun _ _ => rfl) hs.r4 ?_
      refine x_callS (M' := m_A_mapNumber) (As := [_, _, _]) (fr' := 2) (wd' := 46) d_A_mapChunk_36 pl_A_mapNumber rfl (Nat.le_of_ble_eq_true rfl) (by decide) (by decide) wc_A_mapNumber wi_A wl_A_213 ws_A_mapNumber (by decide) np_A_mapNumber (Nat.le_of_ble_eq_true rfl) (fun q hq => by cases hq) (c_A_mapNumber hs _ _ (hv i (by omega))) (fun k a h1 q => by cases q.1) (fun v h1 q => ?_)
      obtain ⟨q1, rfl⟩ := q
      cases q1
      first | refine x_aload_n d_A_mapChunk_39 rfl ?_ | refine x_aloadq_n d_A_mapChunk_39 rfl ?_
      refine xc_refA (j := 5) d_A_mapChunk_40 hs rfl (by decide) wf_A_42 (fun _ _ => rfl) cset_job ?_
      first | refine x_aload_n d_A_mapChunk_43 rfl ?_ | refine x_aloadq_n d_A_mapChunk_43 rfl ?_
      refine xc_refA (j := 4) d_A_mapChunk_44 hs rfl (by decide) wf_A_35 (fun _ _ => rfl) hs.r4 ?_
      rw [tq_5]
      refine x_callV (M' := m_J_take) (As := [_]) (fr' := 2) (wd' := 43) d_A_mapChunk_47 (hs.J _) rfl pl_J_take rfl (Nat.le_of_ble_eq_true rfl) (by decide) (by decide) wc_J_take wi_J wl_A_217 wm_J_take we_J_take (by decide) np_J_take (Nat.le_of_ble_eq_true rfl) (fun q hq => by cases hq) (c_J_take hs (r := r) (by omega) (by rw [hD _ _ (by omega) (by omega) (by omega)]; exact hr) hr3 (fun p hp => by have h9 := tkQ_len (max r 1) (ccL m (E (55 + 3 * c)) i) Q p; have := hQ p hp; omega)) (fun k a h1 q => by cases q.1) (fun v h1 q => ?_)
      obtain ⟨q1, rfl⟩ := q
      cases q1
      refine x_iload_n d_A_mapChunk_50 rfl ?_
      first | refine x_aload_n d_A_mapChunk_51 rfl ?_ | refine x_aloadq_n d_A_mapChunk_51 rfl ?_
      refine xc_refA (j := 4) d_A_mapChunk_52 hs rfl (by decide) wf_A_35 (fun _ _ => rfl) hs.r4 ?_
      have ho : isP 5 6 := Or.inl ⟨rfl, rfl⟩
      refine xc_get (kc := 3) (j := 2) d_A_mapChunk_55 (hs.P (by assumption)) (P75 (by assumption)) rfl (by decide) wf_A_126 (fun _ _ => rfl) ?_
      rw [tq_out (by omega), pq_n]
      refine x_iadd d_A_mapChunk_58 ?_
      rw [nI_add, ← List.length_append, ← tkQ_app, show ccL m (E (55 + 3 * c)) i ++ cmpL m (E (55 + 3 * c) i) = ccL m (E (55 + 3 * c)) (i + 1) from rfl]
      refine x_istore_n d_A_mapChunk_59 (by decide) ?_
      first | refine x_incN d_A_mapChunk_60 rfl (by decide) ?_ | refine x_inc d_A_mapChunk_60 rfl (by decide) ?_
      refine x_goto (tgt := 4) d_A_mapChunk_63 (by decide) ?_
      refine xV.loc (nx) (by repeat (first | exact trivial | refine ⟨rfl, ?_⟩))
  have this := lp n 0 E (by omega) (AG.refl E)
  unfold xVM
  refine x_iconst (v := nI 0) d_A_mapChunk_0 (by decide) ?_
  refine x_istore_n d_A_mapChunk_1 (by decide) ?_
  refine x_iconst (v := nI 0) d_A_mapChunk_2 (by decide) ?_
  refine x_istore_n d_A_mapChunk_3 (by decide) ?_
  refine xV.loc (this) (by repeat (first | exact trivial | refine ⟨rfl, ?_⟩))
theorem c_A_pairsOfChunks (hs : CSh h0 z) {c : Nat} {sz : Nat → Nat} {m : Int32} (hc : C 0 8 = nI c) (hc6 : c ≤ 6) (hn : ∀ t, t < c → C (54 + 3 * t) 1 = nI (sz t) ∧ sz t ≤ 6) (hm : C 0 9 = m) (hv : ∀ t i, t < c → i < sz t → (C (55 + 3 * t) i).toInt.natAbs < 10 ^ 6) :
    xVM l G 3 68 m_A_pairsOfChunks [.ref z] (cset z C b tk h0) (fun q h' => ∃ E', AG E' C ∧ q = .inl (some (.int (nI (caL m C sz c).length))) ∧ h' = cset z E' b tk h0) := by
  have lp : ∀ (k t : Nat) (D : Nat → Nat → Int32), t + k = c → AG D C → xV l G 3 68 m_A_pairsOfChunks 4 [(2, .int (nI t)), (1, .int (nI (caL m C sz t).length)), (0, .ref z)] [] (cset z D b tk h0)
      (fun q h' => ∃ E', AG E' C ∧ q = .inl (some (.int (nI (caL m C sz c).length))) ∧ h' = cset z E' b tk h0) := by
    intro k
    induction k with
    | zero =>
      intro t D ht hD
      obtain rfl : t = c := by omega
      refine x_iload_n d_A_pairsOfChunks_4 rfl ?_
      first | refine x_aload_n d_A_pairsOfChunks_5 rfl ?_ | refine x_aloadq_n d_A_pairsOfChunks_5 rfl ?_
      refine xc_getA (j := 8) d_A_pairsOfChunks_6 hs rfl (by decide) wf_A_53 (fun _ _ => rfl) ?_
      rw [hD _ _ (by omega) (by omega) (by omega), hc]
      refine x_icmp_ge_t (tgt := 71) d_A_pairsOfChunks_9 (by decide) ((nI_le (by omega) (by omega))) ?_
      refine x_iload_n d_A_pairsOfChunks_71 rfl ?_
      refine x_iret d_A_pairsOfChunks_72 rfl (by first | rfl | assumption) ?_
      exact ⟨D, hD, rfl, rfl⟩
    | succ k ih =>
      intro t D ht hD
      obtain ⟨n1, n2⟩ := hn t (by omega)
      have lp2 : ∀ (k2 i : Nat) (D : Nat → Nat → Int32), i + k2 = sz t → AG D C → xV l G 3 68 m_A_pairsOfChunks 14 [(3, .int (nI i)), (2, .int (nI t)), (1, .int (nI (caL m C sz t ++ ccL m (C (55 + 3 * t)) i).length)), (0, .ref z)] [] (cset z D b tk h0)
          (fun q h' => ∃ E', AG E' C ∧ q = .inl (some (.int (nI (caL m C sz c).length))) ∧ h' = cset z E' b tk h0) := by
        intro k2
        induction k2 with
        | zero =>
          intro i D hi hD
          obtain rfl : i = sz t := by omega
          have nx := ih (t + 1) D (by omega) hD
          refine x_iload_n d_A_pairsOfChunks_14 rfl ?_
          first | refine x_aload_n d_A_pairsOfChunks_15 rfl ?_ | refine x_aloadq_n d_A_pairsOfChunks_15 rfl ?_
          refine xc_refA (j := 1) d_A_pairsOfChunks_16 hs rfl (by decide) wf_A_17 (fun _ _ => rfl) hs.r1 ?_
          refine x_iload_n d_A_pairsOfChunks_19 rfl ?_
          first | refine xc_aaW d_A_pairsOfChunks_20 hs (by first | assumption | omega) ?_ | refine xc_aaC d_A_pairsOfChunks_20 hs (by first | assumption | omega) ?_ | refine xc_aaM d_A_pairsOfChunks_20 hs (by first | assumption | omega) ?_ | refine xc_aaR d_A_pairsOfChunks_20 hs (by first | assumption | omega) ?_ | refine xc_aaT d_A_pairsOfChunks_20 hs (by first | assumption | omega) ?_ | refine xc_aaO d_A_pairsOfChunks_20 hs (by first | assumption | omega) ?_
          refine xc_get (kc := 1) (j := 1) d_A_pairsOfChunks_21 (hs.Ch (by first | assumption | omega)) (by omega) rfl (by decide) wf_A_107 (fun _ _ => rfl) ?_
          rw [hD _ _ (by omega) (by omega) (by omega), n1]
          refine x_icmp_ge_t (tgt := 65) d_A_pairsOfChunks_24 (by decide) ((nI_le (by omega) (by omega))) ?_
          first | refine x_incN d_A_pairsOfChunks_65 rfl (by decide) ?_ | refine x_inc d_A_pairsOfChunks_65 rfl (by decide) ?_
          refine x_goto (tgt := 4) d_A_pairsOfChunks_68 (by decide) ?_
          refine xV.loc (nx) (by repeat (first | exact trivial | refine ⟨rfl, ?_⟩))
        | succ k2 ih2 =>
          intro i D hi hD
          have i6 : i < 6 := by omega
          have nx := ih2 (i + 1) (pqS D 5 (cmpL m (C (55 + 3 * t) i))) (by omega) (hD.pq _)
          refine x_iload_n d_A_pairsOfChunks_14 rfl ?_
          first | refine x_aload_n d_A_pairsOfChunks_15 rfl ?_ | refine x_aloadq_n d_A_pairsOfChunks_15 rfl ?_
          refine xc_refA (j := 1) d_A_pairsOfChunks_16 hs rfl (by decide) wf_A_17 (fun _ _ => rfl) hs.r1 ?_
          refine x_iload_n d_A_pairsOfChunks_19 rfl ?_
          first | refine xc_aaW d_A_pairsOfChunks_20 hs (by first | assumption | omega) ?_ | refine xc_aaC d_A_pairsOfChunks_20 hs (by first | assumption | omega) ?_ | refine xc_aaM d_A_pairsOfChunks_20 hs (by first | assumption | omega) ?_ | refine xc_aaR d_A_pairsOfChunks_20 hs (by first | assumption | omega) ?_ | refine xc_aaT d_A_pairsOfChunks_20 hs (by first | assumption | omega) ?_ | refine xc_aaO d_A_pairsOfChunks_20 hs (by first | assumption | omega) ?_
          refine xc_get (kc := 1) (j := 1) d_A_pairsOfChunks_21 (hs.Ch (by first | assumption | omega)) (by omega) rfl (by decide) wf_A_107 (fun _ _ => rfl) ?_
          rw [hD _ _ (by omega) (by omega) (by omega), n1]
          refine x_icmp_ge_f 65 d_A_pairsOfChunks_24 (by decide) ((nI_ge (by omega) (by omega))) ?_
          first | refine x_aload_n d_A_pairsOfChunks_27 rfl ?_ | refine x_aloadq_n d_A_pairsOfChunks_27 rfl ?_
          refine xc_getA (j := 9) d_A_pairsOfChunks_28 hs rfl (by decide) wf_A_57 (fun _ _ => rfl) ?_
          rw [hD _ _ (by omega) (by omega) (by omega), hm]
          first | refine x_aload_n d_A_pairsOfChunks_31 rfl ?_ | refine x_aloadq_n d_A_pairsOfChunks_31 rfl ?_
          refine xc_refA (j := 1) d_A_pairsOfChunks_32 hs rfl (by decide) wf_A_17 (fun _ _ => rfl) hs.r1 ?_
          refine x_iload_n d_A_pairsOfChunks_35 rfl ?_
          first | refine xc_aaW d_A_pairsOfChunks_36 hs (by first | assumption | omega) ?_ | refine xc_aaC d_A_pairsOfChunks_36 hs (by first | assumption | omega) ?_ | refine xc_aaM d_A_pairsOfChunks_36 hs (by first | assumption | omega) ?_ | refine xc_aaR d_A_pairsOfChunks_36 hs (by first | assumption | omega) ?_ | refine xc_aaT d_A_pairsOfChunks_36 hs (by first | assumption | omega) ?_ | refine xc_aaO d_A_pairsOfChunks_36 hs (by first | assumption | omega) ?_
          refine xc_ref (kc := 1) (j := 0) d_A_pairsOfChunks_37 (hs.Ch (by first | assumption | omega)) ⟨by omega, by decide⟩ rfl (by decide) wf_A_210 (fun _ _ => rfl) (hs.C2 (by first | assumption | omega)).1 ?_
          refine x_iload_n d_A_pairsOfChunks_40 rfl ?_
          first | refine xc_aldK d_A_pairsOfChunks_41 hs (by assumption) (by first | assumption | omega) ?_ | refine xc_aldV d_A_pairsOfChunks_41 hs (by assumption) (by first | assumption | omega) ?_ | refine xc_aldN d_A_pairsOfChunks_41 hs (by first | assumption | omega) (by first | assumption | omega) ?_
          rw [hD _ _ (by omega) (by omega) (by omega)]
          first | refine x_aload_n d_A_pairsOfChunks_42 rfl ?_ | refine x_aloadq_n d_A_pairsOfChunks_42 rfl ?_
          refine xc_refA (j := 4) d_A_pairsOfChunks_43 hs rfl (by decide) wf_A_35 (fun _ _ => rfl) hs.r4 ?_
          refine x_callS (M' := m_A_mapNumber) (As := [_, _, _]) (fr' := 2) (wd' := 46) d_A_pairsOfChunks_46 pl_A_mapNumber rfl (Nat.le_of_ble_eq_true rfl) (by decide) (by decide) wc_A_mapNumber wi_A wl_A_213 ws_A_mapNumber (by decide) np_A_mapNumber (Nat.le_of_ble_eq_true rfl) (fun q hq => by cases hq) (c_A_mapNumber hs _ _ (hv t i (by omega) (by omega))) (fun k a h1 q => by cases q.1) (fun v h1 q => ?_)
          obtain ⟨q1, rfl⟩ := q
          cases q1
          refine x_iload_n d_A_pairsOfChunks_49 rfl ?_
          first | refine x_aload_n d_A_pairsOfChunks_50 rfl ?_ | refine x_aloadq_n d_A_pairsOfChunks_50 rfl ?_
          refine xc_refA (j := 4) d_A_pairsOfChunks_51 hs rfl (by decide) wf_A_35 (fun _ _ => rfl) hs.r4 ?_
          have ho : isP 5 6 := Or.inl ⟨rfl, rfl⟩
          refine xc_get (kc := 3) (j := 2) d_A_pairsOfChunks_54 (hs.P (by assumption)) (P75 (by assumption)) rfl (by decide) wf_A_126 (fun _ _ => rfl) ?_
          rw [pq_n]
          refine x_iadd d_A_pairsOfChunks_57 ?_
          rw [nI_add, ← List.length_append, List.append_assoc, show ccL m (C (55 + 3 * t)) i ++ cmpL m (C (55 + 3 * t) i) = ccL m (C (55 + 3 * t)) (i + 1) from rfl]
          refine x_istore_n d_A_pairsOfChunks_58 (by decide) ?_
          first | refine x_incN d_A_pairsOfChunks_59 rfl (by decide) ?_ | refine x_inc d_A_pairsOfChunks_59 rfl (by decide) ?_
          refine x_goto (tgt := 14) d_A_pairsOfChunks_62 (by decide) ?_
          refine xV.loc (nx) (by repeat (first | exact trivial | refine ⟨rfl, ?_⟩))
      have this := lp2 (sz t) 0 D (by omega) hD
      rw [show ccL m (C (55 + 3 * t)) 0 = [] from rfl, List.append_nil] at this
      refine x_iload_n d_A_pairsOfChunks_4 rfl ?_
      first | refine x_aload_n d_A_pairsOfChunks_5 rfl ?_ | refine x_aloadq_n d_A_pairsOfChunks_5 rfl ?_
      refine xc_getA (j := 8) d_A_pairsOfChunks_6 hs rfl (by decide) wf_A_53 (fun _ _ => rfl) ?_
      rw [hD _ _ (by omega) (by omega) (by omega), hc]
      refine x_icmp_ge_f 71 d_A_pairsOfChunks_9 (by decide) ((nI_ge (by omega) (by omega))) ?_
      refine x_iconst (v := nI 0) d_A_pairsOfChunks_12 (by decide) ?_
      refine x_istore_n d_A_pairsOfChunks_13 (by decide) ?_
      refine xV.loc (this) (by repeat (first | exact trivial | refine ⟨rfl, ?_⟩))
  have this := lp c 0 C (by omega) (AG.refl C)
  unfold xVM
  refine x_iconst (v := nI 0) d_A_pairsOfChunks_0 (by decide) ?_
  refine x_istore_n d_A_pairsOfChunks_1 (by decide) ?_
  refine x_iconst (v := nI 0) d_A_pairsOfChunks_2 (by decide) ?_
  refine x_istore_n d_A_pairsOfChunks_3 (by decide) ?_
  refine xV.loc (this) (by repeat (first | exact trivial | refine ⟨rfl, ?_⟩))
def fiC (C : Nat → Nat → Int32) (c : Nat) (x : Int64) (f : Int32) (n : Nat) : Nat → Nat → Int32 := fun k j => if k = 55 + 3 * c ∧ j < n then bval x f j else C k j
theorem fiC_0 (C : Nat → Nat → Int32) (c : Nat) (x : Int64) (f : Int32) : fiC C c x f 0 = C := by
  funext k j; exact if_neg (by omega)
theorem fiC_k {C : Nat → Nat → Int32} {c : Nat} {x : Int64} {f : Int32} {n k : Nat} (h : k ≠ 55 + 3 * c) : fiC C c x f n k = C k := by
  funext j; exact if_neg (by omega)
theorem fiC_s {C : Nat → Nat → Int32} {c : Nat} {x : Int64} {f : Int32} {n : Nat} : xu (fiC C c x f n) (55 + 3 * c) n (bval x f n) = fiC C c x f (n + 1) := by
  funext k j
  by_cases h : k = 55 + 3 * c ∧ j = n
  · obtain ⟨rfl, rfl⟩ := h
    rw [xu_s]; unfold fiC; rw [if_pos (by omega)]
  · rw [show xu (fiC C c x f n) (55 + 3 * c) n (bval x f n) k j = fiC C c x f n k j from if_neg h]
    have : (k = 55 + 3 * c ∧ j < n) ↔ (k = 55 + 3 * c ∧ j < n + 1) := by omega
    simp only [fiC, this]
theorem c_C_fill (hs : CSh h0 z) {c n : Nat} (hc : c < 6) (x : Int64) (f : Int32) (hn : n ≤ 6) : xVM l G 1 21 m_C_fill [.ref (z + (54 + 3 * c)), .long x, .int (nI n), .int f] (cset z C b tk h0) (fun q h' => q = .inl none ∧ h' = cset z (fiC (xu C (54 + 3 * c) 1 (nI n)) c x f n) b tk h0) := by
  have lp : ∀ (k i : Nat), i + k = n → xV l G 1 21 m_C_fill 13 [(5, .int (nI i)), (0, .ref (z + (54 + 3 * c))), (1, .long x), (3, .int (nI n)), (4, .int f)] [] (cset z (fiC (xu C (54 + 3 * c) 1 (nI n)) c x f i) b tk h0) (fun q h' => q = .inl none ∧ h' = cset z (fiC (xu C (54 + 3 * c) 1 (nI n)) c x f n) b tk h0) := by
    intro k
    induction k with
    | zero =>
      intro i hi
      obtain rfl : i = n := by omega
      refine x_iload d_C_fill_13 rfl ?_
      first | refine x_aload_n d_C_fill_15 rfl ?_ | refine x_aloadq_n d_C_fill_15 rfl ?_
      refine xc_get (kc := 1) (j := 1) d_C_fill_16 (hs.Ch (by first | assumption | omega)) (by omega) rfl (by decide) wf_C_15 (fun _ _ => rfl) ?_
      rw [fiC_k (by omega), xu_s]
      refine x_icmp_ge_t (tgt := 47) d_C_fill_19 (by decide) ((nI_le (by omega) (by omega))) ?_
      refine x_vret d_C_fill_47 rfl ?_
      exact ⟨rfl, rfl⟩
    | succ k ih =>
      intro i hi
      have i6 : i < 6 := by omega
      have nx := ih (i + 1) (by omega)
      refine x_iload d_C_fill_13 rfl ?_
      first | refine x_aload_n d_C_fill_15 rfl ?_ | refine x_aloadq_n d_C_fill_15 rfl ?_
      refine xc_get (kc := 1) (j := 1) d_C_fill_16 (hs.Ch (by first | assumption | omega)) (by omega) rfl (by decide) wf_C_15 (fun _ _ => rfl) ?_
      rw [fiC_k (by omega), xu_s]
      refine x_icmp_ge_f 47 d_C_fill_19 (by decide) ((nI_ge (by omega) (by omega))) ?_
      first | refine x_aload_n d_C_fill_22 rfl ?_ | refine x_aloadq_n d_C_fill_22 rfl ?_
      refine xc_ref (kc := 1) (j := 0) d_C_fill_23 (hs.Ch (by first | assumption | omega)) ⟨by omega, by decide⟩ rfl (by decide) wf_C_9 (fun _ _ => rfl) (hs.C2 (by first | assumption | omega)).1 ?_
      refine x_iload d_C_fill_26 rfl ?_
      refine x_lload_n d_C_fill_28 rfl ?_
      refine x_bipush (v := nI 8) d_C_fill_29 (by decide) ?_
      refine x_iload d_C_fill_31 rfl ?_
      refine x_imul d_C_fill_33 ?_
      refine x_lshr d_C_fill_34 ?_
      refine x_l2i d_C_fill_35 ?_
      refine x_i2b d_C_fill_36 ?_
      refine x_iload d_C_fill_37 rfl ?_
      refine x_imul d_C_fill_39 ?_
      first | refine xc_astK d_C_fill_40 hs (by assumption) (by first | assumption | omega) ?_ | refine xc_astV d_C_fill_40 hs (by assumption) (by first | assumption | omega) ?_ | refine xc_astN d_C_fill_40 hs (by first | assumption | omega) (by first | assumption | omega) ?_
      first | refine x_incN d_C_fill_41 rfl (by decide) ?_ | refine x_inc d_C_fill_41 rfl (by decide) ?_
      refine x_goto (tgt := 13) d_C_fill_44 (by decide) ?_
      rw [show xu (fiC (xu C (54 + 3 * c) 1 (nI n)) c x f i) (55 + 3 * c) i ((x >>> ((nI 8 * nI i).toInt64 &&& 63)).toInt32.toInt8.toInt32 * f) = fiC (xu C (54 + 3 * c) 1 (nI n)) c x f (i + 1) from fiC_s]
      refine xV.loc (nx) (by repeat (first | exact trivial | refine ⟨rfl, ?_⟩))
  have this := lp n 0 (by omega)
  rw [fiC_0] at this
  unfold xVM
  first | refine x_aload_n d_C_fill_0 rfl ?_ | refine x_aloadq_n d_C_fill_0 rfl ?_
  refine x_iload_n d_C_fill_1 rfl ?_
  refine x_bipush (v := nI 6) d_C_fill_2 (by decide) ?_
  refine x_callS (M' := m_Z_min) (As := [_, _]) (fr' := 0) (wd' := 0) d_C_fill_4 pl_Z_min rfl (Nat.le_of_ble_eq_true rfl) (by decide) (by decide) wc_Z_min wi_Z wl_C_19 ws_Z_min (by decide) np_Z_min (Nat.le_of_ble_eq_true rfl) (fun q hq => by cases hq) (c_Z_min _ _) (fun k a h1 q => by cases q.1) (fun v h1 q => ?_)
  obtain ⟨q1, rfl⟩ := q
  cases q1
  rw [if_neg (nI_nlt (by omega) (by omega))]
  refine xc_put (kc := 1) (j := 1) d_C_fill_7 (hs.Ch (by first | assumption | omega)) (by omega) rfl (by decide) wf_C_15 (Or.inl rfl) (by first | rfl | assumption) rfl (fun _ _ => rfl) ?_
  refine x_iconst (v := nI 0) d_C_fill_10 (by decide) ?_
  refine x_istore d_C_fill_11 (by decide) ?_
  refine xV.loc (this) (by repeat (first | exact trivial | refine ⟨rfl, ?_⟩))
def chC (C : Nat → Nat → Int32) (c : Nat) (x : Int64) (f : Int32) (n : Nat) : Nat → Nat → Int32 := xu (fiC (xu C (54 + 3 * c) 1 (nI n)) c x f n) 0 8 (nI (c + 1))
theorem c_A_chunk (hs : CSh h0 z) {c : Nat} {n f : Int32} (x : Int64) (hok : okf n f) (hc : C 0 8 = nI c) (hc6 : c < 6) (hu : C 0 7 = 0) : xVM l G 8 124 m_A_chunk [.ref z, .long x, .int n, .int f] (cset z C b tk h0) (fun q h' => q = .inl (some (.int (nI c))) ∧ h' = cset z (chC C c x f n.toNatClampNeg) b tk h0) := by
  obtain ⟨N, rfl, hN1, hN⟩ := rng_of (by decide) (by decide) hok.1
  rw [nI_clamp (by omega)]
  unfold xVM
  refine x_iload_n d_A_chunk_0 rfl ?_
  refine x_iconst (v := nI 1) d_A_chunk_1 (by decide) ?_
  refine x_bipush (v := nI 6) d_A_chunk_2 (by decide) ?_
  refine x_callS (M' := m_A_demandRange) (As := [_, _, _]) (fr' := 7) (wd' := 102) d_A_chunk_4 pl_A_demandRange rfl (Nat.le_of_ble_eq_true rfl) (by decide) (by decide) wc_A_demandRange wi_A wl_A_81 ws_A_demandRange (by decide) np_A_demandRange (Nat.le_of_ble_eq_true rfl) (fun q hq => by cases hq) (c_A_range hok.1) (fun k a h1 q => by cases q.1) (fun v h1 q => ?_)
  obtain ⟨q1, rfl⟩ := q
  cases q1
  refine x_iload d_A_chunk_7 rfl ?_
  refine x_sipush (v := (-1000)) d_A_chunk_9 (by decide) ?_
  refine x_sipush (v := nI 1000) d_A_chunk_12 (by decide) ?_
  refine x_callS (M' := m_A_demandRange) (As := [_, _, _]) (fr' := 7) (wd' := 102) d_A_chunk_15 pl_A_demandRange rfl (Nat.le_of_ble_eq_true rfl) (by decide) (by decide) wc_A_demandRange wi_A wl_A_81 ws_A_demandRange (by decide) np_A_demandRange (Nat.le_of_ble_eq_true rfl) (fun q hq => by cases hq) (c_A_range hok.2) (fun k a h1 q => by cases q.1) (fun v h1 q => ?_)
  obtain ⟨q1, rfl⟩ := q
  cases q1
  first | refine x_aload_n d_A_chunk_18 rfl ?_ | refine x_aloadq_n d_A_chunk_18 rfl ?_
  refine xc_getA (j := 7) d_A_chunk_19 hs rfl (by decide) wf_A_49 (fun _ _ => rfl) ?_
  refine x_if_ne_f 34 d_A_chunk_22 (by decide) (hu) ?_
  first | refine x_aload_n d_A_chunk_25 rfl ?_ | refine x_aloadq_n d_A_chunk_25 rfl ?_
  refine xc_getA (j := 8) d_A_chunk_26 hs rfl (by decide) wf_A_53 (fun _ _ => rfl) ?_
  refine x_bipush (v := nI 6) d_A_chunk_29 (by decide) ?_
  rw [hc]
  refine x_icmp_lt_t (tgt := 42) d_A_chunk_31 (by decide) ((nI_lt (by omega) (by omega))) ?_
  first | refine x_aload_n d_A_chunk_42 rfl ?_ | refine x_aloadq_n d_A_chunk_42 rfl ?_
  refine xc_refA (j := 1) d_A_chunk_43 hs rfl (by decide) wf_A_17 (fun _ _ => rfl) hs.r1 ?_
  first | refine x_aload_n d_A_chunk_46 rfl ?_ | refine x_aloadq_n d_A_chunk_46 rfl ?_
  refine xc_getA (j := 8) d_A_chunk_47 hs rfl (by decide) wf_A_53 (fun _ _ => rfl) ?_
  rw [hc]
  first | refine xc_aaW d_A_chunk_50 hs (by first | assumption | omega) ?_ | refine xc_aaC d_A_chunk_50 hs (by first | assumption | omega) ?_ | refine xc_aaM d_A_chunk_50 hs (by first | assumption | omega) ?_ | refine xc_aaR d_A_chunk_50 hs (by first | assumption | omega) ?_ | refine xc_aaT d_A_chunk_50 hs (by first | assumption | omega) ?_ | refine xc_aaO d_A_chunk_50 hs (by first | assumption | omega) ?_
  refine x_lload_n d_A_chunk_51 rfl ?_
  refine x_iload_n d_A_chunk_52 rfl ?_
  refine x_iload d_A_chunk_53 rfl ?_
  refine x_callV (M' := m_C_fill) (As := [_, _, _]) (fr' := 1) (wd' := 21) d_A_chunk_55 (hs.Ch (by first | assumption | omega)) rfl pl_C_fill rfl (Nat.le_of_ble_eq_true rfl) (by decide) (by decide) wc_C_fill wi_C wl_A_88 wm_C_fill we_C_fill (by decide) np_C_fill (Nat.le_of_ble_eq_true rfl) (fun q hq => by cases hq) (c_C_fill hs hc6 x f hN) (fun k a h1 q => by cases q.1) (fun v h1 q => ?_)
  obtain ⟨q1, rfl⟩ := q
  cases q1
  first | refine x_aload_n d_A_chunk_58 rfl ?_ | refine x_aloadq_n d_A_chunk_58 rfl ?_
  refine x_dup d_A_chunk_59 rfl ?_
  refine xc_getA (j := 8) d_A_chunk_60 hs rfl (by decide) wf_A_53 (fun _ _ => rfl) ?_
  rw [fiC_k (by omega), show xu C (54 + 3 * c) 1 (nI N) 0 8 = C 0 8 from if_neg (by omega), hc]
  refine x_iconst (v := nI 1) d_A_chunk_63 (by decide) ?_
  refine x_iadd d_A_chunk_64 ?_
  rw [nI_add]
  refine xc_putA (j := 8) d_A_chunk_65 hs rfl (by decide) wf_A_53 (Or.inl rfl) (by first | rfl | assumption) rfl (fun _ _ => rfl) ?_
  first | refine x_aload_n d_A_chunk_68 rfl ?_ | refine x_aloadq_n d_A_chunk_68 rfl ?_
  refine xc_getA (j := 8) d_A_chunk_69 hs rfl (by decide) wf_A_53 (fun _ _ => rfl) ?_
  rw [xu_s]
  refine x_iconst (v := nI 1) d_A_chunk_72 (by decide) ?_
  refine x_isub d_A_chunk_73 ?_
  rw [nI_sub (by omega), Nat.add_sub_cancel]
  refine x_iret d_A_chunk_74 rfl (by first | rfl | assumption) ?_
  exact ⟨rfl, rfl⟩
theorem c_A_chunkX0 (hnt : l.stackTraces = false) {h : xH} {n f : Int32} (x : Int64) (hok : ¬ okf n f) : xVM l G 8 124 m_A_chunk [.ref z, .long x, .int n, .int f] h (fun q h' => q = .inr (0, xnx h) ∧ h' = thrw 0 h) := by
  unfold xVM
  refine x_iload_n d_A_chunk_0 rfl ?_
  refine x_iconst (v := nI 1) d_A_chunk_1 (by decide) ?_
  refine x_bipush (v := nI 6) d_A_chunk_2 (by decide) ?_
  by_cases g1 : rng n 1 6
  · skip
    refine x_callS (M' := m_A_demandRange) (As := [_, _, _]) (fr' := 7) (wd' := 102) d_A_chunk_4 pl_A_demandRange rfl (Nat.le_of_ble_eq_true rfl) (by decide) (by decide) wc_A_demandRange wi_A wl_A_81 ws_A_demandRange (by decide) np_A_demandRange (Nat.le_of_ble_eq_true rfl) (fun q hq => by cases hq) (c_A_range g1) (fun k a h1 q => by cases q.1) (fun v h1 q => ?_)
    obtain ⟨q1, rfl⟩ := q
    cases q1
    refine x_iload d_A_chunk_7 rfl ?_
    refine x_sipush (v := (-1000)) d_A_chunk_9 (by decide) ?_
    refine x_sipush (v := nI 1000) d_A_chunk_12 (by decide) ?_
    refine x_callS (M' := m_A_demandRange) (As := [_, _, _]) (fr' := 7) (wd' := 102) d_A_chunk_15 pl_A_demandRange rfl (Nat.le_of_ble_eq_true rfl) (by decide) (by decide) wc_A_demandRange wi_A wl_A_81 ws_A_demandRange (by decide) np_A_demandRange (Nat.le_of_ble_eq_true rfl) (fun q hq => by cases hq) (c_A_rangeX hnt (fun q => hok ⟨g1, q⟩)) (fun k a h1 q => ?_) (fun v h1 q => by cases q.1)
    obtain ⟨q1, rfl⟩ := q
    cases q1
    exact ⟨rfl, rfl⟩
  · skip
    refine x_callS (M' := m_A_demandRange) (As := [_, _, _]) (fr' := 7) (wd' := 102) d_A_chunk_4 pl_A_demandRange rfl (Nat.le_of_ble_eq_true rfl) (by decide) (by decide) wc_A_demandRange wi_A wl_A_81 ws_A_demandRange (by decide) np_A_demandRange (Nat.le_of_ble_eq_true rfl) (fun q hq => by cases hq) (c_A_rangeX hnt g1) (fun k a h1 q => ?_) (fun v h1 q => by cases q.1)
    obtain ⟨q1, rfl⟩ := q
    cases q1
    exact ⟨rfl, rfl⟩
theorem c_A_chunkX1 (hnt : l.stackTraces = false) (hs : CSh h0 z) {c : Nat} {n f : Int32} (x : Int64) (hok : okf n f) (hc : C 0 8 = nI c) (hc6 : c ≤ 6) (hu : ¬ C 0 7 = 0 ∨ c = 6) : xVM l G 8 124 m_A_chunk [.ref z, .long x, .int n, .int f] (cset z C b tk h0) (fun q h' => q = .inr (1, xnx (cset z C b tk h0)) ∧ h' = thrw 1 (cset z C b tk h0)) := by
  unfold xVM
  refine x_iload_n d_A_chunk_0 rfl ?_
  refine x_iconst (v := nI 1) d_A_chunk_1 (by decide) ?_
  refine x_bipush (v := nI 6) d_A_chunk_2 (by decide) ?_
  refine x_callS (M' := m_A_demandRange) (As := [_, _, _]) (fr' := 7) (wd' := 102) d_A_chunk_4 pl_A_demandRange rfl (Nat.le_of_ble_eq_true rfl) (by decide) (by decide) wc_A_demandRange wi_A wl_A_81 ws_A_demandRange (by decide) np_A_demandRange (Nat.le_of_ble_eq_true rfl) (fun q hq => by cases hq) (c_A_range hok.1) (fun k a h1 q => by cases q.1) (fun v h1 q => ?_)
  obtain ⟨q1, rfl⟩ := q
  cases q1
  refine x_iload d_A_chunk_7 rfl ?_
  refine x_sipush (v := (-1000)) d_A_chunk_9 (by decide) ?_
  refine x_sipush (v := nI 1000) d_A_chunk_12 (by decide) ?_
  refine x_callS (M' := m_A_demandRange) (As := [_, _, _]) (fr' := 7) (wd' := 102) d_A_chunk_15 pl_A_demandRange rfl (Nat.le_of_ble_eq_true rfl) (by decide) (by decide) wc_A_demandRange wi_A wl_A_81 ws_A_demandRange (by decide) np_A_demandRange (Nat.le_of_ble_eq_true rfl) (fun q hq => by cases hq) (c_A_range hok.2) (fun k a h1 q => by cases q.1) (fun v h1 q => ?_)
  obtain ⟨q1, rfl⟩ := q
  cases q1
  first | refine x_aload_n d_A_chunk_18 rfl ?_ | refine x_aloadq_n d_A_chunk_18 rfl ?_
  refine xc_getA (j := 7) d_A_chunk_19 hs rfl (by decide) wf_A_49 (fun _ _ => rfl) ?_
  by_cases u0 : C 0 7 = 0
  · have c6 : c = 6 := by rcases hu with q | q; exact absurd u0 q; exact q
    refine x_if_ne_f 34 d_A_chunk_22 (by decide) (u0) ?_
    first | refine x_aload_n d_A_chunk_25 rfl ?_ | refine x_aloadq_n d_A_chunk_25 rfl ?_
    refine xc_getA (j := 8) d_A_chunk_26 hs rfl (by decide) wf_A_53 (fun _ _ => rfl) ?_
    refine x_bipush (v := nI 6) d_A_chunk_29 (by decide) ?_
    rw [hc]
    refine x_icmp_lt_f 42 d_A_chunk_31 (by decide) ((nI_nlt (by omega) (by omega))) ?_
    exact x_thr1 rfl d_A_chunk_34 d_A_chunk_37 d_A_chunk_38 d_A_chunk_41 rfl hnt (by decide) (by decide) (Nat.le_of_ble_eq_true rfl) ⟨rfl, rfl⟩
  · skip
    refine x_if_ne_t (tgt := 34) d_A_chunk_22 (by decide) (u0) ?_
    exact x_thr1 rfl d_A_chunk_34 d_A_chunk_37 d_A_chunk_38 d_A_chunk_41 rfl hnt (by decide) (by decide) (Nat.le_of_ble_eq_true rfl) ⟨rfl, rfl⟩
end XC7
