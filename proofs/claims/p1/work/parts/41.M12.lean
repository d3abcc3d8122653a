/-- map tasks done by w come to be not done -/
def loL (V : Nat → Nat → Int32) (w : Int32) : Nat → (Nat → Nat → Int32) × Bool
  | 0 => (V, false)
  | t + 1 => if (loL V w t).1 8 t = 0 ∨ ¬ (loL V w t).1 9 t = w then loL V w t else (xu (xu (loL V w t).1 8 t (nI 0)) 0 24 ((loL V w t).1 0 24 + nI 1), true)
theorem loL_keep {V : Nat → Nat → Int32} {w : Int32} {k j : Nat} (h8 : k ≠ 8) (h : ¬ (k = 0 ∧ j = 24)) : ∀ t, (loL V w t).1 k j = V k j
  | 0 => rfl
  | t + 1 => by
    have ih := loL_keep (V := V) (w := w) h8 h t
    rw [loL]
    split
    · exact ih
    · show xu (xu (loL V w t).1 8 t (nI 0)) 0 24 _ k j = _
      rw [show xu (xu (loL V w t).1 8 t (nI 0)) 0 24 ((loL V w t).1 0 24 + nI 1) k j = xu (loL V w t).1 8 t (nI 0) k j from if_neg h, xu_k _ _ _ h8]
      exact ih
def wo1 (S : Nat → Nat → Int32) (n : Nat) (up : Int32) : Nat → Nat → Int32 := xu (xu (xu (xu S 0 14 (nI 0)) 7 n up) 4 n (-1)) 5 n (nI 0)
def woS (S : Nat → Nat → Int32) (w up : Int32) (c : Nat) : Nat → Nat → Int32 :=
  if rng w 0 3 then (if S 7 w.toNatClampNeg = up then xu S 0 14 (nI 0) else if up = 0 then (if S 0 26 = 0 then wo1 S w.toNatClampNeg up else if (loL (wo1 S w.toNatClampNeg up) w c).2 = true then gvS (loL (wo1 S w.toNatClampNeg up) w c).1 (nI 1) 4 else (loL (wo1 S w.toNatClampNeg up) w c).1) else xu (xu S 0 14 (nI 0)) 7 w.toNatClampNeg up) else xu S 0 14 (nI 1)
section XM12
variable {l : Launch} {G : xG} {h0 : xH} {y : Nat} {S : Nat → Nat → Int32}
theorem c_M_worker (hs : MSh h0 y) (w up : Int32) {c : Nat} (hc : S 0 13 = nI c) (hc6 : c ≤ 6) (hup : narrow .boolean (.int up) = .int up) : xVM l G 1 22 m_M_worker [.ref y, .int w, .int up] (mset y S h0) (fun r h' => r = .inl none ∧ h' = mset y (woS S w up c) h0) := by
  unfold xVM
  refine x_aload_n d_M_worker_0 rfl ?_
  refine x_iload_n d_M_worker_1 rfl ?_
  refine x_iconst (v := nI 0) d_M_worker_2 (by decide) ?_
  refine x_iconst (v := nI 3) d_M_worker_3 (by decide) ?_
  refine x_callS (M' := m_M_in) (As := [_, _, _]) (fr' := 0) (wd' := 0) d_M_worker_4 pl_M_in rfl (Nat.le_of_ble_eq_true rfl) (by decide) (by decide) wc_M_in wi_M wl_M_67 ws_M_in (by decide) np_M_in (Nat.le_of_ble_eq_true rfl) (fun q hq => by cases hq) (c_M_in _ _ _) (fun k a h1 q => by cases q.1) (fun v h1 q => ?_)
  obtain ⟨q1, rfl⟩ := q
  cases q1
  by_cases h1 : rng w 0 3
  · obtain ⟨n, rfl, -, hn⟩ := rng_of (by decide) (by decide) h1
    have n4 : n < mlen 4 := by show n < 4; omega
    have n5 : n < mlen 5 := by show n < 4; omega
    have n7 : n < mlen 7 := by show n < 4; omega
    have cl : (nI n).toNatClampNeg = n := nI_clamp (by omega)
    rw [bI_t h1]
    refine x_callV (M' := m_M_bad) (As := [_]) (fr' := 0) (wd' := 0) d_M_worker_7 hs.1 rfl pl_M_bad rfl (Nat.le_of_ble_eq_true rfl) (by decide) (by decide) wc_M_bad wi_M wl_M_71 wm_M_bad we_M_bad (by decide) np_M_bad (Nat.le_of_ble_eq_true rfl) (fun q hq => by cases hq) (c_M_bad hs _) (fun k a h1 q => by cases q.1) (fun v h1 q => ?_)
    obtain ⟨q1, rfl⟩ := q
    cases q1
    rw [bI_f (by decide)]
    refine x_if_ne_f 23 d_M_worker_10 (by decide) ((by decide)) ?_
    refine x_aload_n d_M_worker_13 rfl ?_
    refine xm_ref (k := 7) (j := 6) d_M_worker_14 hs (by decide) rfl rfl (by decide) wf_M_28 rfl ?_
    refine x_iload_n d_M_worker_17 rfl ?_
    refine xm_zld d_M_worker_18 hs (by decide) rfl (by first | decide | assumption | omega) ?_
    refine x_iload_n d_M_worker_19 rfl ?_
    rw [xu_k _ _ _ (by decide)]
    by_cases e1 : S 7 n = up
    · skip
      refine x_icmp_ne_f 24 d_M_worker_20 (by decide) (e1) ?_
      refine x_vret d_M_worker_23 rfl ?_
      exact ⟨rfl, by unfold woS; rw [if_pos h1, cl, if_pos e1]⟩
    · skip
      refine x_icmp_ne_t (tgt := 24) d_M_worker_20 (by decide) (e1) ?_
      refine x_aload_n d_M_worker_24 rfl ?_
      refine xm_ref (k := 7) (j := 6) d_M_worker_25 hs (by decide) rfl rfl (by decide) wf_M_28 rfl ?_
      refine x_iload_n d_M_worker_28 rfl ?_
      refine x_iload_n d_M_worker_29 rfl ?_
      refine xm_zst d_M_worker_30 hs (by decide) rfl (by first | decide | assumption | omega) (hup) ?_
      refine x_iload_n d_M_worker_31 rfl ?_
      by_cases u0 : up = 0
      · skip
        refine x_if_eq_t (tgt := 36) d_M_worker_32 (by decide) (u0) ?_
        refine x_aload_n d_M_worker_36 rfl ?_
        refine xm_ref (k := 4) (j := 3) d_M_worker_37 hs (by decide) rfl rfl (by decide) wf_M_19 rfl ?_
        refine x_iload_n d_M_worker_40 rfl ?_
        refine x_iconst (v := (-1)) d_M_worker_41 (by decide) ?_
        refine xm_ast d_M_worker_42 hs (by decide) rfl (by first | decide | assumption | omega) ?_
        refine x_aload_n d_M_worker_43 rfl ?_
        refine xm_ref (k := 5) (j := 4) d_M_worker_44 hs (by decide) rfl rfl (by decide) wf_M_22 rfl ?_
        refine x_iload_n d_M_worker_47 rfl ?_
        refine x_iconst (v := nI 0) d_M_worker_48 (by decide) ?_
        refine xm_ast d_M_worker_49 hs (by decide) rfl (by first | decide | assumption | omega) ?_
        refine x_iconst (v := nI 0) d_M_worker_50 (by decide) ?_
        refine x_istore_n d_M_worker_51 (by decide) ?_
        refine x_iconst (v := nI 0) d_M_worker_52 (by decide) ?_
        refine x_istore d_M_worker_53 (by decide) ?_
        rw [show xu (xu (xu (xu S 0 14 (nI 0)) 7 n up) 4 n (-1)) 5 n (nI 0) = wo1 S n up from rfl]
        have k13 : wo1 S n up 0 13 = nI c := by unfold wo1; rw [xu_k _ _ _ (by decide), xu_k _ _ _ (by decide), xu_k _ _ _ (by decide), xu_j _ _ _ _ (by decide)]; exact hc
        have k26 : wo1 S n up 0 26 = S 0 26 := by unfold wo1; rw [xu_k _ _ _ (by decide), xu_k _ _ _ (by decide), xu_k _ _ _ (by decide), xu_j _ _ _ _ (by decide)]
        have e2 : woS S (nI n) up c = if S 0 26 = 0 then wo1 S n up else if (loL (wo1 S n up) (nI n) c).2 = true then gvS (loL (wo1 S n up) (nI n) c).1 (nI 1) 4 else (loL (wo1 S n up) (nI n) c).1 := by unfold woS; rw [if_pos h1, cl, if_neg e1, if_pos u0]
        rw [e2]
        generalize wo1 S n up = V at k13 k26
        by_cases j0 : S 0 26 = 0
        · rw [if_pos j0]
          refine x_iload d_M_worker_55 rfl ?_
          refine x_aload_n d_M_worker_57 rfl ?_
          refine xm_get (j := 13) d_M_worker_58 hs rfl (by decide) wf_M_79 (fun _ _ => rfl) ?_
          by_cases c0 : c = 0
          · skip
            rw [k13]
            refine x_icmp_ge_t (tgt := 121) d_M_worker_61 (by decide) ((nI_le (by omega) (by omega))) ?_
            refine x_iload_n d_M_worker_121 rfl ?_
            refine x_if_eq_t (tgt := 130) d_M_worker_122 (by decide) (rfl) ?_
            refine x_vret d_M_worker_130 rfl ?_
            exact ⟨rfl, rfl⟩
          · rw [k13]
            refine x_icmp_ge_f 121 d_M_worker_61 (by decide) ((nI_ge (by omega) (by omega))) ?_
            refine x_aload_n d_M_worker_64 rfl ?_
            refine xm_get (j := 26) d_M_worker_65 hs rfl (by decide) wf_M_75 (fun _ _ => rfl) ?_
            rw [k26]
            refine x_if_eq_t (tgt := 121) d_M_worker_68 (by decide) (j0) ?_
            refine x_iload_n d_M_worker_121 rfl ?_
            refine x_if_eq_t (tgt := 130) d_M_worker_122 (by decide) (rfl) ?_
            refine x_vret d_M_worker_130 rfl ?_
            exact ⟨rfl, rfl⟩
        · rw [if_neg j0]
          have lp : ∀ m t : Nat, t + m = c → xV l G 1 22 m_M_worker 55 [(4, .int (nI t)), (3, .int (bI ((loL V (nI n) t).2 = true))), (0, .ref y), (1, .int (nI n)), (2, .int up)] [] (mset y (loL V (nI n) t).1 h0) (fun r h' => r = .inl none ∧ h' = mset y (if (loL V (nI n) c).2 = true then gvS (loL V (nI n) c).1 (nI 1) 4 else (loL V (nI n) c).1) h0) := by
            intro m
            induction m with
            | zero =>
              intro t ht
              obtain rfl : t = c := by omega
              refine x_iload d_M_worker_55 rfl ?_
              refine x_aload_n d_M_worker_57 rfl ?_
              refine xm_get (j := 13) d_M_worker_58 hs rfl (by decide) wf_M_79 (fun _ _ => rfl) ?_
              rw [loL_keep (by decide) (by decide), k13]
              refine x_icmp_ge_t (tgt := 121) d_M_worker_61 (by decide) ((nI_le (by omega) (by omega))) ?_
              refine x_iload_n d_M_worker_121 rfl ?_
              by_cases lo : (loL V (nI n) t).2 = true
              · rw [bI_t lo, if_pos lo]
                refine x_if_eq_f 130 d_M_worker_122 (by decide) ((by decide)) ?_
                refine x_aload_n d_M_worker_125 rfl ?_
                refine x_iconst (v := nI 1) d_M_worker_126 (by decide) ?_
                refine x_callV (M' := m_M_giveUp) (As := [_]) (fr' := 0) (wd' := 0) d_M_worker_127 hs.1 rfl pl_M_giveUp rfl (Nat.le_of_ble_eq_true rfl) (by decide) (by decide) wc_M_giveUp wi_M wl_M_121 wm_M_giveUp we_M_giveUp (by decide) np_M_giveUp (Nat.le_of_ble_eq_true rfl) (fun q hq => by cases hq) (c_M_giveUp hs _) (fun k a h1 q => by cases q.1) (fun v h1 q => ?_)
                obtain ⟨q1, rfl⟩ := q
                cases q1
                refine x_vret d_M_worker_130 rfl ?_
                exact ⟨rfl, rfl⟩
              · rw [bI_f lo, if_neg lo]
                refine x_if_eq_t (tgt := 130) d_M_worker_122 (by decide) ((by decide)) ?_
                refine x_vret d_M_worker_130 rfl ?_
                exact ⟨rfl, rfl⟩
            | succ m ih =>
              intro t ht
              have t8 : t < mlen 8 := by show t < 11; omega
              have t9 : t < mlen 9 := by show t < 11; omega
              have nx := ih (t + 1) (by omega)
              refine x_iload d_M_worker_55 rfl ?_
              refine x_aload_n d_M_worker_57 rfl ?_
              refine xm_get (j := 13) d_M_worker_58 hs rfl (by decide) wf_M_79 (fun _ _ => rfl) ?_
              rw [loL_keep (by decide) (by decide), k13]
              refine x_icmp_ge_f 121 d_M_worker_61 (by decide) ((nI_ge (by omega) (by omega))) ?_
              refine x_aload_n d_M_worker_64 rfl ?_
              refine xm_get (j := 26) d_M_worker_65 hs rfl (by decide) wf_M_75 (fun _ _ => rfl) ?_
              rw [loL_keep (by decide) (by decide), k26]
              refine x_if_eq_f 121 d_M_worker_68 (by decide) (j0) ?_
              refine x_aload_n d_M_worker_71 rfl ?_
              refine xm_ref (k := 8) (j := 7) d_M_worker_72 hs (by decide) rfl rfl (by decide) wf_M_32 rfl ?_
              refine x_iload d_M_worker_75 rfl ?_
              refine xm_zld d_M_worker_77 hs (by decide) rfl (by first | decide | assumption | omega) ?_
              by_cases d0 : (loL V (nI n) t).1 8 t = 0
              · rw [loL, if_pos (Or.inl d0)] at nx
                refine x_if_eq_t (tgt := 115) d_M_worker_78 (by decide) (d0) ?_
                first | refine x_incN d_M_worker_115 rfl (by decide) ?_ | refine x_inc d_M_worker_115 rfl (by decide) ?_
                refine x_goto (tgt := 55) d_M_worker_118 (by decide) ?_
                refine xV.loc (nx) (by repeat (first | exact trivial | refine ⟨rfl, ?_⟩))
              · skip
                refine x_if_eq_f 115 d_M_worker_78 (by decide) (d0) ?_
                refine x_aload_n d_M_worker_81 rfl ?_
                refine xm_ref (k := 9) (j := 8) d_M_worker_82 hs (by decide) rfl rfl (by decide) wf_M_35 rfl ?_
                refine x_iload d_M_worker_85 rfl ?_
                refine xm_ald d_M_worker_87 hs (by decide) rfl (by first | decide | assumption | omega) ?_
                refine x_iload_n d_M_worker_88 rfl ?_
                by_cases d1 : (loL V (nI n) t).1 9 t = nI n
                · rw [loL, if_neg (by rintro (q | q); exact d0 q; exact q d1)] at nx
                  dsimp only at nx
                  rw [bI_t rfl] at nx
                  refine x_icmp_eq_t (tgt := 95) d_M_worker_89 (by decide) (d1) ?_
                  refine x_aload_n d_M_worker_95 rfl ?_
                  refine xm_ref (k := 8) (j := 7) d_M_worker_96 hs (by decide) rfl rfl (by decide) wf_M_32 rfl ?_
                  refine x_iload d_M_worker_99 rfl ?_
                  refine x_iconst (v := nI 0) d_M_worker_101 (by decide) ?_
                  refine xm_zst d_M_worker_102 hs (by decide) rfl (by first | decide | assumption | omega) (by first | rfl | assumption) ?_
                  refine x_aload_n d_M_worker_103 rfl ?_
                  refine x_dup d_M_worker_104 rfl ?_
                  refine xm_get (j := 24) d_M_worker_105 hs rfl (by decide) wf_M_118 (fun _ _ => rfl) ?_
                  rw [xu_k _ _ _ (by decide)]
                  refine x_iconst (v := nI 1) d_M_worker_108 (by decide) ?_
                  refine x_iadd d_M_worker_109 ?_
                  refine xm_put (j := 24) d_M_worker_110 hs rfl (by decide) wf_M_118 (Or.inl rfl) (by first | rfl | assumption) rfl (fun _ _ => rfl) ?_
                  refine x_iconst (v := nI 1) d_M_worker_113 (by decide) ?_
                  refine x_istore_n d_M_worker_114 (by decide) ?_
                  first | refine x_incN d_M_worker_115 rfl (by decide) ?_ | refine x_inc d_M_worker_115 rfl (by decide) ?_
                  refine x_goto (tgt := 55) d_M_worker_118 (by decide) ?_
                  refine xV.loc (nx) (by repeat (first | exact trivial | refine ⟨rfl, ?_⟩))
                · rw [loL, if_pos (Or.inr d1)] at nx
                  refine x_icmp_eq_f 95 d_M_worker_89 (by decide) (d1) ?_
                  refine x_goto (tgt := 115) d_M_worker_92 (by decide) ?_
                  first | refine x_incN d_M_worker_115 rfl (by decide) ?_ | refine x_inc d_M_worker_115 rfl (by decide) ?_
                  refine x_goto (tgt := 55) d_M_worker_118 (by decide) ?_
                  refine xV.loc (nx) (by repeat (first | exact trivial | refine ⟨rfl, ?_⟩))
          have this := lp c 0 (by omega)
          rw [show loL V (nI n) 0 = (V, false) from rfl, bI_f (fun q => Bool.false_ne_true q)] at this
          dsimp only at this
          refine xV.loc (this) (by repeat (first | exact trivial | refine ⟨rfl, ?_⟩))
      · skip
        refine x_if_eq_f 36 d_M_worker_32 (by decide) (u0) ?_
        refine x_vret d_M_worker_35 rfl ?_
        exact ⟨rfl, by unfold woS; rw [if_pos h1, cl, if_neg e1, if_neg u0]⟩
  · rw [bI_f h1]
    refine x_callV (M' := m_M_bad) (As := [_]) (fr' := 0) (wd' := 0) d_M_worker_7 hs.1 rfl pl_M_bad rfl (Nat.le_of_ble_eq_true rfl) (by decide) (by decide) wc_M_bad wi_M wl_M_71 wm_M_bad we_M_bad (by decide) np_M_bad (Nat.le_of_ble_eq_true rfl) (fun q hq => by cases hq) (c_M_bad hs _) (fun k a h1 q => by cases q.1) (fun v h1 q => ?_)
    obtain ⟨q1, rfl⟩ := q
    cases q1
    rw [bI_t nI_0]
    refine x_if_ne_t (tgt := 23) d_M_worker_10 (by decide) ((by decide)) ?_
    refine x_vret d_M_worker_23 rfl ?_
    exact ⟨rfl, by unfold woS; rw [if_neg h1]⟩
def bval (b : Int64) (f : Int32) (i : Nat) : Int32 := (b >>> ((nI 8 * nI i).toInt64 &&& 63)).toInt32.toInt8.toInt32 * f
def ckL (S : Nat → Nat → Int32) (c : Nat) (b : Int64) (f : Int32) (n : Nat) : Nat → Nat → Int32 := fun k j => if k = 2 ∧ c * 6 ≤ j ∧ j < c * 6 + n then bval b f (j - c * 6) else S k j
theorem ckL_0 (S : Nat → Nat → Int32) (c : Nat) (b : Int64) (f : Int32) : ckL S c b f 0 = S := by
  funext k j; exact if_neg (by omega)
theorem ckL_k {S : Nat → Nat → Int32} {c : Nat} {b : Int64} {f : Int32} {n k : Nat} (h : k ≠ 2) : ckL S c b f n k = S k := by
  funext j; exact if_neg (by omega)
theorem ckL_s {S : Nat → Nat → Int32} {c : Nat} {b : Int64} {f : Int32} {n : Nat} : xu (ckL S c b f n) 2 (c * 6 + n) (bval b f n) = ckL S c b f (n + 1) := by
  funext k j
  by_cases h : k = 2 ∧ j = c * 6 + n
  · obtain ⟨rfl, rfl⟩ := h
    rw [xu_s]
    unfold ckL
    rw [if_pos (by omega), Nat.add_sub_cancel_left]
  · rw [show xu (ckL S c b f n) 2 (c * 6 + n) (bval b f n) k j = ckL S c b f n k j from if_neg h]
    have : (k = 2 ∧ c * 6 ≤ j ∧ j < c * 6 + n) ↔ (k = 2 ∧ c * 6 ≤ j ∧ j < c * 6 + (n + 1)) := by omega
    simp only [ckL, this]
abbrev okf (n f : Int32) : Prop := rng n 1 6 ∧ (-1000 ≤ f ∧ f ≤ nI 1000)
def ckS (S : Nat → Nat → Int32) (c : Nat) (b : Int64) (n f : Int32) : (Nat → Nat → Int32) × Int32 :=
  if okf n f then (if ¬ S 0 26 = 0 ∨ c = 6 then (xu (xu S 0 14 (nI 0)) 0 14 (nI 2), nI 0) else (xu (xu (ckL (xu S 0 14 (nI 0)) c b f n.toNatClampNeg) 1 c n) 0 13 (nI (c + 1)), nI c)) else (xu S 0 14 (nI 1), nI 0)
theorem c_M_chunk (hs : MSh h0 y) (b : Int64) (n f : Int32) {c : Nat} (hc : S 0 13 = nI c) (hc6 : c ≤ 6) : xVM l G 1 22 m_M_chunk [.ref y, .long b, .int n, .int f] (mset y S h0) (fun r h' => r = .inl (some (.int (ckS S c b n f).2)) ∧ h' = mset y (ckS S c b n f).1 h0) := by
  have bad : ¬ okf n f → ckS S c b n f = (xu S 0 14 (nI 1), nI 0) := fun q => if_neg q
  unfold xVM
  refine x_aload_n d_M_chunk_0 rfl ?_
  refine x_iload_n d_M_chunk_1 rfl ?_
  refine x_iconst (v := nI 1) d_M_chunk_2 (by decide) ?_
  refine x_bipush (v := nI 6) d_M_chunk_3 (by decide) ?_
  refine x_callS (M' := m_M_in) (As := [_, _, _]) (fr' := 0) (wd' := 0) d_M_chunk_5 pl_M_in rfl (Nat.le_of_ble_eq_true rfl) (by decide) (by decide) wc_M_in wi_M wl_M_67 ws_M_in (by decide) np_M_in (Nat.le_of_ble_eq_true rfl) (fun q hq => by cases hq) (c_M_in _ _ _) (fun k a h1 q => by cases q.1) (fun v h1 q => ?_)
  obtain ⟨q1, rfl⟩ := q
  cases q1
  by_cases h1 : rng n 1 6
  · rw [bI_t h1]
    refine x_if_eq_f 29 d_M_chunk_8 (by decide) ((by decide)) ?_
    refine x_iload d_M_chunk_11 rfl ?_
    refine x_sipush (v := (-1000)) d_M_chunk_13 (by decide) ?_
    refine x_sipush (v := nI 1000) d_M_chunk_16 (by decide) ?_
    refine x_callS (M' := m_M_in) (As := [_, _, _]) (fr' := 0) (wd' := 0) d_M_chunk_19 pl_M_in rfl (Nat.le_of_ble_eq_true rfl) (by decide) (by decide) wc_M_in wi_M wl_M_67 ws_M_in (by decide) np_M_in (Nat.le_of_ble_eq_true rfl) (fun q hq => by cases hq) (c_M_in _ _ _) (fun k a h1 q => by cases q.1) (fun v h1 q => ?_)
    obtain ⟨q1, rfl⟩ := q
    cases q1
    by_cases h2 : -1000 ≤ f ∧ f ≤ nI 1000
    · have e : ckS S c b n f = if ¬ S 0 26 = 0 ∨ c = 6 then (xu (xu S 0 14 (nI 0)) 0 14 (nI 2), nI 0) else (xu (xu (ckL (xu S 0 14 (nI 0)) c b f n.toNatClampNeg) 1 c n) 0 13 (nI (c + 1)), nI c) := if_pos ⟨h1, h2⟩
      rw [e, bI_t h2]
      refine x_if_eq_f 29 d_M_chunk_22 (by decide) ((by decide)) ?_
      refine x_iconst (v := nI 1) d_M_chunk_25 (by decide) ?_
      refine x_goto (tgt := 30) d_M_chunk_26 (by decide) ?_
      refine x_callV (M' := m_M_bad) (As := [_]) (fr' := 0) (wd' := 0) d_M_chunk_30 hs.1 rfl pl_M_bad rfl (Nat.le_of_ble_eq_true rfl) (by decide) (by decide) wc_M_bad wi_M wl_M_71 wm_M_bad we_M_bad (by decide) np_M_bad (Nat.le_of_ble_eq_true rfl) (fun q hq => by cases hq) (c_M_bad hs _) (fun k a h1 q => by cases q.1) (fun v h1 q => ?_)
      obtain ⟨q1, rfl⟩ := q
      cases q1
      rw [bI_f (by decide)]
      refine x_if_eq_t (tgt := 38) d_M_chunk_33 (by decide) ((by decide)) ?_
      refine x_aload_n d_M_chunk_38 rfl ?_
      refine xm_get (j := 26) d_M_chunk_39 hs rfl (by decide) wf_M_75 (fun _ _ => rfl) ?_
      rw [xu_j _ _ _ _ (by decide)]
      by_cases j0 : S 0 26 = 0
      · skip
        refine x_if_ne_f 54 d_M_chunk_42 (by decide) (j0) ?_
        refine x_aload_n d_M_chunk_45 rfl ?_
        refine xm_get (j := 13) d_M_chunk_46 hs rfl (by decide) wf_M_79 (fun _ _ => rfl) ?_
        refine x_bipush (v := nI 6) d_M_chunk_49 (by decide) ?_
        rw [xu_j _ _ _ _ (by decide), hc]
        by_cases c6 : c = 6
        · rw [if_pos (Or.inr c6)]
          refine x_icmp_ne_f 60 d_M_chunk_51 (by decide) ((by rw [c6])) ?_
          refine x_aload_n d_M_chunk_54 rfl ?_
          refine x_iconst (v := nI 2) d_M_chunk_55 (by decide) ?_
          refine x_callV (M' := m_M_fail) (As := [_]) (fr' := 0) (wd' := 0) d_M_chunk_56 hs.1 rfl pl_M_fail rfl (Nat.le_of_ble_eq_true rfl) (by decide) (by decide) wc_M_fail wi_M wl_M_82 wm_M_fail we_M_fail (by decide) np_M_fail (Nat.le_of_ble_eq_true rfl) (fun q hq => by cases hq) (c_M_fail hs _) (fun k a h1 q => by cases q.1) (fun v h1 q => ?_)
          obtain ⟨q1, rfl⟩ := q
          cases q1
          refine x_iret d_M_chunk_59 rfl (by first | rfl | assumption) ?_
          exact ⟨rfl, rfl⟩
        · rw [if_neg (by rintro (q | q); exact q j0; exact c6 q)]
          obtain ⟨N, rfl, hN1, hN⟩ := rng_of (by decide) (by decide) h1
          rw [nI_clamp (by omega)]
          have hT : xu S 0 14 (nI 0) 0 13 = nI c := (xu_j _ _ _ _ (by decide)).trans hc
          generalize xu S 0 14 (nI 0) = T at hT
          have lp : ∀ m i : Nat, i + m = N → xV l G 1 22 m_M_chunk 63 [(5, .int (nI i)), (0, .ref y), (1, .long b), (3, .int (nI N)), (4, .int f)] [] (mset y (ckL T c b f i) h0) (fun r h' => r = .inl (some (.int (nI c))) ∧ h' = mset y (xu (xu (ckL T c b f N) 1 c (nI N)) 0 13 (nI (c + 1))) h0) := by
            intro m
            induction m with
            | zero =>
              intro i hi
              obtain rfl : i = N := by omega
              have c1 : c < mlen 1 := by show c < 6; omega
              refine x_iload d_M_chunk_63 rfl ?_
              refine x_iload_n d_M_chunk_65 rfl ?_
              refine x_icmp_ge_t (tgt := 102) d_M_chunk_66 (by decide) ((nI_le (by omega) (by omega))) ?_
              refine x_aload_n d_M_chunk_102 rfl ?_
              refine xm_ref (k := 1) (j := 0) d_M_chunk_103 hs (by decide) rfl rfl (by decide) wf_M_7 rfl ?_
              refine x_aload_n d_M_chunk_106 rfl ?_
              refine xm_get (j := 13) d_M_chunk_107 hs rfl (by decide) wf_M_79 (fun _ _ => rfl) ?_
              rw [ckL_k (by decide), hT]
              refine x_iload_n d_M_chunk_110 rfl ?_
              refine xm_ast d_M_chunk_111 hs (by decide) rfl (by first | decide | assumption | omega) ?_
              refine x_aload_n d_M_chunk_112 rfl ?_
              refine x_dup d_M_chunk_113 rfl ?_
              refine xm_get (j := 13) d_M_chunk_114 hs rfl (by decide) wf_M_79 (fun _ _ => rfl) ?_
              rw [xu_k _ _ _ (by decide), ckL_k (by decide), hT]
              refine x_iconst (v := nI 1) d_M_chunk_117 (by decide) ?_
              refine x_iadd d_M_chunk_118 ?_
              rw [nI_add]
              refine xm_put (j := 13) d_M_chunk_119 hs rfl (by decide) wf_M_79 (Or.inl rfl) (by first | rfl | assumption) rfl (fun _ _ => rfl) ?_
              refine x_aload_n d_M_chunk_122 rfl ?_
              refine xm_get (j := 13) d_M_chunk_123 hs rfl (by decide) wf_M_79 (fun _ _ => rfl) ?_
              rw [xu_s]
              refine x_iconst (v := nI 1) d_M_chunk_126 (by decide) ?_
              refine x_isub d_M_chunk_127 ?_
              rw [nI_sub (by omega), Nat.add_sub_cancel]
              refine x_iret d_M_chunk_128 rfl (by first | rfl | assumption) ?_
              exact ⟨rfl, rfl⟩
            | succ m ih =>
              intro i hi
              have i2 : c * 6 + i < mlen 2 := by show c * 6 + i < 36; omega
              have nx := ih (i + 1) (by omega)
              refine x_iload d_M_chunk_63 rfl ?_
              refine x_iload_n d_M_chunk_65 rfl ?_
              refine x_icmp_ge_f 102 d_M_chunk_66 (by decide) ((nI_ge (by omega) (by omega))) ?_
              refine x_aload_n d_M_chunk_69 rfl ?_
              refine xm_ref (k := 2) (j := 1) d_M_chunk_70 hs (by decide) rfl rfl (by decide) wf_M_13 rfl ?_
              refine x_aload_n d_M_chunk_73 rfl ?_
              refine xm_get (j := 13) d_M_chunk_74 hs rfl (by decide) wf_M_79 (fun _ _ => rfl) ?_
              rw [ckL_k (by decide), hT]
              refine x_bipush (v := nI 6) d_M_chunk_77 (by decide) ?_
              refine x_imul d_M_chunk_79 ?_
              refine x_iload d_M_chunk_80 rfl ?_
              refine x_iadd d_M_chunk_82 ?_
              rw [nI_mul, nI_add]
              refine x_lload_n d_M_chunk_83 rfl ?_
              refine x_bipush (v := nI 8) d_M_chunk_84 (by decide) ?_
              refine x_iload d_M_chunk_86 rfl ?_
              refine x_imul d_M_chunk_88 ?_
              refine x_lshr d_M_chunk_89 ?_
              refine x_l2i d_M_chunk_90 ?_
              refine x_i2b d_M_chunk_91 ?_
              refine x_iload d_M_chunk_92 rfl ?_
              refine x_imul d_M_chunk_94 ?_
              refine xm_ast d_M_chunk_95 hs (by decide) rfl (by first | decide | assumption | omega) ?_
              first | refine x_incN d_M_chunk_96 rfl (by decide) ?_ | refine x_inc d_M_chunk_96 rfl (by decide) ?_
              refine x_goto (tgt := 63) d_M_chunk_99 (by decide) ?_
              rw [show xu (ckL T c b f i) 2 (c * 6 + i) ((b >>> ((nI 8 * nI i).toInt64 &&& 63)).toInt32.toInt8.toInt32 * f) = ckL T c b f (i + 1) from ckL_s]
              refine xV.loc (nx) (by repeat (first | exact trivial | refine ⟨rfl, ?_⟩))
          have this := lp N 0 (by omega)
          rw [ckL_0] at this
          refine x_icmp_ne_t (tgt := 60) d_M_chunk_51 (by decide) ((fun q => c6 ((nI_eq (by omega) (by omega)).mp q))) ?_
          refine x_iconst (v := nI 0) d_M_chunk_60 (by decide) ?_
          refine x_istore d_M_chunk_61 (by decide) ?_
          refine xV.loc (this) (by repeat (first | exact trivial | refine ⟨rfl, ?_⟩))
      · rw [if_pos (Or.inl j0)]
        refine x_if_ne_t (tgt := 54) d_M_chunk_42 (by decide) (j0) ?_
        refine x_aload_n d_M_chunk_54 rfl ?_
        refine x_iconst (v := nI 2) d_M_chunk_55 (by decide) ?_
        refine x_callV (M' := m_M_fail) (As := [_]) (fr' := 0) (wd' := 0) d_M_chunk_56 hs.1 rfl pl_M_fail rfl (Nat.le_of_ble_eq_true rfl) (by decide) (by decide) wc_M_fail wi_M wl_M_82 wm_M_fail we_M_fail (by decide) np_M_fail (Nat.le_of_ble_eq_true rfl) (fun q hq => by cases hq) (c_M_fail hs _) (fun k a h1 q => by cases q.1) (fun v h1 q => ?_)
        obtain ⟨q1, rfl⟩ := q
        cases q1
        refine x_iret d_M_chunk_59 rfl (by first | rfl | assumption) ?_
        exact ⟨rfl, rfl⟩
    · rw [bad (fun q => h2 q.2), bI_f h2]
      refine x_if_eq_t (tgt := 29) d_M_chunk_22 (by decide) ((by decide)) ?_
      refine x_iconst (v := nI 0) d_M_chunk_29 (by decide) ?_
      refine x_callV (M' := m_M_bad) (As := [_]) (fr' := 0) (wd' := 0) d_M_chunk_30 hs.1 rfl pl_M_bad rfl (Nat.le_of_ble_eq_true rfl) (by decide) (by decide) wc_M_bad wi_M wl_M_71 wm_M_bad we_M_bad (by decide) np_M_bad (Nat.le_of_ble_eq_true rfl) (fun q hq => by cases hq) (c_M_bad hs _) (fun k a h1 q => by cases q.1) (fun v h1 q => ?_)
      obtain ⟨q1, rfl⟩ := q
      cases q1
      rw [bI_t nI_0]
      refine x_if_eq_f 38 d_M_chunk_33 (by decide) ((by decide)) ?_
      refine x_iconst (v := nI 0) d_M_chunk_36 (by decide) ?_
      refine x_iret d_M_chunk_37 rfl (by first | rfl | assumption) ?_
      exact ⟨rfl, rfl⟩
  · rw [bad (fun q => h1 q.1), bI_f h1]
    refine x_if_eq_t (tgt := 29) d_M_chunk_8 (by decide) ((by decide)) ?_
    refine x_iconst (v := nI 0) d_M_chunk_29 (by decide) ?_
    refine x_callV (M' := m_M_bad) (As := [_]) (fr' := 0) (wd' := 0) d_M_chunk_30 hs.1 rfl pl_M_bad rfl (Nat.le_of_ble_eq_true rfl) (by decide) (by decide) wc_M_bad wi_M wl_M_71 wm_M_bad we_M_bad (by decide) np_M_bad (Nat.le_of_ble_eq_true rfl) (fun q hq => by cases hq) (c_M_bad hs _) (fun k a h1 q => by cases q.1) (fun v h1 q => ?_)
    obtain ⟨q1, rfl⟩ := q
    cases q1
    rw [bI_t nI_0]
    refine x_if_eq_f 38 d_M_chunk_33 (by decide) ((by decide)) ?_
    refine x_iconst (v := nI 0) d_M_chunk_36 (by decide) ?_
    refine x_iret d_M_chunk_37 rfl (by first | rfl | assumption) ?_
    exact ⟨rfl, rfl⟩
end XM12
