/-- place i begins no key of partition p -/
abbrev skp (S : Nat → Nat → Int32) (p : Int32) (i : Nat) : Prop := (0 < i ∧ S 10 (i - 1) = S 10 i) ∨ ¬ mdl (S 10 i) (S 0 19) = p
/-- reduce, over the first i places: the cells, and how many keys came out -/
def rcS (S : Nat → Nat → Int32) (np : Nat) (put : Int32) (pn : Nat) : Nat → (Nat → Nat → Int32) × Nat
  | 0 => (S, 0)
  | i + 1 => if ¬ (rcS S np put pn i).1 0 14 = 0 ∨ skp S (nI pn) i then rcS S np put pn i else
      if (rd S (S 10 i) (np - i) i (nI 0) 0).2.1 = 0 ∨ (rd S (S 10 i) (np - i) i (nI 0) 0).2.2 = true then (rdT (rcS S np put pn i).1 (rd S (S 10 i) (np - i) i (nI 0) 0), (rcS S np put pn i).2)
      else (if put = 0 then rdT (rcS S np put pn i).1 (rd S (S 10 i) (np - i) i (nI 0) 0) else xu (xu (rdT (rcS S np put pn i).1 (rd S (S 10 i) (np - i) i (nI 0) 0)) 13 (pn * 100 + (rcS S np put pn i).2) (S 10 i)) 14 (pn * 100 + (rcS S np put pn i).2) (rd S (S 10 i) (np - i) i (nI 0) 0).1, (rcS S np put pn i).2 + 1)
theorem rdT_keep {S : Nat → Nat → Int32} {o : Int32 × Nat × Bool} {k j : Nat} (h : ¬ (k = 0 ∧ (j = 14 ∨ j = 27))) : rdT S o k j = S k j := by
  unfold rdT
  rw [show xu (if o.2.2 = true then xu S 0 14 (nI 3) else S) 0 27 (bI (0 < o.2.1)) k j = (if o.2.2 = true then xu S 0 14 (nI 3) else S) k j from if_neg (by omega)]
  split
  · exact if_neg (by omega)
  · rfl
theorem rcS_keep {S : Nat → Nat → Int32} {np : Nat} {put : Int32} {pn k j : Nat} (h1 : k ≠ 13) (h2 : k ≠ 14) (h : ¬ (k = 0 ∧ (j = 14 ∨ j = 27))) : ∀ i, (rcS S np put pn i).1 k j = S k j
  | 0 => rfl
  | i + 1 => by
    have ih := rcS_keep (S := S) (np := np) (put := put) (pn := pn) h1 h2 h i
    unfold rcS
    split
    · exact ih
    · split
      · exact (rdT_keep h).trans ih
      · show (if put = 0 then _ else _ : Nat → Nat → Int32) k j = _
        split
        · exact (rdT_keep h).trans ih
        · rw [xu_k _ _ _ h2, xu_k _ _ _ h1]
          exact (rdT_keep h).trans ih
theorem rcS_put {S : Nat → Nat → Int32} {np pn : Nat} : ∀ i k j, k = 13 ∨ k = 14 → (rcS S np (nI 0) pn i).1 k j = S k j
  | 0, _, _, _ => rfl
  | i + 1, k, j, h => by
    have ih := rcS_put (S := S) (np := np) (pn := pn) i k j h
    unfold rcS
    split
    · exact ih
    · split
      · exact (rdT_keep (by omega)).trans ih
      · simp only [if_pos nI_0]
        exact (rdT_keep (by omega)).trans ih
theorem rcS_stop {S : Nat → Nat → Int32} {np : Nat} {put : Int32} {pn i : Nat} (h : ¬ (rcS S np put pn i).1 0 14 = 0) : ∀ m, rcS S np put pn (i + m) = rcS S np put pn i
  | 0 => rfl
  | m + 1 => by
    have ih := rcS_stop h m
    rw [show i + (m + 1) = (i + m) + 1 from rfl, rcS, ih, if_pos (Or.inl h)]
section XM7
variable {l : Launch} {G : xG} {h0 : xH} {y : Nat} {S : Nat → Nat → Int32}
theorem c_M_reduce (hs : MSh h0 y) {np r pn : Nat} {put : Int32} (hpn : pn < 3) (hp : S 0 12 = nI np) (hnp : np ≤ 300) (hr : S 0 19 = nI r) (hr1 : 1 ≤ r) (hr3 : r ≤ 3) (hbd : ¬ put = 0 → ∀ i, i ≤ np → (rcS S np put pn i).2 ≤ 100) :
    xVM l G 1 25 m_M_reduce [.ref y, .int (nI pn), .int put] (mset y S h0) (fun q h' => q = .inl (some (.int (nI (rcS S np put pn np).2))) ∧ h' = mset y (rcS S np put pn np).1 h0) := by
  have cn : ∀ i, (rcS S np put pn i).2 ≤ i := by
    intro i
    induction i with
    | zero => exact Nat.le_refl 0
    | succ i ih =>
      unfold rcS
      split
      · omega
      · split
        · show (rcS S np put pn i).2 ≤ i + 1; omega
        · show (rcS S np put pn i).2 + 1 ≤ i + 1; omega
  have hr0 : ¬ nI r = 0 := nI_ne0 hr1 (by omega)
  have lp : ∀ m i : Nat, i + m = np → xV l G 1 25 m_M_reduce 5 [(4, .int (nI i)), (3, .int (nI (rcS S np put pn i).2)), (0, .ref y), (1, .int (nI pn)), (2, .int put)] [] (mset y (rcS S np put pn i).1 h0) (fun q h' => q = .inl (some (.int (nI (rcS S np put pn np).2))) ∧ h' = mset y (rcS S np put pn np).1 h0) := by
    intro m
    induction m with
    | zero =>
      intro i him
      obtain rfl : i = np := by omega
      refine x_iload d_M_reduce_5 rfl ?_
      refine x_aload_n d_M_reduce_7 rfl ?_
      refine xm_get (j := 12) d_M_reduce_8 hs rfl (by decide) wf_M_86 (fun _ _ => rfl) ?_
      rw [rcS_keep (by decide) (by decide) (by decide), hp]
      refine x_icmp_ge_t (tgt := 135) d_M_reduce_11 (by decide) ((nI_le (by omega) (by omega))) ?_
      refine x_iload_n d_M_reduce_135 rfl ?_
      refine x_iret d_M_reduce_136 rfl (by first | rfl | assumption) ?_
      exact ⟨rfl, rfl⟩
    | succ m ih =>
      intro i him
      have nx := ih (i + 1) (by omega)
      have h10 : i < mlen 10 := by show i < 300; omega
      refine x_iload d_M_reduce_5 rfl ?_
      refine x_aload_n d_M_reduce_7 rfl ?_
      refine xm_get (j := 12) d_M_reduce_8 hs rfl (by decide) wf_M_86 (fun _ _ => rfl) ?_
      rw [rcS_keep (by decide) (by decide) (by decide), hp]
      refine x_icmp_ge_f 135 d_M_reduce_11 (by decide) ((nI_ge (by omega) (by omega))) ?_
      refine x_aload_n d_M_reduce_14 rfl ?_
      refine xm_get (j := 14) d_M_reduce_15 hs rfl (by decide) wf_M_64 (fun _ _ => rfl) ?_
      refine x_if_ne (tgt := 135) d_M_reduce_18 (by decide) (fun c1 => ?_) (fun c1 => ?_)
      · have e := rcS_stop c1 (m + 1)
        rw [him] at e
        refine x_iload_n d_M_reduce_135 rfl ?_
        refine x_iret d_M_reduce_136 rfl (by first | rfl | assumption) ?_
        rw [e]
        exact ⟨rfl, rfl⟩
      · have skip : skp S (nI pn) i → xV l G 1 25 m_M_reduce 5 [(4, .int (nI (i + 1))), (3, .int (nI (rcS S np put pn i).2)), (0, .ref y), (1, .int (nI pn)), (2, .int put)] [] (mset y (rcS S np put pn i).1 h0) (fun q h' => q = .inl (some (.int (nI (rcS S np put pn np).2))) ∧ h' = mset y (rcS S np put pn np).1 h0) := by
          intro hsk
          rw [show rcS S np put pn (i + 1) = rcS S np put pn i by rw [rcS, if_pos (Or.inr hsk)]] at nx
          exact nx
        have k10 : (rcS S np put pn i).1 10 = S 10 := funext (fun j => rcS_keep (by decide) (by decide) (by omega) i)
        have k11 : (rcS S np put pn i).1 11 = S 11 := funext (fun j => rcS_keep (by decide) (by decide) (by omega) i)
        have k19 : (rcS S np put pn i).1 0 19 = nI r := (rcS_keep (by decide) (by decide) (by decide) i).trans hr
        have body : ¬ (0 < i ∧ S 10 (i - 1) = S 10 i) → xV l G 1 25 m_M_reduce 45 [(4, .int (nI i)), (3, .int (nI (rcS S np put pn i).2)), (0, .ref y), (1, .int (nI pn)), (2, .int put)] [] (mset y (rcS S np put pn i).1 h0) (fun q h' => q = .inl (some (.int (nI (rcS S np put pn np).2))) ∧ h' = mset y (rcS S np put pn np).1 h0) := by
          intro hb
          refine x_aload_n d_M_reduce_45 rfl ?_
          refine xm_ref (k := 10) (j := 9) d_M_reduce_46 hs (by decide) rfl rfl (by decide) wf_M_38 rfl ?_
          refine x_iload d_M_reduce_49 rfl ?_
          refine xm_ald d_M_reduce_51 hs (by decide) rfl (by first | decide | assumption | omega) ?_
          refine x_aload_n d_M_reduce_52 rfl ?_
          refine xm_get (j := 19) d_M_reduce_53 hs rfl (by decide) wf_M_103 (fun _ _ => rfl) ?_
          rw [k19, k10]
          refine x_callS (M' := m_M_modulo) (As := [_, _]) (fr' := 0) (wd' := 0) d_M_reduce_56 pl_M_modulo rfl (Nat.le_of_ble_eq_true rfl) (by decide) (by decide) wc_M_modulo wi_M wl_M_89 ws_M_modulo (by decide) np_M_modulo (Nat.le_of_ble_eq_true rfl) (fun q hq => by cases hq) (c_M_modulo _ _ hr0) (fun k a h1 q => by cases q.1) (fun v h1 q => ?_)
          obtain ⟨q1, rfl⟩ := q
          cases q1
          refine x_iload_n d_M_reduce_59 rfl ?_
          refine x_icmp_eq (tgt := 66) d_M_reduce_60 (by decide) (fun c2 => ?_) (fun c2 => ?_)
          · have hns : ¬ skp S (nI pn) i := by
              rintro (q | q)
              · exact hb q
              · exact q (by rw [hr]; exact c2)
            have en : ¬ (¬ (rcS S np put pn i).1 0 14 = 0 ∨ skp S (nI pn) i) := by
              rintro (q | q)
              · exact q c1
              · exact hns q
            have er : rd (rcS S np put pn i).1 ((rcS S np put pn i).1 10 i) (np - i) i (nI 0) 0 = rd S (S 10 i) (np - i) i (nI 0) 0 := by
              rw [k10]
              exact rd_congr k10 k11 (rcS_keep (by decide) (by decide) (by decide) i) (rcS_keep (by decide) (by decide) (by decide) i) _ _ _ _ _
            rw [rcS, if_neg en] at nx
            have hb1 := hbd
            refine x_aload_n d_M_reduce_66 rfl ?_
            refine x_iload d_M_reduce_67 rfl ?_
            refine x_callV (M' := m_M_reduced) (As := [_]) (fr' := 0) (wd' := 0) d_M_reduce_69 hs.1 rfl pl_M_reduced rfl (Nat.le_of_ble_eq_true rfl) (by decide) (by decide) wc_M_reduced wi_M wl_M_115 wm_M_reduced we_M_reduced (by decide) np_M_reduced (Nat.le_of_ble_eq_true rfl) (fun q hq => by cases hq) (c_M_reduced hs ((rcS_keep (by decide) (by decide) (by decide) i).trans hp) hnp c1 (by omega)) (fun k a h1 q => by cases q.1) (fun v h1 q => ?_)
            obtain ⟨q1, rfl⟩ := q
            cases q1
            refine x_istore d_M_reduce_72 (by decide) ?_
            refine x_aload_n d_M_reduce_74 rfl ?_
            refine xm_get (j := 27) d_M_reduce_75 hs rfl (by decide) wf_M_112 (fun _ _ => rfl) ?_
            rw [er]
            rw [show rdT (rcS S np put pn i).1 (rd S (S 10 i) (np - i) i (nI 0) 0) 0 27 = bI (0 < (rd S (S 10 i) (np - i) i (nI 0) 0).2.1) by unfold rdT; exact xu_s _ _ _ _]
            have hb2 : ¬ put = 0 → ¬ ((rd S (S 10 i) (np - i) i (nI 0) 0).2.1 = 0 ∨ (rd S (S 10 i) (np - i) i (nI 0) 0).2.2 = true) → (rcS S np put pn i).2 < 100 := by
              intro hp0 hn0
              have := hbd hp0 (i + 1) (by omega)
              rw [rcS, if_neg en, if_neg hn0] at this
              exact this
            have hcn := cn i
            generalize (rd S (S 10 i) (np - i) i (nI 0) 0) = e at nx hb2 ⊢
            obtain ⟨x, n, f⟩ := e
            simp only at nx hb2 ⊢
            by_cases n0 : n = 0
            · rw [if_pos (Or.inl n0)] at nx
              refine x_if_eq_t (tgt := 129) d_M_reduce_78 (by decide) ((by rw [bI_f (by omega)]; rfl)) ?_
              first | refine x_incN d_M_reduce_129 rfl (by decide) ?_ | refine x_inc d_M_reduce_129 rfl (by decide) ?_
              refine x_goto (tgt := 5) d_M_reduce_132 (by decide) ?_
              refine xV.loc (nx) (by repeat (first | exact trivial | refine ⟨rfl, ?_⟩))
            · skip
              refine x_if_eq_f 129 d_M_reduce_78 (by decide) ((by rw [bI_t (by omega)]; decide)) ?_
              refine x_aload_n d_M_reduce_81 rfl ?_
              refine xm_get (j := 14) d_M_reduce_82 hs rfl (by decide) wf_M_64 (fun _ _ => rfl) ?_
              cases f with
              | true =>
                rw [if_pos (Or.inr rfl)] at nx
                refine x_if_le_f 91 d_M_reduce_85 (by decide) ((by rw [show rdT (rcS S np put pn i).1 (x, n, true) 0 14 = nI 3 from rfl]; decide)) ?_
                refine x_goto (tgt := 129) d_M_reduce_88 (by decide) ?_
                first | refine x_incN d_M_reduce_129 rfl (by decide) ?_ | refine x_inc d_M_reduce_129 rfl (by decide) ?_
                refine x_goto (tgt := 5) d_M_reduce_132 (by decide) ?_
                refine xV.loc (nx) (by repeat (first | exact trivial | refine ⟨rfl, ?_⟩))
              | false =>
                rw [if_neg (by rintro (q | q); exact n0 q; cases q)] at nx
                refine x_if_le_t (tgt := 91) d_M_reduce_85 (by decide) ((by rw [show rdT (rcS S np put pn i).1 (x, n, false) 0 14 = (rcS S np put pn i).1 0 14 from rfl, c1]; decide)) ?_
                refine x_iload_n d_M_reduce_91 rfl ?_
                by_cases p0 : put = 0
                · rw [if_pos p0] at nx
                  refine x_if_eq_t (tgt := 126) d_M_reduce_92 (by decide) (p0) ?_
                  first | refine x_incN d_M_reduce_126 rfl (by decide) ?_ | refine x_inc d_M_reduce_126 rfl (by decide) ?_
                  first | refine x_incN d_M_reduce_129 rfl (by decide) ?_ | refine x_inc d_M_reduce_129 rfl (by decide) ?_
                  refine x_goto (tgt := 5) d_M_reduce_132 (by decide) ?_
                  refine xV.loc (nx) (by repeat (first | exact trivial | refine ⟨rfl, ?_⟩))
                · rw [if_neg p0] at nx
                  have b100 := hb2 p0 (by rintro (q | q); exact n0 q; cases q)
                  have h13 : pn * 100 + (rcS S np put pn i).2 < mlen 13 := by show pn * 100 + _ < 300; omega
                  have h14 : pn * 100 + (rcS S np put pn i).2 < mlen 14 := by show pn * 100 + _ < 300; omega
                  refine x_if_eq_f 126 d_M_reduce_92 (by decide) (p0) ?_
                  refine x_aload_n d_M_reduce_95 rfl ?_
                  refine xm_ref (k := 13) (j := 28) d_M_reduce_96 hs (by decide) rfl rfl (by decide) wf_M_55 rfl ?_
                  refine x_iload_n d_M_reduce_99 rfl ?_
                  refine x_bipush (v := nI 100) d_M_reduce_100 (by decide) ?_
                  refine x_imul d_M_reduce_102 ?_
                  refine x_iload_n d_M_reduce_103 rfl ?_
                  refine x_iadd d_M_reduce_104 ?_
                  rw [nI_mul, nI_add]
                  refine x_aload_n d_M_reduce_105 rfl ?_
                  refine xm_ref (k := 10) (j := 9) d_M_reduce_106 hs (by decide) rfl rfl (by decide) wf_M_38 rfl ?_
                  refine x_iload d_M_reduce_109 rfl ?_
                  refine xm_ald d_M_reduce_111 hs (by decide) rfl (by first | decide | assumption | omega) ?_
                  rw [show rdT (rcS S np put pn i).1 (x, n, false) 10 i = S 10 i by rw [rdT_keep (by omega), k10]]
                  refine xm_ast d_M_reduce_112 hs (by decide) rfl (by first | decide | assumption | omega) ?_
                  refine x_aload_n d_M_reduce_113 rfl ?_
                  refine xm_ref (k := 14) (j := 29) d_M_reduce_114 hs (by decide) rfl rfl (by decide) wf_M_58 rfl ?_
                  refine x_iload_n d_M_reduce_117 rfl ?_
                  refine x_bipush (v := nI 100) d_M_reduce_118 (by decide) ?_
                  refine x_imul d_M_reduce_120 ?_
                  refine x_iload_n d_M_reduce_121 rfl ?_
                  refine x_iadd d_M_reduce_122 ?_
                  rw [nI_mul, nI_add]
                  refine x_iload d_M_reduce_123 rfl ?_
                  refine xm_ast d_M_reduce_125 hs (by decide) rfl (by first | decide | assumption | omega) ?_
                  first | refine x_incN d_M_reduce_126 rfl (by decide) ?_ | refine x_inc d_M_reduce_126 rfl (by decide) ?_
                  first | refine x_incN d_M_reduce_129 rfl (by decide) ?_ | refine x_inc d_M_reduce_129 rfl (by decide) ?_
                  refine x_goto (tgt := 5) d_M_reduce_132 (by decide) ?_
                  refine xV.loc (nx) (by repeat (first | exact trivial | refine ⟨rfl, ?_⟩))
          · refine x_goto (tgt := 129) d_M_reduce_63 (by decide) ?_
            first | refine x_incN d_M_reduce_129 rfl (by decide) ?_ | refine x_inc d_M_reduce_129 rfl (by decide) ?_
            refine x_goto (tgt := 5) d_M_reduce_132 (by decide) ?_
            refine xV.loc (skip (Or.inr (by rw [hr]; exact c2))) (by repeat (first | exact trivial | refine ⟨rfl, ?_⟩))
        refine x_iload d_M_reduce_21 rfl ?_
        by_cases i0 : i = 0
        · have b := body (by omega)
          refine x_if_le_t (tgt := 45) d_M_reduce_23 (by decide) ((by rw [i0]; decide)) ?_
          exact b
        · have hi1 : i - 1 < mlen 10 := by show i - 1 < 300; omega
          refine x_if_le_f 45 d_M_reduce_23 (by decide) ((nI_nle (by omega) (by omega))) ?_
          refine x_aload_n d_M_reduce_26 rfl ?_
          refine xm_ref (k := 10) (j := 9) d_M_reduce_27 hs (by decide) rfl rfl (by decide) wf_M_38 rfl ?_
          refine x_iload d_M_reduce_30 rfl ?_
          refine x_iconst (v := nI 1) d_M_reduce_32 (by decide) ?_
          refine x_isub d_M_reduce_33 ?_
          rw [nI_sub (by omega)]
          refine xm_ald d_M_reduce_34 hs (by decide) rfl (by first | decide | assumption | omega) ?_
          refine x_aload_n d_M_reduce_35 rfl ?_
          refine xm_ref (k := 10) (j := 9) d_M_reduce_36 hs (by decide) rfl rfl (by decide) wf_M_38 rfl ?_
          refine x_iload d_M_reduce_39 rfl ?_
          refine xm_ald d_M_reduce_41 hs (by decide) rfl (by first | decide | assumption | omega) ?_
          rw [k10]
          refine x_icmp_eq (tgt := 129) d_M_reduce_42 (by decide) (fun c3 => ?_) (fun c3 => ?_)
          · first | refine x_incN d_M_reduce_129 rfl (by decide) ?_ | refine x_inc d_M_reduce_129 rfl (by decide) ?_
            refine x_goto (tgt := 5) d_M_reduce_132 (by decide) ?_
            refine xV.loc (skip (Or.inl ⟨by omega, c3⟩)) (by repeat (first | exact trivial | refine ⟨rfl, ?_⟩))
          · have b := body (fun q => c3 q.2)
            exact b
  unfold xVM
  refine x_iconst (v := nI 0) d_M_reduce_0 (by decide) ?_
  refine x_istore_n d_M_reduce_1 (by decide) ?_
  refine x_iconst (v := nI 0) d_M_reduce_2 (by decide) ?_
  refine x_istore d_M_reduce_3 (by decide) ?_
  have := lp np 0 (by omega)
  refine xV.loc (this) (by repeat (first | exact trivial | refine ⟨rfl, ?_⟩))
end XM7
