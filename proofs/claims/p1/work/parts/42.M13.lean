def dnS (S : Nat → Nat → Int32) (n : Nat) : Nat → Nat → Int32 := fun k j => if k = 8 ∧ j < n then nI 0 else S k j
theorem dnS_0 (S : Nat → Nat → Int32) : dnS S 0 = S := by
  funext k j; exact if_neg (by omega)
theorem dnS_s {S : Nat → Nat → Int32} {n : Nat} : xu (dnS S n) 8 n (nI 0) = dnS S (n + 1) := by
  funext k j
  by_cases h : k = 8 ∧ j = n
  · obtain ⟨rfl, rfl⟩ := h
    rw [xu_s]; unfold dnS; rw [if_pos (by omega)]
  · rw [show xu (dnS S n) 8 n (nI 0) k j = dnS S n k j from if_neg h]
    have : (k = 8 ∧ j < n) ↔ (k = 8 ∧ j < n + 1) := by omega
    simp only [dnS, this]
theorem dnS_k {S : Nat → Nat → Int32} {n k : Nat} (h : k ≠ 8) : dnS S n k = S k := by
  funext j; exact if_neg (by omega)
abbrev okb (m r p b : Int32) : Prop := rng m 0 4 ∧ rng r 0 4 ∧ rng p 1 3 ∧ rng b 2 6
def bg1 (S : Nat → Nat → Int32) (m r p b : Int32) : Nat → Nat → Int32 := xu (xu (xu (xu (xu (xu S 0 14 (nI 0)) 0 17 m) 0 18 r) 0 19 p) 0 20 b) 0 16 (S 0 15)
theorem bg1_k {S : Nat → Nat → Int32} {m r p b : Int32} {k : Nat} (h : k ≠ 0) : bg1 S m r p b k = S k := by
  unfold bg1; rw [xu_k _ _ _ h, xu_k _ _ _ h, xu_k _ _ _ h, xu_k _ _ _ h, xu_k _ _ _ h, xu_k _ _ _ h]
theorem bg1_0 {S : Nat → Nat → Int32} {m r p b : Int32} {j : Nat} (h : j ≠ 14 ∧ j ≠ 17 ∧ j ≠ 18 ∧ j ≠ 19 ∧ j ≠ 20 ∧ j ≠ 16) : bg1 S m r p b 0 j = S 0 j := by
  unfold bg1; rw [xu_j _ _ _ _ h.2.2.2.2.2, xu_j _ _ _ _ h.2.2.2.2.1, xu_j _ _ _ _ h.2.2.2.1, xu_j _ _ _ _ h.2.2.1, xu_j _ _ _ _ h.2.1, xu_j _ _ _ _ h.1]
/-- begin: the cells of the job that begins -/
def bg2 (S : Nat → Nat → Int32) (c : Nat) (sz : Nat → Nat) (m r p b : Int32) : Nat → Nat → Int32 :=
  xu (gvS (dnS (plS (pcS (bg1 S m r p b) sz c) (isort (aL (bg1 S m r p b) sz c))) 11) (nI 0) 4) 0 26 (nI 1)
def bgS (S : Nat → Nat → Int32) (c : Nat) (sz : Nat → Nat) (m r p b : Int32) : (Nat → Nat → Int32) × Int32 :=
  if okb m r p b then (if ¬ S 0 26 = 0 ∨ c = 0 then (xu (xu S 0 14 (nI 0)) 0 14 (nI 2), nI 0) else (bg2 S c sz m r p b, nI c)) else (xu S 0 14 (nI 1), nI 0)
section XM13
variable {l : Launch} {G : xG} {h0 : xH} {y : Nat} {S : Nat → Nat → Int32}
theorem bg_bad (hs : MSh h0 y) {Q : xR → xH → Prop} {m r p b : Int32} (q : Q (.inl (some (.int (nI 0)))) (mset y (xu S 0 14 (nI 1)) h0)) : xV l G 3 68 m_M_begin 43 (lv_args 0 [.ref y, .int m, .int r, .int p, .int b]) [.ref y] (mset y S h0) Q := by
  refine x_iconst (v := nI 0) d_M_begin_43 (by decide) ?_
  refine x_callV (M' := m_M_bad) (As := [_]) (fr' := 0) (wd' := 0) d_M_begin_44 hs.1 rfl pl_M_bad rfl (Nat.le_of_ble_eq_true rfl) (by decide) (by decide) wc_M_bad wi_M wl_M_71 wm_M_bad we_M_bad (by decide) np_M_bad (Nat.le_of_ble_eq_true rfl) (fun q hq => by cases hq) (c_M_bad hs _) (fun k a h1 q => by cases q.1) (fun v h1 q => ?_)
  obtain ⟨q1, rfl⟩ := q
  cases q1
  rw [bI_t nI_0]
  refine x_if_eq_f 52 d_M_begin_47 (by decide) ((by decide)) ?_
  refine x_iconst (v := nI 0) d_M_begin_50 (by decide) ?_
  refine x_iret d_M_begin_51 rfl (by first | rfl | assumption) ?_
  exact q
theorem c_M_begin (hs : MSh h0 y) (m r p b : Int32) {c : Nat} {sz : Nat → Nat} (hc : S 0 13 = nI c) (hc6 : c ≤ 6) (hz : ∀ t, t < c → S 1 t = nI (sz t) ∧ sz t ≤ 6) (hv : ∀ t i, t < c → i < sz t → (S 2 (t * 6 + i)).toInt.natAbs < 10 ^ 6) :
    xVM l G 3 68 m_M_begin [.ref y, .int m, .int r, .int p, .int b] (mset y S h0) (fun q h' => q = .inl (some (.int (bgS S c sz m r p b).2)) ∧ h' = mset y (bgS S c sz m r p b).1 h0) := by
  have bad : ¬ okb m r p b → bgS S c sz m r p b = (xu S 0 14 (nI 1), nI 0) := fun q => if_neg q
  unfold xVM
  refine x_aload_n d_M_begin_0 rfl ?_
  refine x_iload_n d_M_begin_1 rfl ?_
  refine x_iconst (v := nI 0) d_M_begin_2 (by decide) ?_
  refine x_iconst (v := nI 4) d_M_begin_3 (by decide) ?_
  refine x_callS (M' := m_M_in) (As := [_, _, _]) (fr' := 0) (wd' := 0) d_M_begin_4 pl_M_in rfl (Nat.le_of_ble_eq_true rfl) (by decide) (by decide) wc_M_in wi_M wl_M_67 ws_M_in (by decide) np_M_in (Nat.le_of_ble_eq_true rfl) (fun q hq => by cases hq) (c_M_in _ _ _) (fun k a h1 q => by cases q.1) (fun v h1 q => ?_)
  obtain ⟨q1, rfl⟩ := q
  cases q1
  by_cases h1 : rng m 0 4
  · rw [bI_t h1]
    refine x_if_eq_f 43 d_M_begin_7 (by decide) ((by decide)) ?_
    refine x_iload_n d_M_begin_10 rfl ?_
    refine x_iconst (v := nI 0) d_M_begin_11 (by decide) ?_
    refine x_iconst (v := nI 4) d_M_begin_12 (by decide) ?_
    refine x_callS (M' := m_M_in) (As := [_, _, _]) (fr' := 0) (wd' := 0) d_M_begin_13 pl_M_in rfl (Nat.le_of_ble_eq_true rfl) (by decide) (by decide) wc_M_in wi_M wl_M_67 ws_M_in (by decide) np_M_in (Nat.le_of_ble_eq_true rfl) (fun q hq => by cases hq) (c_M_in _ _ _) (fun k a h1 q => by cases q.1) (fun v h1 q => ?_)
    obtain ⟨q1, rfl⟩ := q
    cases q1
    by_cases h2 : rng r 0 4
    · rw [bI_t h2]
      refine x_if_eq_f 43 d_M_begin_16 (by decide) ((by decide)) ?_
      refine x_iload_n d_M_begin_19 rfl ?_
      refine x_iconst (v := nI 1) d_M_begin_20 (by decide) ?_
      refine x_iconst (v := nI 3) d_M_begin_21 (by decide) ?_
      refine x_callS (M' := m_M_in) (As := [_, _, _]) (fr' := 0) (wd' := 0) d_M_begin_22 pl_M_in rfl (Nat.le_of_ble_eq_true rfl) (by decide) (by decide) wc_M_in wi_M wl_M_67 ws_M_in (by decide) np_M_in (Nat.le_of_ble_eq_true rfl) (fun q hq => by cases hq) (c_M_in _ _ _) (fun k a h1 q => by cases q.1) (fun v h1 q => ?_)
      obtain ⟨q1, rfl⟩ := q
      cases q1
      by_cases h3 : rng p 1 3
      · rw [bI_t h3]
        refine x_if_eq_f 43 d_M_begin_25 (by decide) ((by decide)) ?_
        refine x_iload d_M_begin_28 rfl ?_
        refine x_iconst (v := nI 2) d_M_begin_30 (by decide) ?_
        refine x_bipush (v := nI 6) d_M_begin_31 (by decide) ?_
        refine x_callS (M' := m_M_in) (As := [_, _, _]) (fr' := 0) (wd' := 0) d_M_begin_33 pl_M_in rfl (Nat.le_of_ble_eq_true rfl) (by decide) (by decide) wc_M_in wi_M wl_M_67 ws_M_in (by decide) np_M_in (Nat.le_of_ble_eq_true rfl) (fun q hq => by cases hq) (c_M_in _ _ _) (fun k a h1 q => by cases q.1) (fun v h1 q => ?_)
        obtain ⟨q1, rfl⟩ := q
        cases q1
        by_cases h4 : rng b 2 6
        · have e : bgS S c sz m r p b = if ¬ S 0 26 = 0 ∨ c = 0 then (xu (xu S 0 14 (nI 0)) 0 14 (nI 2), nI 0) else (bg2 S c sz m r p b, nI c) := if_pos ⟨h1, h2, h3, h4⟩
          rw [e, bI_t h4]
          refine x_if_eq_f 43 d_M_begin_36 (by decide) ((by decide)) ?_
          refine x_iconst (v := nI 1) d_M_begin_39 (by decide) ?_
          refine x_goto (tgt := 44) d_M_begin_40 (by decide) ?_
          refine x_callV (M' := m_M_bad) (As := [_]) (fr' := 0) (wd' := 0) d_M_begin_44 hs.1 rfl pl_M_bad rfl (Nat.le_of_ble_eq_true rfl) (by decide) (by decide) wc_M_bad wi_M wl_M_71 wm_M_bad we_M_bad (by decide) np_M_bad (Nat.le_of_ble_eq_true rfl) (fun q hq => by cases hq) (c_M_bad hs _) (fun k a h1 q => by cases q.1) (fun v h1 q => ?_)
          obtain ⟨q1, rfl⟩ := q
          cases q1
          rw [bI_f (by decide)]
          refine x_if_eq_t (tgt := 52) d_M_begin_47 (by decide) ((by decide)) ?_
          refine x_aload_n d_M_begin_52 rfl ?_
          refine xm_get (j := 26) d_M_begin_53 hs rfl (by decide) wf_M_75 (fun _ _ => rfl) ?_
          rw [xu_j _ _ _ _ (by decide)]
          by_cases j0 : S 0 26 = 0
          · skip
            refine x_if_ne_f 66 d_M_begin_56 (by decide) (j0) ?_
            refine x_aload_n d_M_begin_59 rfl ?_
            refine xm_get (j := 13) d_M_begin_60 hs rfl (by decide) wf_M_79 (fun _ _ => rfl) ?_
            rw [xu_j _ _ _ _ (by decide), hc]
            by_cases c0 : c = 0
            · rw [if_pos (Or.inr c0)]
              refine x_if_ne_f 72 d_M_begin_63 (by decide) ((by rw [c0]; rfl)) ?_
              refine x_aload_n d_M_begin_66 rfl ?_
              refine x_iconst (v := nI 2) d_M_begin_67 (by decide) ?_
              refine x_callV (M' := m_M_fail) (As := [_]) (fr' := 0) (wd' := 0) d_M_begin_68 hs.1 rfl pl_M_fail rfl (Nat.le_of_ble_eq_true rfl) (by decide) (by decide) wc_M_fail wi_M wl_M_82 wm_M_fail we_M_fail (by decide) np_M_fail (Nat.le_of_ble_eq_true rfl) (fun q hq => by cases hq) (c_M_fail hs _) (fun k a h1 q => by cases q.1) (fun v h1 q => ?_)
              obtain ⟨q1, rfl⟩ := q
              cases q1
              refine x_iret d_M_begin_71 rfl (by first | rfl | assumption) ?_
              exact ⟨rfl, rfl⟩
            · rw [if_neg (by rintro (q | q); exact q j0; exact c0 q)]
              refine x_if_ne_t (tgt := 72) d_M_begin_63 (by decide) ((nI_ne0 (by omega) (by omega))) ?_
              refine x_aload_n d_M_begin_72 rfl ?_
              refine x_iload_n d_M_begin_73 rfl ?_
              refine xm_put (j := 17) d_M_begin_74 hs rfl (by decide) wf_M_52 (Or.inl rfl) (by first | rfl | assumption) rfl (fun _ _ => rfl) ?_
              refine x_aload_n d_M_begin_77 rfl ?_
              refine x_iload_n d_M_begin_78 rfl ?_
              refine xm_put (j := 18) d_M_begin_79 hs rfl (by decide) wf_M_109 (Or.inl rfl) (by first | rfl | assumption) rfl (fun _ _ => rfl) ?_
              refine x_aload_n d_M_begin_82 rfl ?_
              refine x_iload_n d_M_begin_83 rfl ?_
              refine xm_put (j := 19) d_M_begin_84 hs rfl (by decide) wf_M_103 (Or.inl rfl) (by first | rfl | assumption) rfl (fun _ _ => rfl) ?_
              refine x_aload_n d_M_begin_87 rfl ?_
              refine x_iload d_M_begin_88 rfl ?_
              refine xm_put (j := 20) d_M_begin_90 hs rfl (by decide) wf_M_125 (Or.inl rfl) (by first | rfl | assumption) rfl (fun _ _ => rfl) ?_
              refine x_aload_n d_M_begin_93 rfl ?_
              refine x_aload_n d_M_begin_94 rfl ?_
              refine xm_get (j := 15) d_M_begin_95 hs rfl (by decide) wf_M_48 (fun _ _ => rfl) ?_
              rw [xu_j _ _ _ _ (by decide), xu_j _ _ _ _ (by decide), xu_j _ _ _ _ (by decide), xu_j _ _ _ _ (by decide), xu_j _ _ _ _ (by decide)]
              refine xm_put (j := 16) d_M_begin_98 hs rfl (by decide) wf_M_106 (Or.inl rfl) (by first | rfl | assumption) rfl (fun _ _ => rfl) ?_
              refine x_aload_n d_M_begin_101 rfl ?_
              rw [show xu (xu (xu (xu (xu (xu S 0 14 (nI 0)) 0 17 m) 0 18 r) 0 19 p) 0 20 b) 0 16 (S 0 15) = bg1 S m r p b from rfl]
              have k13 : bg1 S m r p b 0 13 = nI c := (bg1_0 (by decide)).trans hc
              have e2 : bg2 S c sz m r p b = xu (gvS (dnS (plS (pcS (bg1 S m r p b) sz c) (isort (aL (bg1 S m r p b) sz c))) 11) (nI 0) 4) 0 26 (nI 1) := rfl
              rw [e2]
              have hz1 : ∀ t, t < c → bg1 S m r p b 1 t = nI (sz t) ∧ sz t ≤ 6 := by rw [bg1_k (by decide)]; exact hz
              have hv1 : ∀ t i, t < c → i < sz t → (bg1 S m r p b 2 (t * 6 + i)).toInt.natAbs < 10 ^ 6 := by rw [bg1_k (by decide)]; exact hv
              generalize bg1 S m r p b = T at k13 hz1 hv1
              have al := aL_len T (sz := sz) c (fun t ht => (hz1 t ht).2)
              refine x_callV (M' := m_M_mapAll) (As := []) (fr' := 2) (wd' := 45) d_M_begin_102 hs.1 rfl pl_M_mapAll rfl (Nat.le_of_ble_eq_true rfl) (by decide) (by decide) wc_M_mapAll wi_M wl_M_128 wm_M_mapAll we_M_mapAll (by decide) np_M_mapAll (Nat.le_of_ble_eq_true rfl) (fun q hq => by cases hq) (c_M_mapAll hs k13 hc6 hz1 hv1) (fun k a h1 q => by cases q.1) (fun v h1 q => ?_)
              obtain ⟨q1, rfl⟩ := q
              cases q1
              refine x_aload_n d_M_begin_105 rfl ?_
              refine x_callV (M' := m_M_sort) (As := []) (fr' := 0) (wd' := 0) d_M_begin_106 hs.1 rfl pl_M_sort rfl (Nat.le_of_ble_eq_true rfl) (by decide) (by decide) wc_M_sort wi_M wl_M_131 wm_M_sort we_M_sort (by decide) np_M_sort (Nat.le_of_ble_eq_true rfl) (fun q hq => by cases hq) (c_M_sort hs (by omega)) (fun k a h1 q => by cases q.1) (fun v h1 q => ?_)
              obtain ⟨q1, rfl⟩ := q
              cases q1
              refine x_iconst (v := nI 0) d_M_begin_109 (by decide) ?_
              refine x_istore d_M_begin_110 (by decide) ?_
              have f13 : ∀ n, dnS (plS (pcS T sz c) (isort (aL T sz c))) n 0 13 = nI c := by
                intro n; rw [dnS_k (by decide), plS_0 (by decide), pcS_k (by decide)]; exact k13
              have lp : ∀ m2 i : Nat, i + m2 = 11 → xV l G 3 68 m_M_begin 112 [(5, .int (nI i)), (0, .ref y)] [] (mset y (dnS (plS (pcS T sz c) (isort (aL T sz c))) i) h0) (fun q h' => q = .inl (some (.int (nI c))) ∧ h' = mset y (xu (gvS (dnS (plS (pcS T sz c) (isort (aL T sz c))) 11) (nI 0) 4) 0 26 (nI 1)) h0) := by
                intro m2
                induction m2 with
                | zero =>
                  intro i hi
                  obtain rfl : i = 11 := by omega
                  refine x_iload d_M_begin_112 rfl ?_
                  refine x_bipush (v := nI 11) d_M_begin_114 (by decide) ?_
                  refine x_icmp_ge_t (tgt := 133) d_M_begin_116 (by decide) ((nI_le (by omega) (by omega))) ?_
                  refine x_aload_n d_M_begin_133 rfl ?_
                  refine x_iconst (v := nI 0) d_M_begin_134 (by decide) ?_
                  refine x_callV (M' := m_M_giveUp) (As := [_]) (fr' := 0) (wd' := 0) d_M_begin_135 hs.1 rfl pl_M_giveUp rfl (Nat.le_of_ble_eq_true rfl) (by decide) (by decide) wc_M_giveUp wi_M wl_M_121 wm_M_giveUp we_M_giveUp (by decide) np_M_giveUp (Nat.le_of_ble_eq_true rfl) (fun q hq => by cases hq) (c_M_giveUp hs _) (fun k a h1 q => by cases q.1) (fun v h1 q => ?_)
                  obtain ⟨q1, rfl⟩ := q
                  cases q1
                  refine x_aload_n d_M_begin_138 rfl ?_
                  refine x_iconst (v := nI 1) d_M_begin_139 (by decide) ?_
                  refine xm_put (j := 26) d_M_begin_140 hs rfl (by decide) wf_M_75 (Or.inl rfl) (by first | rfl | assumption) rfl (fun _ _ => rfl) ?_
                  refine x_aload_n d_M_begin_143 rfl ?_
                  refine xm_get (j := 13) d_M_begin_144 hs rfl (by decide) wf_M_79 (fun _ _ => rfl) ?_
                  refine x_iret d_M_begin_147 rfl (by first | rfl | assumption) ?_
                  exact ⟨by rw [xu_j _ _ _ _ (by decide), gvS_k _ _ _ (by decide) (by decide), f13], rfl⟩
                | succ m2 ih =>
                  intro i hi
                  have i8 : i < mlen 8 := by show i < 11; omega
                  have nx := ih (i + 1) (by omega)
                  refine x_iload d_M_begin_112 rfl ?_
                  refine x_bipush (v := nI 11) d_M_begin_114 (by decide) ?_
                  refine x_icmp_ge_f 133 d_M_begin_116 (by decide) ((nI_ge (by omega) (by omega))) ?_
                  refine x_aload_n d_M_begin_119 rfl ?_
                  refine xm_ref (k := 8) (j := 7) d_M_begin_120 hs (by decide) rfl rfl (by decide) wf_M_32 rfl ?_
                  refine x_iload d_M_begin_123 rfl ?_
                  refine x_iconst (v := nI 0) d_M_begin_125 (by decide) ?_
                  refine xm_zst d_M_begin_126 hs (by decide) rfl (by first | decide | assumption | omega) (by first | rfl | assumption) ?_
                  first | refine x_incN d_M_begin_127 rfl (by decide) ?_ | refine x_inc d_M_begin_127 rfl (by decide) ?_
                  refine x_goto (tgt := 112) d_M_begin_130 (by decide) ?_
                  rw [dnS_s]
                  refine xV.loc (nx) (by repeat (first | exact trivial | refine ⟨rfl, ?_⟩))
              have this := lp 11 0 (by omega)
              rw [dnS_0] at this
              refine xV.loc (this) (by repeat (first | exact trivial | refine ⟨rfl, ?_⟩))
          · rw [if_pos (Or.inl j0)]
            refine x_if_ne_t (tgt := 66) d_M_begin_56 (by decide) (j0) ?_
            refine x_aload_n d_M_begin_66 rfl ?_
            refine x_iconst (v := nI 2) d_M_begin_67 (by decide) ?_
            refine x_callV (M' := m_M_fail) (As := [_]) (fr' := 0) (wd' := 0) d_M_begin_68 hs.1 rfl pl_M_fail rfl (Nat.le_of_ble_eq_true rfl) (by decide) (by decide) wc_M_fail wi_M wl_M_82 wm_M_fail we_M_fail (by decide) np_M_fail (Nat.le_of_ble_eq_true rfl) (fun q hq => by cases hq) (c_M_fail hs _) (fun k a h1 q => by cases q.1) (fun v h1 q => ?_)
            obtain ⟨q1, rfl⟩ := q
            cases q1
            refine x_iret d_M_begin_71 rfl (by first | rfl | assumption) ?_
            exact ⟨rfl, rfl⟩
        · rw [bad (fun q => h4 q.2.2.2), bI_f h4]
          refine x_if_eq_t (tgt := 43) d_M_begin_36 (by decide) ((by decide)) ?_
          exact bg_bad hs ⟨rfl, rfl⟩
      · rw [bad (fun q => h3 q.2.2.1), bI_f h3]
        refine x_if_eq_t (tgt := 43) d_M_begin_25 (by decide) ((by decide)) ?_
        exact bg_bad hs ⟨rfl, rfl⟩
    · rw [bad (fun q => h2 q.2.1), bI_f h2]
      refine x_if_eq_t (tgt := 43) d_M_begin_16 (by decide) ((by decide)) ?_
      exact bg_bad hs ⟨rfl, rfl⟩
  · rw [bad (fun q => h1 q.1), bI_f h1]
    refine x_if_eq_t (tgt := 43) d_M_begin_7 (by decide) ((by decide)) ?_
    exact bg_bad hs ⟨rfl, rfl⟩
def ouS (S : Nat → Nat → Int32) (p i w : Int32) : (Nat → Nat → Int32) × Int32 :=
  if rng p 0 2 ∧ rng w 0 1 then (if S 0 25 ≤ p ∨ i < -1 ∨ S 15 p.toNatClampNeg ≤ i then (xu (xu S 0 14 (nI 0)) 0 14 (nI 2), nI 0) else (xu S 0 14 (nI 0), if i < 0 then S 15 p.toNatClampNeg else if w = 0 then S 13 (p.toNatClampNeg * 100 + i.toNatClampNeg) else S 14 (p.toNatClampNeg * 100 + i.toNatClampNeg))) else (xu S 0 14 (nI 1), nI 0)
theorem c_M_output (hs : MSh h0 y) (p i w : Int32) (ho : ∀ p, p < 3 → ∃ n, S 15 p = nI n ∧ n ≤ 100) : xVM l G 1 22 m_M_output [.ref y, .int p, .int i, .int w] (mset y S h0) (fun q h' => q = .inl (some (.int (ouS S p i w).2)) ∧ h' = mset y (ouS S p i w).1 h0) := by
  have bad : ¬ (rng p 0 2 ∧ rng w 0 1) → ouS S p i w = (xu S 0 14 (nI 1), nI 0) := fun q => if_neg q
  unfold xVM
  refine x_aload_n d_M_output_0 rfl ?_
  refine x_iload_n d_M_output_1 rfl ?_
  refine x_iconst (v := nI 0) d_M_output_2 (by decide) ?_
  refine x_iconst (v := nI 2) d_M_output_3 (by decide) ?_
  refine x_callS (M' := m_M_in) (As := [_, _, _]) (fr' := 0) (wd' := 0) d_M_output_4 pl_M_in rfl (Nat.le_of_ble_eq_true rfl) (by decide) (by decide) wc_M_in wi_M wl_M_67 ws_M_in (by decide) np_M_in (Nat.le_of_ble_eq_true rfl) (fun q hq => by cases hq) (c_M_in _ _ _) (fun k a h1 q => by cases q.1) (fun v h1 q => ?_)
  obtain ⟨q1, rfl⟩ := q
  cases q1
  by_cases h1 : rng p 0 2
  · rw [bI_t h1]
    refine x_if_eq_f 23 d_M_output_7 (by decide) ((by decide)) ?_
    refine x_iload_n d_M_output_10 rfl ?_
    refine x_iconst (v := nI 0) d_M_output_11 (by decide) ?_
    refine x_iconst (v := nI 1) d_M_output_12 (by decide) ?_
    refine x_callS (M' := m_M_in) (As := [_, _, _]) (fr' := 0) (wd' := 0) d_M_output_13 pl_M_in rfl (Nat.le_of_ble_eq_true rfl) (by decide) (by decide) wc_M_in wi_M wl_M_67 ws_M_in (by decide) np_M_in (Nat.le_of_ble_eq_true rfl) (fun q hq => by cases hq) (c_M_in _ _ _) (fun k a h1 q => by cases q.1) (fun v h1 q => ?_)
    obtain ⟨q1, rfl⟩ := q
    cases q1
    by_cases h2 : rng w 0 1
    · have e : ouS S p i w = if S 0 25 ≤ p ∨ i < -1 ∨ S 15 p.toNatClampNeg ≤ i then (xu (xu S 0 14 (nI 0)) 0 14 (nI 2), nI 0) else (xu S 0 14 (nI 0), if i < 0 then S 15 p.toNatClampNeg else if w = 0 then S 13 (p.toNatClampNeg * 100 + i.toNatClampNeg) else S 14 (p.toNatClampNeg * 100 + i.toNatClampNeg)) := if_pos ⟨h1, h2⟩
      rw [e, bI_t h2]
      obtain ⟨P, rfl, -, hP⟩ := rng_of (by decide) (by decide) h1
      obtain ⟨N, hN, hN1⟩ := ho P (by omega)
      have p15 : P < mlen 15 := by show P < 3; omega
      rw [nI_clamp (by omega)]
      refine x_if_eq_f 23 d_M_output_16 (by decide) ((by decide)) ?_
      refine x_iconst (v := nI 1) d_M_output_19 (by decide) ?_
      refine x_goto (tgt := 24) d_M_output_20 (by decide) ?_
      refine x_callV (M' := m_M_bad) (As := [_]) (fr' := 0) (wd' := 0) d_M_output_24 hs.1 rfl pl_M_bad rfl (Nat.le_of_ble_eq_true rfl) (by decide) (by decide) wc_M_bad wi_M wl_M_71 wm_M_bad we_M_bad (by decide) np_M_bad (Nat.le_of_ble_eq_true rfl) (fun q hq => by cases hq) (c_M_bad hs _) (fun k a h1 q => by cases q.1) (fun v h1 q => ?_)
      obtain ⟨q1, rfl⟩ := q
      cases q1
      rw [bI_f (by decide)]
      refine x_if_eq_t (tgt := 32) d_M_output_27 (by decide) ((by decide)) ?_
      refine x_iload_n d_M_output_32 rfl ?_
      refine x_aload_n d_M_output_33 rfl ?_
      refine xm_get (j := 25) d_M_output_34 hs rfl (by decide) wf_M_167 (fun _ _ => rfl) ?_
      rw [xu_j _ _ _ _ (by decide)]
      by_cases a1 : S 0 25 ≤ nI P
      · rw [if_pos (Or.inl a1)]
        refine x_icmp_ge_t (tgt := 55) d_M_output_37 (by decide) (a1) ?_
        refine x_aload_n d_M_output_55 rfl ?_
        refine x_iconst (v := nI 2) d_M_output_56 (by decide) ?_
        refine x_callV (M' := m_M_fail) (As := [_]) (fr' := 0) (wd' := 0) d_M_output_57 hs.1 rfl pl_M_fail rfl (Nat.le_of_ble_eq_true rfl) (by decide) (by decide) wc_M_fail wi_M wl_M_82 wm_M_fail we_M_fail (by decide) np_M_fail (Nat.le_of_ble_eq_true rfl) (fun q hq => by cases hq) (c_M_fail hs _) (fun k a h1 q => by cases q.1) (fun v h1 q => ?_)
        obtain ⟨q1, rfl⟩ := q
        cases q1
        refine x_iret d_M_output_60 rfl (by first | rfl | assumption) ?_
        exact ⟨rfl, rfl⟩
      · skip
        refine x_icmp_ge_f 55 d_M_output_37 (by decide) (a1) ?_
        refine x_iload_n d_M_output_40 rfl ?_
        refine x_iconst (v := (-1)) d_M_output_41 (by decide) ?_
        by_cases a2 : i < -1
        · rw [if_pos (Or.inr (Or.inl a2))]
          refine x_icmp_lt_t (tgt := 55) d_M_output_42 (by decide) (a2) ?_
          refine x_aload_n d_M_output_55 rfl ?_
          refine x_iconst (v := nI 2) d_M_output_56 (by decide) ?_
          refine x_callV (M' := m_M_fail) (As := [_]) (fr' := 0) (wd' := 0) d_M_output_57 hs.1 rfl pl_M_fail rfl (Nat.le_of_ble_eq_true rfl) (by decide) (by decide) wc_M_fail wi_M wl_M_82 wm_M_fail we_M_fail (by decide) np_M_fail (Nat.le_of_ble_eq_true rfl) (fun q hq => by cases hq) (c_M_fail hs _) (fun k a h1 q => by cases q.1) (fun v h1 q => ?_)
          obtain ⟨q1, rfl⟩ := q
          cases q1
          refine x_iret d_M_output_60 rfl (by first | rfl | assumption) ?_
          exact ⟨rfl, rfl⟩
        · skip
          refine x_icmp_lt_f 55 d_M_output_42 (by decide) (a2) ?_
          refine x_iload_n d_M_output_45 rfl ?_
          refine x_aload_n d_M_output_46 rfl ?_
          refine xm_ref (k := 15) (j := 30) d_M_output_47 hs (by decide) rfl rfl (by decide) wf_M_61 rfl ?_
          refine x_iload_n d_M_output_50 rfl ?_
          refine xm_ald d_M_output_51 hs (by decide) rfl (by first | decide | assumption | omega) ?_
          rw [xu_k _ _ _ (by decide)]
          by_cases a3 : S 15 P ≤ i
          · rw [if_pos (Or.inr (Or.inr a3))]
            refine x_icmp_lt_f 61 d_M_output_52 (by decide) ((Int32.not_lt.mpr a3)) ?_
            refine x_aload_n d_M_output_55 rfl ?_
            refine x_iconst (v := nI 2) d_M_output_56 (by decide) ?_
            refine x_callV (M' := m_M_fail) (As := [_]) (fr' := 0) (wd' := 0) d_M_output_57 hs.1 rfl pl_M_fail rfl (Nat.le_of_ble_eq_true rfl) (by decide) (by decide) wc_M_fail wi_M wl_M_82 wm_M_fail we_M_fail (by decide) np_M_fail (Nat.le_of_ble_eq_true rfl) (fun q hq => by cases hq) (c_M_fail hs _) (fun k a h1 q => by cases q.1) (fun v h1 q => ?_)
            obtain ⟨q1, rfl⟩ := q
            cases q1
            refine x_iret d_M_output_60 rfl (by first | rfl | assumption) ?_
            exact ⟨rfl, rfl⟩
          · rw [if_neg (by rintro (q | q | q); exact a1 q; exact a2 q; exact a3 q)]
            refine x_icmp_lt_t (tgt := 61) d_M_output_52 (by decide) ((Int32.not_le.mp a3)) ?_
            refine x_iload_n d_M_output_61 rfl ?_
            by_cases i0 : i < 0
            · rw [if_pos i0]
              refine x_if_ge_f 74 d_M_output_62 (by decide) ((Int32.not_le.mpr i0)) ?_
              refine x_aload_n d_M_output_65 rfl ?_
              refine xm_ref (k := 15) (j := 30) d_M_output_66 hs (by decide) rfl rfl (by decide) wf_M_61 rfl ?_
              refine x_iload_n d_M_output_69 rfl ?_
              refine xm_ald d_M_output_70 hs (by decide) rfl (by first | decide | assumption | omega) ?_
              refine x_goto (tgt := 103) d_M_output_71 (by decide) ?_
              refine x_iret d_M_output_103 rfl (by first | rfl | assumption) ?_
              exact ⟨by rw [xu_k _ _ _ (by decide)], rfl⟩
            · rw [if_neg i0]
              obtain ⟨I, hI, rfl⟩ := nI_of i0
              rw [hN, nI_leI (by omega) hI] at a3
              rw [nI_clamp hI]
              have x13 : P * 100 + I < mlen 13 := by show P * 100 + I < 300; omega
              have x14 : P * 100 + I < mlen 14 := by show P * 100 + I < 300; omega
              refine x_if_ge_t (tgt := 74) d_M_output_62 (by decide) ((nI_pos' hI)) ?_
              refine x_iload_n d_M_output_74 rfl ?_
              by_cases w0 : w = 0
              · rw [if_pos w0]
                refine x_if_ne_f 92 d_M_output_75 (by decide) (w0) ?_
                refine x_aload_n d_M_output_78 rfl ?_
                refine xm_ref (k := 13) (j := 28) d_M_output_79 hs (by decide) rfl rfl (by decide) wf_M_55 rfl ?_
                refine x_iload_n d_M_output_82 rfl ?_
                refine x_bipush (v := nI 100) d_M_output_83 (by decide) ?_
                refine x_imul d_M_output_85 ?_
                refine x_iload_n d_M_output_86 rfl ?_
                refine x_iadd d_M_output_87 ?_
                rw [nI_mul, nI_add]
                refine xm_ald d_M_output_88 hs (by decide) rfl (by first | decide | assumption | omega) ?_
                refine x_goto (tgt := 103) d_M_output_89 (by decide) ?_
                refine x_iret d_M_output_103 rfl (by first | rfl | assumption) ?_
                exact ⟨by rw [xu_k _ _ _ (by decide)], rfl⟩
              · rw [if_neg w0]
                refine x_if_ne_t (tgt := 92) d_M_output_75 (by decide) (w0) ?_
                refine x_aload_n d_M_output_92 rfl ?_
                refine xm_ref (k := 14) (j := 29) d_M_output_93 hs (by decide) rfl rfl (by decide) wf_M_58 rfl ?_
                refine x_iload_n d_M_output_96 rfl ?_
                refine x_bipush (v := nI 100) d_M_output_97 (by decide) ?_
                refine x_imul d_M_output_99 ?_
                refine x_iload_n d_M_output_100 rfl ?_
                refine x_iadd d_M_output_101 ?_
                rw [nI_mul, nI_add]
                refine xm_ald d_M_output_102 hs (by decide) rfl (by first | decide | assumption | omega) ?_
                refine x_iret d_M_output_103 rfl (by first | rfl | assumption) ?_
                exact ⟨by rw [xu_k _ _ _ (by decide)], rfl⟩
    · rw [bad (fun q => h2 q.2), bI_f h2]
      refine x_if_eq_t (tgt := 23) d_M_output_16 (by decide) ((by decide)) ?_
      refine x_iconst (v := nI 0) d_M_output_23 (by decide) ?_
      refine x_callV (M' := m_M_bad) (As := [_]) (fr' := 0) (wd' := 0) d_M_output_24 hs.1 rfl pl_M_bad rfl (Nat.le_of_ble_eq_true rfl) (by decide) (by decide) wc_M_bad wi_M wl_M_71 wm_M_bad we_M_bad (by decide) np_M_bad (Nat.le_of_ble_eq_true rfl) (fun q hq => by cases hq) (c_M_bad hs _) (fun k a h1 q => by cases q.1) (fun v h1 q => ?_)
      obtain ⟨q1, rfl⟩ := q
      cases q1
      rw [bI_t nI_0]
      refine x_if_eq_f 32 d_M_output_27 (by decide) ((by decide)) ?_
      refine x_iconst (v := nI 0) d_M_output_30 (by decide) ?_
      refine x_iret d_M_output_31 rfl (by first | rfl | assumption) ?_
      exact ⟨rfl, rfl⟩
  · rw [bad (fun q => h1 q.1), bI_f h1]
    refine x_if_eq_t (tgt := 23) d_M_output_7 (by decide) ((by decide)) ?_
    refine x_iconst (v := nI 0) d_M_output_23 (by decide) ?_
    refine x_callV (M' := m_M_bad) (As := [_]) (fr' := 0) (wd' := 0) d_M_output_24 hs.1 rfl pl_M_bad rfl (Nat.le_of_ble_eq_true rfl) (by decide) (by decide) wc_M_bad wi_M wl_M_71 wm_M_bad we_M_bad (by decide) np_M_bad (Nat.le_of_ble_eq_true rfl) (fun q hq => by cases hq) (c_M_bad hs _) (fun k a h1 q => by cases q.1) (fun v h1 q => ?_)
    obtain ⟨q1, rfl⟩ := q
    cases q1
    rw [bI_t nI_0]
    refine x_if_eq_f 32 d_M_output_27 (by decide) ((by decide)) ?_
    refine x_iconst (v := nI 0) d_M_output_30 (by decide) ?_
    refine x_iret d_M_output_31 rfl (by first | rfl | assumption) ?_
    exact ⟨rfl, rfl⟩
/-- the value of a key, in the first partitions -/
def fdL (S : Nat → Nat → Int32) (oc : Nat → Nat) (key : Int32) : Nat → Option Int32
  | 0 => none
  | p + 1 => match fdL S oc key p with
    | some v => some v
    | none => (idxOf (fun i => S 13 (p * 100 + i)) key (oc p)).map (fun i => S 14 (p * 100 + i))
theorem fdL_some {S : Nat → Nat → Int32} {oc : Nat → Nat} {key : Int32} {p : Nat} {v : Int32} (h : fdL S oc key p = some v) : ∀ m, fdL S oc key (p + m) = some v
  | 0 => h
  | m + 1 => by
    have ih := fdL_some h m
    rw [show p + (m + 1) = (p + m) + 1 from rfl, fdL, ih]
def fdS (S : Nat → Nat → Int32) (oc : Nat → Nat) (key : Int32) (q : Nat) : (Nat → Nat → Int32) × Int32 := match fdL S oc key q with
  | some v => (xu S 0 14 (nI 0), v)
  | none => (xu (xu S 0 14 (nI 0)) 0 14 (nI 1), nI 0)
theorem c_M_find (hs : MSh h0 y) (key : Int32) {q : Nat} {oc : Nat → Nat} (hq : S 0 25 = nI q) (hq3 : q ≤ 3) (ho : ∀ p, p < q → S 15 p = nI (oc p) ∧ oc p ≤ 100) : xVM l G 1 21 m_M_find [.ref y, .int key] (mset y S h0) (fun r h' => r = .inl (some (.int (fdS S oc key q).2)) ∧ h' = mset y (fdS S oc key q).1 h0) := by
  have lp : ∀ m p : Nat, p + m = q → fdL S oc key p = none → xV l G 1 21 m_M_find 7 [(2, .int (nI p)), (0, .ref y), (1, .int key)] [] (mset y (xu S 0 14 (nI 0)) h0) (fun r h' => r = .inl (some (.int (fdS S oc key q).2)) ∧ h' = mset y (fdS S oc key q).1 h0) := by
    intro m
    induction m with
    | zero =>
      intro p hp hn
      obtain rfl : p = q := by omega
      refine x_iload_n d_M_find_7 rfl ?_
      refine x_aload_n d_M_find_8 rfl ?_
      refine xm_get (j := 25) d_M_find_9 hs rfl (by decide) wf_M_167 (fun _ _ => rfl) ?_
      rw [xu_j _ _ _ _ (by decide), hq]
      refine x_icmp_ge_t (tgt := 66) d_M_find_12 (by decide) ((nI_le (by omega) (by omega))) ?_
      refine x_aload_n d_M_find_66 rfl ?_
      refine x_iconst (v := nI 1) d_M_find_67 (by decide) ?_
      refine x_callV (M' := m_M_fail) (As := [_]) (fr' := 0) (wd' := 0) d_M_find_68 hs.1 rfl pl_M_fail rfl (Nat.le_of_ble_eq_true rfl) (by decide) (by decide) wc_M_fail wi_M wl_M_82 wm_M_fail we_M_fail (by decide) np_M_fail (Nat.le_of_ble_eq_true rfl) (fun q hq => by cases hq) (c_M_fail hs _) (fun k a h1 q => by cases q.1) (fun v h1 q => ?_)
      obtain ⟨q1, rfl⟩ := q
      cases q1
      refine x_iret d_M_find_71 rfl (by first | rfl | assumption) ?_
      rw [show fdS S oc key p = (xu (xu S 0 14 (nI 0)) 0 14 (nI 1), nI 0) by unfold fdS; rw [hn]]
      exact ⟨rfl, rfl⟩
    | succ m ih =>
      intro p hp hn
      obtain ⟨o1, o2⟩ := ho p (by omega)
      have p15 : p < mlen 15 := by show p < 3; omega
      have lp2 : ∀ m2 i : Nat, i + m2 = oc p → (∀ j, j < i → S 13 (p * 100 + j) ≠ key) → xV l G 1 21 m_M_find 17 [(3, .int (nI i)), (2, .int (nI p)), (0, .ref y), (1, .int key)] [] (mset y (xu S 0 14 (nI 0)) h0) (fun r h' => r = .inl (some (.int (fdS S oc key q).2)) ∧ h' = mset y (fdS S oc key q).1 h0) := by
        intro m2
        induction m2 with
        | zero =>
          intro i hi hj
          obtain rfl : i = oc p := by omega
          have nx := ih (p + 1) (by omega) (by rw [fdL, hn]; show Option.map _ _ = none; rw [idxOf_none.mpr hj]; rfl)
          refine x_iload_n d_M_find_17 rfl ?_
          refine x_aload_n d_M_find_18 rfl ?_
          refine xm_ref (k := 15) (j := 30) d_M_find_19 hs (by decide) rfl rfl (by decide) wf_M_61 rfl ?_
          refine x_iload_n d_M_find_22 rfl ?_
          refine xm_ald d_M_find_23 hs (by decide) rfl (by first | decide | assumption | omega) ?_
          rw [xu_k _ _ _ (by decide), o1]
          refine x_icmp_ge_t (tgt := 60) d_M_find_24 (by decide) ((nI_le (by omega) (by omega))) ?_
          first | refine x_incN d_M_find_60 rfl (by decide) ?_ | refine x_inc d_M_find_60 rfl (by decide) ?_
          refine x_goto (tgt := 7) d_M_find_63 (by decide) ?_
          refine xV.loc (nx) (by repeat (first | exact trivial | refine ⟨rfl, ?_⟩))
        | succ m2 ih2 =>
          intro i hi hj
          have x13 : p * 100 + i < mlen 13 := by show p * 100 + i < 300; omega
          have x14 : p * 100 + i < mlen 14 := by show p * 100 + i < 300; omega
          refine x_iload_n d_M_find_17 rfl ?_
          refine x_aload_n d_M_find_18 rfl ?_
          refine xm_ref (k := 15) (j := 30) d_M_find_19 hs (by decide) rfl rfl (by decide) wf_M_61 rfl ?_
          refine x_iload_n d_M_find_22 rfl ?_
          refine xm_ald d_M_find_23 hs (by decide) rfl (by first | decide | assumption | omega) ?_
          rw [xu_k _ _ _ (by decide), o1]
          refine x_icmp_ge_f 60 d_M_find_24 (by decide) ((nI_ge (by omega) (by omega))) ?_
          refine x_aload_n d_M_find_27 rfl ?_
          refine xm_ref (k := 13) (j := 28) d_M_find_28 hs (by decide) rfl rfl (by decide) wf_M_55 rfl ?_
          refine x_iload_n d_M_find_31 rfl ?_
          refine x_bipush (v := nI 100) d_M_find_32 (by decide) ?_
          refine x_imul d_M_find_34 ?_
          refine x_iload_n d_M_find_35 rfl ?_
          refine x_iadd d_M_find_36 ?_
          rw [nI_mul, nI_add]
          refine xm_ald d_M_find_37 hs (by decide) rfl (by first | decide | assumption | omega) ?_
          refine x_iload_n d_M_find_38 rfl ?_
          rw [xu_k _ _ _ (by decide)]
          refine x_icmp_ne (tgt := 54) d_M_find_39 (by decide) (fun c1 => ?_) (fun c1 => ?_)
          · have nx := ih2 (i + 1) (by omega) (fun j hj9 => by
              rcases Nat.lt_succ_iff_lt_or_eq.mp hj9 with h2 | h2
              · exact hj j h2
              · rw [h2]; exact c1)
            first | refine x_incN d_M_find_54 rfl (by decide) ?_ | refine x_inc d_M_find_54 rfl (by decide) ?_
            refine x_goto (tgt := 17) d_M_find_57 (by decide) ?_
            refine xV.loc (nx) (by repeat (first | exact trivial | refine ⟨rfl, ?_⟩))
          · have e : fdL S oc key (p + 1) = some (S 14 (p * 100 + i)) := by
              rw [fdL, hn]; show Option.map _ _ = _; rw [idxOf_some (f := fun i => S 13 (p * 100 + i)) (by omega) hj c1]; rfl
            have e2 := fdL_some e m
            rw [show p + 1 + m = q by omega] at e2
            refine x_aload_n d_M_find_42 rfl ?_
            refine xm_ref (k := 14) (j := 29) d_M_find_43 hs (by decide) rfl rfl (by decide) wf_M_58 rfl ?_
            refine x_iload_n d_M_find_46 rfl ?_
            refine x_bipush (v := nI 100) d_M_find_47 (by decide) ?_
            refine x_imul d_M_find_49 ?_
            refine x_iload_n d_M_find_50 rfl ?_
            refine x_iadd d_M_find_51 ?_
            rw [nI_mul, nI_add]
            refine xm_ald d_M_find_52 hs (by decide) rfl (by first | decide | assumption | omega) ?_
            refine x_iret d_M_find_53 rfl (by first | rfl | assumption) ?_
            rw [show fdS S oc key q = (xu S 0 14 (nI 0), S 14 (p * 100 + i)) by unfold fdS; rw [e2]]
            exact ⟨by rw [xu_k _ _ _ (by decide)], rfl⟩
      have nx := lp2 (oc p) 0 (by omega) (fun j hj => absurd hj (Nat.not_lt_zero j))
      refine x_iload_n d_M_find_7 rfl ?_
      refine x_aload_n d_M_find_8 rfl ?_
      refine xm_get (j := 25) d_M_find_9 hs rfl (by decide) wf_M_167 (fun _ _ => rfl) ?_
      rw [xu_j _ _ _ _ (by decide), hq]
      refine x_icmp_ge_f 66 d_M_find_12 (by decide) ((nI_ge (by omega) (by omega))) ?_
      refine x_iconst (v := nI 0) d_M_find_15 (by decide) ?_
      refine x_istore_n d_M_find_16 (by decide) ?_
      refine xV.loc (nx) (by repeat (first | exact trivial | refine ⟨rfl, ?_⟩))
  have this := lp q 0 (by omega) rfl
  unfold xVM
  refine x_aload_n d_M_find_0 rfl ?_
  refine x_iconst (v := nI 0) d_M_find_1 (by decide) ?_
  refine xm_put (j := 14) d_M_find_2 hs rfl (by decide) wf_M_64 (Or.inl rfl) (by first | rfl | assumption) rfl (fun _ _ => rfl) ?_
  refine x_iconst (v := nI 0) d_M_find_5 (by decide) ?_
  refine x_istore_n d_M_find_6 (by decide) ?_
  refine xV.loc (this) (by repeat (first | exact trivial | refine ⟨rfl, ?_⟩))
end XM13
