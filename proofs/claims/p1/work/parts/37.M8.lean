/-- how many keys of partition p begin among the first places -/
def gs (S : Nat → Nat → Int32) (p : Nat) : Nat → Nat
  | 0 => 0
  | i + 1 => gs S p i + (if skp S (nI p) i then 0 else 1)
theorem gs_congr {S T : Nat → Nat → Int32} (h10 : S 10 = T 10) (h19 : S 0 19 = T 0 19) (p : Nat) : ∀ i, gs S p i = gs T p i
  | 0 => rfl
  | i + 1 => by
    have e : skp S (nI p) i ↔ skp T (nI p) i := by unfold skp; rw [h10, h19]
    unfold gs; rw [gs_congr h10 h19 p i]
    by_cases h : skp S (nI p) i
    · rw [if_pos h, if_pos (e.mp h)]
    · rw [if_neg h, if_neg (fun q => h (e.mpr q))]
theorem gs_mono (S : Nat → Nat → Int32) (p : Nat) {i : Nat} : ∀ {n : Nat}, i ≤ n → gs S p i ≤ gs S p n
  | 0, h => by rw [Nat.le_zero.mp h]; exact Nat.le_refl _
  | n + 1, h => by
    rcases Nat.lt_or_eq_of_le h with h1 | h1
    · have := gs_mono S p (Nat.lt_succ_iff.mp h1)
      have e : gs S p (n + 1) = gs S p n + (if skp S (nI p) n then 0 else 1) := rfl
      rw [e]; omega
    · rw [h1]; exact Nat.le_refl _
theorem gs_le (S : Nat → Nat → Int32) (p : Nat) : ∀ i, gs S p i ≤ i
  | 0 => Nat.le_refl 0
  | i + 1 => by
    have := gs_le S p i
    unfold gs; split <;> omega
theorem rcS_gs (S : Nat → Nat → Int32) (np : Nat) (put : Int32) (pn : Nat) : ∀ i, (rcS S np put pn i).2 ≤ gs S pn i
  | 0 => Nat.le_refl 0
  | i + 1 => by
    have ih := rcS_gs S np put pn i
    unfold rcS gs
    split
    · omega
    · rename_i h
      rw [if_neg (fun q => h (Or.inr q))]
      split
      · show (rcS S np put pn i).2 ≤ _; omega
      · show (rcS S np put pn i).2 + 1 ≤ _; omega
def TI (S : Nat → Nat → Int32) (c r np : Nat) : Prop := S 0 13 = nI c ∧ c ≤ 6 ∧ S 0 19 = nI r ∧ 1 ≤ r ∧ r ≤ 3 ∧ S 0 12 = nI np ∧ np ≤ 300 ∧ ¬ S 0 20 = 0 ∧ (∀ w, w < 4 → S 4 w = -1 ∨ ∃ t, S 4 w = nI t ∧ (t < c ∨ (8 ≤ t ∧ t < 8 + r))) ∧ (∀ p, gs S p np ≤ 100)
theorem TI.keep {S T : Nat → Nat → Int32} {c r np : Nat} (h : TI S c r np) (h10 : T 10 = S 10) (h12 : T 0 12 = S 0 12) (h13 : T 0 13 = S 0 13) (h19 : T 0 19 = S 0 19) (h20 : T 0 20 = S 0 20) (ht : ∀ w, w < 4 → T 4 w = -1 ∨ T 4 w = S 4 w ∨ ∃ t, T 4 w = nI t ∧ (t < c ∨ (8 ≤ t ∧ t < 8 + r))) : TI T c r np := by
  obtain ⟨a1, a2, a3, a4, a5, a6, a7, a8, a9, a10⟩ := h
  refine ⟨h13.trans a1, a2, h19.trans a3, a4, a5, h12.trans a6, a7, by rw [h20]; exact a8, fun w hw => ?_, fun p => by rw [gs_congr h10 h19]; exact a10 p⟩
  rcases ht w hw with q | q | q
  · exact Or.inl q
  · rw [q]; exact a9 w hw
  · exact Or.inr q
def drS (S : Nat → Nat → Int32) (t : Int32) (n : Nat) : Nat → Nat → Int32 := fun k j => if (k = 4 ∨ k = 5) ∧ j < n ∧ S 4 j = t then (if k = 4 then -1 else nI 0) else S k j
theorem drS_0 (S : Nat → Nat → Int32) (t : Int32) : drS S t 0 = S := by
  funext k j; exact if_neg (by omega)
theorem drS_4 (S : Nat → Nat → Int32) (t : Int32) {n j : Nat} (h : n ≤ j) (k : Nat) : drS S t n k j = S k j := if_neg (by omega)
theorem drS_k (S : Nat → Nat → Int32) (t : Int32) (n : Nat) {k : Nat} (h4 : k ≠ 4) (h5 : k ≠ 5) : drS S t n k = S k := by
  funext j; exact if_neg (by omega)
theorem drS_s {S : Nat → Nat → Int32} {t : Int32} {n : Nat} (h : S 4 n = t) : xu (xu (drS S t n) 4 n (-1)) 5 n (nI 0) = drS S t (n + 1) := by
  funext k j
  by_cases hj : j = n
  · subst hj
    by_cases h4 : k = 4
    · subst h4; simp [xu, drS, h]
    · by_cases h5 : k = 5
      · subst h5; simp [xu, drS, h]
      · simp [xu, drS, h4, h5]
  · simp only [xu, hj, and_false, if_false, drS]
    have : j < n ↔ j < n + 1 := by omega
    simp only [this]
theorem drS_n {S : Nat → Nat → Int32} {t : Int32} {n : Nat} (h : ¬ S 4 n = t) : drS S t n = drS S t (n + 1) := by
  funext k j
  by_cases hj : j = n
  · subst hj; simp [drS, h]
  · have : j < n ↔ j < n + 1 := by omega
    simp only [drS, this]
def fn1 (S : Nat → Nat → Int32) (w tn : Nat) : Nat → Nat → Int32 := xu (xu (drS S (nI tn) 4) 8 tn (nI 1)) 9 tn (nI w)
def fnS (S : Nat → Nat → Int32) (np w tn : Nat) : Nat → Nat → Int32 :=
  if tn < 8 then fn1 S w tn else if (rcS (fn1 S w tn) np (nI 0) (tn - 8) np).1 0 14 ≤ 0 then (rcS (fn1 S w tn) np (nI 0) (tn - 8) np).1 else gvS (xu (rcS (fn1 S w tn) np (nI 0) (tn - 8) np).1 0 26 (nI 0)) (nI 0) 4
section XM8
variable {l : Launch} {G : xG} {h0 : xH} {y : Nat} {S : Nat → Nat → Int32}
theorem c_M_finish (hs : MSh h0 y) {w tn np r : Nat} (hw : w < 4) (ht : S 4 w = nI tn) (htk : tok tn) (hp : S 0 12 = nI np) (hnp : np ≤ 300) (hr : S 0 19 = nI r) (hr1 : 1 ≤ r) (hr3 : r ≤ 3) :
    xVM l G 2 50 m_M_finish [.ref y, .int (nI w)] (mset y S h0) (fun q h' => q = .inl none ∧ h' = mset y (fnS S np w tn) h0) := by
  have hw4 : w < mlen 4 := hw
  have ht8 : tn < mlen 8 := by show tn < 11; omega
  have ht9 : tn < mlen 9 := by show tn < 11; omega
  have lp : ∀ m i : Nat, i + m = 4 → xV l G 2 50 m_M_finish 9 [(3, .int (nI i)), (2, .int (nI tn)), (0, .ref y), (1, .int (nI w))] [] (mset y (drS S (nI tn) i) h0) (fun q h' => q = .inl none ∧ h' = mset y (fnS S np w tn) h0) := by
    intro m
    induction m with
    | zero =>
      intro i him
      obtain rfl : i = 4 := by omega
      refine x_iload_n d_M_finish_9 rfl ?_
      refine x_iconst (v := nI 4) d_M_finish_10 (by decide) ?_
      refine x_icmp_ge_t (tgt := 47) d_M_finish_11 (by decide) ((nI_le (by omega) (by omega))) ?_
      refine x_aload_n d_M_finish_47 rfl ?_
      refine xm_ref (k := 8) (j := 7) d_M_finish_48 hs (by decide) rfl rfl (by decide) wf_M_32 rfl ?_
      refine x_iload_n d_M_finish_51 rfl ?_
      refine x_iconst (v := nI 1) d_M_finish_52 (by decide) ?_
      refine xm_zst d_M_finish_53 hs (by decide) rfl (by first | decide | assumption | omega) (by first | rfl | assumption) ?_
      refine x_aload_n d_M_finish_54 rfl ?_
      refine xm_ref (k := 9) (j := 8) d_M_finish_55 hs (by decide) rfl rfl (by decide) wf_M_35 rfl ?_
      refine x_iload_n d_M_finish_58 rfl ?_
      refine x_iload_n d_M_finish_59 rfl ?_
      refine xm_ast d_M_finish_60 hs (by decide) rfl (by first | decide | assumption | omega) ?_
      refine x_iload_n d_M_finish_61 rfl ?_
      refine x_bipush (v := nI 8) d_M_finish_62 (by decide) ?_
      rw [show xu (xu (drS S (nI tn) 4) 8 tn (nI 1)) 9 tn (nI w) = fn1 S w tn from rfl]
      have kk : ∀ j, fn1 S w tn 0 j = S 0 j := by
        intro j
        show xu (xu (drS S (nI tn) 4) 8 tn (nI 1)) 9 tn (nI w) 0 j = _
        rw [xu_k _ _ _ (by decide), xu_k _ _ _ (by decide), drS_k _ _ _ (by decide) (by decide)]
      by_cases h8 : tn < 8
      · skip
        refine x_icmp_ge_f 68 d_M_finish_64 (by decide) ((nI_ge h8 (by omega))) ?_
        refine x_vret d_M_finish_67 rfl ?_
        exact ⟨rfl, by unfold fnS; rw [if_pos h8]⟩
      · skip
        refine x_icmp_ge_t (tgt := 68) d_M_finish_64 (by decide) ((nI_le (by omega) (by omega))) ?_
        refine x_aload_n d_M_finish_68 rfl ?_
        refine x_iload_n d_M_finish_69 rfl ?_
        refine x_bipush (v := nI 8) d_M_finish_70 (by decide) ?_
        refine x_isub d_M_finish_72 ?_
        refine x_iconst (v := nI 0) d_M_finish_73 (by decide) ?_
        rw [nI_sub (by omega)]
        refine x_callV (M' := m_M_reduce) (As := [_, _]) (fr' := 1) (wd' := 25) d_M_finish_74 hs.1 rfl pl_M_reduce rfl (Nat.le_of_ble_eq_true rfl) (by decide) (by decide) wc_M_reduce wi_M wl_M_160 wm_M_reduce we_M_reduce (by decide) np_M_reduce (Nat.le_of_ble_eq_true rfl) (fun q hq => by cases hq) (c_M_reduce hs (by omega) ((kk 12).trans hp) hnp ((kk 19).trans hr) hr1 hr3 (fun q => absurd nI_0 q)) (fun k a h1 q => by cases q.1) (fun v h1 q => ?_)
        obtain ⟨q1, rfl⟩ := q
        cases q1
        refine x_if_lt_f 87 d_M_finish_77 (by decide) ((nI_pos (by have := rcS_gs (fn1 S w tn) np (nI 0) (tn - 8) np; have g : ∀ i, gs (fn1 S w tn) (tn - 8) i ≤ i := gs_le _ _; have := g np; omega))) ?_
        refine x_aload_n d_M_finish_80 rfl ?_
        refine xm_get (j := 14) d_M_finish_81 hs rfl (by decide) wf_M_64 (fun _ _ => rfl) ?_
        refine x_if_le (tgt := 97) d_M_finish_84 (by decide) (fun c1 => ?_) (fun c1 => ?_)
        · skip
          refine x_vret d_M_finish_97 rfl ?_
          exact ⟨rfl, by unfold fnS; rw [if_neg h8, if_pos c1]⟩
        · refine x_aload_n d_M_finish_87 rfl ?_
          refine x_iconst (v := nI 0) d_M_finish_88 (by decide) ?_
          refine xm_put (j := 26) d_M_finish_89 hs rfl (by decide) wf_M_75 (Or.inl rfl) (by first | rfl | assumption) rfl (fun _ _ => rfl) ?_
          refine x_aload_n d_M_finish_92 rfl ?_
          refine x_iconst (v := nI 0) d_M_finish_93 (by decide) ?_
          refine x_callV (M' := m_M_giveUp) (As := [_]) (fr' := 0) (wd' := 0) d_M_finish_94 hs.1 rfl pl_M_giveUp rfl (Nat.le_of_ble_eq_true rfl) (by decide) (by decide) wc_M_giveUp wi_M wl_M_121 wm_M_giveUp we_M_giveUp (by decide) np_M_giveUp (Nat.le_of_ble_eq_true rfl) (fun q hq => by cases hq) (c_M_giveUp hs _) (fun k a h1 q => by cases q.1) (fun v h1 q => ?_)
          obtain ⟨q1, rfl⟩ := q
          cases q1
          refine x_vret d_M_finish_97 rfl ?_
          exact ⟨rfl, by unfold fnS; rw [if_neg h8, if_neg c1]⟩
    | succ m ih =>
      intro i him
      have hi4 : i < mlen 4 := by show i < 4; omega
      have hi5 : i < mlen 5 := by show i < 4; omega
      have nx := ih (i + 1) (by omega)
      refine x_iload_n d_M_finish_9 rfl ?_
      refine x_iconst (v := nI 4) d_M_finish_10 (by decide) ?_
      refine x_icmp_ge_f 47 d_M_finish_11 (by decide) ((nI_ge (by omega) (by omega))) ?_
      refine x_aload_n d_M_finish_14 rfl ?_
      refine xm_ref (k := 4) (j := 3) d_M_finish_15 hs (by decide) rfl rfl (by decide) wf_M_19 rfl ?_
      refine x_iload_n d_M_finish_18 rfl ?_
      refine xm_ald d_M_finish_19 hs (by decide) rfl (by first | decide | assumption | omega) ?_
      refine x_iload_n d_M_finish_20 rfl ?_
      rw [drS_4 S (nI tn) (Nat.le_refl i)]
      refine x_icmp_eq (tgt := 27) d_M_finish_21 (by decide) (fun c1 => ?_) (fun c1 => ?_)
      · refine x_aload_n d_M_finish_27 rfl ?_
        refine xm_ref (k := 4) (j := 3) d_M_finish_28 hs (by decide) rfl rfl (by decide) wf_M_19 rfl ?_
        refine x_iload_n d_M_finish_31 rfl ?_
        refine x_iconst (v := (-1)) d_M_finish_32 (by decide) ?_
        refine xm_ast d_M_finish_33 hs (by decide) rfl (by first | decide | assumption | omega) ?_
        refine x_aload_n d_M_finish_34 rfl ?_
        refine xm_ref (k := 5) (j := 4) d_M_finish_35 hs (by decide) rfl rfl (by decide) wf_M_22 rfl ?_
        refine x_iload_n d_M_finish_38 rfl ?_
        refine x_iconst (v := nI 0) d_M_finish_39 (by decide) ?_
        refine xm_ast d_M_finish_40 hs (by decide) rfl (by first | decide | assumption | omega) ?_
        first | refine x_incN d_M_finish_41 rfl (by decide) ?_ | refine x_inc d_M_finish_41 rfl (by decide) ?_
        refine x_goto (tgt := 9) d_M_finish_44 (by decide) ?_
        rw [drS_s c1]
        refine xV.loc (nx) (by repeat (first | exact trivial | refine ⟨rfl, ?_⟩))
      · refine x_goto (tgt := 41) d_M_finish_24 (by decide) ?_
        first | refine x_incN d_M_finish_41 rfl (by decide) ?_ | refine x_inc d_M_finish_41 rfl (by decide) ?_
        refine x_goto (tgt := 9) d_M_finish_44 (by decide) ?_
        rw [drS_n c1]
        refine xV.loc (nx) (by repeat (first | exact trivial | refine ⟨rfl, ?_⟩))
  unfold xVM
  refine x_aload_n d_M_finish_0 rfl ?_
  refine xm_ref (k := 4) (j := 3) d_M_finish_1 hs (by decide) rfl rfl (by decide) wf_M_19 rfl ?_
  refine x_iload_n d_M_finish_4 rfl ?_
  refine xm_ald d_M_finish_5 hs (by decide) rfl (by first | decide | assumption | omega) ?_
  rw [ht]
  refine x_istore_n d_M_finish_6 (by decide) ?_
  refine x_iconst (v := nI 0) d_M_finish_7 (by decide) ?_
  refine x_istore_n d_M_finish_8 (by decide) ?_
  have := lp 4 0 (by omega)
  rw [drS_0] at this
  refine xV.loc (this) (by repeat (first | exact trivial | refine ⟨rfl, ?_⟩))
def enL (T : Nat → Nat → Int32) (np : Nat) : Nat → (Nat → Nat → Int32)
  | 0 => T
  | p + 1 => xu (rcS (enL T np p) np (nI 1) p np).1 15 p (nI (rcS (enL T np p) np (nI 1) p np).2)
def en0 (S : Nat → Nat → Int32) : Nat → Nat → Int32 := xu (xu (xu S 0 26 (nI 0)) 0 22 (S 0 22 + nI 1)) 0 25 (S 0 19)
theorem enL_keep {T : Nat → Nat → Int32} {np k j : Nat} (h1 : k ≠ 13) (h2 : k ≠ 14) (h3 : k ≠ 15) (h : ¬ (k = 0 ∧ (j = 14 ∨ j = 27))) : ∀ p, enL T np p k j = T k j
  | 0 => rfl
  | p + 1 => by
    unfold enL
    rw [xu_k _ _ _ h3]
    exact (rcS_keep h1 h2 h np).trans (enL_keep h1 h2 h3 h p)
theorem c_M_end (hs : MSh h0 y) {c r np : Nat} (hT : TI S c r np) : xVM l G 2 50 m_M_end [.ref y] (mset y S h0) (fun q h' => q = .inl none ∧ h' = mset y (enL (en0 S) np r) h0) := by
  obtain ⟨hc, hc6, hr, hr1, hr3, hp, hnp, hb, htk, hgs⟩ := hT
  have k10 : en0 S 10 = S 10 := by unfold en0; rw [xu_k _ _ _ (by decide), xu_k _ _ _ (by decide), xu_k _ _ _ (by decide)]
  have k12 : en0 S 0 12 = S 0 12 := by unfold en0; rw [xu_j _ _ _ _ (by decide), xu_j _ _ _ _ (by decide), xu_j _ _ _ _ (by decide)]
  have k19 : en0 S 0 19 = S 0 19 := by unfold en0; rw [xu_j _ _ _ _ (by decide), xu_j _ _ _ _ (by decide), xu_j _ _ _ _ (by decide)]
  have lp : ∀ m i : Nat, i + m = r → xV l G 2 50 m_M_end 25 [(1, .int (nI i)), (0, .ref y)] [] (mset y (enL (en0 S) np i) h0) (fun q h' => q = .inl none ∧ h' = mset y (enL (en0 S) np r) h0) := by
    intro m
    induction m with
    | zero =>
      intro i him
      obtain rfl : i = r := by omega
      refine x_iload_n d_M_end_25 rfl ?_
      refine x_aload_n d_M_end_26 rfl ?_
      refine xm_get (j := 19) d_M_end_27 hs rfl (by decide) wf_M_103 (fun _ _ => rfl) ?_
      rw [enL_keep (by decide) (by decide) (by decide) (by decide), k19, hr]
      refine x_icmp_ge_t (tgt := 51) d_M_end_30 (by decide) ((nI_le (by omega) (by omega))) ?_
      refine x_vret d_M_end_51 rfl ?_
      exact ⟨rfl, rfl⟩
    | succ m ih =>
      intro i him
      have h15 : i < mlen 15 := by show i < 3; omega
      have nx := ih (i + 1) (by omega)
      have e10 : enL (en0 S) np i 10 = S 10 := by rw [← k10]; exact funext (fun j => enL_keep (by decide) (by decide) (by decide) (by omega) i)
      have e12 : enL (en0 S) np i 0 12 = nI np := (enL_keep (by decide) (by decide) (by decide) (by decide) i).trans (k12.trans hp)
      have e19 : enL (en0 S) np i 0 19 = S 0 19 := (enL_keep (by decide) (by decide) (by decide) (by decide) i).trans k19
      refine x_iload_n d_M_end_25 rfl ?_
      refine x_aload_n d_M_end_26 rfl ?_
      refine xm_get (j := 19) d_M_end_27 hs rfl (by decide) wf_M_103 (fun _ _ => rfl) ?_
      rw [e19, hr]
      refine x_icmp_ge_f 51 d_M_end_30 (by decide) ((nI_ge (by omega) (by omega))) ?_
      refine x_aload_n d_M_end_33 rfl ?_
      refine xm_ref (k := 15) (j := 30) d_M_end_34 hs (by decide) rfl rfl (by decide) wf_M_61 rfl ?_
      refine x_iload_n d_M_end_37 rfl ?_
      refine x_aload_n d_M_end_38 rfl ?_
      refine x_iload_n d_M_end_39 rfl ?_
      refine x_iconst (v := nI 1) d_M_end_40 (by decide) ?_
      refine x_callV (M' := m_M_reduce) (As := [_, _]) (fr' := 1) (wd' := 25) d_M_end_41 hs.1 rfl pl_M_reduce rfl (Nat.le_of_ble_eq_true rfl) (by decide) (by decide) wc_M_reduce wi_M wl_M_160 wm_M_reduce we_M_reduce (by decide) np_M_reduce (Nat.le_of_ble_eq_true rfl) (fun q hq => by cases hq) (c_M_reduce hs (by omega) e12 hnp (e19.trans hr) hr1 hr3 (fun _ j hj => by have h1 := rcS_gs (enL (en0 S) np i) np (nI 1) i j; have h2 := gs_mono (enL (en0 S) np i) i hj; rw [gs_congr e10 e19 i np] at h2; have h3 := hgs i; omega)) (fun k a h1 q => by cases q.1) (fun v h1 q => ?_)
      obtain ⟨q1, rfl⟩ := q
      cases q1
      refine xm_ast d_M_end_44 hs (by decide) rfl (by first | decide | assumption | omega) ?_
      first | refine x_incN d_M_end_45 rfl (by decide) ?_ | refine x_inc d_M_end_45 rfl (by decide) ?_
      refine x_goto (tgt := 25) d_M_end_48 (by decide) ?_
      refine xV.loc (nx) (by repeat (first | exact trivial | refine ⟨rfl, ?_⟩))
  unfold xVM
  refine x_aload_n d_M_end_0 rfl ?_
  refine x_iconst (v := nI 0) d_M_end_1 (by decide) ?_
  refine xm_put (j := 26) d_M_end_2 hs rfl (by decide) wf_M_75 (Or.inl rfl) (by first | rfl | assumption) rfl (fun _ _ => rfl) ?_
  refine x_aload_n d_M_end_5 rfl ?_
  refine x_dup d_M_end_6 rfl ?_
  refine xm_get (j := 22) d_M_end_7 hs rfl (by decide) wf_M_164 (fun _ _ => rfl) ?_
  refine x_iconst (v := nI 1) d_M_end_10 (by decide) ?_
  refine x_iadd d_M_end_11 ?_
  refine xm_put (j := 22) d_M_end_12 hs rfl (by decide) wf_M_164 (Or.inl rfl) (by first | rfl | assumption) rfl (fun _ _ => rfl) ?_
  rw [show xu S 0 26 (nI 0) 0 22 = S 0 22 from xu_j _ _ _ _ (by decide)]
  refine x_aload_n d_M_end_15 rfl ?_
  refine x_aload_n d_M_end_16 rfl ?_
  refine xm_get (j := 19) d_M_end_17 hs rfl (by decide) wf_M_103 (fun _ _ => rfl) ?_
  rw [show xu (xu S 0 26 (nI 0)) 0 22 (S 0 22 + nI 1) 0 19 = S 0 19 by rw [xu_j _ _ _ _ (by decide), xu_j _ _ _ _ (by decide)]]
  refine xm_put (j := 25) d_M_end_20 hs rfl (by decide) wf_M_167 (Or.inl rfl) (by first | rfl | assumption) rfl (fun _ _ => rfl) ?_
  refine x_iconst (v := nI 0) d_M_end_23 (by decide) ?_
  refine x_istore_n d_M_end_24 (by decide) ?_
  have := lp r 0 (by omega)
  refine xV.loc (this) (by repeat (first | exact trivial | refine ⟨rfl, ?_⟩))
end XM8
