theorem jrem_toInt {x : Int32} {r : Nat} (h0 : 0 < r) (h1 : r < 2 ^ 31) : (jrem x (nI r)).toInt = x.toInt.tmod (r : Int) := by
  unfold jrem
  have b1 := Int.tmod_lt_of_pos x.toInt (b := (r : Int)) (by omega)
  have b2 := Int.lt_tmod_of_pos x.toInt (b := (r : Int)) (by omega)
  rw [Int32.toInt_sub, Int32.toInt_mul, Int32.toInt_div, nI_toInt h1, Int.bmod_mul_bmod, Int.sub_bmod_bmod]
  have e : x.toInt - x.toInt.tdiv (r : Int) * (r : Int) = x.toInt.tmod (r : Int) := by rw [Int.tmod_def, Int.mul_comm]
  rw [e, Int.bmod_eq_of_le_mul_two (by omega) (by omega)]
def pt (r : Nat) (x : Int32) : Nat := (x.toInt % (r : Int)).toNat
theorem pt_lt {r : Nat} (h0 : 0 < r) (x : Int32) : pt r x < r := by
  unfold pt
  have h1 := Int.emod_nonneg x.toInt (b := (r : Int)) (by omega)
  have h2 := Int.emod_lt_of_pos x.toInt (b := (r : Int)) (by omega)
  omega
theorem pt_toInt {r : Nat} (h0 : 0 < r) (h1 : r < 2 ^ 31) (x : Int32) : (nI (pt r x)).toInt = x.toInt % (r : Int) := by
  have h2 := pt_lt h0 x
  rw [nI_toInt (by omega)]
  unfold pt
  have h1 := Int.emod_nonneg x.toInt (b := (r : Int)) (by omega)
  omega
theorem mdl_pt {x : Int32} {r : Nat} (h0 : 0 < r) (h1 : r < 2 ^ 30) : mdl x (nI r) = nI (pt r x) := by
  apply Int32.toInt_inj.mp
  rw [pt_toInt h0 (by omega)]
  unfold mdl
  have b1 := Int.tmod_lt_of_pos x.toInt (b := (r : Int)) (by omega)
  have b2 := Int.lt_tmod_of_pos x.toInt (b := (r : Int)) (by omega)
  rw [jrem_toInt h0 (by omega), Int32.toInt_add, jrem_toInt h0 (by omega), nI_toInt (by omega), Int.bmod_eq_of_le_mul_two (by omega) (by omega)]
  rw [Int.tmod_eq_emod_of_nonneg (by omega), Int.add_emod_right, Int.tmod_def, Int.sub_mul_emod_self_left]
theorem xor_neg (x y : Int32) (hy : 0 ≤ y) : (0 ≤ x ^^^ y) ↔ 0 ≤ x := by
  have m1 : ∀ v : Int32, (0 ≤ v) ↔ v.toBitVec.msb = false := by
    intro v
    rw [Int32.le_iff_toInt_le, Int32.toInt_zero, BitVec.msb_eq_toInt]
    show (0 : Int) ≤ v.toBitVec.toInt ↔ _
    rw [decide_eq_false_iff_not]
    omega
  rw [m1, m1, Int32.toBitVec_xor, BitVec.msb_xor, (m1 y).mp hy, Bool.xor_false]
theorem xfm_pt {x : Int32} {r : Nat} (h0 : 0 < r) (h1 : r < 2 ^ 30) : xfm x (nI r) = nI (pt r x) := by
  apply Int32.toInt_inj.mp
  rw [pt_toInt h0 (by omega)]
  have b1 := Int.tmod_lt_of_pos x.toInt (b := (r : Int)) (by omega)
  have b2 := Int.lt_tmod_of_pos x.toInt (b := (r : Int)) (by omega)
  have ej : x - x / nI r * nI r = jrem x (nI r) := rfl
  unfold xfm
  rw [ej]
  by_cases hx : 0 ≤ x
  · rw [if_pos ((xor_neg x (nI r) (nI_pos' (by omega))).mpr hx), jrem_toInt h0 (by omega)]
    rw [Int32.le_iff_toInt_le, Int32.toInt_zero] at hx
    exact Int.tmod_eq_emod_of_nonneg hx
  · rw [if_neg (fun q => hx ((xor_neg x (nI r) (nI_pos' (by omega))).mp q))]
    rw [Int32.le_iff_toInt_le, Int32.toInt_zero] at hx
    have e := Int.tmod_eq_emod (a := x.toInt) (b := (r : Int))
    have m1 := Int.emod_nonneg x.toInt (b := (r : Int)) (by omega)
    have m2 := Int.emod_lt_of_pos x.toInt (b := (r : Int)) (by omega)
    by_cases hz : jrem x (nI r) = 0
    · rw [if_pos hz, jrem_toInt h0 (by omega)]
      have t0 : x.toInt.tmod (r : Int) = 0 := by rw [← jrem_toInt h0 (by omega), hz]; rfl
      have hd : (r : Int) ∣ x.toInt := Int.dvd_of_tmod_eq_zero t0
      rw [t0, Int.emod_eq_zero_of_dvd hd]
    · rw [if_neg hz]
      have hnd : ¬ (0 ≤ x.toInt ∨ (r : Int) ∣ x.toInt) := by
        rintro (q | q)
        · exact hx q
        · refine hz (Int32.toInt_inj.mp ?_)
          rw [jrem_toInt h0 (by omega), Int.tmod_eq_zero_of_dvd q]; rfl
      rw [if_neg hnd] at e
      rw [Int32.toInt_add, jrem_toInt h0 (by omega), nI_toInt (by omega), e]
      rw [Int.bmod_eq_of_le_mul_two (by omega) (by omega)]
      omega
section XC5
variable {l : Launch} {G : xG} {h0 : xH} {z : Nat} {C : Nat → Nat → Int32} {b : Bool} {tk : Nat → Option Nat}
theorem c_J_partitionOf (hs : CSh h0 z) {d : Bool} (k : Int32) {r : Nat} (hr : C (jo d) 3 = nI r) (hr3 : r ≤ 3) : xVM l G 1 22 m_J_partitionOf [.ref (z + jo d), .int k] (cset z C b tk h0) (fun q h' => q = .inl (some (.int (nI (pt (max r 1) k)))) ∧ h' = cset z C b tk h0) := by
  have e : (if nI r < nI 1 then nI 1 else nI r) = nI (max r 1) := by
    by_cases h : r < 1
    · rw [if_pos (nI_lt h (by omega)), Nat.max_eq_right (by omega)]
    · rw [if_neg (nI_nlt (by omega) (by omega)), Nat.max_eq_left (by omega)]
  unfold xVM
  refine x_iload_n d_J_partitionOf_0 rfl ?_
  first | refine x_aload_n d_J_partitionOf_1 rfl ?_ | refine x_aloadq_n d_J_partitionOf_1 rfl ?_
  refine xc_get (kc := 2) (j := 3) d_J_partitionOf_2 (hs.J _) (jo75 _) rfl (by decide) wf_J_24 (fun _ _ => rfl) ?_
  refine x_iconst (v := nI 1) d_J_partitionOf_5 (by decide) ?_
  rw [hr]
  refine x_callS (M' := m_Z_max) (As := [_, _]) (fr' := 0) (wd' := 0) d_J_partitionOf_6 pl_Z_max rfl (Nat.le_of_ble_eq_true rfl) (by decide) (by decide) wc_Z_max wi_Z wl_J_37 ws_Z_max (by decide) np_Z_max (Nat.le_of_ble_eq_true rfl) (fun q hq => by cases hq) (c_Z_max _ _) (fun k a h1 q => by cases q.1) (fun v h1 q => ?_)
  obtain ⟨q1, rfl⟩ := q
  cases q1
  rw [e]
  refine x_callS (M' := m_Z_floorMod) (As := [_, _]) (fr' := 0) (wd' := 0) d_J_partitionOf_9 pl_Z_floorMod rfl (Nat.le_of_ble_eq_true rfl) (by decide) (by decide) wc_Z_floorMod wi_Z wl_J_43 ws_Z_floorMod (by decide) np_Z_floorMod (Nat.le_of_ble_eq_true rfl) (fun q hq => by cases hq) (c_Z_floorMod _ _ (nI_ne0 (by omega) (by omega))) (fun k a h1 q => by cases q.1) (fun v h1 q => ?_)
  obtain ⟨q1, rfl⟩ := q
  cases q1
  refine x_iret d_J_partitionOf_12 rfl (by first | rfl | assumption) ?_
  exact ⟨by rw [xfm_pt (by omega) (by omega)], rfl⟩
theorem c_A_runsOf {h : xH} (p : Int32) {B : Nat} (hB : 1 ≤ B) (hB6 : B ≤ 6) : xVM l G 1 21 m_A_runsOf [.int p, .int (nI B)] h (fun q h' => q = .inl (some (.int ((p + nI B - nI 1) / nI B))) ∧ h' = h) := by
  unfold xVM
  refine x_iload_n d_A_runsOf_0 rfl ?_
  refine x_iload_n d_A_runsOf_1 rfl ?_
  refine x_iadd d_A_runsOf_2 ?_
  refine x_iconst (v := nI 1) d_A_runsOf_3 (by decide) ?_
  refine x_isub d_A_runsOf_4 ?_
  refine x_iload_n d_A_runsOf_5 rfl ?_
  refine x_iconst (v := nI 1) d_A_runsOf_6 (by decide) ?_
  refine x_callS (M' := m_Z_max) (As := [_, _]) (fr' := 0) (wd' := 0) d_A_runsOf_7 pl_Z_max rfl (Nat.le_of_ble_eq_true rfl) (by decide) (by decide) wc_Z_max wi_Z wl_A_205 ws_Z_max (by decide) np_Z_max (Nat.le_of_ble_eq_true rfl) (fun q hq => by cases hq) (c_Z_max _ _) (fun k a h1 q => by cases q.1) (fun v h1 q => ?_)
  obtain ⟨q1, rfl⟩ := q
  cases q1
  rw [if_neg (nI_nlt (by omega) (by omega))]
  have hB0 : ¬ nI B = 0 := nI_ne0 hB (by omega)
  refine x_idiv d_A_runsOf_10 (by first | decide | assumption) ?_
  refine x_iret d_A_runsOf_11 rfl (by first | rfl | assumption) ?_
  exact ⟨rfl, rfl⟩
theorem absJ {v : Int32} (hv : v.toInt.natAbs < 10 ^ 6) : xabsL v.toInt64 = lN v.toInt.natAbs := by
  rw [← absL hv]
  unfold xabsL
  by_cases h : v < 0
  · rw [if_pos h, if_neg]
    intro q
    have h2 : v.toInt64 < 0 := by
      rw [Int64.lt_iff_toInt_lt, Int32.toInt_toInt64]
      rw [Int32.lt_iff_toInt_lt, Int32.toInt_zero] at h
      exact h
    unfold lg_cmp at q
    have h3 : ¬ (0 : Int64) < v.toInt64 := by rw [Int64.lt_iff_toInt_lt] at h2 ⊢; omega
    have h4 : ¬ v.toInt64 = 0 := by intro e; rw [e] at h2; exact absurd h2 (by decide)
    simp [h3, h4] at q
  · rw [if_neg h, if_pos]
    unfold lg_cmp
    by_cases h3 : (0 : Int64) < v.toInt64
    · simp [h3]
    · have h4 : v.toInt64 = 0 := by
        apply Int64.toInt_inj.mp
        rw [Int64.lt_iff_toInt_lt] at h3
        rw [Int32.toInt_toInt64] at h3 ⊢
        rw [Int32.lt_iff_toInt_lt, Int32.toInt_zero] at h
        have e0 : (0 : Int64).toInt = 0 := rfl
        rw [e0] at h3 ⊢
        omega
      simp [h4]
theorem cmp_ne {n : Nat} (h : 0 < n) (h2 : n < 2 ^ 31) : ¬ lg_cmp (lN n) 0 = 0 := by
  have := cmp_pos h h2
  intro q; rw [q] at this; exact absurd this (by decide)
theorem c_A_mapDigits (hs : CSh h0 z) (ho : isP 5 6) (v : Int32) (hv : v.toInt.natAbs < 10 ^ 6) : xVM l G 1 22 m_A_mapDigits [.int v, .ref (z + 5)] (cset z (pqS C 5 []) b tk h0) (fun r h' => r = .inl none ∧ h' = cset z (pqS C 5 (dg 6 v.toInt.natAbs)) b tk h0) := by
  have lp : ∀ (f i n : Nat) (q : List KV), i + f = 6 → n < 10 ^ 6 → q.length = i → xV l G 1 22 m_A_mapDigits 9 [(4, .int (nI i)), (2, .long (lN n)), (0, .int v), (1, .ref (z + 5))] [] (cset z (pqS C 5 q) b tk h0) (fun r h' => r = .inl none ∧ h' = cset z (pqS C 5 (q ++ dg f n)) b tk h0) := by
    intro f
    induction f with
    | zero =>
      intro i n q hi hn hq
      obtain rfl : i = 6 := by omega
      refine x_iload d_A_mapDigits_9 rfl ?_
      refine x_bipush (v := nI 6) d_A_mapDigits_11 (by decide) ?_
      refine x_icmp_ge_t (tgt := 48) d_A_mapDigits_13 (by decide) ((nI_le (by omega) (by omega))) ?_
      refine x_vret d_A_mapDigits_48 rfl ?_
      exact ⟨rfl, by rw [show dg 0 n = [] from rfl, List.append_nil]⟩
    | succ f ih =>
      intro i n q hi hn hq
      refine x_iload d_A_mapDigits_9 rfl ?_
      refine x_bipush (v := nI 6) d_A_mapDigits_11 (by decide) ?_
      refine x_icmp_ge_f 48 d_A_mapDigits_13 (by decide) ((nI_ge (by omega) (by omega))) ?_
      first | refine x_aload_n d_A_mapDigits_16 rfl ?_ | refine x_aloadq_n d_A_mapDigits_16 rfl ?_
      refine x_lload_n d_A_mapDigits_17 rfl ?_
      refine x_ldc2 (v := (10)) d_A_mapDigits_18 wv_A_235 ?_
      rw [show (10 : Int64) = lN 10 from rfl]
      refine x_lrem d_A_mapDigits_21 (by decide) ?_
      rw [lN_rem (by omega) (by omega)]
      refine x_l2i d_A_mapDigits_22 ?_
      rw [lN_i]
      refine x_iconst (v := nI 1) d_A_mapDigits_23 (by decide) ?_
      refine x_callV (M' := m_P_append) (As := [_, _]) (fr' := 0) (wd' := 0) d_A_mapDigits_24 (hs.P (by assumption)) rfl pl_P_append rfl (Nat.le_of_ble_eq_true rfl) (by decide) (by decide) wc_P_append wi_P wl_A_224 wm_P_append we_P_append (by decide) np_P_append (Nat.le_of_ble_eq_true rfl) (fun q hq => by cases hq) (c_app hs ho _ _ (by omega)) (fun k a h1 q => by cases q.1) (fun v h1 q => ?_)
      obtain ⟨q1, rfl⟩ := q
      cases q1
      refine x_lload_n d_A_mapDigits_27 rfl ?_
      refine x_ldc2 (v := (10)) d_A_mapDigits_28 wv_A_235 ?_
      rw [show (10 : Int64) = lN 10 from rfl]
      refine x_ldiv d_A_mapDigits_31 (by decide) ?_
      rw [lN_div (by omega) (by omega)]
      refine x_lstore_n d_A_mapDigits_32 (by decide) ?_
      refine x_lload_n d_A_mapDigits_33 rfl ?_
      refine x_lconst (v := 0) d_A_mapDigits_34 (by decide) ?_
      refine x_lcmp d_A_mapDigits_35 ?_
      by_cases hz : n / 10 = 0
      · rw [hz]
        refine x_if_ne_f 42 d_A_mapDigits_36 (by decide) ((by decide)) ?_
        refine x_goto (tgt := 48) d_A_mapDigits_39 (by decide) ?_
        refine x_vret d_A_mapDigits_48 rfl ?_
        exact ⟨rfl, by rw [dg, if_pos hz]⟩
      · have nx := ih (i + 1) (n / 10) (q ++ [(nI (n % 10), nI 1)]) (by omega) (by omega) (by simp [hq])
        rw [List.append_assoc, List.singleton_append, show (nI (n % 10), nI 1) :: dg f (n / 10) = dg (f + 1) n by rw [dg, if_neg hz]] at nx
        refine x_if_ne_t (tgt := 42) d_A_mapDigits_36 (by decide) ((cmp_ne (by omega) (by omega))) ?_
        first | refine x_incN d_A_mapDigits_42 rfl (by decide) ?_ | refine x_inc d_A_mapDigits_42 rfl (by decide) ?_
        refine x_goto (tgt := 9) d_A_mapDigits_45 (by decide) ?_
        refine xV.loc (nx) (by repeat (first | exact trivial | refine ⟨rfl, ?_⟩))
  have this := lp 6 0 v.toInt.natAbs [] (by omega) hv rfl
  unfold xVM
  refine x_iload_n d_A_mapDigits_0 rfl ?_
  refine x_i2l d_A_mapDigits_1 ?_
  refine x_callS (M' := m_Z_abs) (As := [_]) (fr' := 0) (wd' := 0) d_A_mapDigits_2 pl_Z_abs rfl (Nat.le_of_ble_eq_true rfl) (by decide) (by decide) wc_Z_abs wi_Z wl_A_231 ws_Z_abs (by decide) np_Z_abs (Nat.le_of_ble_eq_true rfl) (fun q hq => by cases hq) (c_Z_abs _) (fun k a h1 q => by cases q.1) (fun v h1 q => ?_)
  obtain ⟨q1, rfl⟩ := q
  cases q1
  refine x_lstore_n d_A_mapDigits_5 (by decide) ?_
  refine x_iconst (v := nI 0) d_A_mapDigits_6 (by decide) ?_
  refine x_istore d_A_mapDigits_7 (by decide) ?_
  rw [absJ hv]
  refine xV.loc (this) (by repeat (first | exact trivial | refine ⟨rfl, ?_⟩))
def cmpL (m v : Int32) : List KV := if m = nI 0 ∨ m = nI 1 ∨ m = nI 2 ∨ m = nI 3 ∨ m = nI 4 then mpL m v else []
theorem c_A_mapNumber (hs : CSh h0 z) (m v : Int32) (hv : v.toInt.natAbs < 10 ^ 6) : xVM l G 2 46 m_A_mapNumber [.int m, .int v, .ref (z + 5)] (cset z C b tk h0) (fun r h' => r = .inl none ∧ h' = cset z (pqS C 5 (cmpL m v)) b tk h0) := by
  have ho : isP 5 6 := Or.inl ⟨rfl, rfl⟩
  have tail : ∀ x : Int32, xV l G 2 46 m_A_mapNumber 109 [(0, .int m), (1, .int v), (2, .ref (z + 5))] [.int x, .ref (z + 5)] (cset z (pqS C 5 []) b tk h0) (fun r h' => r = .inl none ∧ h' = cset z (pqS C 5 ((x, v) :: (if v = 0 then [] else [(nI 2, nI 1)]))) b tk h0) := by
    intro x
    refine x_iload_n d_A_mapNumber_109 rfl ?_
    refine x_callV (M' := m_P_append) (As := [_, _]) (fr' := 0) (wd' := 0) d_A_mapNumber_110 (hs.P (by assumption)) rfl pl_P_append rfl (Nat.le_of_ble_eq_true rfl) (by decide) (by decide) wc_P_append wi_P wl_A_224 wm_P_append we_P_append (by decide) np_P_append (Nat.le_of_ble_eq_true rfl) (fun q hq => by cases hq) (c_app hs ho _ _ (by decide)) (fun k a h1 q => by cases q.1) (fun v h1 q => ?_)
    obtain ⟨q1, rfl⟩ := q
    cases q1
    refine x_iload_n d_A_mapNumber_113 rfl ?_
    refine x_if_eq (tgt := 126) d_A_mapNumber_114 (by decide) (fun c1 => ?_) (fun c1 => ?_)
    · skip
      refine x_vret d_A_mapNumber_126 rfl ?_
      exact ⟨rfl, by rw [if_pos c1]; rfl⟩
    · first | refine x_aload_n d_A_mapNumber_117 rfl ?_ | refine x_aloadq_n d_A_mapNumber_117 rfl ?_
      refine x_iconst (v := nI 2) d_A_mapNumber_118 (by decide) ?_
      refine x_iconst (v := nI 1) d_A_mapNumber_119 (by decide) ?_
      refine x_callV (M' := m_P_append) (As := [_, _]) (fr' := 0) (wd' := 0) d_A_mapNumber_120 (hs.P (by assumption)) rfl pl_P_append rfl (Nat.le_of_ble_eq_true rfl) (by decide) (by decide) wc_P_append wi_P wl_A_224 wm_P_append we_P_append (by decide) np_P_append (Nat.le_of_ble_eq_true rfl) (fun q hq => by cases hq) (c_app hs ho _ _ (by simp)) (fun k a h1 q => by cases q.1) (fun v h1 q => ?_)
      obtain ⟨q1, rfl⟩ := q
      cases q1
      refine x_goto (tgt := 126) d_A_mapNumber_123 (by decide) ?_
      refine x_vret d_A_mapNumber_126 rfl ?_
      exact ⟨rfl, by rw [if_neg c1]; rfl⟩
  unfold xVM
  first | refine x_aload_n d_A_mapNumber_0 rfl ?_ | refine x_aloadq_n d_A_mapNumber_0 rfl ?_
  refine x_iconst (v := nI 0) d_A_mapNumber_1 (by decide) ?_
  refine xc_put (kc := 3) (j := 2) d_A_mapNumber_2 (hs.P (by assumption)) (P75 (by assumption)) rfl (by decide) wf_A_126 (Or.inl rfl) (by first | rfl | assumption) rfl (fun _ _ => rfl) ?_
  refine x_iload_n d_A_mapNumber_5 rfl ?_
  rw [pq_nil]
  by_cases m0 : m = nI 0
  · subst m0
    rw [show cmpL (nI 0) v = mpL (nI 0) v from if_pos (Or.inl rfl)]
    refine x_swIn (tgt := 40) d_A_mapNumber_6 (by decide) (by decide) rfl (by decide) ?_
    first | refine x_aload_n d_A_mapNumber_40 rfl ?_ | refine x_aloadq_n d_A_mapNumber_40 rfl ?_
    refine x_iload_n d_A_mapNumber_41 rfl ?_
    refine x_iconst (v := nI 5) d_A_mapNumber_42 (by decide) ?_
    refine x_callS (M' := m_Z_floorMod) (As := [_, _]) (fr' := 0) (wd' := 0) d_A_mapNumber_43 pl_Z_floorMod rfl (Nat.le_of_ble_eq_true rfl) (by decide) (by decide) wc_Z_floorMod wi_Z wl_A_221 ws_Z_floorMod (by decide) np_Z_floorMod (Nat.le_of_ble_eq_true rfl) (fun q hq => by cases hq) (c_Z_floorMod _ _ (by decide)) (fun k a h1 q => by cases q.1) (fun v h1 q => ?_)
    obtain ⟨q1, rfl⟩ := q
    cases q1
    refine x_iconst (v := nI 1) d_A_mapNumber_46 (by decide) ?_
    refine x_callV (M' := m_P_append) (As := [_, _]) (fr' := 0) (wd' := 0) d_A_mapNumber_47 (hs.P (by assumption)) rfl pl_P_append rfl (Nat.le_of_ble_eq_true rfl) (by decide) (by decide) wc_P_append wi_P wl_A_224 wm_P_append we_P_append (by decide) np_P_append (Nat.le_of_ble_eq_true rfl) (fun q hq => by cases hq) (c_app hs ho _ _ (by decide)) (fun k a h1 q => by cases q.1) (fun v h1 q => ?_)
    obtain ⟨q1, rfl⟩ := q
    cases q1
    refine x_goto (tgt := 126) d_A_mapNumber_50 (by decide) ?_
    refine x_vret d_A_mapNumber_126 rfl ?_
    exact ⟨rfl, by rw [show mpL (nI 0) v = [(mdl v (nI 5), nI 1)] from rfl, mdl_pt (by decide) (by decide), xfm_pt (by decide) (by decide)]; rfl⟩
  by_cases m1 : m = nI 1
  · subst m1
    rw [show cmpL (nI 1) v = mpL (nI 1) v from if_pos (Or.inr (Or.inl rfl))]
    refine x_swIn (tgt := 53) d_A_mapNumber_6 (by decide) (by decide) rfl (by decide) ?_
    refine x_iload_n d_A_mapNumber_53 rfl ?_
    first | refine x_aload_n d_A_mapNumber_54 rfl ?_ | refine x_aloadq_n d_A_mapNumber_54 rfl ?_
    refine x_callS (M' := m_A_mapDigits) (As := [_, _]) (fr' := 1) (wd' := 22) d_A_mapNumber_55 pl_A_mapDigits rfl (Nat.le_of_ble_eq_true rfl) (by decide) (by decide) wc_A_mapDigits wi_A wl_A_227 ws_A_mapDigits (by decide) np_A_mapDigits (Nat.le_of_ble_eq_true rfl) (fun q hq => by cases hq) (c_A_mapDigits hs ho _ hv) (fun k a h1 q => by cases q.1) (fun v h1 q => ?_)
    obtain ⟨q1, rfl⟩ := q
    cases q1
    refine x_goto (tgt := 126) d_A_mapNumber_58 (by decide) ?_
    refine x_vret d_A_mapNumber_126 rfl ?_
    exact ⟨rfl, rfl⟩
  by_cases m2 : m = nI 2
  · subst m2
    rw [show cmpL (nI 2) v = mpL (nI 2) v from if_pos (Or.inr (Or.inr (Or.inl rfl)))]
    refine x_swIn (tgt := 61) d_A_mapNumber_6 (by decide) (by decide) rfl (by decide) ?_
    first | refine x_aload_n d_A_mapNumber_61 rfl ?_ | refine x_aloadq_n d_A_mapNumber_61 rfl ?_
    refine x_iload_n d_A_mapNumber_62 rfl ?_
    refine x_iconst (v := nI 3) d_A_mapNumber_63 (by decide) ?_
    refine x_callS (M' := m_Z_floorMod) (As := [_, _]) (fr' := 0) (wd' := 0) d_A_mapNumber_64 pl_Z_floorMod rfl (Nat.le_of_ble_eq_true rfl) (by decide) (by decide) wc_Z_floorMod wi_Z wl_A_221 ws_Z_floorMod (by decide) np_Z_floorMod (Nat.le_of_ble_eq_true rfl) (fun q hq => by cases hq) (c_Z_floorMod _ _ (by decide)) (fun k a h1 q => by cases q.1) (fun v h1 q => ?_)
    obtain ⟨q1, rfl⟩ := q
    cases q1
    refine x_iload_n d_A_mapNumber_67 rfl ?_
    refine x_callV (M' := m_P_append) (As := [_, _]) (fr' := 0) (wd' := 0) d_A_mapNumber_68 (hs.P (by assumption)) rfl pl_P_append rfl (Nat.le_of_ble_eq_true rfl) (by decide) (by decide) wc_P_append wi_P wl_A_224 wm_P_append we_P_append (by decide) np_P_append (Nat.le_of_ble_eq_true rfl) (fun q hq => by cases hq) (c_app hs ho _ _ (by decide)) (fun k a h1 q => by cases q.1) (fun v h1 q => ?_)
    obtain ⟨q1, rfl⟩ := q
    cases q1
    refine x_goto (tgt := 126) d_A_mapNumber_71 (by decide) ?_
    refine x_vret d_A_mapNumber_126 rfl ?_
    exact ⟨rfl, by rw [show mpL (nI 2) v = [(mdl v (nI 3), v)] from rfl, mdl_pt (by decide) (by decide), xfm_pt (by decide) (by decide)]; rfl⟩
  by_cases m3 : m = nI 3
  · subst m3
    rw [show cmpL (nI 3) v = mpL (nI 3) v from if_pos (Or.inr (Or.inr (Or.inr (Or.inl rfl))))]
    refine x_swIn (tgt := 74) d_A_mapNumber_6 (by decide) (by decide) rfl (by decide) ?_
    refine x_iload_n d_A_mapNumber_74 rfl ?_
    refine x_iconst (v := nI 2) d_A_mapNumber_75 (by decide) ?_
    refine x_irem d_A_mapNumber_76 (by first | decide | assumption) ?_
    refine x_if_ne (tgt := 126) d_A_mapNumber_77 (by decide) (fun c1 => ?_) (fun c1 => ?_)
    · skip
      refine x_vret d_A_mapNumber_126 rfl ?_
      exact ⟨rfl, by rw [show mpL (nI 3) v = [] by unfold mpL; rw [if_neg (by decide), if_neg (by decide), if_neg (by decide), if_pos rfl, if_neg (show ¬ jrem v (nI 2) = 0 from c1)]]⟩
    · first | refine x_aload_n d_A_mapNumber_80 rfl ?_ | refine x_aloadq_n d_A_mapNumber_80 rfl ?_
      refine x_iload_n d_A_mapNumber_81 rfl ?_
      refine x_iconst (v := nI 2) d_A_mapNumber_82 (by decide) ?_
      refine x_idiv d_A_mapNumber_83 (by first | decide | assumption) ?_
      refine x_iload_n d_A_mapNumber_84 rfl ?_
      refine x_callV (M' := m_P_append) (As := [_, _]) (fr' := 0) (wd' := 0) d_A_mapNumber_85 (hs.P (by assumption)) rfl pl_P_append rfl (Nat.le_of_ble_eq_true rfl) (by decide) (by decide) wc_P_append wi_P wl_A_224 wm_P_append we_P_append (by decide) np_P_append (Nat.le_of_ble_eq_true rfl) (fun q hq => by cases hq) (c_app hs ho _ _ (by decide)) (fun k a h1 q => by cases q.1) (fun v h1 q => ?_)
      obtain ⟨q1, rfl⟩ := q
      cases q1
      refine x_goto (tgt := 126) d_A_mapNumber_88 (by decide) ?_
      refine x_vret d_A_mapNumber_126 rfl ?_
      exact ⟨rfl, by rw [show mpL (nI 3) v = [(v / nI 2, v)] by unfold mpL; rw [if_neg (by decide), if_neg (by decide), if_neg (by decide), if_pos rfl, if_pos (show jrem v (nI 2) = 0 from c1)]]; rfl⟩
  by_cases m4 : m = nI 4
  · subst m4
    rw [show cmpL (nI 4) v = mpL (nI 4) v from if_pos (Or.inr (Or.inr (Or.inr (Or.inr rfl))))]
    have e : mpL (nI 4) v = (if v < 0 then -1 else if 0 < v then nI 1 else nI 0, v) :: (if v = 0 then [] else [(nI 2, nI 1)]) := by unfold mpL; rw [if_neg m0, if_neg m1, if_neg m2, if_neg m3]
    rw [e]
    refine x_swIn (tgt := 91) d_A_mapNumber_6 (by decide) (by decide) rfl (by decide) ?_
    first | refine x_aload_n d_A_mapNumber_91 rfl ?_ | refine x_aloadq_n d_A_mapNumber_91 rfl ?_
    refine x_iload_n d_A_mapNumber_92 rfl ?_
    refine x_if_ge (tgt := 100) d_A_mapNumber_93 (by decide) (fun c1 => ?_) (fun c1 => ?_)
    · have c1' : ¬ v < 0 := Int32.not_lt.mpr c1
      refine x_iload_n d_A_mapNumber_100 rfl ?_
      refine x_if_le (tgt := 108) d_A_mapNumber_101 (by decide) (fun c2 => ?_) (fun c2 => ?_)
      · have c2' : ¬ 0 < v := Int32.not_lt.mpr c2
        have := tail (nI 0)
        rw [if_neg c1', if_neg c2']
        refine x_iconst (v := nI 0) d_A_mapNumber_108 (by decide) ?_
        exact this
      · have c2' : 0 < v := Int32.not_le.mp c2
        have := tail (nI 1)
        rw [if_neg c1', if_pos c2']
        refine x_iconst (v := nI 1) d_A_mapNumber_104 (by decide) ?_
        refine x_goto (tgt := 109) d_A_mapNumber_105 (by decide) ?_
        exact this
    · have c1' : v < 0 := Int32.not_le.mp c1
      have := tail (-1)
      rw [if_pos c1']
      refine x_iconst (v := (-1)) d_A_mapNumber_96 (by decide) ?_
      refine x_goto (tgt := 109) d_A_mapNumber_97 (by decide) ?_
      exact this
  · have t0 := toInt_ne (by omega) m0
    have t1 := toInt_ne (by omega) m1
    have t2 := toInt_ne (by omega) m2
    have t3 := toInt_ne (by omega) m3
    have t4 := toInt_ne (by omega) m4
    rw [show cmpL m v = [] from if_neg (by rintro (q | q | q | q | q); exact m0 q; exact m1 q; exact m2 q; exact m3 q; exact m4 q)]
    refine x_swOut (tgt := 126) d_A_mapNumber_6 (by omega) (by decide) ?_
    refine x_vret d_A_mapNumber_126 rfl ?_
    exact ⟨rfl, rfl⟩
end XC5
