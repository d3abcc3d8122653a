/-! the pairs: S with the list q in its rows -/
abbrev KV : Type := Int32 × Int32
def plS (S : Nat → Nat → Int32) (q : List KV) : Nat → Nat → Int32 := fun k j =>
  if k = 10 then ((q[j]?).map (fun x => x.1)).getD (S k j) else if k = 11 then ((q[j]?).map (fun x => x.2)).getD (S k j) else if k = 0 ∧ j = 12 then nI q.length else S k j
theorem plS_k {S : Nat → Nat → Int32} {q : List KV} {k : Nat} (h1 : k ≠ 10) (h2 : k ≠ 11) (h3 : k ≠ 0) : plS S q k = S k := by
  funext j; simp [plS, h1, h2, h3]
theorem plS_0 {S : Nat → Nat → Int32} {q : List KV} {j : Nat} (h : j ≠ 12) : plS S q 0 j = S 0 j := by simp [plS, h]
theorem plS_n {S : Nat → Nat → Int32} {q : List KV} : plS S q 0 12 = nI q.length := by simp [plS]
theorem plS_key {S : Nat → Nat → Int32} {A B : List KV} {x : KV} : plS S (A ++ x :: B) 10 A.length = x.1 := by simp [plS]
theorem plS_val {S : Nat → Nat → Int32} {A B : List KV} {x : KV} : plS S (A ++ x :: B) 11 A.length = x.2 := by simp [plS]
theorem plS_nil {S : Nat → Nat → Int32} : xu S 0 12 (nI 0) = plS S [] := by
  funext k j
  by_cases h : k = 0 ∧ j = 12
  · obtain ⟨rfl, rfl⟩ := h; simp [xu, plS]
  · simp only [xu, if_neg h, plS, List.getElem?_nil, Option.map_none, Option.getD_none]; simp
theorem mid_ne {A B : List KV} (x x' : KV) {j : Nat} (h : j ≠ A.length) : (A ++ x :: B)[j]? = (A ++ x' :: B)[j]? := by
  rw [List.getElem?_append, List.getElem?_append]
  split
  · rfl
  · have : ∃ m, j - A.length = m + 1 := ⟨j - A.length - 1, by omega⟩
    obtain ⟨m, hm⟩ := this
    rw [hm, List.getElem?_cons_succ, List.getElem?_cons_succ]
theorem plS_wk {S : Nat → Nat → Int32} {A B : List KV} {x : KV} {v : Int32} : xu (plS S (A ++ x :: B)) 10 A.length v = plS S (A ++ (v, x.2) :: B) := by
  funext k j
  by_cases hj : j = A.length
  · subst hj
    by_cases hk : k = 10
    · subst hk; simp [xu, plS]
    · by_cases hk2 : k = 11
      · subst hk2; simp [xu, plS]
      · simp [xu, plS, hk, hk2]
  · have e := mid_ne (B := B) x (v, x.2) hj
    simp only [xu, hj, and_false, if_false, plS, e, List.length_append, List.length_cons]
theorem plS_wv {S : Nat → Nat → Int32} {A B : List KV} {x : KV} {v : Int32} : xu (plS S (A ++ x :: B)) 11 A.length v = plS S (A ++ (x.1, v) :: B) := by
  funext k j
  by_cases hj : j = A.length
  · subst hj
    by_cases hk : k = 10
    · subst hk; simp [xu, plS]
    · by_cases hk2 : k = 11
      · subst hk2; simp [xu, plS]
      · simp [xu, plS, hk, hk2]
  · have e := mid_ne (B := B) x (x.1, v) hj
    simp only [xu, hj, and_false, if_false, plS, e, List.length_append, List.length_cons]
theorem plS_psh {S : Nat → Nat → Int32} {q : List KV} {a b : Int32} : xu (xu (xu (plS S q) 10 q.length a) 11 q.length b) 0 12 (nI (q.length + 1)) = plS S (q ++ [(a, b)]) := by
  funext k j
  by_cases hk : k = 10
  · subst hk
    by_cases hj : j = q.length
    · subst hj; simp [xu, plS]
    · have e : (q ++ [(a, b)])[j]? = q[j]? := by
        rw [List.getElem?_append]; split
        · rfl
        · rw [List.getElem?_eq_none (l := [(a, b)]) (by simp; omega), List.getElem?_eq_none (by omega)]
      simp [xu, plS, hj, e]
  · by_cases hk2 : k = 11
    · subst hk2
      by_cases hj : j = q.length
      · subst hj; simp [xu, plS]
      · have e : (q ++ [(a, b)])[j]? = q[j]? := by
          rw [List.getElem?_append]; split
          · rfl
          · rw [List.getElem?_eq_none (l := [(a, b)]) (by simp; omega), List.getElem?_eq_none (by omega)]
        simp [xu, plS, hj, e]
    · by_cases h3 : k = 0 ∧ j = 12
      · obtain ⟨rfl, rfl⟩ := h3; simp [xu, plS]
      · simp [xu, plS, hk, hk2, h3]
theorem plS_wo {S : Nat → Nat → Int32} {q : List KV} {k j : Nat} {v : Int32} (h1 : k ≠ 10) (h2 : k ≠ 11) (h3 : ¬ (k = 0 ∧ j = 12)) : xu (plS S q) k j v = plS (xu S k j v) q := by
  funext a b
  by_cases h : a = k ∧ b = j
  · obtain ⟨rfl, rfl⟩ := h; simp [xu, plS, h1, h2, h3]
  · simp only [xu, plS, h, if_false]
def dg : Nat → Nat → List KV
  | 0, _ => []
  | f + 1, n => (nI (n % 10), nI 1) :: (if n / 10 = 0 then [] else dg f (n / 10))
theorem dg_len : ∀ f n, (dg f n).length ≤ f
  | 0, _ => Nat.le_refl 0
  | f + 1, n => by
    unfold dg
    split
    · simp
    · have := dg_len f (n / 10); simp; omega
/-- what a mapper gives for a number -/
def mpL (m v : Int32) : List KV :=
  if m = nI 0 then [(mdl v (nI 5), nI 1)] else if m = nI 1 then dg 6 v.toInt.natAbs else if m = nI 2 then [(mdl v (nI 3), v)] else if m = nI 3 then (if jrem v (nI 2) = 0 then [(v / nI 2, v)] else [])
  else (if v < 0 then -1 else if 0 < v then nI 1 else nI 0, v) :: (if v = 0 then [] else [(nI 2, nI 1)])
theorem mpL_len (m v : Int32) : (mpL m v).length ≤ 6 := by
  unfold mpL
  split
  · simp
  · split
    · exact dg_len _ _
    · split
      · simp
      · split
        · split <;> simp
        · by_cases hv : v = 0 <;> simp [hv]
theorem lN_div {a b : Nat} (ha : a < 2 ^ 31) (hb : b < 2 ^ 31) : lN a / lN b = lN (a / b) := by
  apply Int64.toInt_inj.mp
  have h2 : a / b < 2 ^ 31 := Nat.lt_of_le_of_lt (Nat.div_le_self a b) ha
  rw [Int64.toInt_div, lN_toInt ha, lN_toInt hb, lN_toInt h2]
  have h1 : (a : Int).tdiv (b : Int) = ((a / b : Nat) : Int) := Int.ofNat_tdiv a b
  rw [h1]
  have h3 : (0 : Int) ≤ ((a / b : Nat) : Int) := Int.natCast_nonneg _
  generalize ((a / b : Nat)) = d at h2 h3
  rw [Int.bmod_eq_of_le_mul_two (by omega) (by omega)]
theorem lN_rem {a b : Nat} (ha : a < 2 ^ 31) (hb : b < 2 ^ 31) : lN a - lN a / lN b * lN b = lN (a % b) := by
  rw [lN_div ha hb, lN_mul, lN_sub (Nat.div_mul_le_self a b)]
  congr 1
  have := Nat.div_add_mod a b
  rw [Nat.mul_comm] at this
  omega
theorem absL {v : Int32} (hv : v.toInt.natAbs < 10 ^ 6) : (if v < 0 then -v.toInt64 else v.toInt64) = lN v.toInt.natAbs := by
  apply Int64.toInt_inj.mp
  rw [lN_toInt (by omega)]
  by_cases h : v < 0
  · rw [if_pos h, Int64.toInt_neg, Int32.toInt_toInt64]
    rw [Int32.lt_iff_toInt_lt, Int32.toInt_zero] at h
    rw [Int.bmod_eq_of_le_mul_two (by omega) (by omega)]
    omega
  · rw [if_neg h, Int32.toInt_toInt64]
    rw [Int32.lt_iff_toInt_lt, Int32.toInt_zero] at h
    omega
theorem cmp_pos {n : Nat} (h : 0 < n) (h2 : n < 2 ^ 31) : 0 < lg_cmp (lN n) 0 := by
  have h3 : 0 < lN n := by
    rw [show (0 : Int64) = lN 0 from rfl, lN_lt (by omega) h2]; omega
  unfold lg_cmp
  simp [h3]
theorem toInt_ne {x : Int32} {k : Nat} (hk : k < 2 ^ 31) (h : ¬ x = nI k) : x.toInt ≠ (k : Int) := fun q => h (Int32.toInt_inj.mp (q.trans (nI_toInt hk).symm))
section XM4
variable {l : Launch} {G : xG} {h0 : xH} {y : Nat} {S : Nat → Nat → Int32}
theorem c_M_pair (hs : MSh h0 y) {q : List KV} (a b : Int32) (hq : q.length < 300) : xVM l G 0 0 m_M_pair [.ref y, .int a, .int b] (mset y (plS S q) h0) (fun r h' => r = .inl none ∧ h' = mset y (plS S (q ++ [(a, b)])) h0) := by
  have h10 : q.length < mlen 10 := hq
  have h11 : q.length < mlen 11 := hq
  unfold xVM
  refine x_aload_n d_M_pair_0 rfl ?_
  refine xm_ref (k := 10) (j := 9) d_M_pair_1 hs (by decide) rfl rfl (by decide) wf_M_38 rfl ?_
  refine x_aload_n d_M_pair_4 rfl ?_
  refine xm_get (j := 12) d_M_pair_5 hs rfl (by decide) wf_M_86 (fun _ _ => rfl) ?_
  rw [plS_n]
  refine x_iload_n d_M_pair_8 rfl ?_
  refine xm_ast d_M_pair_9 hs (by decide) rfl (by first | decide | assumption | omega) ?_
  refine x_aload_n d_M_pair_10 rfl ?_
  refine xm_ref (k := 11) (j := 10) d_M_pair_11 hs (by decide) rfl rfl (by decide) wf_M_41 rfl ?_
  refine x_aload_n d_M_pair_14 rfl ?_
  refine xm_get (j := 12) d_M_pair_15 hs rfl (by decide) wf_M_86 (fun _ _ => rfl) ?_
  rw [xu_k _ _ _ (by decide), plS_n]
  refine x_iload_n d_M_pair_18 rfl ?_
  refine xm_ast d_M_pair_19 hs (by decide) rfl (by first | decide | assumption | omega) ?_
  refine x_aload_n d_M_pair_20 rfl ?_
  refine x_dup d_M_pair_21 rfl ?_
  refine xm_get (j := 12) d_M_pair_22 hs rfl (by decide) wf_M_86 (fun _ _ => rfl) ?_
  rw [xu_k _ _ _ (by decide), xu_k _ _ _ (by decide), plS_n]
  refine x_iconst (v := nI 1) d_M_pair_25 (by decide) ?_
  refine x_iadd d_M_pair_26 ?_
  rw [nI_add]
  refine xm_put (j := 12) d_M_pair_27 hs rfl (by decide) wf_M_86 (Or.inl rfl) (by first | rfl | assumption) rfl (fun _ _ => rfl) ?_
  refine x_vret d_M_pair_30 rfl ?_
  exact ⟨rfl, by rw [plS_psh]⟩
theorem mp_dg (hs : MSh h0 y) {v : Int32} : ∀ f n : Nat, n < 10 ^ (f + 1) → n < 10 ^ 6 → ∀ q : List KV, q.length + (f + 1) ≤ 300 → xV l G 1 22 m_M_map 61 [(2, .long (lN n)), (0, .ref y), (1, .int v)] [] (mset y (plS S q) h0) (fun r h' => r = .inl none ∧ h' = mset y (plS S (q ++ dg (f + 1) n)) h0) := by
  intro f
  induction f with
  | zero =>
    intro n hn hn6 q hq
    refine x_aload_n d_M_map_61 rfl ?_
    refine x_lload_n d_M_map_62 rfl ?_
    refine x_ldc2 (v := (10)) d_M_map_63 wv_M_97 ?_
    rw [show (10 : Int64) = lN 10 from rfl]
    refine x_lrem d_M_map_66 (by decide) ?_
    rw [lN_rem (by omega) (by omega)]
    refine x_l2i d_M_map_67 ?_
    rw [lN_i]
    refine x_iconst (v := nI 1) d_M_map_68 (by decide) ?_
    refine x_callV (M' := m_M_pair) (As := [_, _]) (fr' := 0) (wd' := 0) d_M_map_69 hs.1 rfl pl_M_pair rfl (Nat.le_of_ble_eq_true rfl) (by decide) (by decide) wc_M_pair wi_M wl_M_93 wm_M_pair we_M_pair (by decide) np_M_pair (Nat.le_of_ble_eq_true rfl) (fun q hq => by cases hq) (c_M_pair hs _ _ (by omega)) (fun k a h1 q => by cases q.1) (fun v h1 q => ?_)
    obtain ⟨q1, rfl⟩ := q
    cases q1
    refine x_lload_n d_M_map_72 rfl ?_
    refine x_ldc2 (v := (10)) d_M_map_73 wv_M_97 ?_
    rw [show (10 : Int64) = lN 10 from rfl]
    refine x_ldiv d_M_map_76 (by decide) ?_
    rw [lN_div (by omega) (by omega)]
    refine x_lstore_n d_M_map_77 (by decide) ?_
    refine x_lload_n d_M_map_78 rfl ?_
    refine x_lconst (v := 0) d_M_map_79 (by decide) ?_
    refine x_lcmp d_M_map_80 ?_
    refine x_if_gt_f 61 d_M_map_81 (by decide) ((by rw [show n / 10 = 0 by omega]; decide)) ?_
    refine x_goto (tgt := 149) d_M_map_84 (by decide) ?_
    refine x_vret d_M_map_149 rfl ?_
    refine ⟨rfl, ?_⟩
    rw [show dg (0 + 1) n = [(nI (n % 10), nI 1)] by unfold dg; rw [if_pos (by omega)]]
  | succ f ih =>
    intro n hn hn6 q hq
    refine x_aload_n d_M_map_61 rfl ?_
    refine x_lload_n d_M_map_62 rfl ?_
    refine x_ldc2 (v := (10)) d_M_map_63 wv_M_97 ?_
    rw [show (10 : Int64) = lN 10 from rfl]
    refine x_lrem d_M_map_66 (by decide) ?_
    rw [lN_rem (by omega) (by omega)]
    refine x_l2i d_M_map_67 ?_
    rw [lN_i]
    refine x_iconst (v := nI 1) d_M_map_68 (by decide) ?_
    refine x_callV (M' := m_M_pair) (As := [_, _]) (fr' := 0) (wd' := 0) d_M_map_69 hs.1 rfl pl_M_pair rfl (Nat.le_of_ble_eq_true rfl) (by decide) (by decide) wc_M_pair wi_M wl_M_93 wm_M_pair we_M_pair (by decide) np_M_pair (Nat.le_of_ble_eq_true rfl) (fun q hq => by cases hq) (c_M_pair hs _ _ (by omega)) (fun k a h1 q => by cases q.1) (fun v h1 q => ?_)
    obtain ⟨q1, rfl⟩ := q
    cases q1
    refine x_lload_n d_M_map_72 rfl ?_
    refine x_ldc2 (v := (10)) d_M_map_73 wv_M_97 ?_
    rw [show (10 : Int64) = lN 10 from rfl]
    refine x_ldiv d_M_map_76 (by decide) ?_
    rw [lN_div (by omega) (by omega)]
    refine x_lstore_n d_M_map_77 (by decide) ?_
    refine x_lload_n d_M_map_78 rfl ?_
    refine x_lconst (v := 0) d_M_map_79 (by decide) ?_
    refine x_lcmp d_M_map_80 ?_
    by_cases hz : n / 10 = 0
    · refine x_if_gt_f 61 d_M_map_81 (by decide) ((by rw [hz]; decide)) ?_
      refine x_goto (tgt := 149) d_M_map_84 (by decide) ?_
      refine x_vret d_M_map_149 rfl ?_
      refine ⟨rfl, ?_⟩
      rw [show dg (f + 1 + 1) n = [(nI (n % 10), nI 1)] by unfold dg; rw [if_pos hz]]
    · have e : dg (f + 1 + 1) n = (nI (n % 10), nI 1) :: dg (f + 1) (n / 10) := by rw [dg, if_neg hz]
      have := ih (n / 10) (by rw [Nat.pow_succ] at hn; omega) (by omega) (q ++ [(nI (n % 10), nI 1)]) (by simp; omega)
      rw [List.append_assoc, List.singleton_append, ← e] at this
      refine x_if_gt_t (tgt := 61) d_M_map_81 (by decide) ((cmp_pos (by omega) (by omega))) ?_
      exact this
theorem c_M_map (hs : MSh h0 y) {q : List KV} (v : Int32) (hv : v.toInt.natAbs < 10 ^ 6) (hq : q.length + 6 ≤ 300) : xVM l G 1 22 m_M_map [.ref y, .int v] (mset y (plS S q) h0) (fun r h' => r = .inl none ∧ h' = mset y (plS S (q ++ mpL (S 0 17) v)) h0) := by
  have tail : ∀ (x : Int32) (d : Int64), xV l G 1 22 m_M_map 135 [(2, .long d), (0, .ref y), (1, .int v)] [.int x, .ref y] (mset y (plS S q) h0) (fun r h' => r = .inl none ∧ h' = mset y (plS S (q ++ (x, v) :: (if v = 0 then [] else [(nI 2, nI 1)]))) h0) := by
    intro x d
    refine x_iload_n d_M_map_135 rfl ?_
    refine x_callV (M' := m_M_pair) (As := [_, _]) (fr' := 0) (wd' := 0) d_M_map_136 hs.1 rfl pl_M_pair rfl (Nat.le_of_ble_eq_true rfl) (by decide) (by decide) wc_M_pair wi_M wl_M_93 wm_M_pair we_M_pair (by decide) np_M_pair (Nat.le_of_ble_eq_true rfl) (fun q hq => by cases hq) (c_M_pair hs _ _ (by omega)) (fun k a h1 q => by cases q.1) (fun v h1 q => ?_)
    obtain ⟨q1, rfl⟩ := q
    cases q1
    refine x_iload_n d_M_map_139 rfl ?_
    refine x_if_eq (tgt := 149) d_M_map_140 (by decide) (fun c1 => ?_) (fun c1 => ?_)
    · skip
      refine x_vret d_M_map_149 rfl ?_
      exact ⟨rfl, by rw [if_pos c1]⟩
    · refine x_aload_n d_M_map_143 rfl ?_
      refine x_iconst (v := nI 2) d_M_map_144 (by decide) ?_
      refine x_iconst (v := nI 1) d_M_map_145 (by decide) ?_
      refine x_callV (M' := m_M_pair) (As := [_, _]) (fr' := 0) (wd' := 0) d_M_map_146 hs.1 rfl pl_M_pair rfl (Nat.le_of_ble_eq_true rfl) (by decide) (by decide) wc_M_pair wi_M wl_M_93 wm_M_pair we_M_pair (by decide) np_M_pair (Nat.le_of_ble_eq_true rfl) (fun q hq => by cases hq) (c_M_pair hs _ _ (by simp; omega)) (fun k a h1 q => by cases q.1) (fun v h1 q => ?_)
      obtain ⟨q1, rfl⟩ := q
      cases q1
      refine x_vret d_M_map_149 rfl ?_
      exact ⟨rfl, by rw [if_neg c1, List.append_assoc]; rfl⟩
  have main : xV l G 1 22 m_M_map 13 [(2, .long (lN v.toInt.natAbs)), (0, .ref y), (1, .int v)] [] (mset y (plS S q) h0) (fun r h' => r = .inl none ∧ h' = mset y (plS S (q ++ mpL (S 0 17) v)) h0) := by
    refine x_aload_n d_M_map_13 rfl ?_
    refine xm_get (j := 17) d_M_map_14 hs rfl (by decide) wf_M_52 (fun _ _ => rfl) ?_
    rw [plS_0 (by decide)]
    by_cases m0 : S 0 17 = nI 0
    · rw [m0]
      refine x_swIn (tgt := 48) d_M_map_17 (by decide) (by decide) rfl (by decide) ?_
      refine x_aload_n d_M_map_48 rfl ?_
      refine x_iload_n d_M_map_49 rfl ?_
      refine x_iconst (v := nI 5) d_M_map_50 (by decide) ?_
      refine x_callS (M' := m_M_modulo) (As := [_, _]) (fr' := 0) (wd' := 0) d_M_map_51 pl_M_modulo rfl (Nat.le_of_ble_eq_true rfl) (by decide) (by decide) wc_M_modulo wi_M wl_M_89 ws_M_modulo (by decide) np_M_modulo (Nat.le_of_ble_eq_true rfl) (fun q hq => by cases hq) (c_M_modulo _ _ (by decide)) (fun k a h1 q => by cases q.1) (fun v h1 q => ?_)
      obtain ⟨q1, rfl⟩ := q
      cases q1
      refine x_iconst (v := nI 1) d_M_map_54 (by decide) ?_
      refine x_callV (M' := m_M_pair) (As := [_, _]) (fr' := 0) (wd' := 0) d_M_map_55 hs.1 rfl pl_M_pair rfl (Nat.le_of_ble_eq_true rfl) (by decide) (by decide) wc_M_pair wi_M wl_M_93 wm_M_pair we_M_pair (by decide) np_M_pair (Nat.le_of_ble_eq_true rfl) (fun q hq => by cases hq) (c_M_pair hs _ _ (by omega)) (fun k a h1 q => by cases q.1) (fun v h1 q => ?_)
      obtain ⟨q1, rfl⟩ := q
      cases q1
      refine x_goto (tgt := 149) d_M_map_58 (by decide) ?_
      refine x_vret d_M_map_149 rfl ?_
      exact ⟨rfl, rfl⟩
    by_cases m1 : S 0 17 = nI 1
    · rw [m1]
      refine x_swIn (tgt := 61) d_M_map_17 (by decide) (by decide) rfl (by decide) ?_
      exact mp_dg hs 5 _ hv hv q hq
    by_cases m2 : S 0 17 = nI 2
    · rw [m2]
      refine x_swIn (tgt := 87) d_M_map_17 (by decide) (by decide) rfl (by decide) ?_
      refine x_aload_n d_M_map_87 rfl ?_
      refine x_iload_n d_M_map_88 rfl ?_
      refine x_iconst (v := nI 3) d_M_map_89 (by decide) ?_
      refine x_callS (M' := m_M_modulo) (As := [_, _]) (fr' := 0) (wd' := 0) d_M_map_90 pl_M_modulo rfl (Nat.le_of_ble_eq_true rfl) (by decide) (by decide) wc_M_modulo wi_M wl_M_89 ws_M_modulo (by decide) np_M_modulo (Nat.le_of_ble_eq_true rfl) (fun q hq => by cases hq) (c_M_modulo _ _ (by decide)) (fun k a h1 q => by cases q.1) (fun v h1 q => ?_)
      obtain ⟨q1, rfl⟩ := q
      cases q1
      refine x_iload_n d_M_map_93 rfl ?_
      refine x_callV (M' := m_M_pair) (As := [_, _]) (fr' := 0) (wd' := 0) d_M_map_94 hs.1 rfl pl_M_pair rfl (Nat.le_of_ble_eq_true rfl) (by decide) (by decide) wc_M_pair wi_M wl_M_93 wm_M_pair we_M_pair (by decide) np_M_pair (Nat.le_of_ble_eq_true rfl) (fun q hq => by cases hq) (c_M_pair hs _ _ (by omega)) (fun k a h1 q => by cases q.1) (fun v h1 q => ?_)
      obtain ⟨q1, rfl⟩ := q
      cases q1
      refine x_goto (tgt := 149) d_M_map_97 (by decide) ?_
      refine x_vret d_M_map_149 rfl ?_
      exact ⟨rfl, rfl⟩
    by_cases m3 : S 0 17 = nI 3
    · rw [m3]
      refine x_swIn (tgt := 100) d_M_map_17 (by decide) (by decide) rfl (by decide) ?_
      refine x_iload_n d_M_map_100 rfl ?_
      refine x_iconst (v := nI 2) d_M_map_101 (by decide) ?_
      refine x_irem d_M_map_102 (by first | decide | assumption) ?_
      refine x_if_ne (tgt := 149) d_M_map_103 (by decide) (fun c1 => ?_) (fun c1 => ?_)
      · skip
        refine x_vret d_M_map_149 rfl ?_
        exact ⟨rfl, by rw [show mpL (nI 3) v = [] by unfold mpL; rw [if_neg (by decide), if_neg (by decide), if_neg (by decide), if_pos rfl, if_neg (show ¬ jrem v (nI 2) = 0 from c1)], List.append_nil]⟩
      · refine x_aload_n d_M_map_106 rfl ?_
        refine x_iload_n d_M_map_107 rfl ?_
        refine x_iconst (v := nI 2) d_M_map_108 (by decide) ?_
        refine x_idiv d_M_map_109 (by first | decide | assumption) ?_
        refine x_iload_n d_M_map_110 rfl ?_
        refine x_callV (M' := m_M_pair) (As := [_, _]) (fr' := 0) (wd' := 0) d_M_map_111 hs.1 rfl pl_M_pair rfl (Nat.le_of_ble_eq_true rfl) (by decide) (by decide) wc_M_pair wi_M wl_M_93 wm_M_pair we_M_pair (by decide) np_M_pair (Nat.le_of_ble_eq_true rfl) (fun q hq => by cases hq) (c_M_pair hs _ _ (by omega)) (fun k a h1 q => by cases q.1) (fun v h1 q => ?_)
        obtain ⟨q1, rfl⟩ := q
        cases q1
        refine x_goto (tgt := 149) d_M_map_114 (by decide) ?_
        refine x_vret d_M_map_149 rfl ?_
        exact ⟨rfl, by rw [show mpL (nI 3) v = [(v / nI 2, v)] by unfold mpL; rw [if_neg (by decide), if_neg (by decide), if_neg (by decide), if_pos rfl, if_pos (show jrem v (nI 2) = 0 from c1)]]⟩
    · have e : mpL (S 0 17) v = (if v < 0 then -1 else if 0 < v then nI 1 else nI 0, v) :: (if v = 0 then [] else [(nI 2, nI 1)]) := by unfold mpL; rw [if_neg m0, if_neg m1, if_neg m2, if_neg m3]
      rw [e]
      have t0 := toInt_ne (by omega) m0
      have t1 := toInt_ne (by omega) m1
      have t2 := toInt_ne (by omega) m2
      have t3 := toInt_ne (by omega) m3
      refine x_swOut (tgt := 117) d_M_map_17 (by omega) (by decide) ?_
      refine x_aload_n d_M_map_117 rfl ?_
      refine x_iload_n d_M_map_118 rfl ?_
      refine x_if_ge (tgt := 126) d_M_map_119 (by decide) (fun c1 => ?_) (fun c1 => ?_)
      · have c1' : ¬ v < 0 := Int32.not_lt.mpr c1
        refine x_iload_n d_M_map_126 rfl ?_
        refine x_if_le (tgt := 134) d_M_map_127 (by decide) (fun c2 => ?_) (fun c2 => ?_)
        · have c2' : ¬ 0 < v := Int32.not_lt.mpr c2
          have := tail (nI 0) (lN v.toInt.natAbs)
          rw [if_neg c1', if_neg c2']
          refine x_iconst (v := nI 0) d_M_map_134 (by decide) ?_
          exact this
        · have c2' : 0 < v := Int32.not_le.mp c2
          have := tail (nI 1) (lN v.toInt.natAbs)
          rw [if_neg c1', if_pos c2']
          refine x_iconst (v := nI 1) d_M_map_130 (by decide) ?_
          refine x_goto (tgt := 135) d_M_map_131 (by decide) ?_
          exact this
      · have c1' : v < 0 := Int32.not_le.mp c1
        have := tail (-1) (lN v.toInt.natAbs)
        rw [if_pos c1']
        refine x_iconst (v := (-1)) d_M_map_122 (by decide) ?_
        refine x_goto (tgt := 135) d_M_map_123 (by decide) ?_
        exact this
  have ab := absL hv
  unfold xVM
  refine x_iload_n d_M_map_0 rfl ?_
  refine x_if_ge (tgt := 10) d_M_map_1 (by decide) (fun c1 => ?_) (fun c1 => ?_)
  · rw [if_neg (Int32.not_lt.mpr c1)] at ab
    refine x_iload_n d_M_map_10 rfl ?_
    refine x_i2l d_M_map_11 ?_
    refine x_lstore_n d_M_map_12 (by decide) ?_
    rw [ab]
    exact main
  · rw [if_pos (Int32.not_le.mp c1)] at ab
    refine x_iload_n d_M_map_4 rfl ?_
    refine x_i2l d_M_map_5 ?_
    refine x_lneg d_M_map_6 ?_
    refine x_goto (tgt := 12) d_M_map_7 (by decide) ?_
    refine x_lstore_n d_M_map_12 (by decide) ?_
    rw [ab]
    exact main
end XM4
