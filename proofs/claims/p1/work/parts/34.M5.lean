/-- the pairs of the first n numbers of chunk c -/
def cL (S : Nat → Nat → Int32) (c : Nat) : Nat → List KV
  | 0 => []
  | n + 1 => cL S c n ++ mpL (S 0 17) (S 2 (c * 6 + n))
def aL (S : Nat → Nat → Int32) (sz : Nat → Nat) : Nat → List KV
  | 0 => []
  | c + 1 => aL S sz c ++ cL S c (sz c)
def pcS (S : Nat → Nat → Int32) (sz : Nat → Nat) (n : Nat) : Nat → Nat → Int32 := fun k j => if k = 12 ∧ j < n then nI (cL S j (sz j)).length else S k j
theorem cL_len (S : Nat → Nat → Int32) (c : Nat) : ∀ n, (cL S c n).length ≤ 6 * n
  | 0 => Nat.le_refl 0
  | n + 1 => by
    have h1 := cL_len S c n
    have h2 := mpL_len (S 0 17) (S 2 (c * 6 + n))
    unfold cL
    rw [List.length_append]
    omega
theorem aL_len (S : Nat → Nat → Int32) {sz : Nat → Nat} : ∀ c, (∀ t, t < c → sz t ≤ 6) → (aL S sz c).length ≤ 36 * c
  | 0, _ => Nat.le_refl 0
  | c + 1, h => by
    have h1 := aL_len S c (fun t ht => h t (by omega))
    have h2 := cL_len S c (sz c)
    have h3 := h c (by omega)
    unfold aL
    rw [List.length_append]
    omega
theorem pcS_k {S : Nat → Nat → Int32} {sz : Nat → Nat} {n k : Nat} (h : k ≠ 12) : pcS S sz n k = S k := by
  funext j; simp [pcS, h]
theorem pcS_0 (S : Nat → Nat → Int32) (sz : Nat → Nat) : pcS S sz 0 = S := by
  funext k j; simp [pcS]
theorem pcS_s (S : Nat → Nat → Int32) (sz : Nat → Nat) (n : Nat) : xu (pcS S sz n) 12 n (nI (cL S n (sz n)).length) = pcS S sz (n + 1) := by
  funext k j
  by_cases h : k = 12 ∧ j = n
  · obtain ⟨rfl, rfl⟩ := h; simp [xu, pcS]
  · have : (k = 12 ∧ j < n) ↔ (k = 12 ∧ j < n + 1) := by omega
    simp only [xu, if_neg h, pcS, this]
section XM5
variable {l : Launch} {G : xG} {h0 : xH} {y : Nat} {S : Nat → Nat → Int32}
theorem c_M_mapAll (hs : MSh h0 y) {c : Nat} {sz : Nat → Nat} (hc : S 0 13 = nI c) (hc6 : c ≤ 6) (hz : ∀ t, t < c → S 1 t = nI (sz t) ∧ sz t ≤ 6) (hv : ∀ t i, t < c → i < sz t → (S 2 (t * 6 + i)).toInt.natAbs < 10 ^ 6) :
    xVM l G 2 45 m_M_mapAll [.ref y] (mset y S h0) (fun r h' => r = .inl none ∧ h' = mset y (plS (pcS S sz c) (aL S sz c)) h0) := by
  have lp : ∀ m i : Nat, i + m = c → xV l G 2 45 m_M_mapAll 7 [(1, .int (nI i)), (0, .ref y)] [] (mset y (plS (pcS S sz i) (aL S sz i)) h0) (fun r h' => r = .inl none ∧ h' = mset y (plS (pcS S sz c) (aL S sz c)) h0) := by
    intro m
    induction m with
    | zero =>
      intro i him
      obtain rfl : i = c := by omega
      refine x_iload_n d_M_mapAll_7 rfl ?_
      refine x_aload_n d_M_mapAll_8 rfl ?_
      refine xm_get (j := 13) d_M_mapAll_9 hs rfl (by decide) wf_M_79 (fun _ _ => rfl) ?_
      rw [plS_0 (by decide), pcS_k (by decide), hc]
      refine x_icmp_ge_t (tgt := 71) d_M_mapAll_12 (by decide) ((nI_le (by omega) (by omega))) ?_
      refine x_vret d_M_mapAll_71 rfl ?_
      exact ⟨rfl, rfl⟩
    | succ m ih =>
      intro i him
      obtain ⟨z1, z2⟩ := hz i (by omega)
      have nx := ih (i + 1) (by omega)
      have al := aL_len S (sz := sz) i (fun t ht => (hz t (by omega)).2)
      have hi1 : i < mlen 1 := by show i < 6; omega
      have hi12 : i < mlen 12 := by show i < 6; omega
      have inn : ∀ m2 j : Nat, j + m2 = sz i → xV l G 2 45 m_M_mapAll 22 [(3, .int (nI j)), (2, .int (nI (aL S sz i).length)), (1, .int (nI i)), (0, .ref y)] [] (mset y (plS (pcS S sz i) (aL S sz i ++ cL S i j)) h0) (fun r h' => r = .inl none ∧ h' = mset y (plS (pcS S sz c) (aL S sz c)) h0) := by
        intro m2
        induction m2 with
        | zero =>
          intro j hj
          obtain rfl : j = sz i := by omega
          refine x_iload_n d_M_mapAll_22 rfl ?_
          refine x_aload_n d_M_mapAll_23 rfl ?_
          refine xm_ref (k := 1) (j := 0) d_M_mapAll_24 hs (by decide) rfl rfl (by decide) wf_M_7 rfl ?_
          refine x_iload_n d_M_mapAll_27 rfl ?_
          refine xm_ald d_M_mapAll_28 hs (by decide) rfl (by first | decide | assumption | omega) ?_
          rw [plS_k (by decide) (by decide) (by decide), pcS_k (by decide), z1]
          refine x_icmp_ge_t (tgt := 53) d_M_mapAll_29 (by decide) ((nI_le (by omega) (by omega))) ?_
          refine x_aload_n d_M_mapAll_53 rfl ?_
          refine xm_ref (k := 12) (j := 11) d_M_mapAll_54 hs (by decide) rfl rfl (by decide) wf_M_44 rfl ?_
          refine x_iload_n d_M_mapAll_57 rfl ?_
          refine x_aload_n d_M_mapAll_58 rfl ?_
          refine xm_get (j := 12) d_M_mapAll_59 hs rfl (by decide) wf_M_86 (fun _ _ => rfl) ?_
          refine x_iload_n d_M_mapAll_62 rfl ?_
          refine x_isub d_M_mapAll_63 ?_
          rw [plS_n, List.length_append, nI_sub (by omega), Nat.add_sub_cancel_left]
          refine xm_ast d_M_mapAll_64 hs (by decide) rfl (by first | decide | assumption | omega) ?_
          first | refine x_incN d_M_mapAll_65 rfl (by decide) ?_ | refine x_inc d_M_mapAll_65 rfl (by decide) ?_
          refine x_goto (tgt := 7) d_M_mapAll_68 (by decide) ?_
          rw [plS_wo (by decide) (by decide) (by omega), pcS_s]
          refine xV.loc (nx) (by repeat (first | exact trivial | refine ⟨rfl, ?_⟩))
        | succ m2 ih2 =>
          intro j hj
          have nx2 := ih2 (j + 1) (by omega)
          have cl := cL_len S i j
          have hx : i * 6 + j < mlen 2 := by show i * 6 + j < 36; omega
          refine x_iload_n d_M_mapAll_22 rfl ?_
          refine x_aload_n d_M_mapAll_23 rfl ?_
          refine xm_ref (k := 1) (j := 0) d_M_mapAll_24 hs (by decide) rfl rfl (by decide) wf_M_7 rfl ?_
          refine x_iload_n d_M_mapAll_27 rfl ?_
          refine xm_ald d_M_mapAll_28 hs (by decide) rfl (by first | decide | assumption | omega) ?_
          rw [plS_k (by decide) (by decide) (by decide), pcS_k (by decide), z1]
          refine x_icmp_ge_f 53 d_M_mapAll_29 (by decide) ((nI_ge (by omega) (by omega))) ?_
          refine x_aload_n d_M_mapAll_32 rfl ?_
          refine x_aload_n d_M_mapAll_33 rfl ?_
          refine xm_ref (k := 2) (j := 1) d_M_mapAll_34 hs (by decide) rfl rfl (by decide) wf_M_13 rfl ?_
          refine x_iload_n d_M_mapAll_37 rfl ?_
          refine x_bipush (v := nI 6) d_M_mapAll_38 (by decide) ?_
          refine x_imul d_M_mapAll_40 ?_
          refine x_iload_n d_M_mapAll_41 rfl ?_
          refine x_iadd d_M_mapAll_42 ?_
          rw [nI_mul, nI_add]
          refine xm_ald d_M_mapAll_43 hs (by decide) rfl (by first | decide | assumption | omega) ?_
          rw [plS_k (by decide) (by decide) (by decide), pcS_k (by decide)]
          refine x_callV (M' := m_M_map) (As := [_]) (fr' := 1) (wd' := 22) d_M_mapAll_44 hs.1 rfl pl_M_map rfl (Nat.le_of_ble_eq_true rfl) (by decide) (by decide) wc_M_map wi_M wl_M_99 wm_M_map we_M_map (by decide) np_M_map (Nat.le_of_ble_eq_true rfl) (fun q hq => by cases hq) (c_M_map hs _ (hv i j (by omega) (by omega)) (by rw [List.length_append]; omega)) (fun k a h1 q => by cases q.1) (fun v h1 q => ?_)
          obtain ⟨q1, rfl⟩ := q
          cases q1
          first | refine x_incN d_M_mapAll_47 rfl (by decide) ?_ | refine x_inc d_M_mapAll_47 rfl (by decide) ?_
          refine x_goto (tgt := 22) d_M_mapAll_50 (by decide) ?_
          rw [pcS_k (by decide), List.append_assoc]
          refine xV.loc (nx2) (by repeat (first | exact trivial | refine ⟨rfl, ?_⟩))
      refine x_iload_n d_M_mapAll_7 rfl ?_
      refine x_aload_n d_M_mapAll_8 rfl ?_
      refine xm_get (j := 13) d_M_mapAll_9 hs rfl (by decide) wf_M_79 (fun _ _ => rfl) ?_
      rw [plS_0 (by decide), pcS_k (by decide), hc]
      refine x_icmp_ge_f 71 d_M_mapAll_12 (by decide) ((nI_ge (by omega) (by omega))) ?_
      refine x_aload_n d_M_mapAll_15 rfl ?_
      refine xm_get (j := 12) d_M_mapAll_16 hs rfl (by decide) wf_M_86 (fun _ _ => rfl) ?_
      rw [plS_n]
      refine x_istore_n d_M_mapAll_19 (by decide) ?_
      refine x_iconst (v := nI 0) d_M_mapAll_20 (by decide) ?_
      refine x_istore_n d_M_mapAll_21 (by decide) ?_
      have := inn (sz i) 0 (by omega)
      rw [show cL S i 0 = [] from rfl, List.append_nil] at this
      refine xV.loc (this) (by repeat (first | exact trivial | refine ⟨rfl, ?_⟩))
  unfold xVM
  refine x_aload_n d_M_mapAll_0 rfl ?_
  refine x_iconst (v := nI 0) d_M_mapAll_1 (by decide) ?_
  refine xm_put (j := 12) d_M_mapAll_2 hs rfl (by decide) wf_M_86 (Or.inl rfl) (by first | rfl | assumption) rfl (fun _ _ => rfl) ?_
  refine x_iconst (v := nI 0) d_M_mapAll_5 (by decide) ?_
  refine x_istore_n d_M_mapAll_6 (by decide) ?_
  rw [plS_nil]
  have := lp c 0 (by omega)
  rw [pcS_0] at this
  refine xV.loc (this) (by repeat (first | exact trivial | refine ⟨rfl, ?_⟩))
/-- put behind those whose key is not greater, from the back -/
def insRev (x : KV) : List KV → List KV
  | [] => [x]
  | a :: r => if x.1 < a.1 then a :: insRev x r else x :: a :: r
def insB (x : KV) (q : List KV) : List KV := (insRev x q.reverse).reverse
theorem insB_nil (x : KV) : insB x [] = [x] := rfl
theorem insB_gt {x a : KV} {A : List KV} (h : x.1 < a.1) : insB x (A ++ [a]) = insB x A ++ [a] := by simp [insB, insRev, h]
theorem insB_le {x a : KV} {A : List KV} (h : ¬ x.1 < a.1) : insB x (A ++ [a]) = A ++ [a] ++ [x] := by simp [insB, insRev, h]
theorem insRev_len (x : KV) : ∀ q, (insRev x q).length = q.length + 1
  | [] => rfl
  | a :: r => by
    unfold insRev
    split
    · rw [List.length_cons, insRev_len x r, List.length_cons]
    · rfl
theorem insB_len (x : KV) (q : List KV) : (insB x q).length = q.length + 1 := by simp [insB, insRev_len]
def isort (q : List KV) : List KV := q.foldl (fun acc x => insB x acc) []
theorem isort_s (q : List KV) (x : KV) : isort (q ++ [x]) = insB x (isort q) := by simp [isort, List.foldl_append]
theorem foldIns_len : ∀ (q acc : List KV), (q.foldl (fun acc x => insB x acc) acc).length = acc.length + q.length
  | [], acc => rfl
  | x :: q, acc => by
    rw [List.foldl_cons, foldIns_len q, insB_len, List.length_cons]; omega
theorem isort_len (q : List KV) : (isort q).length = q.length := by unfold isort; rw [foldIns_len]; simp
theorem lastOf {A : List KV} {n : Nat} (h : A.length = n + 1) : ∃ A' a, A = A' ++ [a] ∧ A'.length = n := by
  have hne : A ≠ [] := by intro q; rw [q] at h; cases h
  exact ⟨A.dropLast, A.getLast hne, (List.dropLast_concat_getLast hne).symm, by rw [List.length_dropLast]; omega⟩
theorem x_decN {fr wd : Nat} {M : xM} {pc : Nat} {L : List (Nat × Value)} {st : List Value} {h : xH} {Q : xR → xH → Prop} {i n : Nat} (hd : decode (xMc M) pc = .ok (.iinc i (-1), 3)) (hx : xlk L i = some (.int (nI (n + 1)))) (hn : i < xMl M) (kq : xV l G fr wd M (pc + 3) (xst L i (.int (nI n))) st h Q) : xV l G fr wd M pc L st h Q :=
  x_iinc hd hx rfl hn (by rw [show nI (n + 1) + Int32.ofInt (-1) = nI n from by rw [show Int32.ofInt (-1) = -1 by decide, ← Int32.sub_eq_add_neg]; exact nI_pred n]; exact kq)
theorem st_in (hs : MSh h0 y) {k v : Int32} {i : Nat} {R : List KV} {Q : xR → xH → Prop} (hi : i < 300) (q0 : List KV)
    (nx : xV l G 0 0 m_M_sort 2 [(1, .int (nI (i + 1))), (0, .ref y)] [] (mset y (plS S (insB (k, v) q0 ++ R)) h0) Q) :
    ∀ (j : Nat) (A B : List KV) (x : KV), A.length = j → j ≤ i → insB (k, v) A ++ B = insB (k, v) q0 → xV l G 0 0 m_M_sort 27 [(4, .int (nI j)), (3, .int v), (2, .int k), (1, .int (nI i)), (0, .ref y)] [] (mset y (plS S (A ++ x :: (B ++ R))) h0) Q := by
  intro j
  induction j with
  | zero =>
    intro A B x hA hj hB
    obtain rfl : A = [] := List.eq_nil_of_length_eq_zero hA
    rw [insB_nil] at hB
    have h10 : 0 < mlen 10 := by decide
    have h11 : 0 < mlen 11 := by decide
    refine x_iload d_M_sort_27 rfl ?_
    refine x_if_le_t (tgt := 83) d_M_sort_29 (by decide) ((by decide)) ?_
    refine x_aload_n d_M_sort_83 rfl ?_
    refine xm_ref (k := 10) (j := 9) d_M_sort_84 hs (by decide) rfl rfl (by decide) wf_M_38 rfl ?_
    refine x_iload d_M_sort_87 rfl ?_
    refine x_iload_n d_M_sort_89 rfl ?_
    refine xm_ast d_M_sort_90 hs (by decide) rfl (by first | decide | assumption | omega) ?_
    refine x_aload_n d_M_sort_91 rfl ?_
    refine xm_ref (k := 11) (j := 10) d_M_sort_92 hs (by decide) rfl rfl (by decide) wf_M_41 rfl ?_
    refine x_iload d_M_sort_95 rfl ?_
    refine x_iload_n d_M_sort_97 rfl ?_
    refine xm_ast d_M_sort_98 hs (by decide) rfl (by first | decide | assumption | omega) ?_
    first | refine x_incN d_M_sort_99 rfl (by decide) ?_ | refine x_inc d_M_sort_99 rfl (by decide) ?_
    refine x_goto (tgt := 2) d_M_sort_102 (by decide) ?_
    rw [show xu (plS S ([] ++ x :: (B ++ R))) 10 0 k = plS S ([] ++ (k, x.2) :: (B ++ R)) from plS_wk, show xu (plS S ([] ++ (k, x.2) :: (B ++ R))) 11 0 v = plS S ([] ++ (k, v) :: (B ++ R)) from plS_wv]
    rw [show ([] ++ (k, v) :: (B ++ R) : List KV) = [(k, v)] ++ B ++ R from rfl, hB]
    refine xV.loc (nx) (by repeat (first | exact trivial | refine ⟨rfl, ?_⟩))
  | succ j ih =>
    intro A B x hA hj hB
    obtain ⟨A', a, rfl, hA'⟩ := lastOf hA
    have h10 : j + 1 < mlen 10 := by show j + 1 < 300; omega
    have h11 : j + 1 < mlen 11 := by show j + 1 < 300; omega
    have k10 : j < mlen 10 := by show j < 300; omega
    have k11 : j < mlen 11 := by show j < 300; omega
    have e0 : A' ++ [a] ++ x :: (B ++ R) = A' ++ a :: x :: (B ++ R) := by simp
    refine x_iload d_M_sort_27 rfl ?_
    refine x_if_le_f 83 d_M_sort_29 (by decide) ((nI_nle (by omega) (by omega))) ?_
    refine x_aload_n d_M_sort_32 rfl ?_
    refine xm_ref (k := 10) (j := 9) d_M_sort_33 hs (by decide) rfl rfl (by decide) wf_M_38 rfl ?_
    refine x_iload d_M_sort_36 rfl ?_
    refine x_iconst (v := nI 1) d_M_sort_38 (by decide) ?_
    refine x_isub d_M_sort_39 ?_
    rw [nI_sub (by omega), Nat.add_sub_cancel]
    refine xm_ald d_M_sort_40 hs (by decide) rfl (by first | decide | assumption | omega) ?_
    refine x_iload_n d_M_sort_41 rfl ?_
    have ek : plS S (A' ++ [a] ++ x :: (B ++ R)) 10 j = a.1 := by rw [e0, ← hA']; exact plS_key
    have ev : plS S (A' ++ [a] ++ (a.1, x.2) :: (B ++ R)) 11 j = a.2 := by
      rw [show A' ++ [a] ++ (a.1, x.2) :: (B ++ R) = A' ++ a :: (a.1, x.2) :: (B ++ R) by simp, ← hA']; exact plS_val
    rw [ek]
    refine x_icmp_le (tgt := 83) d_M_sort_42 (by decide) (fun c1 => ?_) (fun c1 => ?_)
    · have c1' : ¬ (k, v).1 < a.1 := Int32.not_lt.mpr c1
      rw [insB_le c1'] at hB
      refine x_aload_n d_M_sort_83 rfl ?_
      refine xm_ref (k := 10) (j := 9) d_M_sort_84 hs (by decide) rfl rfl (by decide) wf_M_38 rfl ?_
      refine x_iload d_M_sort_87 rfl ?_
      refine x_iload_n d_M_sort_89 rfl ?_
      refine xm_ast d_M_sort_90 hs (by decide) rfl (by first | decide | assumption | omega) ?_
      refine x_aload_n d_M_sort_91 rfl ?_
      refine xm_ref (k := 11) (j := 10) d_M_sort_92 hs (by decide) rfl rfl (by decide) wf_M_41 rfl ?_
      refine x_iload d_M_sort_95 rfl ?_
      refine x_iload_n d_M_sort_97 rfl ?_
      refine xm_ast d_M_sort_98 hs (by decide) rfl (by first | decide | assumption | omega) ?_
      first | refine x_incN d_M_sort_99 rfl (by decide) ?_ | refine x_inc d_M_sort_99 rfl (by decide) ?_
      refine x_goto (tgt := 2) d_M_sort_102 (by decide) ?_
      rw [show xu (plS S (A' ++ [a] ++ x :: (B ++ R))) 10 (j + 1) k = plS S (A' ++ [a] ++ (k, x.2) :: (B ++ R)) by rw [← hA]; exact plS_wk, show xu (plS S (A' ++ [a] ++ (k, x.2) :: (B ++ R))) 11 (j + 1) v = plS S (A' ++ [a] ++ (k, v) :: (B ++ R)) by rw [← hA]; exact plS_wv]
      rw [show A' ++ [a] ++ (k, v) :: (B ++ R) = A' ++ [a] ++ [(k, v)] ++ B ++ R by simp, hB]
      refine xV.loc (nx) (by repeat (first | exact trivial | refine ⟨rfl, ?_⟩))
    · have c1' : (k, v).1 < a.1 := Int32.not_le.mp c1
      rw [insB_gt c1', List.append_assoc, List.singleton_append] at hB
      have nx2 := ih A' (a :: B) a hA' (by omega) hB
      refine x_aload_n d_M_sort_45 rfl ?_
      refine xm_ref (k := 10) (j := 9) d_M_sort_46 hs (by decide) rfl rfl (by decide) wf_M_38 rfl ?_
      refine x_iload d_M_sort_49 rfl ?_
      refine x_aload_n d_M_sort_51 rfl ?_
      refine xm_ref (k := 10) (j := 9) d_M_sort_52 hs (by decide) rfl rfl (by decide) wf_M_38 rfl ?_
      refine x_iload d_M_sort_55 rfl ?_
      refine x_iconst (v := nI 1) d_M_sort_57 (by decide) ?_
      refine x_isub d_M_sort_58 ?_
      rw [nI_sub (by omega), Nat.add_sub_cancel]
      refine xm_ald d_M_sort_59 hs (by decide) rfl (by first | decide | assumption | omega) ?_
      refine xm_ast d_M_sort_60 hs (by decide) rfl (by first | decide | assumption | omega) ?_
      refine x_aload_n d_M_sort_61 rfl ?_
      refine xm_ref (k := 11) (j := 10) d_M_sort_62 hs (by decide) rfl rfl (by decide) wf_M_41 rfl ?_
      refine x_iload d_M_sort_65 rfl ?_
      refine x_aload_n d_M_sort_67 rfl ?_
      refine xm_ref (k := 11) (j := 10) d_M_sort_68 hs (by decide) rfl rfl (by decide) wf_M_41 rfl ?_
      refine x_iload d_M_sort_71 rfl ?_
      refine x_iconst (v := nI 1) d_M_sort_73 (by decide) ?_
      refine x_isub d_M_sort_74 ?_
      rw [nI_sub (by omega), Nat.add_sub_cancel, ek, show xu (plS S (A' ++ [a] ++ x :: (B ++ R))) 10 (j + 1) a.1 = plS S (A' ++ [a] ++ (a.1, x.2) :: (B ++ R)) by rw [← hA]; exact plS_wk]
      refine xm_ald d_M_sort_75 hs (by decide) rfl (by first | decide | assumption | omega) ?_
      rw [ev]
      refine xm_ast d_M_sort_76 hs (by decide) rfl (by first | decide | assumption | omega) ?_
      refine x_decN d_M_sort_77 rfl (by decide) ?_
      refine x_goto (tgt := 27) d_M_sort_80 (by decide) ?_
      rw [show xu (plS S (A' ++ [a] ++ (a.1, x.2) :: (B ++ R))) 11 (j + 1) a.2 = plS S (A' ++ [a] ++ (a.1, a.2) :: (B ++ R)) by rw [← hA]; exact plS_wv]
      rw [show A' ++ [a] ++ (a.1, a.2) :: (B ++ R) = A' ++ a :: (a :: B ++ R) by simp]
      refine xV.loc (nx2) (by repeat (first | exact trivial | refine ⟨rfl, ?_⟩))
theorem c_M_sort (hs : MSh h0 y) {q : List KV} (hq : q.length ≤ 300) : xVM l G 0 0 m_M_sort [.ref y] (mset y (plS S q) h0) (fun r h' => r = .inl none ∧ h' = mset y (plS S (isort q)) h0) := by
  have lp : ∀ m i : Nat, i + m = q.length + 1 → 1 ≤ i → xV l G 0 0 m_M_sort 2 [(1, .int (nI i)), (0, .ref y)] [] (mset y (plS S (isort (q.take i) ++ q.drop i)) h0) (fun r h' => r = .inl none ∧ h' = mset y (plS S (isort q)) h0) := by
    intro m
    induction m with
    | zero =>
      intro i him h1
      refine x_iload_n d_M_sort_2 rfl ?_
      refine x_aload_n d_M_sort_3 rfl ?_
      refine xm_get (j := 12) d_M_sort_4 hs rfl (by decide) wf_M_86 (fun _ _ => rfl) ?_
      rw [plS_n, List.length_append, isort_len, List.length_take, List.length_drop]
      refine x_icmp_ge_t (tgt := 105) d_M_sort_7 (by decide) ((nI_le (by omega) (by omega))) ?_
      refine x_vret d_M_sort_105 rfl ?_
      exact ⟨rfl, by rw [List.take_of_length_le (by omega), List.drop_of_length_le (by omega), List.append_nil]⟩
    | succ m ih =>
      intro i him h1
      have len : (isort (q.take i) ++ q.drop i).length = q.length := by rw [List.length_append, isort_len, List.length_take, List.length_drop]; omega
      by_cases hi : i = q.length
      · refine x_iload_n d_M_sort_2 rfl ?_
        refine x_aload_n d_M_sort_3 rfl ?_
        refine xm_get (j := 12) d_M_sort_4 hs rfl (by decide) wf_M_86 (fun _ _ => rfl) ?_
        rw [plS_n, len]
        refine x_icmp_ge_t (tgt := 105) d_M_sort_7 (by decide) ((nI_le (by omega) (by omega))) ?_
        refine x_vret d_M_sort_105 rfl ?_
        exact ⟨rfl, by rw [List.take_of_length_le (by omega), List.drop_of_length_le (by omega), List.append_nil]⟩
      · have hil : i < q.length := by omega
        have hA : (isort (q.take i)).length = i := by rw [isort_len, List.length_take]; omega
        have ed : q.drop i = q[i] :: q.drop (i + 1) := List.drop_eq_getElem_cons hil
        have nx := ih (i + 1) (by omega) (by omega)
        rw [List.take_succ_eq_append_getElem hil, isort_s] at nx
        have h10 : i < mlen 10 := by show i < 300; omega
        have h11 : i < mlen 11 := by show i < 300; omega
        have ek : plS S (isort (q.take i) ++ q.drop i) 10 i = (q[i]).1 := by
          have := plS_key (S := S) (A := isort (q.take i)) (B := q.drop (i + 1)) (x := q[i])
          rw [hA, ← ed] at this; exact this
        have ev : plS S (isort (q.take i) ++ q.drop i) 11 i = (q[i]).2 := by
          have := plS_val (S := S) (A := isort (q.take i)) (B := q.drop (i + 1)) (x := q[i])
          rw [hA, ← ed] at this; exact this
        have inn := st_in (l := l) (G := G) (S := S) hs (k := (q[i]).1) (v := (q[i]).2) (i := i) (R := q.drop (i + 1)) (by omega) (isort (q.take i)) nx i (isort (q.take i)) [] (q[i]) hA (Nat.le_refl i) (List.append_nil _)
        rw [List.nil_append, ← ed] at inn
        refine x_iload_n d_M_sort_2 rfl ?_
        refine x_aload_n d_M_sort_3 rfl ?_
        refine xm_get (j := 12) d_M_sort_4 hs rfl (by decide) wf_M_86 (fun _ _ => rfl) ?_
        rw [plS_n, len]
        refine x_icmp_ge_f 105 d_M_sort_7 (by decide) ((nI_ge (by omega) (by omega))) ?_
        refine x_aload_n d_M_sort_10 rfl ?_
        refine xm_ref (k := 10) (j := 9) d_M_sort_11 hs (by decide) rfl rfl (by decide) wf_M_38 rfl ?_
        refine x_iload_n d_M_sort_14 rfl ?_
        refine xm_ald d_M_sort_15 hs (by decide) rfl (by first | decide | assumption | omega) ?_
        rw [ek]
        refine x_istore_n d_M_sort_16 (by decide) ?_
        refine x_aload_n d_M_sort_17 rfl ?_
        refine xm_ref (k := 11) (j := 10) d_M_sort_18 hs (by decide) rfl rfl (by decide) wf_M_41 rfl ?_
        refine x_iload_n d_M_sort_21 rfl ?_
        refine xm_ald d_M_sort_22 hs (by decide) rfl (by first | decide | assumption | omega) ?_
        rw [ev]
        refine x_istore_n d_M_sort_23 (by decide) ?_
        refine x_iload_n d_M_sort_24 rfl ?_
        refine x_istore d_M_sort_25 (by decide) ?_
        refine xV.loc (inn) (by repeat (first | exact trivial | refine ⟨rfl, ?_⟩))
  unfold xVM
  refine x_iconst (v := nI 1) d_M_sort_0 (by decide) ?_
  refine x_istore_n d_M_sort_1 (by decide) ?_
  have := lp q.length 1 (by omega) (Nat.le_refl 1)
  rw [show isort (q.take 1) ++ q.drop 1 = q by cases q <;> rfl] at this
  refine xV.loc (this) (by repeat (first | exact trivial | refine ⟨rfl, ?_⟩))
end XM5
