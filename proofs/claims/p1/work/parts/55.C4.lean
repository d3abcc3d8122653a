/-! pairs in the class: the list q in the rows of the object at o -/
def pqS (C : Nat → Nat → Int32) (o : Nat) (q : List KV) : Nat → Nat → Int32 := fun k j =>
  if k = o + 1 then ((q[j]?).map (fun x => x.1)).getD (C k j) else if k = o + 2 then ((q[j]?).map (fun x => x.2)).getD (C k j) else if k = o ∧ j = 2 then nI q.length else C k j
theorem pq_k {C : Nat → Nat → Int32} {o : Nat} {q : List KV} {k j : Nat} (h : k ≠ o + 1 ∧ k ≠ o + 2 ∧ ¬ (k = o ∧ j = 2)) : pqS C o q k j = C k j := by
  unfold pqS; rw [if_neg h.1, if_neg h.2.1, if_neg h.2.2]
theorem pq_n {C : Nat → Nat → Int32} {o : Nat} {q : List KV} : pqS C o q o 2 = nI q.length := by
  unfold pqS; rw [if_neg (by omega), if_neg (by omega), if_pos ⟨rfl, rfl⟩]
theorem pq_key {C : Nat → Nat → Int32} {o : Nat} {A B : List KV} {x : KV} : pqS C o (A ++ x :: B) (o + 1) A.length = x.1 := by simp [pqS]
theorem pq_val {C : Nat → Nat → Int32} {o : Nat} {A B : List KV} {x : KV} : pqS C o (A ++ x :: B) (o + 2) A.length = x.2 := by simp [pqS]
theorem pq_nil {C : Nat → Nat → Int32} {o : Nat} : xu C o 2 (nI 0) = pqS C o [] := by
  funext k j
  by_cases h : k = o ∧ j = 2
  · obtain ⟨rfl, rfl⟩ := h; rw [xu_s, pq_n]; rfl
  · rw [show xu C o 2 (nI 0) k j = C k j from if_neg h]; simp [pqS, h]
theorem pq_wk {C : Nat → Nat → Int32} {o : Nat} {A B : List KV} {x : KV} {v : Int32} : xu (pqS C o (A ++ x :: B)) (o + 1) A.length v = pqS C o (A ++ (v, x.2) :: B) := by
  funext k j
  by_cases hj : j = A.length
  · subst hj
    by_cases hk : k = o + 1
    · subst hk; simp [xu, pqS]
    · by_cases hk2 : k = o + 2
      · subst hk2; simp [xu, pqS]
      · simp [xu, pqS, hk, hk2]
  · have e := mid_ne (B := B) x (v, x.2) hj
    simp only [xu, hj, and_false, if_false, pqS, e, List.length_append, List.length_cons]
theorem pq_wv {C : Nat → Nat → Int32} {o : Nat} {A B : List KV} {x : KV} {v : Int32} : xu (pqS C o (A ++ x :: B)) (o + 2) A.length v = pqS C o (A ++ (x.1, v) :: B) := by
  funext k j
  by_cases hj : j = A.length
  · subst hj
    by_cases hk : k = o + 1
    · subst hk; simp [xu, pqS]
    · by_cases hk2 : k = o + 2
      · subst hk2; simp [xu, pqS]
      · simp [xu, pqS, hk, hk2]
  · have e := mid_ne (B := B) x (x.1, v) hj
    simp only [xu, hj, and_false, if_false, pqS, e, List.length_append, List.length_cons]
theorem app_ne {q : List KV} {x : KV} {j : Nat} (hj : j ≠ q.length) : (q ++ [x])[j]? = q[j]? := by
  rw [List.getElem?_append]; split
  · rfl
  · rw [List.getElem?_eq_none (l := [x]) (by simp; omega), List.getElem?_eq_none (by omega)]
theorem pq_psh {C : Nat → Nat → Int32} {o : Nat} {q : List KV} {x y : Int32} : xu (xu (xu (pqS C o q) (o + 1) q.length x) (o + 2) q.length y) o 2 (nI (q.length + 1)) = pqS C o (q ++ [(x, y)]) := by
  funext k j
  by_cases hk : k = o + 1
  · subst hk
    by_cases hj : j = q.length
    · subst hj; simp [xu, pqS]
    · simp [xu, pqS, hj, app_ne hj]
  · by_cases hk2 : k = o + 2
    · subst hk2
      by_cases hj : j = q.length
      · subst hj; simp [xu, pqS]
      · simp [xu, pqS, hj, app_ne hj]
    · by_cases h3 : k = o ∧ j = 2
      · obtain ⟨rfl, rfl⟩ := h3; simp [xu, pqS]
      · simp [xu, pqS, hk, hk2, h3]
theorem xu_xu {α : Type} (f : Nat → Nat → α) (a j : Nat) (v w : α) : xu (xu f a j v) a j w = xu f a j w := by
  funext k i; unfold xu; split <;> rfl
theorem pq_sz {C : Nat → Nat → Int32} {o : Nat} {q : List KV} : xu (pqS C o q) o 2 (nI q.length) = pqS C o q := by
  funext k j
  by_cases h : k = o ∧ j = 2
  · obtain ⟨rfl, rfl⟩ := h; rw [xu_s, pq_n]
  · exact if_neg h
theorem xu_comm {α : Type} (f : Nat → Nat → α) {a j a' j' : Nat} (v w : α) (h : ¬ (a = a' ∧ j = j')) : xu (xu f a j v) a' j' w = xu (xu f a' j' w) a j v := by
  funext k i
  unfold xu
  by_cases h1 : k = a ∧ i = j
  · by_cases h2 : k = a' ∧ i = j'
    · exact absurd ⟨h1.1.symm.trans h2.1, h1.2.symm.trans h2.2⟩ h
    · rw [if_neg h2, if_pos h1, if_pos h1]
  · by_cases h2 : k = a' ∧ i = j'
    · rw [if_pos h2, if_neg h1, if_pos h2]
    · rw [if_neg h2, if_neg h1, if_neg h1, if_neg h2]
/-- a place more in the rows, the size as it was -/
theorem pq_hole {C : Nat → Nat → Int32} {o : Nat} {q : List KV} : pqS C o q = xu (pqS C o (q ++ [(pqS C o q (o + 1) q.length, pqS C o q (o + 2) q.length)])) o 2 (nI q.length) := by
  rw [← pq_psh, xu_xu]
  funext k j
  by_cases h : k = o ∧ j = 2
  · obtain ⟨rfl, rfl⟩ := h; rw [xu_s, pq_n]
  · rw [show xu (xu (xu (pqS C o q) (o + 1) q.length (pqS C o q (o + 1) q.length)) (o + 2) q.length (pqS C o q (o + 2) q.length)) o 2 (nI q.length) k j = xu (xu (pqS C o q) (o + 1) q.length (pqS C o q (o + 1) q.length)) (o + 2) q.length (pqS C o q (o + 2) q.length) k j from if_neg h]
    by_cases h2 : k = o + 2 ∧ j = q.length
    · obtain ⟨rfl, rfl⟩ := h2; rw [xu_s]
    · rw [show xu (xu (pqS C o q) (o + 1) q.length (pqS C o q (o + 1) q.length)) (o + 2) q.length (pqS C o q (o + 2) q.length) k j = xu (pqS C o q) (o + 1) q.length (pqS C o q (o + 1) q.length) k j from if_neg h2]
      by_cases h3 : k = o + 1 ∧ j = q.length
      · obtain ⟨rfl, rfl⟩ := h3; rw [xu_s]
      · exact (if_neg h3).symm
section XC4
variable {l : Launch} {G : xG} {h0 : xH} {z : Nat} {C : Nat → Nat → Int32} {b : Bool} {tk : Nat → Option Nat}
theorem c_app (hs : CSh h0 z) {o cap : Nat} (ho : isP o cap) {q : List KV} (k v : Int32) (hq : q.length < cap) : xVM l G 0 0 m_P_append [.ref (z + o), .int k, .int v] (cset z (pqS C o q) b tk h0) (fun r h' => r = .inl none ∧ h' = cset z (pqS C o (q ++ [(k, v)])) b tk h0) := by
  have h1 := isP_lt ho
  refine xV.imp (c_P_append (h := cset z (pqS C o q) b tk h0) k v (Prs_of hs ho) ((cset_I (by omega)).trans pq_n) hq) (fun r h' q9 => ⟨q9.1, q9.2.trans ?_⟩)
  rw [cset_w (by omega), cset_w (by omega), cset_w (by omega), pq_psh]
theorem ib_in (hs : CSh h0 z) {o cap : Nat} (ho : isP o cap) {k v : Int32} {n : Nat} (hn : n < cap) (q0 : List KV) (hq0 : q0.length = n) :
    ∀ (j : Nat) (A B : List KV) (x : KV), A.length = j → j + B.length = n → insB (k, v) A ++ B = insB (k, v) q0 → xV l G 0 0 m_P_insertByKey 18 [(3, .int (nI j)), (0, .ref (z + o)), (1, .int k), (2, .int v)] [] (cset z (xu (pqS C o (A ++ x :: B)) o 2 (nI n)) b tk h0)
      (fun r h' => r = .inl none ∧ h' = cset z (pqS C o (insB (k, v) q0)) b tk h0) := by
  have hP := isP_lt ho
  have fin : ∀ (j : Nat) (A B : List KV) (x : KV), A.length = j → j + B.length = n → A ++ (k, v) :: B = insB (k, v) q0 → xV l G 0 0 m_P_insertByKey 68 [(3, .int (nI j)), (0, .ref (z + o)), (1, .int k), (2, .int v)] [] (cset z (xu (pqS C o (A ++ x :: B)) o 2 (nI n)) b tk h0)
      (fun r h' => r = .inl none ∧ h' = cset z (pqS C o (insB (k, v) q0)) b tk h0) := by
    intro j A B x hA hj hB
    have hjc : j < cap := by omega
    first | refine x_aload_n d_P_insertByKey_68 rfl ?_ | refine x_aloadq_n d_P_insertByKey_68 rfl ?_
    refine xc_ref (kc := 3) (j := 0) d_P_insertByKey_69 (hs.P (by assumption)) ⟨P1 (by assumption), by decide⟩ rfl (by decide) wf_P_15 (fun _ _ => rfl) (hs.P2 (by assumption)).1 ?_
    refine x_iload_n d_P_insertByKey_72 rfl ?_
    refine x_iload_n d_P_insertByKey_73 rfl ?_
    first | refine xc_astK d_P_insertByKey_74 hs (by assumption) (by first | assumption | omega) ?_ | refine xc_astV d_P_insertByKey_74 hs (by assumption) (by first | assumption | omega) ?_ | refine xc_astN d_P_insertByKey_74 hs (by first | assumption | omega) (by first | assumption | omega) ?_
    first | refine x_aload_n d_P_insertByKey_75 rfl ?_ | refine x_aloadq_n d_P_insertByKey_75 rfl ?_
    refine xc_ref (kc := 3) (j := 1) d_P_insertByKey_76 (hs.P (by assumption)) ⟨P1 (by assumption), by decide⟩ rfl (by decide) wf_P_19 (fun _ _ => rfl) (hs.P2 (by assumption)).2.1 ?_
    refine x_iload_n d_P_insertByKey_79 rfl ?_
    refine x_iload_n d_P_insertByKey_80 rfl ?_
    first | refine xc_astK d_P_insertByKey_81 hs (by assumption) (by first | assumption | omega) ?_ | refine xc_astV d_P_insertByKey_81 hs (by assumption) (by first | assumption | omega) ?_ | refine xc_astN d_P_insertByKey_81 hs (by first | assumption | omega) (by first | assumption | omega) ?_
    first | refine x_aload_n d_P_insertByKey_82 rfl ?_ | refine x_aloadq_n d_P_insertByKey_82 rfl ?_
    refine x_dup d_P_insertByKey_83 rfl ?_
    refine xc_get (kc := 3) (j := 2) d_P_insertByKey_84 (hs.P (by assumption)) (P75 (by assumption)) rfl (by decide) wf_P_9 (fun _ _ => rfl) ?_
    rw [show xu (xu (xu (pqS C o (A ++ x :: B)) o 2 (nI n)) (o + 1) j k) (o + 2) j v = xu (pqS C o (A ++ (k, v) :: B)) o 2 (nI n) by
      rw [xu_comm (pqS C o (A ++ x :: B)) (a := o) (j := 2) (a' := o + 1) (nI n) k (by omega), xu_comm (xu (pqS C o (A ++ x :: B)) (o + 1) j k) (a := o) (j := 2) (a' := o + 2) (nI n) v (by omega), ← hA, pq_wk, pq_wv]]
    rw [xu_s]
    refine x_iconst (v := nI 1) d_P_insertByKey_87 (by decide) ?_
    refine x_iadd d_P_insertByKey_88 ?_
    rw [nI_add]
    refine xc_put (kc := 3) (j := 2) d_P_insertByKey_89 (hs.P (by assumption)) (P75 (by assumption)) rfl (by decide) wf_P_9 (Or.inl rfl) (by first | rfl | assumption) rfl (fun _ _ => rfl) ?_
    rw [xu_xu, show n + 1 = (A ++ (k, v) :: B).length by rw [List.length_append, List.length_cons]; omega, pq_sz, hB]
    refine x_vret d_P_insertByKey_92 rfl ?_
    exact ⟨rfl, rfl⟩
  intro j
  induction j with
  | zero =>
    intro A B x hA hj hB
    obtain rfl : A = [] := List.eq_nil_of_length_eq_zero hA
    have := fin 0 [] B x rfl hj hB
    refine x_iload_n d_P_insertByKey_18 rfl ?_
    refine x_if_le_t (tgt := 68) d_P_insertByKey_19 (by decide) ((by decide)) ?_
    exact this
  | succ j ih =>
    intro A B x hA hj hB
    obtain ⟨A', a, rfl, hA'⟩ := lastOf hA
    have hj1 : j + 1 < cap := by omega
    have hj0 : j < cap := by omega
    have hne : o + 1 ≠ o := by omega
    have hne2 : o + 2 ≠ o := by omega
    refine x_iload_n d_P_insertByKey_18 rfl ?_
    refine x_if_le_f 68 d_P_insertByKey_19 (by decide) ((nI_nle (by omega) (by omega))) ?_
    first | refine x_aload_n d_P_insertByKey_22 rfl ?_ | refine x_aloadq_n d_P_insertByKey_22 rfl ?_
    refine xc_ref (kc := 3) (j := 0) d_P_insertByKey_23 (hs.P (by assumption)) ⟨P1 (by assumption), by decide⟩ rfl (by decide) wf_P_15 (fun _ _ => rfl) (hs.P2 (by assumption)).1 ?_
    refine x_iload_n d_P_insertByKey_26 rfl ?_
    refine x_iconst (v := nI 1) d_P_insertByKey_27 (by decide) ?_
    refine x_isub d_P_insertByKey_28 ?_
    rw [nI_sub (by omega), Nat.add_sub_cancel]
    first | refine xc_aldK d_P_insertByKey_29 hs (by assumption) (by first | assumption | omega) ?_ | refine xc_aldV d_P_insertByKey_29 hs (by assumption) (by first | assumption | omega) ?_ | refine xc_aldN d_P_insertByKey_29 hs (by first | assumption | omega) (by first | assumption | omega) ?_
    refine x_iload_n d_P_insertByKey_30 rfl ?_
    have e0 : A' ++ [a] ++ x :: B = A' ++ a :: x :: B := by simp
    have ek : xu (pqS C o (A' ++ [a] ++ x :: B)) o 2 (nI n) (o + 1) j = a.1 := by rw [xu_k _ _ _ hne, e0, ← hA']; exact pq_key
    rw [ek]
    refine x_icmp_le (tgt := 68) d_P_insertByKey_31 (by decide) (fun c1 => ?_) (fun c1 => ?_)
    · have c1' : ¬ (k, v).1 < a.1 := Int32.not_lt.mpr c1
      rw [insB_le c1'] at hB
      have := fin (j + 1) (A' ++ [a]) B x hA hj (by rw [← hB]; simp)
      exact this
    · have c1' : (k, v).1 < a.1 := Int32.not_le.mp c1
      rw [insB_gt c1', List.append_assoc, List.singleton_append] at hB
      have nx := ih A' (a :: B) a hA' (by rw [List.length_cons]; omega) hB
      first | refine x_aload_n d_P_insertByKey_34 rfl ?_ | refine x_aloadq_n d_P_insertByKey_34 rfl ?_
      refine xc_ref (kc := 3) (j := 0) d_P_insertByKey_35 (hs.P (by assumption)) ⟨P1 (by assumption), by decide⟩ rfl (by decide) wf_P_15 (fun _ _ => rfl) (hs.P2 (by assumption)).1 ?_
      refine x_iload_n d_P_insertByKey_38 rfl ?_
      first | refine x_aload_n d_P_insertByKey_39 rfl ?_ | refine x_aloadq_n d_P_insertByKey_39 rfl ?_
      refine xc_ref (kc := 3) (j := 0) d_P_insertByKey_40 (hs.P (by assumption)) ⟨P1 (by assumption), by decide⟩ rfl (by decide) wf_P_15 (fun _ _ => rfl) (hs.P2 (by assumption)).1 ?_
      refine x_iload_n d_P_insertByKey_43 rfl ?_
      refine x_iconst (v := nI 1) d_P_insertByKey_44 (by decide) ?_
      refine x_isub d_P_insertByKey_45 ?_
      rw [nI_sub (by omega), Nat.add_sub_cancel]
      first | refine xc_aldK d_P_insertByKey_46 hs (by assumption) (by first | assumption | omega) ?_ | refine xc_aldV d_P_insertByKey_46 hs (by assumption) (by first | assumption | omega) ?_ | refine xc_aldN d_P_insertByKey_46 hs (by first | assumption | omega) (by first | assumption | omega) ?_
      rw [ek]
      first | refine xc_astK d_P_insertByKey_47 hs (by assumption) (by first | assumption | omega) ?_ | refine xc_astV d_P_insertByKey_47 hs (by assumption) (by first | assumption | omega) ?_ | refine xc_astN d_P_insertByKey_47 hs (by first | assumption | omega) (by first | assumption | omega) ?_
      first | refine x_aload_n d_P_insertByKey_48 rfl ?_ | refine x_aloadq_n d_P_insertByKey_48 rfl ?_
      refine xc_ref (kc := 3) (j := 1) d_P_insertByKey_49 (hs.P (by assumption)) ⟨P1 (by assumption), by decide⟩ rfl (by decide) wf_P_19 (fun _ _ => rfl) (hs.P2 (by assumption)).2.1 ?_
      refine x_iload_n d_P_insertByKey_52 rfl ?_
      first | refine x_aload_n d_P_insertByKey_53 rfl ?_ | refine x_aloadq_n d_P_insertByKey_53 rfl ?_
      refine xc_ref (kc := 3) (j := 1) d_P_insertByKey_54 (hs.P (by assumption)) ⟨P1 (by assumption), by decide⟩ rfl (by decide) wf_P_19 (fun _ _ => rfl) (hs.P2 (by assumption)).2.1 ?_
      refine x_iload_n d_P_insertByKey_57 rfl ?_
      refine x_iconst (v := nI 1) d_P_insertByKey_58 (by decide) ?_
      refine x_isub d_P_insertByKey_59 ?_
      rw [nI_sub (by omega), Nat.add_sub_cancel]
      first | refine xc_aldK d_P_insertByKey_60 hs (by assumption) (by first | assumption | omega) ?_ | refine xc_aldV d_P_insertByKey_60 hs (by assumption) (by first | assumption | omega) ?_ | refine xc_aldN d_P_insertByKey_60 hs (by first | assumption | omega) (by first | assumption | omega) ?_
      rw [show xu (xu (pqS C o (A' ++ [a] ++ x :: B)) o 2 (nI n)) (o + 1) (j + 1) a.1 = xu (pqS C o (A' ++ [a] ++ (a.1, x.2) :: B)) o 2 (nI n) by rw [xu_comm _ _ _ (by omega), ← hA, pq_wk]]
      rw [show xu (pqS C o (A' ++ [a] ++ (a.1, x.2) :: B)) o 2 (nI n) (o + 2) j = a.2 by rw [xu_k _ _ _ hne2, show A' ++ [a] ++ (a.1, x.2) :: B = A' ++ a :: (a.1, x.2) :: B by simp, ← hA']; exact pq_val]
      first | refine xc_astK d_P_insertByKey_61 hs (by assumption) (by first | assumption | omega) ?_ | refine xc_astV d_P_insertByKey_61 hs (by assumption) (by first | assumption | omega) ?_ | refine xc_astN d_P_insertByKey_61 hs (by first | assumption | omega) (by first | assumption | omega) ?_
      refine x_decN d_P_insertByKey_62 rfl (by decide) ?_
      refine x_goto (tgt := 18) d_P_insertByKey_65 (by decide) ?_
      rw [show xu (xu (pqS C o (A' ++ [a] ++ (a.1, x.2) :: B)) o 2 (nI n)) (o + 2) (j + 1) a.2 = xu (pqS C o (A' ++ a :: a :: B)) o 2 (nI n) by rw [xu_comm _ _ _ (by omega), ← hA, pq_wv, show A' ++ [a] ++ (a.1, a.2) :: B = A' ++ a :: a :: B by simp]]
      exact nx
theorem c_ins (hs : CSh h0 z) {o cap : Nat} (ho : isP o cap) {q : List KV} (k v : Int32) (hq : q.length < cap) : xVM l G 0 0 m_P_insertByKey [.ref (z + o), .int k, .int v] (cset z (pqS C o q) b tk h0) (fun r h' => r = .inl none ∧ h' = cset z (pqS C o (insB (k, v) q)) b tk h0) := by
  have hP := isP_lt ho
  unfold xVM
  first | refine x_aload_n d_P_insertByKey_0 rfl ?_ | refine x_aloadq_n d_P_insertByKey_0 rfl ?_
  refine xc_get (kc := 3) (j := 2) d_P_insertByKey_1 (hs.P (by assumption)) (P75 (by assumption)) rfl (by decide) wf_P_9 (fun _ _ => rfl) ?_
  rw [pq_n]
  first | refine x_aload_n d_P_insertByKey_4 rfl ?_ | refine x_aloadq_n d_P_insertByKey_4 rfl ?_
  refine xc_ref (kc := 3) (j := 0) d_P_insertByKey_5 (hs.P (by assumption)) ⟨P1 (by assumption), by decide⟩ rfl (by decide) wf_P_15 (fun _ _ => rfl) (hs.P2 (by assumption)).1 ?_
  refine x_alenN (t := 100) (cap := cap) d_P_insertByKey_8 (hs.P2 ho).2.2.1 (by decide) rfl (hs.P2 ho).2.2.2.2.1 ?_
  refine x_icmp_lt_t (tgt := 13) d_P_insertByKey_9 (by decide) ((nI_lt hq (by omega))) ?_
  first | refine x_aload_n d_P_insertByKey_13 rfl ?_ | refine x_aloadq_n d_P_insertByKey_13 rfl ?_
  refine xc_get (kc := 3) (j := 2) d_P_insertByKey_14 (hs.P (by assumption)) (P75 (by assumption)) rfl (by decide) wf_P_9 (fun _ _ => rfl) ?_
  rw [pq_n]
  refine x_istore_n d_P_insertByKey_17 (by decide) ?_
  have this := ib_in (l := l) (G := G) (C := C) (b := b) (tk := tk) hs ho (k := k) (v := v) hq q rfl q.length q [] (pqS C o q (o + 1) q.length, pqS C o q (o + 2) q.length) rfl (by simp) (List.append_nil _)
  rw [← pq_hole] at this
  refine xV.loc (this) (by repeat (first | exact trivial | refine ⟨rfl, ?_⟩))
end XC4
