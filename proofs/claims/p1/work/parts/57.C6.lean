/-- the lists that the partitions of job b have taken -/
def tqS (C : Nat → Nat → Int32) (b : Bool) (Q : Nat → List KV) : Nat → Nat → Int32 := fun k j =>
  if jo b + 3 ≤ k ∧ k < jo b + 21 ∧ (k - (jo b + 3)) % 6 < 3 then pqS C (jo b + 3 + 6 * ((k - (jo b + 3)) / 6)) (Q ((k - (jo b + 3)) / 6)) k j else C k j
theorem tq_at {C : Nat → Nat → Int32} {b : Bool} {Q : Nat → List KV} {p r j : Nat} (hp : p < 3) (hr : r < 3) : tqS C b Q (jo b + 3 + 6 * p + r) j = pqS C (jo b + 3 + 6 * p) (Q p) (jo b + 3 + 6 * p + r) j := by
  have e : (jo b + 3 + 6 * p + r - (jo b + 3)) / 6 = p := by omega
  unfold tqS
  rw [if_pos ⟨by omega, by omega, by omega⟩, e]
theorem tq_out {C : Nat → Nat → Int32} {b : Bool} {Q : Nat → List KV} {k j : Nat} (h : ¬ (jo b + 3 ≤ k ∧ k < jo b + 21)) : tqS C b Q k j = C k j := if_neg (by omega)
theorem tq_id {C : Nat → Nat → Int32} {b : Bool} {Q : Nat → List KV} {p : Nat} (hp : p < 3) : pqS (tqS C b Q) (jo b + 3 + 6 * p) (Q p) = tqS C b Q := by
  funext k j
  by_cases h1 : k = jo b + 3 + 6 * p + 1
  · subst h1
    rw [tq_at hp (by decide)]
    unfold pqS
    rw [if_pos rfl, if_pos rfl, tq_at hp (by decide)]
    unfold pqS
    rw [if_pos rfl]
    cases (Q p)[j]? <;> rfl
  · by_cases h2 : k = jo b + 3 + 6 * p + 2
    · subst h2
      rw [tq_at hp (by decide)]
      unfold pqS
      rw [if_neg (by omega), if_pos rfl, if_neg (by omega), if_pos rfl, tq_at hp (by decide)]
      unfold pqS
      rw [if_neg (by omega), if_pos rfl]
      cases (Q p)[j]? <;> rfl
    · by_cases h3 : k = jo b + 3 + 6 * p ∧ j = 2
      · obtain ⟨rfl, rfl⟩ := h3
        rw [pq_n]
        have := tq_at (C := C) (b := b) (Q := Q) (j := 2) hp (show 0 < 3 by decide)
        rw [Nat.add_zero] at this
        rw [this, pq_n]
      · rw [pq_k ⟨h1, h2, h3⟩]
def upQ (Q : Nat → List KV) (p : Nat) (q : List KV) : Nat → List KV := fun i => if i = p then q else Q i
theorem tq_pq {C : Nat → Nat → Int32} {b : Bool} {Q : Nat → List KV} {p : Nat} {q : List KV} (hp : p < 3) (hq : (Q p).length ≤ q.length) : pqS (tqS C b Q) (jo b + 3 + 6 * p) q = tqS C b (upQ Q p q) := by
  have eu : upQ Q p q p = q := if_pos rfl
  funext k j
  by_cases h1 : k = jo b + 3 + 6 * p + 1
  · subst h1
    rw [tq_at hp (by decide), eu]
    unfold pqS
    rw [if_pos rfl, if_pos rfl]
    by_cases hj : j < q.length
    · rw [List.getElem?_eq_getElem hj]; rfl
    · rw [List.getElem?_eq_none (by omega), tq_at hp (by decide)]
      unfold pqS
      rw [if_pos rfl, List.getElem?_eq_none (by omega)]; rfl
  · by_cases h2 : k = jo b + 3 + 6 * p + 2
    · subst h2
      rw [tq_at hp (by decide), eu]
      unfold pqS
      rw [if_neg (by omega), if_pos rfl, if_neg (by omega), if_pos rfl]
      by_cases hj : j < q.length
      · rw [List.getElem?_eq_getElem hj]; rfl
      · rw [List.getElem?_eq_none (by omega), tq_at hp (by decide)]
        unfold pqS
        rw [if_neg (by omega), if_pos rfl, List.getElem?_eq_none (by omega)]; rfl
    · by_cases h3 : k = jo b + 3 + 6 * p ∧ j = 2
      · obtain ⟨rfl, rfl⟩ := h3
        have := tq_at (C := C) (b := b) (Q := upQ Q p q) (j := 2) hp (show 0 < 3 by decide)
        rw [Nat.add_zero, eu] at this
        rw [this, pq_n, pq_n]
      · rw [pq_k ⟨h1, h2, h3⟩]
        unfold tqS
        by_cases hR : jo b + 3 ≤ k ∧ k < jo b + 21 ∧ (k - (jo b + 3)) % 6 < 3
        · rw [if_pos hR, if_pos hR]
          by_cases hpp : (k - (jo b + 3)) / 6 = p
          · rw [hpp]
            have hk : k = jo b + 3 + 6 * p := by omega
            rw [pq_k ⟨h1, h2, h3⟩, pq_k ⟨h1, h2, h3⟩]
          · rw [show upQ Q p q ((k - (jo b + 3)) / 6) = Q ((k - (jo b + 3)) / 6) from if_neg hpp]
        · rw [if_neg hR, if_neg hR]
theorem tq_5 {C : Nat → Nat → Int32} {b : Bool} {Q : Nat → List KV} {q : List KV} : pqS (tqS C b Q) 5 q = tqS (pqS C 5 q) b Q := by
  have hj := jo_lt b
  funext k j
  by_cases h : k = 5 ∨ k = 6 ∨ k = 7
  · rw [tq_out (by omega)]
    unfold pqS
    rw [tq_out (by omega)]
  · rw [pq_k (by omega)]
    unfold tqS
    split
    · unfold pqS
      simp only [show ¬ k = 5 + 1 by omega, show ¬ k = 5 + 2 by omega, show ¬ k = 5 by omega, if_false, false_and]
    · rw [pq_k (by omega)]
theorem tq_xu {C : Nat → Nat → Int32} {b : Bool} {Q : Nat → List KV} {k j : Nat} {v : Int32} (h : ¬ (jo b + 3 ≤ k ∧ k < jo b + 21)) : xu (tqS C b Q) k j v = tqS (xu C k j v) b Q := by
  funext k' j'
  by_cases he : k' = k ∧ j' = j
  · obtain ⟨rfl, rfl⟩ := he
    rw [xu_s, tq_out h, xu_s]
  · rw [show xu (tqS C b Q) k j v k' j' = tqS C b Q k' j' from if_neg he]
    unfold tqS
    split
    · unfold pqS
      rw [show xu C k j v k' j' = C k' j' from if_neg he]
    · rw [show xu C k j v k' j' = C k' j' from if_neg he]
/-- alike but for the cells of the pairs that were mapped last -/
def AG (E D : Nat → Nat → Int32) : Prop := ∀ k j, k ≠ 5 → k ≠ 6 → k ≠ 7 → E k j = D k j
theorem AG.pq {E D : Nat → Nat → Int32} (h : AG E D) (q : List KV) : AG (pqS E 5 q) D := fun k j h5 h6 h7 => by
  rw [pq_k ⟨by omega, by omega, by omega⟩]; exact h k j h5 h6 h7
/-- the pairs go to their partitions -/
def tkQ (r : Nat) (Q : Nat → List KV) (q : List KV) : Nat → List KV := q.foldl (fun Q x => upQ Q (pt r x.1) (insB x (Q (pt r x.1)))) Q
section XC6
variable {l : Launch} {G : xG} {h0 : xH} {z : Nat} {C : Nat → Nat → Int32} {b : Bool} {tk : Nat → Option Nat}
theorem tq_0 {D : Nat → Nat → Int32} : xu (xu (xu D (jo b + 3 + 6 * 0) 2 (nI 0)) (jo b + 3 + 6 * 1) 2 (nI 0)) (jo b + 3 + 6 * 2) 2 (nI 0) = tqS D b (fun _ => []) := by
  rw [pq_nil, pq_nil, pq_nil]
  funext k j
  by_cases hR : jo b + 3 ≤ k ∧ k < jo b + 21 ∧ (k - (jo b + 3)) % 6 < 3
  · unfold tqS
    rw [if_pos hR]
    obtain h0 | h0 | h0 : (k - (jo b + 3)) / 6 = 0 ∨ (k - (jo b + 3)) / 6 = 1 ∨ (k - (jo b + 3)) / 6 = 2 := by omega
    · rw [h0, pq_k (by omega), pq_k (by omega)]
    · rw [h0, pq_k (by omega)]
      unfold pqS
      simp only [List.getElem?_nil, Option.map_none, Option.getD_none, show ¬ k = jo b + 3 + 6 * 0 + 1 by omega, show ¬ k = jo b + 3 + 6 * 0 + 2 by omega, show ¬ (k = jo b + 3 + 6 * 0 ∧ j = 2) by omega, if_false]
    · rw [h0]
      unfold pqS
      simp only [List.getElem?_nil, Option.map_none, Option.getD_none, show ¬ k = jo b + 3 + 6 * 0 + 1 by omega, show ¬ k = jo b + 3 + 6 * 0 + 2 by omega, show ¬ (k = jo b + 3 + 6 * 0 ∧ j = 2) by omega, show ¬ k = jo b + 3 + 6 * 1 + 1 by omega, show ¬ k = jo b + 3 + 6 * 1 + 2 by omega, show ¬ (k = jo b + 3 + 6 * 1 ∧ j = 2) by omega, if_false]
  · rw [show tqS D b (fun _ => []) k j = D k j from if_neg hR, pq_k (by omega), pq_k (by omega), pq_k (by omega)]
theorem isPt {d : Bool} {p : Nat} (hp : p < 3) : isP (jo d + 3 + 6 * p) 216 := Or.inr (Or.inl ⟨d, p, hp, rfl, rfl⟩)
theorem isPo {d : Bool} {p : Nat} (hp : p < 3) : isP (jo d + 6 + 6 * p) 36 := Or.inr (Or.inr ⟨d, p, hp, rfl, rfl⟩)
def ppC (C : Nat → Nat → Int32) (b : Bool) (r p f : Int32) : Nat → Nat → Int32 := xu (xu (xu C (jo b) 2 r) (jo b) 3 p) (jo b) 4 f
theorem c_J_prepare (hs : CSh h0 z) {d : Bool} (r p f : Int32) : xVM l G 0 0 m_J_prepare [.ref (z + jo d), .int r, .int p, .int f] (cset z C b tk h0) (fun q h' => q = .inl none ∧ h' = cset z (tqS (ppC C d r p f) d (fun _ => [])) b tk h0) := by
  have i0 : isP (jo d + 3 + 6 * 0) 216 := isPt (by decide)
  have i1 : isP (jo d + 3 + 6 * 1) 216 := isPt (by decide)
  have i2 : isP (jo d + 3 + 6 * 2) 216 := isPt (by decide)
  unfold xVM
  first | refine x_aload_n d_J_prepare_0 rfl ?_ | refine x_aloadq_n d_J_prepare_0 rfl ?_
  refine x_iload_n d_J_prepare_1 rfl ?_
  refine xc_put (kc := 2) (j := 2) d_J_prepare_2 (hs.J _) (jo75 _) rfl (by decide) wf_J_20 (Or.inl rfl) (by first | rfl | assumption) rfl (fun _ _ => rfl) ?_
  first | refine x_aload_n d_J_prepare_5 rfl ?_ | refine x_aloadq_n d_J_prepare_5 rfl ?_
  refine x_iload_n d_J_prepare_6 rfl ?_
  refine xc_put (kc := 2) (j := 3) d_J_prepare_7 (hs.J _) (jo75 _) rfl (by decide) wf_J_24 (Or.inl rfl) (by first | rfl | assumption) rfl (fun _ _ => rfl) ?_
  first | refine x_aload_n d_J_prepare_10 rfl ?_ | refine x_aloadq_n d_J_prepare_10 rfl ?_
  refine x_iload_n d_J_prepare_11 rfl ?_
  refine xc_put (kc := 2) (j := 4) d_J_prepare_12 (hs.J _) (jo75 _) rfl (by decide) wf_J_28 (Or.inl rfl) (by first | rfl | assumption) rfl (fun _ _ => rfl) ?_
  refine x_iconst (v := nI 0) d_J_prepare_15 (by decide) ?_
  refine x_istore d_J_prepare_16 (by decide) ?_
  refine x_iload d_J_prepare_18 rfl ?_
  refine x_iconst (v := nI 3) d_J_prepare_20 (by decide) ?_
  refine x_icmp_ge_f 41 d_J_prepare_21 (by decide) ((by decide)) ?_
  first | refine x_aload_n d_J_prepare_24 rfl ?_ | refine x_aloadq_n d_J_prepare_24 rfl ?_
  refine xc_ref (kc := 2) (j := 0) d_J_prepare_25 (hs.J _) ⟨jo1 _, by decide⟩ rfl (by decide) wf_J_11 (fun _ _ => rfl) (hs.J2 _).1 ?_
  refine x_iload d_J_prepare_28 rfl ?_
  first | refine xc_aaW d_J_prepare_30 hs (by first | assumption | omega) ?_ | refine xc_aaC d_J_prepare_30 hs (by first | assumption | omega) ?_ | refine xc_aaM d_J_prepare_30 hs (by first | assumption | omega) ?_ | refine xc_aaR d_J_prepare_30 hs (by first | assumption | omega) ?_ | refine xc_aaT d_J_prepare_30 hs (by first | assumption | omega) ?_ | refine xc_aaO d_J_prepare_30 hs (by first | assumption | omega) ?_
  refine x_iconst (v := nI 0) d_J_prepare_31 (by decide) ?_
  refine xc_put (kc := 3) (j := 2) d_J_prepare_32 (hs.P (by assumption)) (P75 (by assumption)) rfl (by decide) wf_J_34 (Or.inl rfl) (by first | rfl | assumption) rfl (fun _ _ => rfl) ?_
  first | refine x_incN d_J_prepare_35 rfl (by decide) ?_ | refine x_inc d_J_prepare_35 rfl (by decide) ?_
  refine x_goto (tgt := 18) d_J_prepare_38 (by decide) ?_
  rw [show nI (0 + 1) = nI 1 from rfl]
  refine x_iload d_J_prepare_18 rfl ?_
  refine x_iconst (v := nI 3) d_J_prepare_20 (by decide) ?_
  refine x_icmp_ge_f 41 d_J_prepare_21 (by decide) ((by decide)) ?_
  first | refine x_aload_n d_J_prepare_24 rfl ?_ | refine x_aloadq_n d_J_prepare_24 rfl ?_
  refine xc_ref (kc := 2) (j := 0) d_J_prepare_25 (hs.J _) ⟨jo1 _, by decide⟩ rfl (by decide) wf_J_11 (fun _ _ => rfl) (hs.J2 _).1 ?_
  refine x_iload d_J_prepare_28 rfl ?_
  first | refine xc_aaW d_J_prepare_30 hs (by first | assumption | omega) ?_ | refine xc_aaC d_J_prepare_30 hs (by first | assumption | omega) ?_ | refine xc_aaM d_J_prepare_30 hs (by first | assumption | omega) ?_ | refine xc_aaR d_J_prepare_30 hs (by first | assumption | omega) ?_ | refine xc_aaT d_J_prepare_30 hs (by first | assumption | omega) ?_ | refine xc_aaO d_J_prepare_30 hs (by first | assumption | omega) ?_
  refine x_iconst (v := nI 0) d_J_prepare_31 (by decide) ?_
  refine xc_put (kc := 3) (j := 2) d_J_prepare_32 (hs.P (by assumption)) (P75 (by assumption)) rfl (by decide) wf_J_34 (Or.inl rfl) (by first | rfl | assumption) rfl (fun _ _ => rfl) ?_
  first | refine x_incN d_J_prepare_35 rfl (by decide) ?_ | refine x_inc d_J_prepare_35 rfl (by decide) ?_
  refine x_goto (tgt := 18) d_J_prepare_38 (by decide) ?_
  rw [show nI (1 + 1) = nI 2 from rfl]
  refine x_iload d_J_prepare_18 rfl ?_
  refine x_iconst (v := nI 3) d_J_prepare_20 (by decide) ?_
  refine x_icmp_ge_f 41 d_J_prepare_21 (by decide) ((by decide)) ?_
  first | refine x_aload_n d_J_prepare_24 rfl ?_ | refine x_aloadq_n d_J_prepare_24 rfl ?_
  refine xc_ref (kc := 2) (j := 0) d_J_prepare_25 (hs.J _) ⟨jo1 _, by decide⟩ rfl (by decide) wf_J_11 (fun _ _ => rfl) (hs.J2 _).1 ?_
  refine x_iload d_J_prepare_28 rfl ?_
  first | refine xc_aaW d_J_prepare_30 hs (by first | assumption | omega) ?_ | refine xc_aaC d_J_prepare_30 hs (by first | assumption | omega) ?_ | refine xc_aaM d_J_prepare_30 hs (by first | assumption | omega) ?_ | refine xc_aaR d_J_prepare_30 hs (by first | assumption | omega) ?_ | refine xc_aaT d_J_prepare_30 hs (by first | assumption | omega) ?_ | refine xc_aaO d_J_prepare_30 hs (by first | assumption | omega) ?_
  refine x_iconst (v := nI 0) d_J_prepare_31 (by decide) ?_
  refine xc_put (kc := 3) (j := 2) d_J_prepare_32 (hs.P (by assumption)) (P75 (by assumption)) rfl (by decide) wf_J_34 (Or.inl rfl) (by first | rfl | assumption) rfl (fun _ _ => rfl) ?_
  first | refine x_incN d_J_prepare_35 rfl (by decide) ?_ | refine x_inc d_J_prepare_35 rfl (by decide) ?_
  refine x_goto (tgt := 18) d_J_prepare_38 (by decide) ?_
  rw [show nI (2 + 1) = nI 3 from rfl]
  refine x_iload d_J_prepare_18 rfl ?_
  refine x_iconst (v := nI 3) d_J_prepare_20 (by decide) ?_
  refine x_icmp_ge_t (tgt := 41) d_J_prepare_21 (by decide) ((by decide)) ?_
  refine x_vret d_J_prepare_41 rfl ?_
  exact ⟨rfl, by rw [tq_0]; rfl⟩
theorem c_J_take (hs : CSh h0 z) {D : Nat → Nat → Int32} {Q : Nat → List KV} {P : List KV} {r : Nat} (hP6 : P.length ≤ 6) (hr : D (jo b) 3 = nI r) (hr3 : r ≤ 3) (hQ : ∀ i, i < 3 → (Q i).length + P.length ≤ 216) :
    xVM l G 2 43 m_J_take [.ref (z + jo b), .ref (z + 5)] (cset z (tqS (pqS D 5 P) b Q) b tk h0) (fun q h' => q = .inl none ∧ h' = cset z (tqS (pqS D 5 P) b (tkQ (max r 1) Q P)) b tk h0) := by
  have ho : isP 5 6 := Or.inl ⟨rfl, rfl⟩
  have hj := jo_lt b
  have r1 : 0 < max r 1 := by omega
  have lp : ∀ (B A : List KV) (R : Nat → List KV), A ++ B = P → (∀ i, i < 3 → (R i).length + B.length ≤ 216) → xV l G 2 43 m_J_take 2 [(2, .int (nI A.length)), (0, .ref (z + jo b)), (1, .ref (z + 5))] [] (cset z (tqS (pqS D 5 P) b R) b tk h0) (fun q h' => q = .inl none ∧ h' = cset z (tqS (pqS D 5 P) b (tkQ (max r 1) R B)) b tk h0) := by
    intro B
    induction B with
    | nil =>
      intro A R hA hR
      rw [List.append_nil] at hA
      subst hA
      refine x_iload_n d_J_take_2 rfl ?_
      first | refine x_aload_n d_J_take_3 rfl ?_ | refine x_aloadq_n d_J_take_3 rfl ?_
      refine xc_get (kc := 3) (j := 2) d_J_take_4 (hs.P (by assumption)) (P75 (by assumption)) rfl (by decide) wf_J_34 (fun _ _ => rfl) ?_
      rw [tq_out (by omega), pq_n]
      refine x_icmp_ge_t (tgt := 46) d_J_take_7 (by decide) ((nI_le (by omega) (by omega))) ?_
      refine x_vret d_J_take_46 rfl ?_
      exact ⟨rfl, rfl⟩
    | cons x B ih =>
      intro A R hA hR
      have hl : A.length < P.length := by rw [← hA]; simp
      have hl6 : A.length < 6 := by omega
      have ek : tqS (pqS D 5 P) b R (5 + 1) A.length = x.1 := by rw [tq_out (by omega), ← hA]; exact pq_key
      have ev : tqS (pqS D 5 P) b R (5 + 2) A.length = x.2 := by rw [tq_out (by omega), ← hA]; exact pq_val
      have p3 : pt (max r 1) x.1 < 3 := by have := pt_lt r1 x.1; omega
      have hRp := hR _ p3
      rw [List.length_cons] at hRp
      have nx := ih (A ++ [x]) (upQ R (pt (max r 1) x.1) (insB x (R (pt (max r 1) x.1)))) (by rw [← hA]; simp) (fun i hi => by
        have := hR i hi
        rw [List.length_cons] at this
        unfold upQ
        split
        · rename_i e; rw [insB_len, ← e]; omega
        · omega)
      rw [List.length_append, List.length_singleton] at nx
      have i3 : isP (jo b + 3 + 6 * pt (max r 1) x.1) 216 := isPt p3
      refine x_iload_n d_J_take_2 rfl ?_
      first | refine x_aload_n d_J_take_3 rfl ?_ | refine x_aloadq_n d_J_take_3 rfl ?_
      refine xc_get (kc := 3) (j := 2) d_J_take_4 (hs.P (by assumption)) (P75 (by assumption)) rfl (by decide) wf_J_34 (fun _ _ => rfl) ?_
      rw [tq_out (by omega), pq_n]
      refine x_icmp_ge_f 46 d_J_take_7 (by decide) ((nI_ge hl (by omega))) ?_
      first | refine x_aload_n d_J_take_10 rfl ?_ | refine x_aloadq_n d_J_take_10 rfl ?_
      refine xc_ref (kc := 2) (j := 0) d_J_take_11 (hs.J _) ⟨jo1 _, by decide⟩ rfl (by decide) wf_J_11 (fun _ _ => rfl) (hs.J2 _).1 ?_
      first | refine x_aload_n d_J_take_14 rfl ?_ | refine x_aloadq_n d_J_take_14 rfl ?_
      first | refine x_aload_n d_J_take_15 rfl ?_ | refine x_aloadq_n d_J_take_15 rfl ?_
      refine xc_ref (kc := 3) (j := 0) d_J_take_16 (hs.P (by assumption)) ⟨P1 (by assumption), by decide⟩ rfl (by decide) wf_J_46 (fun _ _ => rfl) (hs.P2 (by assumption)).1 ?_
      refine x_iload_n d_J_take_19 rfl ?_
      first | refine xc_aldK d_J_take_20 hs (by assumption) (by first | assumption | omega) ?_ | refine xc_aldV d_J_take_20 hs (by assumption) (by first | assumption | omega) ?_ | refine xc_aldN d_J_take_20 hs (by first | assumption | omega) (by first | assumption | omega) ?_
      rw [ek]
      refine x_callV (M' := m_J_partitionOf) (As := [_]) (fr' := 1) (wd' := 22) d_J_take_21 (hs.J _) rfl pl_J_partitionOf rfl (Nat.le_of_ble_eq_true rfl) (by decide) (by decide) wc_J_partitionOf wi_J wl_J_50 wm_J_partitionOf we_J_partitionOf (by decide) np_J_partitionOf (Nat.le_of_ble_eq_true rfl) (fun q hq => by cases hq) (c_J_partitionOf hs _ (r := r) (by rw [tq_out (by omega), pq_k (by omega)]; exact hr) hr3) (fun k a h1 q => by cases q.1) (fun v h1 q => ?_)
      obtain ⟨q1, rfl⟩ := q
      cases q1
      first | refine xc_aaW d_J_take_24 hs (by first | assumption | omega) ?_ | refine xc_aaC d_J_take_24 hs (by first | assumption | omega) ?_ | refine xc_aaM d_J_take_24 hs (by first | assumption | omega) ?_ | refine xc_aaR d_J_take_24 hs (by first | assumption | omega) ?_ | refine xc_aaT d_J_take_24 hs (by first | assumption | omega) ?_ | refine xc_aaO d_J_take_24 hs (by first | assumption | omega) ?_
      first | refine x_aload_n d_J_take_25 rfl ?_ | refine x_aloadq_n d_J_take_25 rfl ?_
      refine xc_ref (kc := 3) (j := 0) d_J_take_26 (hs.P (by assumption)) ⟨P1 (by assumption), by decide⟩ rfl (by decide) wf_J_46 (fun _ _ => rfl) (hs.P2 (by assumption)).1 ?_
      refine x_iload_n d_J_take_29 rfl ?_
      first | refine xc_aldK d_J_take_30 hs (by assumption) (by first | assumption | omega) ?_ | refine xc_aldV d_J_take_30 hs (by assumption) (by first | assumption | omega) ?_ | refine xc_aldN d_J_take_30 hs (by first | assumption | omega) (by first | assumption | omega) ?_
      rw [ek]
      first | refine x_aload_n d_J_take_31 rfl ?_ | refine x_aloadq_n d_J_take_31 rfl ?_
      refine xc_ref (kc := 3) (j := 1) d_J_take_32 (hs.P (by assumption)) ⟨P1 (by assumption), by decide⟩ rfl (by decide) wf_J_54 (fun _ _ => rfl) (hs.P2 (by assumption)).2.1 ?_
      refine x_iload_n d_J_take_35 rfl ?_
      first | refine xc_aldK d_J_take_36 hs (by assumption) (by first | assumption | omega) ?_ | refine xc_aldV d_J_take_36 hs (by assumption) (by first | assumption | omega) ?_ | refine xc_aldN d_J_take_36 hs (by first | assumption | omega) (by first | assumption | omega) ?_
      rw [ev]
      rw [show tqS (pqS D 5 P) b R = pqS (tqS (pqS D 5 P) b R) (jo b + 3 + 6 * pt (max r 1) x.1) (R (pt (max r 1) x.1)) from (tq_id p3).symm]
      refine x_callV (M' := m_P_insertByKey) (As := [_, _]) (fr' := 0) (wd' := 0) d_J_take_37 (hs.P (by assumption)) rfl pl_P_insertByKey rfl (Nat.le_of_ble_eq_true rfl) (by decide) (by decide) wc_P_insertByKey wi_P wl_J_57 wm_P_insertByKey we_P_insertByKey (by decide) np_P_insertByKey (Nat.le_of_ble_eq_true rfl) (fun q hq => by cases hq) (c_ins hs i3 _ _ (by omega)) (fun k a h1 q => by cases q.1) (fun v h1 q => ?_)
      obtain ⟨q1, rfl⟩ := q
      cases q1
      first | refine x_incN d_J_take_40 rfl (by decide) ?_ | refine x_inc d_J_take_40 rfl (by decide) ?_
      refine x_goto (tgt := 2) d_J_take_43 (by decide) ?_
      rw [tq_pq p3 (by rw [insB_len]; omega)]
      refine xV.loc (nx) (by repeat (first | exact trivial | refine ⟨rfl, ?_⟩))
  have this := lp P [] Q rfl hQ
  unfold xVM
  refine x_iconst (v := nI 0) d_J_take_0 (by decide) ?_
  refine x_istore_n d_J_take_1 (by decide) ?_
  refine xV.loc (this) (by repeat (first | exact trivial | refine ⟨rfl, ?_⟩))
end XC6
