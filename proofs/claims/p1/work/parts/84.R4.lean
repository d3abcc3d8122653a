theorem PL.self {C : Nat → Nat → Int32} {o : Nat} {q : List KV} : PL (pqS C o q) o q := by
  funext k j
  by_cases h1 : k = o + 1
  · subst h1
    unfold pqS
    rw [if_pos rfl, if_pos rfl]
    cases q[j]? <;> rfl
  · by_cases h2 : k = o + 2
    · subst h2
      unfold pqS
      rw [if_neg (by omega), if_pos rfl, if_neg (by omega), if_pos rfl]
      cases q[j]? <;> rfl
    · by_cases h3 : k = o ∧ j = 2
      · obtain ⟨rfl, rfl⟩ := h3; rw [pq_n, pq_n]
      · rw [pq_k ⟨h1, h2, h3⟩]
section XR4
variable {S T C D : Nat → Nat → Int32} {tk tk' : Nat → Option Nat} {b : Bool} {c r np : Nat} {q : List KV} {Q : Nat → List KV}
/-- what stands still -/
def stS9 (S T C D : Nat → Nat → Int32) : Prop := (∀ k, k = 1 ∨ k = 8 ∨ k = 9 ∨ k = 10 ∨ k = 11 ∨ k = 12 → T k = S k) ∧ (∀ j, j = 16 ∨ j = 18 ∨ j = 19 ∨ j = 20 → T 0 j = S 0 j) ∧ ∀ k j, (8 ≤ k ∧ k < 50) ∨ 56 ≤ k → D k j = C k j
theorem RJ.st (h : RJ S C tk b c r np q Q) (e : stS9 S T C D) : RD T D b ∧ RE T D np c r ∧ RQ T q Q np ∧ RG T D b Q r := by
  obtain ⟨hS, h0, hC⟩ := e
  obtain ⟨-, -, ⟨d1, d2, d3⟩, hE, -, ⟨q1, q2, q3, q4⟩, hG, hT, hI⟩ := h
  have hj := jo_lt b
  have hc6 := hI.2.2.1.2
  have hr3 := hI.2.2.2.1.2
  refine ⟨⟨?_, ?_, ?_⟩, fun t ht => ?_, ⟨fun i hi => ?_, q2, q3, fun p hp => ?_⟩, fun p hp e => ?_⟩
  · rw [hC _ _ (by omega), h0 _ (by omega)]; exact d1
  · rw [h0 _ (by omega)]; exact d2
  · rw [hC _ _ (by omega), h0 _ (by omega)]; exact d3
  · have ta := taddr_lt (inr_tok hc6 hr3 ht)
    have nd : nds T np t = nds S np t := nds_congr (hS 1 (by omega)) (hS 12 (by omega)) (hS 10 (by omega)) (h0 20 (by omega)) (h0 19 (by omega)) np t
    have rn : rns T t = rns S t := by unfold rns; rw [hS 12 (by omega), h0 20 (by omega)]
    rw [hC _ _ (by omega), hC _ _ (by omega), hC _ _ (by omega), hS 8 (by omega), hS 9 (by omega), nd, rn]
    exact hE t ht
  · rw [hS 10 (by omega), hS 11 (by omega)]; exact q1 i hi
  · rw [q4 p hp]
    unfold inP
    rw [h0 19 (by omega)]
  · rw [hS 8 (by omega)] at e
    obtain ⟨l, g1, g2⟩ := hG p hp e
    exact ⟨l, by rw [h0 18 (by omega), h0 16 (by omega)]; exact g1, g2.keep (fun k j hk => hC k j (by omega))⟩
theorem RJ.mk (h : RJ S C tk b c r np q Q) (e : stS9 S T C D) (hW : RW T D tk') (hK : RK T D) (hH : RH T tk' c r) (hT : TI T c r np) (hI : CI D tk' b Q c r) : RJ T D tk' b c r np q Q := by
  obtain ⟨a, b', c', d⟩ := h.st e
  exact ⟨hW, hK, a, b', hH, c', d, hT, hI⟩
/-- a count on both sides -/
theorem RJ.cnt (h : RJ S C tk b c r np q Q) {i j : Nat} (hij : (i = 21 ∧ j = 11) ∨ (i = 23 ∧ j = 13)) : RJ (xu S 0 i (S 0 i + nI 1)) (xu C 0 j (C 0 j + nI 1)) tk b c r np q Q := by
  have hj := jo_lt b
  have e0 : ∀ n, n ≠ i → xu S 0 i (S 0 i + nI 1) 0 n = S 0 n := fun n hn => xu_j _ _ _ _ hn
  have c0 : ∀ k n, ¬ (k = 0 ∧ n = j) → xu C 0 j (C 0 j + nI 1) k n = C k n := fun k n hn => if_neg hn
  have ek : ∀ k, k ≠ 0 → xu S 0 i (S 0 i + nI 1) k = S k := fun k hk => xu_k _ _ _ hk
  obtain ⟨k1, k2, k3, k4, k5, k6⟩ := h.2.1
  refine h.mk ⟨fun k hk => ek k (by omega), fun n hn => e0 n (by omega), fun k n hk => c0 k n (by omega)⟩ (fun w hw => ?_) ?_ (fun w t hw e => ?_) ?_ ?_
  · rw [c0 _ _ (by omega), c0 _ _ (by omega), c0 _ _ (by omega), c0 _ _ (by omega), ek 7 (by omega), ek 3 (by omega), ek 4 (by omega), ek 5 (by omega), ek 6 (by omega)]
    exact h.1 w hw
  · rcases hij with ⟨rfl, rfl⟩ | ⟨rfl, rfl⟩
    · refine ⟨?_, ?_, ?_, ?_, ?_, ?_⟩
      · rw [c0 _ _ (by omega), e0 _ (by omega)]; exact k1
      · rw [c0 _ _ (by omega), e0 _ (by omega)]; exact k2
      · rw [xu_s, xu_s, k3]
      · rw [c0 _ _ (by omega), e0 _ (by omega)]; exact k4
      · rw [c0 _ _ (by omega), e0 _ (by omega)]; exact k5
      · rw [c0 _ _ (by omega), e0 _ (by omega)]; exact k6
    · refine ⟨?_, ?_, ?_, ?_, ?_, ?_⟩
      · rw [c0 _ _ (by omega), e0 _ (by omega)]; exact k1
      · rw [c0 _ _ (by omega), e0 _ (by omega)]; exact k2
      · rw [c0 _ _ (by omega), e0 _ (by omega)]; exact k3
      · rw [c0 _ _ (by omega), e0 _ (by omega)]; exact k4
      · rw [xu_s, xu_s, k5]
      · rw [c0 _ _ (by omega), e0 _ (by omega)]; exact k6
  · rw [ek 8 (by omega), ek 5 (by omega)]; exact h.2.2.2.2.1 w t hw e
  · exact h.2.2.2.2.2.2.2.1.xu0 (by omega) _
  · exact h.2.2.2.2.2.2.2.2.keep (fun k n e => c0 k n (by unfold prt at e; omega)) (fun w t hw e => Or.inl e)
/-- worker w takes task t -/
theorem RJ.take (h : RJ S C tk b c r np q Q) {w t : Nat} (hw : w < 4) (ht : inr c r t) (h8 : S 8 t = 0) : RJ (xu (xu S 4 w (nI t)) 5 w (nds S np t)) (xu C (50 + w) 3 (C (taddr t) 2)) (xr tk w (some t)) b c r np q Q := by
  have hj := jo_lt b
  obtain ⟨hc6, hr3, htk⟩ := h.c6
  have ek : ∀ k, k ≠ 4 → k ≠ 5 → xu (xu S 4 w (nI t)) 5 w (nds S np t) k = S k := fun k h4 h5 => by rw [xu_k _ _ _ h5, xu_k _ _ _ h4]
  have c0 : ∀ k n, ¬ (k = 50 + w ∧ n = 3) → xu C (50 + w) 3 (C (taddr t) 2) k n = C k n := fun k n hn => if_neg hn
  obtain ⟨-, -, t2, ⟨u, hu, hu1, hu2⟩, -⟩ := h.2.2.2.1 t ht
  have s4 : ∀ v, xu (xu S 4 w (nI t)) 5 w (nds S np t) 4 v = if v = w then nI t else S 4 v := fun v => by
    rw [xu_k _ _ _ (by omega)]
    by_cases e : v = w
    · subst e; rw [xu_s, if_pos rfl]
    · rw [xu_j _ _ _ _ e, if_neg e]
  have s5 : ∀ v, xu (xu S 4 w (nI t)) 5 w (nds S np t) 5 v = if v = w then nds S np t else S 5 v := fun v => by
    by_cases e : v = w
    · subst e; rw [xu_s, if_pos rfl]
    · rw [xu_j _ _ _ _ e, if_neg e, xu_k _ _ _ (by omega)]
  refine h.mk ⟨fun k hk => ek k (by omega) (by omega), fun n _ => congrFun (ek 0 (by omega) (by omega)) n, fun k n hk => c0 k n (by omega)⟩ (fun v hv => ?_) ?_ (fun v s hv e => ?_) ?_ ?_
  · obtain ⟨a1, a2, a3, a4, a5, a6⟩ := h.1 v hv
    rw [c0 _ _ (by omega), c0 _ _ (by omega), c0 _ 4 (by omega), ek 7 (by omega) (by omega), ek 3 (by omega) (by omega), ek 6 (by omega) (by omega), s4, s5]
    refine ⟨a1, a2, ?_, ?_, a5, a6⟩
    · by_cases e : v = w
      · subst e; rw [if_pos rfl, xr_s]; rfl
      · rw [if_neg e, xr_n _ _ e]; exact a3
    · by_cases e : v = w
      · subst e; rw [if_pos rfl, xu_s]; exact t2
      · rw [if_neg e, c0 _ _ (by omega)]; exact a4
  · obtain ⟨k1, k2, k3, k4, k5, k6⟩ := h.2.1
    unfold RK
    rw [c0 _ _ (by omega), c0 _ _ (by omega), c0 _ _ (by omega), c0 _ _ (by omega), c0 _ _ (by omega), c0 _ _ (by omega), ek 0 (by omega) (by omega)]
    exact ⟨k1, k2, k3, k4, k5, k6⟩
  · rw [ek 8 (by omega) (by omega), s5]
    by_cases ev : v = w
    · subst ev
      rw [xr_s] at e
      obtain rfl : t = s := Option.some.inj e
      rw [if_pos rfl]
      exact ⟨ht, h8, u, hu, hu1, hu2⟩
    · rw [xr_n _ _ ev] at e
      rw [if_neg ev]
      exact h.2.2.2.2.1 v s hv e
  · refine h.2.2.2.2.2.2.2.1.keep (ek 10 (by omega) (by omega)) (congrFun (ek 0 (by omega) (by omega)) _) (congrFun (ek 0 (by omega) (by omega)) _) (congrFun (ek 0 (by omega) (by omega)) _) (congrFun (ek 0 (by omega) (by omega)) _) (fun v hv => ?_)
    rw [s4]
    by_cases ev : v = w
    · rw [if_pos ev]; exact Or.inr (Or.inr ⟨t, rfl, ht⟩)
    · rw [if_neg ev]; exact Or.inr (Or.inl rfl)
  · refine h.2.2.2.2.2.2.2.2.keep (fun k n e => c0 k n (by unfold prt at e; omega)) (fun v s hv e => ?_)
    by_cases ev : v = w
    · subst ev
      rw [xr_s] at e
      obtain rfl : t = s := Option.some.inj e
      exact Or.inr ht
    · rw [xr_n _ _ ev] at e; exact Or.inl e
theorem sec_8 {S : Nat → Nat → Int32} {fm : Nat} : ∀ {n j : Nat}, sec S fm n = some j → S 8 j = 0
  | 0, j, h => by cases h
  | n + 1, j, h => by
    unfold sec at h
    split at h
    · rename_i g; cases h; exact g.2.1
    · exact sec_8 h
theorem gch_8 {S : Nat → Nat → Int32} {md : Bool} {fm to w t : Nat} (h : gch md (lst (frs S fm) to) (lst (frh S fm w) to) (sec S fm to) = some t) : S 8 t = 0 := by
  have a1 : ∀ j, lst (frs S fm) to = some j → S 8 j = 0 := fun j hj => (of_decide_eq_true (lst_lt hj).2).2.1
  have a2 : ∀ j, lst (frh S fm w) to = some j → S 8 j = 0 := fun j hj => (of_decide_eq_true (Bool.and_eq_true_iff.mp (lst_lt hj).2).1).2.1
  cases hF : lst (frs S fm) to with
  | none => rw [hF] at h; exact sec_8 h
  | some f =>
    rw [hF] at h
    cases md with
    | true => obtain rfl : f = t := Option.some.inj h; exact a1 f hF
    | false =>
      cases hH : lst (frh S fm w) to with
      | none => rw [hH] at h; obtain rfl : f = t := Option.some.inj h; exact a1 f hF
      | some g => rw [hH] at h; obtain rfl : g = t := Option.some.inj h; exact a2 g hH
theorem RJ.gt1 (h : RJ S C tk b c r np q Q) {w : Nat} (hw : w < 4) {F o : Option Nat} (ho : ∀ t, o = some t → inr c r t ∧ S 8 t = 0) : RJ (gput S np w F o) (gvP C tk w (o, decide (F = none))).1 (gvP C tk w (o, decide (F = none))).2 b c r np q Q := by
  cases o with
  | none => exact h
  | some t =>
    obtain ⟨h1, h2⟩ := ho t rfl
    have ta := taddr_lt (inr_tok h.c6.1 h.c6.2.1 h1)
    by_cases hF : F = none
    · have hh := (h.cnt (i := 23) (j := 13) (Or.inr ⟨rfl, rfl⟩)).take hw h1 (by rw [xu_k _ _ _ (by omega)]; exact h2)
      have e1 : nds (xu S 0 23 (S 0 23 + nI 1)) np t = nds S np t := nds_congr (xu_k _ _ _ (by omega)) (xu_k _ _ _ (by omega)) (xu_k _ _ _ (by omega)) (xu_j _ _ _ _ (by omega)) (xu_j _ _ _ _ (by omega)) np t
      have e2 : xu C 0 13 (C 0 13 + nI 1) (taddr t) 2 = C (taddr t) 2 := if_neg (by omega)
      rw [e1, e2] at hh
      have g1 : gput S np w F (some t) = xu (xu (xu S 0 23 (S 0 23 + nI 1)) 4 w (nI t)) 5 w (nds S np t) := by unfold gput; rw [if_pos hF]
      have g2 : gvP C tk w (some t, decide (F = none)) = (xu (xu C 0 13 (C 0 13 + nI 1)) (50 + w) 3 (C (taddr t) 2), xr tk w (some t)) := by rw [decide_eq_true hF]; rfl
      rw [g1, g2]
      exact hh
    · have hh := h.take hw h1 h2
      have g1 : gput S np w F (some t) = xu (xu S 4 w (nI t)) 5 w (nds S np t) := by unfold gput; rw [if_neg hF]
      have g2 : gvP C tk w (some t, decide (F = none)) = (xu C (50 + w) 3 (C (taddr t) 2), xr tk w (some t)) := by rw [decide_eq_false hF]; rfl
      rw [g1, g2]
      exact hh
theorem RJ.gt (h : RJ S C tk b c r np q Q) {w : Nat} (hw : w < 4) : RJ (gtS S c r np w) (gvC C tk c r w).1 (gvC C tk c r w).2 b c r np q Q := by
  have eF := h.gf w
  unfold gvC
  rw [eF]
  cases hm : mdn S c with
  | true =>
    have e2 : gtS S c r np w = gput S np w (lst (frs S 8) (8 + r)) (gch true (lst (frs S 8) (8 + r)) (lst (frh S 8 w) (8 + r)) (sec S 8 (8 + r))) := by unfold gtS; rw [hm]; rfl
    rw [e2, if_pos rfl]
    exact h.gt1 hw (fun t ht => ⟨Or.inr (gch_rng ht), gch_8 ht⟩)
  | false =>
    have e2 : gtS S c r np w = gput S np w (lst (frs S 0) c) (gch false (lst (frs S 0) c) (lst (frh S 0 w) c) (sec S 0 c)) := by unfold gtS; rw [hm]; rfl
    rw [e2, if_neg Bool.false_ne_true]
    exact h.gt1 hw (fun t ht => ⟨Or.inl (gch_rng ht).2, gch_8 ht⟩)
end XR4
