section XR12
variable {S T C D : Nat → Nat → Int32} {tk tk' : Nat → Option Nat} {b : Bool} {c : Nat} {sz : Nat → Nat}
theorem RO.k (h : RO S C b) (e13 : T 13 = S 13) (e14 : T 14 = S 14) (e15 : T 15 = S 15) (e25 : T 0 25 = S 0 25) (cf : ∀ k j, jo (!b) ≤ k → k < jo (!b) + 21 → D k j = C k j) : RO T D b := by
  obtain ⟨ro, O, h1, h2, h3, h4, h5, h6⟩ := h
  refine ⟨ro, O, e25.trans h1, (cf _ _ (by omega) (by omega)).trans h2, h3, fun g => (cf _ _ (by omega) (by omega)).trans (h4 g), fun p hp => ?_, fun p hp => ⟨(h6 p hp).1.keep (fun k j e => cf k j (by omega) (by omega)), (h6 p hp).2⟩⟩
  rw [e15, e13, e14]
  exact h5 p hp
theorem RA.chunk (h : RA S C tk b c sz) (j0 : S 0 26 = 0) (c6 : c < 6) (x : Int64) {f : Int32} (hf : -1000 ≤ f ∧ f ≤ nI 1000) {N : Nat} (hN1 : 1 ≤ N) (hN : N ≤ 6) : RA (xu (xu (ckL (xu S 0 14 (nI 0)) c x f N) 1 c (nI N)) 0 13 (nI (c + 1))) (chC C c x f N) tk b (c + 1) (fun t => if t = c then N else sz t) := by
  have hu : C 0 7 = 0 := h.2.2.2.2.2.1.1.trans j0
  have hV := h.2.1.chunk c6 hu x hf hN
  have hb := jo_dis b
  have e1 : ∀ t, xu (xu (ckL (xu S 0 14 (nI 0)) c x f N) 1 c (nI N)) 0 13 (nI (c + 1)) 1 t = if t = c then nI N else S 1 t := fun t => by
    rw [xu_k _ _ _ (by decide)]
    by_cases e : t = c
    · subst e; rw [xu_s, if_pos rfl]
    · rw [xu_j _ _ _ _ e, if_neg e, ckL_k (by decide), xu_k _ _ _ (by decide)]
  have e2 : ∀ j, xu (xu (ckL (xu S 0 14 (nI 0)) c x f N) 1 c (nI N)) 0 13 (nI (c + 1)) 2 j = if c * 6 ≤ j ∧ j < c * 6 + N then bval x f (j - c * 6) else S 2 j := fun j => by
    rw [xu_k _ _ _ (by decide), xu_k _ _ _ (by decide)]
    show (if 2 = 2 ∧ c * 6 ≤ j ∧ j < c * 6 + N then bval x f (j - c * 6) else xu S 0 14 (nI 0) 2 j) = _
    rw [xu_k _ _ _ (by decide)]
    by_cases q : c * 6 ≤ j ∧ j < c * 6 + N
    · rw [if_pos ⟨rfl, q⟩, if_pos q]
    · rw [if_neg (fun w => q w.2), if_neg q]
  have e0 : ∀ j, j ≠ 13 → j ≠ 14 → xu (xu (ckL (xu S 0 14 (nI 0)) c x f N) 1 c (nI N)) 0 13 (nI (c + 1)) 0 j = S 0 j := fun j h1 h2 => by
    rw [xu_j _ _ _ _ h1, xu_k _ _ _ (by decide), ckL_k (by decide), xu_j _ _ _ _ h2]
  have ek : ∀ k, k ≠ 0 → k ≠ 1 → k ≠ 2 → xu (xu (ckL (xu S 0 14 (nI 0)) c x f N) 1 c (nI N)) 0 13 (nI (c + 1)) k = S k := fun k h0 h1 h2 => by
    rw [xu_k _ _ _ h0, xu_k _ _ _ h1, ckL_k h2, xu_k _ _ _ h0]
  have ck : ∀ k j, ¬ (k = 0 ∧ j = 8) → k ≠ 55 + 3 * c → ¬ (k = 54 + 3 * c ∧ j = 1) → chC C c x f N k j = C k j := fun k j g1 g2 g3 => by
    unfold chC
    rw [show ∀ (F : Nat → Nat → Int32) v, xu F 0 8 v k j = F k j from fun F v => if_neg g1]
    show (if k = 55 + 3 * c ∧ j < N then bval x f j else xu C (54 + 3 * c) 1 (nI N) k j) = _
    rw [if_neg (fun q => g2 q.1)]
    exact if_neg g3
  have c1 : chC C c x f N (54 + 3 * c) 1 = nI N := by
    unfold chC
    rw [show ∀ (F : Nat → Nat → Int32) v, xu F 0 8 v (54 + 3 * c) 1 = F (54 + 3 * c) 1 from fun F v => if_neg (by omega)]
    show (if 54 + 3 * c = 55 + 3 * c ∧ 1 < N then bval x f 1 else xu C (54 + 3 * c) 1 (nI N) (54 + 3 * c) 1) = _
    rw [if_neg (by omega), xu_s]
  have c2 : ∀ i, i < N → chC C c x f N (55 + 3 * c) i = bval x f i := fun i hi => by
    unfold chC
    rw [show ∀ (F : Nat → Nat → Int32) v, xu F 0 8 v (55 + 3 * c) i = F (55 + 3 * c) i from fun F v => if_neg (by omega)]
    exact if_pos ⟨rfl, hi⟩
  obtain ⟨⟨a1, a2, a3, a4, a5, a6⟩, -, hR, hO, hW, ⟨k1, k2, k3, k4, k5, k6⟩, -, hN0⟩ := h
  have j' : xu (xu (ckL (xu S 0 14 (nI 0)) c x f N) 1 c (nI N)) 0 13 (nI (c + 1)) 0 26 = 0 := (e0 _ (by omega) (by omega)).trans j0
  refine ⟨⟨xu_s _ _ _ _, by omega, fun t ht => ?_, fun t i ht hi => ?_, fun q => absurd j' q, rfl, rfl, ?_, ?_⟩, hV, fun t ht => ?_, ?_, ?_, ⟨?_, ?_, ?_, ?_, ?_, ?_⟩, fun q => absurd j' q, fun _ => hN0 j0⟩
  · dsimp only
    rw [e1]
    by_cases e : t = c
    · rw [if_pos e, if_pos e]; exact ⟨rfl, hN⟩
    · rw [if_neg e, if_neg e]; exact a3 t (by omega)
  · dsimp only at hi
    rw [e2]
    by_cases e : t = c
    · subst e
      rw [if_pos rfl] at hi
      rw [if_pos ⟨by omega, by omega⟩]
      exact bval_lt hf _
    · rw [if_neg e] at hi
      have s6 := (a3 t (by omega)).2
      rw [if_neg (by omega)]
      exact a4 t i (by omega) hi
  · rw [e0 _ (by decide) (by decide)]; exact a6.2.2.1
  · rw [ek 15 (by omega) (by omega) (by omega)]; exact a6.2.2.2
  · dsimp only
    by_cases e : t = c
    · subst e
      rw [if_pos rfl, e1, if_pos rfl, c1]
      refine ⟨hN1, rfl, fun i hi => ?_⟩
      rw [c2 i hi, e2, if_pos ⟨by omega, by omega⟩, Nat.add_sub_cancel_left]
    · obtain ⟨r1, r2, r3⟩ := hR t (by omega)
      have s6 := (a3 t (by omega)).2
      rw [if_neg e, e1, if_neg e, ck _ _ (by omega) (by omega) (by omega)]
      refine ⟨r1, r2, fun i hi => ?_⟩
      rw [ck _ _ (by omega) (by omega) (by omega), e2, if_neg (by omega)]
      exact r3 i hi
  · exact hO.k (ek 13 (by omega) (by omega) (by omega)) (ek 14 (by omega) (by omega) (by omega)) (ek 15 (by omega) (by omega) (by omega)) (e0 _ (by omega) (by omega)) (fun k j g1 g2 => ck k j (by omega) (by omega) (by omega))
  · exact hW.same (fun k hk => ek k (by omega) (by omega) (by omega)) (fun k j g1 g2 => ck k j (by omega) (by omega) (by omega))
  · rw [ck _ _ (by omega) (by omega) (by omega), e0 _ (by omega) (by omega)]; exact k1
  · rw [ck _ _ (by omega) (by omega) (by omega), e0 _ (by omega) (by omega)]; exact k2
  · rw [ck _ _ (by omega) (by omega) (by omega), e0 _ (by omega) (by omega)]; exact k3
  · rw [ck _ _ (by omega) (by omega) (by omega), e0 _ (by omega) (by omega)]; exact k4
  · rw [ck _ _ (by omega) (by omega) (by omega), e0 _ (by omega) (by omega)]; exact k5
  · rw [ck _ _ (by omega) (by omega) (by omega), e0 _ (by omega) (by omega)]; exact k6
theorem mp5 {m : Int32} (h : rng m 0 4) : m = nI 0 ∨ m = nI 1 ∨ m = nI 2 ∨ m = nI 3 ∨ m = nI 4 := by
  obtain ⟨n, rfl, -, h2⟩ := rng_of (by decide) (by decide) h
  rcases (by omega : n = 0 ∨ n = 1 ∨ n = 2 ∨ n = 3 ∨ n = 4) with rfl | rfl | rfl | rfl | rfl
  · exact Or.inl rfl
  · exact Or.inr (Or.inl rfl)
  · exact Or.inr (Or.inr (Or.inl rfl))
  · exact Or.inr (Or.inr (Or.inr (Or.inl rfl)))
  · exact Or.inr (Or.inr (Or.inr (Or.inr rfl)))
theorem RA.begin (h : RA S C tk b c sz) (hz : CZ C tk) (j0 : S 0 26 = 0) {m r : Int32} {P B : Nat} (hok : okb m r (nI P) (nI B)) (hP1 : 1 ≤ P) (hP3 : P ≤ 3) (hB2 : 2 ≤ B) (hB6 : B ≤ 6) {E' : Nat → Nat → Int32} (hE : AG E' (bgE C b sz m r P B c)) : RA (bg2 S c sz m r (nI P) (nI B)) (tqS E' b (bgQ C sz m P c)) tk b c sz := by
  have hM : MI (bg2 S c sz m r (nI P) (nI B)) c sz := by
    have g := h.1.begin m r (nI P) (nI B)
    by_cases cz : c = 0
    · obtain ⟨P', hP', -, -, hT⟩ := TI_begin h.1 hok
      refine h.1.of (hT.1.trans h.1.1.symm) (h.1.2.2.2.2.2.same ?_ ?_ ?_ ?_) (fun _ => ⟨_, _, hT⟩)
      · rw [bg2_k (by decide) (by decide) (by decide) (by decide), plS_k (by decide) (by decide) (by decide), pcS_k (by decide), bg1_k (by decide)]
      · rw [bg2_k (by decide) (by decide) (by decide) (by decide), plS_k (by decide) (by decide) (by decide), pcS_k (by decide), bg1_k (by decide)]
      · rw [bg2_s (by decide) (by decide), bg1_0 (by decide)]
      · rw [bg2_k (by decide) (by decide) (by decide) (by decide), plS_k (by decide) (by decide) (by decide), pcS_k (by decide), bg1_k (by decide)]
    · unfold bgS at g
      rw [if_pos hok, if_neg (by rintro (q | q); exact q j0; exact cz q)] at g
      exact g
  have hV := h.2.1.begin hP3 hE
  have hb := jo_dis b
  obtain ⟨⟨a1, a2, a3, a4, a5, a6⟩, ⟨⟨v1, ⟨v2, v2'⟩, v3, v4, v5⟩, v6, v7⟩, hR, hO, hW, ⟨k1, k2, k3, k4, k5, k6⟩, -, hN0⟩ := h
  have tn := hN0 j0
  have m5 := mp5 hok.1
  -- the class's cells
  have ck : ∀ k j, ¬ (jo b + 3 ≤ k ∧ k < jo b + 21 ∧ (k - (jo b + 3)) % 6 < 3) → k ≠ 5 → k ≠ 6 → k ≠ 7 → ¬ (k = 0 ∧ (j = 9 ∨ j = 7)) → ¬ (k = jo b ∧ (j = 2 ∨ j = 3 ∨ j = 4)) → ¬ (56 ≤ k ∧ (72 ≤ k ∨ k % 3 = 2) ∧ 2 ≤ j) → tqS E' b (bgQ C sz m P c) k j = C k j := by
    intro k j g1 g5 g6 g7 g2 g3 g4
    rw [show tqS E' b (bgQ C sz m P c) k j = E' k j from if_neg g1, hE k j g5 g6 g7, bgE_k v2' hP3 g2 g3 g4]
  have cE : ∀ k j, ¬ (jo b + 3 ≤ k ∧ k < jo b + 21) → k ≠ 5 → k ≠ 6 → k ≠ 7 → tqS E' b (bgQ C sz m P c) k j = bgE C b sz m r P B c k j := fun k j g1 g5 g6 g7 => by rw [tq_out g1, hE k j g5 g6 g7]
  have inj1 : ∀ s t, s < c → t < c → taddr s = taddr t → s = t := fun s t hs ht e => taddr_inj (by omega) (by omega) e
  have inj2 : ∀ s t, s < P → t < P → taddr (8 + s) = taddr (8 + t) → s = t := fun s t hs ht e => by have := taddr_inj (s := 8 + s) (t := 8 + t) (by omega) (by omega) e; omega
  have cM : ∀ t, t < c → tqS E' b (bgQ C sz m P c) (taddr t) 2 = nI 2 * nI (sz t) + rnsC m C sz B t ∧ tqS E' b (bgQ C sz m P c) (taddr t) 3 = rnsC m C sz B t ∧ tqS E' b (bgQ C sz m P c) (taddr t) 4 = -1 := fun t ht => by
    have ta := taddr_m (show tok t by omega)
    have nk : ∀ j, bgE C b sz m r P B c (taddr t) j = bgE1 C b sz m r P B c (taddr t) j := fun j => by
      unfold bgE
      exact rnw_keep _ (fun s hs g => by
        have := taddr_inj (s := t) (t := 8 + s) (by omega) (by omega) g.1
        omega)
    rw [cE _ _ (by omega) (by omega) (by omega) (by omega), cE _ _ (by omega) (by omega) (by omega) (by omega), cE _ _ (by omega) (by omega) (by omega) (by omega), nk, nk, nk]
    exact rnw_at c inj1 t ht
  have cR : ∀ p, p < P → tqS E' b (bgQ C sz m P c) (taddr (8 + p)) 2 = nI 1 + nI (bgQ C sz m P c p).length + nI 0 ∧ tqS E' b (bgQ C sz m P c) (taddr (8 + p)) 3 = nI 0 ∧ tqS E' b (bgQ C sz m P c) (taddr (8 + p)) 4 = -1 := fun p hp => by
    have ta := taddr_m (show tok (8 + p) by omega)
    rw [cE _ _ (by omega) (by omega) (by omega) (by omega), cE _ _ (by omega) (by omega) (by omega) (by omega), cE _ _ (by omega) (by omega) (by omega) (by omega)]
    exact rnw_at P inj2 p hp
  have cj : ∀ j, (j = 2 ∨ j = 3 ∨ j = 4) → tqS E' b (bgQ C sz m P c) (jo b) j = ppC C b r (nI P) (C 0 10) (jo b) j := fun j hj => by
    rw [cE _ _ (by omega) (by omega) (by omega) (by omega)]
    unfold bgE bgE1
    rw [rnw_keep _ (fun s hs => by have := taddr_m (show tok (8 + s) by omega); omega), rnw_keep _ (fun s hs => by have := taddr_m (show tok s by omega); omega)]
    unfold bgE0
    rw [show ∀ (f : Nat → Nat → Int32) v, xu f 0 7 v (jo b) j = f (jo b) j from fun f v => if_neg (by omega), show ∀ (f : Nat → Nat → Int32) v, xu f 0 9 v (jo b) j = f (jo b) j from fun f v => if_neg (by omega)]
  have cj2 : tqS E' b (bgQ C sz m P c) (jo b) 2 = r := by
    rw [cj 2 (by omega)]; unfold ppC
    rw [xu_j _ _ _ _ (by omega), xu_j _ _ _ _ (by omega), xu_s]
  have cj4 : tqS E' b (bgQ C sz m P c) (jo b) 4 = C 0 10 := by
    rw [cj 4 (by omega)]; unfold ppC
    rw [xu_s]
  have cj3 : tqS E' b (bgQ C sz m P c) (jo b) 3 = nI P := by
    rw [cj 3 (by omega)]; unfold ppC
    rw [xu_j _ _ _ _ (by omega), xu_s]
  have c07 : tqS E' b (bgQ C sz m P c) 0 7 = nI 1 := by
    rw [cE _ _ (by omega) (by omega) (by omega) (by omega)]
    unfold bgE bgE1
    rw [rnw_keep _ (fun s hs => by have := taddr_m (show tok (8 + s) by omega); omega), rnw_keep _ (fun s hs => by have := taddr_m (show tok s by omega); omega)]
    unfold bgE0
    rw [xu_s]
  -- the reference's
  generalize hq : isort (aL (bg1 S m r (nI P) (nI B)) sz c) = q at *
  have b17 : bg1 S m r (nI P) (nI B) 0 17 = m := by unfold bg1; rw [xu_j _ _ _ _ (by decide), xu_j _ _ _ _ (by decide), xu_j _ _ _ _ (by decide), xu_j _ _ _ _ (by decide), xu_s]
  have b18 : bg1 S m r (nI P) (nI B) 0 18 = r := by unfold bg1; rw [xu_j _ _ _ _ (by decide), xu_j _ _ _ _ (by decide), xu_j _ _ _ _ (by decide), xu_s]
  have b16 : bg1 S m r (nI P) (nI B) 0 16 = S 0 15 := by unfold bg1; rw [xu_s]
  have eal : caL m C sz c = aL (bg1 S m r (nI P) (nI B)) sz c := aL_ca m5 b17 c (fun t i ht hi => by rw [bg1_k (by decide)]; exact (hR t ht).2.2 i hi)
  have ecl : ∀ t, t < c → ccL m (C (55 + 3 * t)) (sz t) = cL (bg1 S m r (nI P) (nI B)) t (sz t) := fun t ht => cL_cc m5 b17 (sz t) (fun i hi => by rw [bg1_k (by decide)]; exact (hR t ht).2.2 i hi)
  have s0 : ∀ j, j ≠ 26 → j ≠ 12 → bg2 S c sz m r (nI P) (nI B) 0 j = bg1 S m r (nI P) (nI B) 0 j := fun j a b => bg2_s a b
  have sk : ∀ k, k = 1 ∨ k = 2 ∨ k = 3 ∨ k = 6 ∨ k = 7 ∨ k = 13 ∨ k = 14 ∨ k = 15 → bg2 S c sz m r (nI P) (nI B) k = S k := fun k hk => by
    rw [bg2_k (by omega) (by omega) (by omega) (by omega), plS_k (by omega) (by omega) (by omega), pcS_k (by omega), bg1_k (by omega)]
  have s26 : bg2 S c sz m r (nI P) (nI B) 0 26 = nI 1 := by unfold bg2; rw [xu_s]
  have s4 : ∀ w, w < 4 → bg2 S c sz m r (nI P) (nI B) 4 w = -1 := fun w hw => by
    unfold bg2
    rw [xu_k _ _ _ (by decide)]
    exact if_pos ⟨Or.inl rfl, hw, Or.inl rfl⟩
  have s5 : ∀ w, w < 4 → bg2 S c sz m r (nI P) (nI B) 5 w = nI 0 := fun w hw => by
    unfold bg2
    rw [xu_k _ _ _ (by decide)]
    exact if_pos ⟨Or.inr rfl, hw, Or.inl rfl⟩
  have s8 : ∀ t, t < 11 → bg2 S c sz m r (nI P) (nI B) 8 t = 0 := fun t ht => by
    unfold bg2
    rw [xu_k _ _ _ (by decide), gvS_k _ _ _ (by decide) (by decide)]
    exact if_pos ⟨rfl, ht⟩
  have s12 : ∀ t, t < c → bg2 S c sz m r (nI P) (nI B) 12 t = nI (cL (bg1 S m r (nI P) (nI B)) t (sz t)).length := fun t ht => by
    rw [bg2_k (by decide) (by decide) (by decide) (by decide), plS_k (by decide) (by decide) (by decide)]
    exact if_pos ⟨rfl, ht⟩
  have e10 : bg2 S c sz m r (nI P) (nI B) 10 = plS (pcS (bg1 S m r (nI P) (nI B)) sz c) q 10 := by rw [← hq]; exact bg2_k (by decide) (by decide) (by decide) (by decide)
  have e11 : bg2 S c sz m r (nI P) (nI B) 11 = plS (pcS (bg1 S m r (nI P) (nI B)) sz c) q 11 := by rw [← hq]; exact bg2_k (by decide) (by decide) (by decide) (by decide)
  have hRW : RWS (bg2 S c sz m r (nI P) (nI B)) q := fun i hi => by
    rw [e10, e11]
    refine ⟨plS_at hi, ?_⟩
    unfold plS
    rw [if_neg (by decide), if_pos rfl, List.getElem?_eq_getElem hi]; rfl
  have hsq : srt q := by rw [← hq]; exact isort_srt _
  have hlq : q.length = (aL (bg1 S m r (nI P) (nI B)) sz c).length := by rw [← hq]; exact isort_len _
  have inp : ∀ p, p < 3 → ∀ k, inP (bg2 S c sz m r (nI P) (nI B)) p k = decide (pt P k = p) := fun p hp k => by
    have e : (mdl k (bg2 S c sz m r (nI P) (nI B) 0 19) = nI p) ↔ pt P k = p := by
      rw [s0 _ (by decide) (by decide), bg1_19, mdl_pt (by omega) (by omega)]
      have := pt_lt (show 0 < P by omega) k
      exact nI_inj (by omega) (by omega)
    unfold inP
    by_cases g : pt P k = p
    · rw [decide_eq_true g, decide_eq_true (e.mpr g)]
    · rw [decide_eq_false g, decide_eq_false (fun x => g (e.mp x))]
  have hQ : ∀ p, p < 3 → bgQ C sz m P c p = q.filter (fun a => inP (bg2 S c sz m r (nI P) (nI B)) p a.1) := fun p hp => by
    have e : bgQ C sz m P c p = (isort (caL m C sz c)).filter (fun x => decide (pt P x.1 = p)) := tkQ_filter P _ p
    rw [e, eal, hq]
    exact List.filter_congr (fun a _ => (inp p hp a.1).symm)
  obtain ⟨P', hP', -, hP9, hT⟩ := TI_begin (m := m) (r := r) (p := nI P) (b := nI B) ⟨a1, a2, a3, a4, a5, a6⟩ hok
  have hPP : P' = P := ((nI_inj (by omega) (by omega)).mp hP').symm
  subst hPP
  rw [← hlq] at hT
  have hsl : (aL (bg1 S m r (nI P') (nI B)) sz c).length ≤ 216 := by
    have := aL_len (bg1 S m r (nI P') (nI B)) (sz := sz) c (fun t ht => (a3 t ht).2)
    omega
  have rnE : ∀ t, t < c → rns (bg2 S c sz m r (nI P') (nI B)) t = rnsC m C sz B t := fun t ht => by
    unfold rns rnsC
    rw [s12 t ht, s0 _ (by decide) (by decide), bg1_20, ecl t ht]
  have hK : RK (bg2 S c sz m r (nI P') (nI B)) (tqS E' b (bgQ C sz m P' c)) := by
    have z0 : ∀ j, j ≠ 26 → j ≠ 12 → (j ≠ 14 ∧ j ≠ 17 ∧ j ≠ 18 ∧ j ≠ 19 ∧ j ≠ 20 ∧ j ≠ 16) → bg2 S c sz m r (nI P') (nI B) 0 j = S 0 j := fun j x1 x2 x3 => (s0 j x1 x2).trans (bg1_0 x3)
    refine ⟨by rw [c07, s26], ?_, ?_, ?_, ?_, ?_⟩
    · rw [ck _ _ (by omega) (by omega) (by omega) (by omega) (by omega) (by omega) (by omega), z0 _ (by omega) (by omega) (by omega)]; exact k2
    · rw [ck _ _ (by omega) (by omega) (by omega) (by omega) (by omega) (by omega) (by omega), z0 _ (by omega) (by omega) (by omega)]; exact k3
    · rw [ck _ _ (by omega) (by omega) (by omega) (by omega) (by omega) (by omega) (by omega), z0 _ (by omega) (by omega) (by omega)]; exact k4
    · rw [ck _ _ (by omega) (by omega) (by omega) (by omega) (by omega) (by omega) (by omega), z0 _ (by omega) (by omega) (by omega)]; exact k5
    · rw [ck _ _ (by omega) (by omega) (by omega) (by omega) (by omega) (by omega) (by omega), z0 _ (by omega) (by omega) (by omega)]; exact k6
  have hW' : RW (bg2 S c sz m r (nI P') (nI B)) (tqS E' b (bgQ C sz m P' c)) tk := fun w hw => by
    obtain ⟨b1, b2, b3, b4, b5, b6⟩ := hW w hw
    rw [ck _ _ (by omega) (by omega) (by omega) (by omega) (by omega) (by omega) (by omega), ck _ _ (by omega) (by omega) (by omega) (by omega) (by omega) (by omega) (by omega), ck _ _ (by omega) (by omega) (by omega) (by omega) (by omega) (by omega) (by omega), ck _ _ (by omega) (by omega) (by omega) (by omega) (by omega) (by omega) (by omega), sk 7 (by omega), sk 3 (by omega), sk 6 (by omega), s4 w hw, s5 w hw, tn w hw]
    exact ⟨b1, b2, rfl, hz w hw (tn w hw), b5, b6⟩
  refine ⟨hM, hV, fun t ht => ?_, hO.k (sk 13 (by omega)) (sk 14 (by omega)) (sk 15 (by omega)) ((s0 _ (by decide) (by decide)).trans (bg1_0 (by decide))) (fun k j g1 g2 => ck k j (by omega) (by omega) (by omega) (by omega) (by omega) (by omega) (by omega)), hW', hK, fun _ => ⟨P', q.length, q, bgQ C sz m P' c, hW', hK, ⟨?_, ?_, ?_⟩, fun t ht => ?_, fun w t hw e => ?_, ⟨hRW, hsq, rfl, hQ⟩, fun p hp e => ?_, hT, ⟨hV.1.1, v6, hV.1.2.1, ⟨cj3, hP3⟩, fun p hp => ⟨tq_id hp, bgQ_ok C m P' v2' (fun t ht => (v3 t ht).2) p⟩⟩⟩, fun g => ?_⟩
  · obtain ⟨r1, r2, r3⟩ := hR t ht
    rw [ck _ _ (by omega) (by omega) (by omega) (by omega) (by omega) (by omega) (by omega), sk 1 (by omega)]
    refine ⟨r1, r2, fun i hi => ?_⟩
    have s6 := (a3 t ht).2
    rw [ck _ _ (by omega) (by omega) (by omega) (by omega) (by omega) (by omega) (by omega), sk 2 (by omega)]
    exact r3 i hi
  · rw [cj2, s0 _ (by decide) (by decide), b18]
  · rw [s0 _ (by decide) (by decide), b18]; exact mp5 hok.2.1
  · rw [cj4, s0 _ (by decide) (by decide), b16]; exact k2
  · have t11 : t < 11 := by omega
    rw [s8 t t11]
    rcases ht with ht | ⟨t8, t9⟩
    · obtain ⟨x1, x2, x3⟩ := cM t ht
      have nd : nds (bg2 S c sz m r (nI P') (nI B)) q.length t = nI 2 * nI (sz t) + rnsC m C sz B t := by
        unfold nds
        rw [if_pos (by omega), rnE t ht, sk 1 (by omega), (a3 t ht).1]
      have s6 := (a3 t ht).2
      have s1 := (hR t ht).1
      have cl6 := ccL_len m (C (55 + 3 * t)) (sz t)
      have ru : rnsC m C sz B t = nI (((ccL m (C (55 + 3 * t)) (sz t)).length + B - 1) / B) := by
        unfold rnsC
        rw [nI_add, nI_sub (by omega), nI_div (by omega) (by omega)]
      have rl : ((ccL m (C (55 + 3 * t)) (sz t)).length + B - 1) / B ≤ (ccL m (C (55 + 3 * t)) (sz t)).length + B - 1 := Nat.div_le_self _ _
      rw [x1, x2, x3, nd, rnE t ht, if_pos (show t < 8 by omega)]
      generalize ((ccL m (C (55 + 3 * t)) (sz t)).length + B - 1) / B = dd at *
      refine ⟨⟨fun _ => rfl, fun _ => rfl⟩, fun g => absurd rfl g, rfl, ⟨2 * sz t + dd, ?_, by omega, by omega⟩, rfl⟩
      rw [ru, nI_mul, nI_add]
    · obtain ⟨p, rfl⟩ : ∃ p, t = 8 + p := ⟨t - 8, by omega⟩
      have hp : p < P' := by omega
      obtain ⟨x1, x2, x3⟩ := cR p hp
      have pl : pof (bg2 S c sz m r (nI P') (nI B)) (nI p) q.length = (bgQ C sz m P' c p).length := by
        rw [pof_len hRW p q.length (Nat.le_refl _), List.take_length, ← hQ p (by omega)]
      have nd : nds (bg2 S c sz m r (nI P') (nI B)) q.length (8 + p) = nI 1 + nI (bgQ C sz m P' c p).length := by
        unfold nds
        rw [if_neg (by omega), show 8 + p - 8 = p by omega, pl]
      have l2 := (bgQ_ok C m P' v2' (fun t ht => (v3 t ht).2) p).1
      rw [x1, x2, x3, nd, if_neg (show ¬ 8 + p < 8 by omega)]
      refine ⟨⟨fun _ => rfl, fun _ => rfl⟩, fun g => absurd rfl g, ?_, ⟨1 + (bgQ C sz m P' c p).length, ?_, by omega, by omega⟩, rfl⟩
      · rw [nI_add, nI_add]; rfl
      · rw [nI_add]
  · rw [tn w hw] at e; cases e
  · exact absurd (s8 (8 + p) (by omega)) e
  · rw [s26] at g; exact absurd g (by decide)
end XR12
