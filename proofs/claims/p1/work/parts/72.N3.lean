theorem bval_lt {b : Int64} {f : Int32} (hf : -1000 ≤ f ∧ f ≤ nI 1000) (i : Nat) : (bval b f i).toInt.natAbs < 10 ^ 6 := by
  unfold bval
  generalize (b >>> ((nI 8 * nI i).toInt64 &&& 63)).toInt32.toInt8 = x
  have h1 := Int8.toInt_lt x
  have h2 := Int8.le_toInt x
  rw [Int32.le_iff_toInt_le, Int32.le_iff_toInt_le, nI_toInt (by omega), show (-1000 : Int32).toInt = -1000 from rfl] at hf
  rw [Int32.toInt_mul, Int8.toInt_toInt32]
  have b1 : (x.toInt * f.toInt).natAbs ≤ 128 * 1000 := by
    rw [Int.natAbs_mul]
    exact Nat.mul_le_mul (by omega) (by omega)
  rw [Int.bmod_eq_of_le_mul_two (by omega) (by omega)]
  omega
theorem MI.chunk {S : Nat → Nat → Int32} {c : Nat} {sz : Nat → Nat} (h : MI S c sz) (b : Int64) (n f : Int32) : ∃ c' sz', MI (ckS S c b n f).1 c' sz' := by
  unfold ckS
  split
  · rename_i ok
    split
    · exact ⟨c, sz, (h.xu0 (by decide) (by decide) (by decide) _).xu0 (by decide) (by decide) (by decide) _⟩
    · rename_i nj
      obtain ⟨N, rfl, hN1, hN6⟩ := rng_of (by decide) (by decide) ok.1
      rw [nI_clamp (by omega)]
      have j0 : S 0 26 = 0 := Classical.byContradiction (fun q => nj (Or.inl q))
      obtain ⟨a1, a2, a3, a4, a5, a6⟩ := h
      have c6 : c < 6 := by
        have : ¬ c = 6 := fun q => nj (Or.inr q)
        omega
      have e1 : ∀ t, xu (xu (ckL (xu S 0 14 (nI 0)) c b f N) 1 c (nI N)) 0 13 (nI (c + 1)) 1 t = if t = c then nI N else S 1 t := fun t => by
        rw [xu_k _ _ _ (by decide)]
        by_cases e : t = c
        · subst e; rw [xu_s, if_pos rfl]
        · rw [xu_j _ _ _ _ e, if_neg e, ckL_k (by decide), xu_k _ _ _ (by decide)]
      have e2 : ∀ j, xu (xu (ckL (xu S 0 14 (nI 0)) c b f N) 1 c (nI N)) 0 13 (nI (c + 1)) 2 j = if c * 6 ≤ j ∧ j < c * 6 + N then bval b f (j - c * 6) else S 2 j := fun j => by
        rw [xu_k _ _ _ (by decide), xu_k _ _ _ (by decide)]
        show (if 2 = 2 ∧ c * 6 ≤ j ∧ j < c * 6 + N then bval b f (j - c * 6) else xu S 0 14 (nI 0) 2 j) = _
        rw [xu_k _ _ _ (by decide)]
        by_cases q : c * 6 ≤ j ∧ j < c * 6 + N
        · rw [if_pos ⟨rfl, q⟩, if_pos q]
        · rw [if_neg (fun w => q w.2), if_neg q]
      have e0 : ∀ j, j ≠ 13 → j ≠ 14 → xu (xu (ckL (xu S 0 14 (nI 0)) c b f N) 1 c (nI N)) 0 13 (nI (c + 1)) 0 j = S 0 j := fun j h1 h2 => by
        rw [xu_j _ _ _ _ h1, xu_k _ _ _ (by decide), ckL_k (by decide), xu_j _ _ _ _ h2]
      have e15 : xu (xu (ckL (xu S 0 14 (nI 0)) c b f N) 1 c (nI N)) 0 13 (nI (c + 1)) 15 = S 15 := by
        rw [xu_k _ _ _ (by decide), xu_k _ _ _ (by decide), ckL_k (by decide), xu_k _ _ _ (by decide)]
      refine ⟨c + 1, fun t => if t = c then N else sz t, ?_⟩
      dsimp only
      refine ⟨xu_s _ _ _ _, by omega, fun t ht => ?_, fun t i ht hi => ?_, fun q => absurd ?_ q, rfl, rfl, ?_, ?_⟩
      · dsimp only
        rw [e1]
        by_cases e : t = c
        · rw [if_pos e, if_pos e]; exact ⟨rfl, hN6⟩
        · rw [if_neg e, if_neg e]; exact a3 t (by omega)
      · dsimp only at hi ⊢
        rw [e2]
        by_cases e : t = c
        · subst e
          rw [if_pos rfl] at hi
          rw [if_pos ⟨by omega, by omega⟩]
          exact bval_lt ok.2 _
        · rw [if_neg e] at hi
          have s6 := (a3 t (by omega)).2
          rw [if_neg (by omega)]
          exact a4 t i (by omega) hi
      · rw [e0 _ (by decide) (by decide)]; exact j0
      · rw [e0 _ (by decide) (by decide)]; exact a6.2.2.1
      · rw [e15]; exact a6.2.2.2
  · exact ⟨c, sz, h.xu0 (by decide) (by decide) (by decide) _⟩
theorem bg2_k {S : Nat → Nat → Int32} {c : Nat} {sz : Nat → Nat} {m r p b : Int32} {k : Nat} (h0 : k ≠ 0) (h4 : k ≠ 4) (h5 : k ≠ 5) (h8 : k ≠ 8) : bg2 S c sz m r p b k = plS (pcS (bg1 S m r p b) sz c) (isort (aL (bg1 S m r p b) sz c)) k := by
  unfold bg2
  rw [xu_k _ _ _ h0, gvS_k _ _ _ h4 h5, dnS_k h8]
theorem bg2_0 {S : Nat → Nat → Int32} {c : Nat} {sz : Nat → Nat} {m r p b : Int32} {j : Nat} (h26 : j ≠ 26) : bg2 S c sz m r p b 0 j = plS (pcS (bg1 S m r p b) sz c) (isort (aL (bg1 S m r p b) sz c)) 0 j := by
  unfold bg2
  rw [xu_j _ _ _ _ h26, gvS_k _ _ _ (by decide) (by decide), dnS_k (by decide)]
theorem bg2_s {S : Nat → Nat → Int32} {c : Nat} {sz : Nat → Nat} {m r p b : Int32} {j : Nat} (h26 : j ≠ 26) (h12 : j ≠ 12) : bg2 S c sz m r p b 0 j = bg1 S m r p b 0 j := by
  rw [bg2_0 h26, plS_0 h12, pcS_k (by decide)]
theorem bg1_19 {S : Nat → Nat → Int32} {m r p b : Int32} : bg1 S m r p b 0 19 = p := by
  unfold bg1; rw [xu_j _ _ _ _ (by decide), xu_j _ _ _ _ (by decide), xu_s]
theorem bg1_20 {S : Nat → Nat → Int32} {m r p b : Int32} : bg1 S m r p b 0 20 = b := by
  unfold bg1; rw [xu_j _ _ _ _ (by decide), xu_s]
theorem plS_at {S : Nat → Nat → Int32} {q : List KV} {i : Nat} (hi : i < q.length) : plS S q 10 i = (q[i]).1 := by
  unfold plS
  rw [if_pos rfl, List.getElem?_eq_getElem hi]; rfl
theorem TI_begin {S : Nat → Nat → Int32} {c : Nat} {sz : Nat → Nat} (h : MI S c sz) {m r p b : Int32} (hok : okb m r p b) : ∃ P, p = nI P ∧ 1 ≤ P ∧ P ≤ 3 ∧ TI (bg2 S c sz m r p b) c P (aL (bg1 S m r p b) sz c).length := by
  obtain ⟨a1, a2, a3, a4, a5, a6⟩ := h
  obtain ⟨P, rfl, hP1, hP3⟩ := rng_of (by decide) (by decide) hok.2.2.1
  obtain ⟨B, rfl, hB1, hB3⟩ := rng_of (by decide) (by decide) hok.2.2.2
  have ln := aL_len (bg1 S m r (nI P) (nI B)) (sz := sz) c (fun t ht => (a3 t ht).2)
  refine ⟨P, rfl, hP1, hP3, ?_, a2, ?_, hP1, hP3, ?_, by omega, ?_, fun w hw => Or.inl ?_, fun pp => ?_⟩
  · rw [bg2_s (by decide) (by decide), bg1_0 (by decide)]; exact a1
  · rw [bg2_s (by decide) (by decide)]; exact bg1_19
  · rw [bg2_0 (by decide), plS_n, isort_len]
  · rw [bg2_s (by decide) (by decide), bg1_20]; exact nI_ne0 (by omega) (by omega)
  · unfold bg2
    rw [xu_k _ _ _ (by decide)]
    exact if_pos ⟨Or.inl rfl, hw, Or.inl rfl⟩
  · have e10 : bg2 S c sz m r (nI P) (nI B) 10 = plS (pcS (bg1 S m r (nI P) (nI B)) sz c) (isort (aL (bg1 S m r (nI P) (nI B)) sz c)) 10 := bg2_k (by decide) (by decide) (by decide) (by decide)
    have k1 := gs_kch (bg2 S c sz m r (nI P) (nI B)) pp (aL (bg1 S m r (nI P) (nI B)) sz c).length
    have k2 := kch_36 (f := bg2 S c sz m r (nI P) (nI B) 10) (isort_srt (aL (bg1 S m r (nI P) (nI B)) sz c)) (fun i hi => by rw [e10]; exact plS_at hi) (aL_few (bg1 S m r (nI P) (nI B)) a2 (fun t ht => (a3 t ht).2)).isort
    rw [isort_len] at k2
    omega
theorem MI.begin {S : Nat → Nat → Int32} {c : Nat} {sz : Nat → Nat} (h : MI S c sz) (m r p b : Int32) : MI (bgS S c sz m r p b).1 c sz := by
  unfold bgS
  split
  · rename_i ok
    split
    · exact (h.xu0 (by decide) (by decide) (by decide) _).xu0 (by decide) (by decide) (by decide) _
    · obtain ⟨P, hP, -, -, hT⟩ := TI_begin h ok
      dsimp only
      refine h.of (hT.1.trans h.1.symm) (h.2.2.2.2.2.same ?_ ?_ ?_ ?_) (fun _ => ⟨_, _, hT⟩)
      · rw [bg2_k (by decide) (by decide) (by decide) (by decide), plS_k (by decide) (by decide) (by decide), pcS_k (by decide), bg1_k (by decide)]
      · rw [bg2_k (by decide) (by decide) (by decide) (by decide), plS_k (by decide) (by decide) (by decide), pcS_k (by decide), bg1_k (by decide)]
      · rw [bg2_s (by decide) (by decide), bg1_0 (by decide)]
      · rw [bg2_k (by decide) (by decide) (by decide) (by decide), plS_k (by decide) (by decide) (by decide), pcS_k (by decide), bg1_k (by decide)]
  · exact h.xu0 (by decide) (by decide) (by decide) _
