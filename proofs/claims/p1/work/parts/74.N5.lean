theorem cmpL_key {m v : Int32} (hm : ¬ m = nI 3) : ∀ y ∈ cmpL m v, -1 ≤ y.1.toInt ∧ y.1.toInt ≤ 9 := by
  intro y h
  unfold cmpL at h
  split at h
  · exact mpL_key hm y h
  · cases h
theorem cmpL_3 (v : Int32) : (cmpL (nI 3) v).length ≤ 1 := by
  unfold cmpL
  split
  · exact mpL_3 v
  · exact Nat.zero_le _
theorem ccL_key {m : Int32} (hm : ¬ m = nI 3) (f : Nat → Int32) : ∀ n, ∀ y ∈ ccL m f n, -1 ≤ y.1.toInt ∧ y.1.toInt ≤ 9
  | 0, y, h => by cases h
  | n + 1, y, h => by
    rcases List.mem_append.mp h with h | h
    · exact ccL_key hm f n y h
    · exact cmpL_key hm y h
theorem caL_key {m : Int32} (hm : ¬ m = nI 3) (C : Nat → Nat → Int32) (sz : Nat → Nat) : ∀ c, ∀ y ∈ caL m C sz c, -1 ≤ y.1.toInt ∧ y.1.toInt ≤ 9
  | 0, y, h => by cases h
  | c + 1, y, h => by
    rcases List.mem_append.mp h with h | h
    · exact caL_key hm C sz c y h
    · exact ccL_key hm _ _ y h
theorem ccL_3 (f : Nat → Int32) : ∀ n, (ccL (nI 3) f n).length ≤ n
  | 0 => Nat.le_refl 0
  | n + 1 => by
    have h1 := ccL_3 f n
    have h2 := cmpL_3 (f n)
    unfold ccL
    rw [List.length_append]
    omega
theorem caL_3 (C : Nat → Nat → Int32) {sz : Nat → Nat} : ∀ c, (∀ t, t < c → sz t ≤ 6) → (caL (nI 3) C sz c).length ≤ 6 * c
  | 0, _ => Nat.le_refl 0
  | c + 1, h => by
    have h1 := caL_3 C c (fun t ht => h t (by omega))
    have h2 := ccL_3 (C (55 + 3 * c)) (sz c)
    have h3 := h c (by omega)
    unfold caL
    rw [List.length_append]
    omega
theorem caL_few (m : Int32) (C : Nat → Nat → Int32) {sz : Nat → Nat} {c : Nat} (hc : c ≤ 6) (hz : ∀ t, t < c → sz t ≤ 6) : few (caL m C sz c) 36 := by
  by_cases hm : m = nI 3
  · right
    rw [hm]
    have := caL_3 C (sz := sz) c hz
    omega
  · exact Or.inl (caL_key hm C sz c)
theorem bgQ_ok (C : Nat → Nat → Int32) {sz : Nat → Nat} (m : Int32) (P : Nat) {c : Nat} (hc : c ≤ 6) (hz : ∀ t, t < c → sz t ≤ 6) (p : Nat) : (bgQ C sz m P c p).length ≤ 216 ∧ rk none (bgQ C sz m P c p) ≤ 36 := by
  have e : bgQ C sz m P c p = (isort (caL m C sz c)).filter (fun x => decide (pt P x.1 = p)) := tkQ_filter P _ p
  have l1 := caL_len m C (sz := sz) c hz
  rw [e]
  constructor
  · have := List.length_filter_le (fun x => decide (pt P x.1 = p)) (isort (caL m C sz c))
    rw [isort_len] at this
    omega
  · exact rk_36 (srt_filter (isort_srt _) _) ((caL_few m C hc hz).isort.filter _)
theorem bgE_k {C : Nat → Nat → Int32} {b : Bool} {sz : Nat → Nat} {m r : Int32} {P B c k j : Nat} (hc : c ≤ 6) (hP : P ≤ 3) (h1 : ¬ (k = 0 ∧ (j = 9 ∨ j = 7))) (h2 : ¬ (k = jo b ∧ (j = 2 ∨ j = 3 ∨ j = 4))) (h3 : ¬ (56 ≤ k ∧ (72 ≤ k ∨ k % 3 = 2) ∧ 2 ≤ j)) : bgE C b sz m r P B c k j = C k j := by
  unfold bgE bgE1
  rw [rnw_keep _ (fun s hs => by have := taddr_m (show tok (8 + s) by omega); omega), rnw_keep _ (fun s hs => by have := taddr_m (show tok s by omega); omega), bgE0_k h1 h2]
theorem bgE_3 {C : Nat → Nat → Int32} {b : Bool} {sz : Nat → Nat} {m r : Int32} {P B c : Nat} (hc : c ≤ 6) (hP : P ≤ 3) : bgE C b sz m r P B c (jo b) 3 = nI P := by
  have hj := jo_lt b
  unfold bgE bgE1
  rw [rnw_keep _ (fun s hs => by have := taddr_m (show tok (8 + s) by omega); omega), rnw_keep _ (fun s hs => by have := taddr_m (show tok s by omega); omega)]
  unfold bgE0 ppC
  rw [show ∀ (f : Nat → Nat → Int32), xu f 0 7 (nI 1) (jo b) 3 = f (jo b) 3 from fun f => if_neg (by omega), show ∀ (f : Nat → Nat → Int32), xu f 0 9 m (jo b) 3 = f (jo b) 3 from fun f => if_neg (by omega), show ∀ (f : Nat → Nat → Int32), xu f (jo b) 4 (C 0 10) (jo b) 3 = f (jo b) 3 from fun f => if_neg (by omega), xu_s]
theorem jo_or (d : Bool) : jo d = 8 ∨ jo d = 29 := by cases d; exact Or.inl rfl; exact Or.inr rfl
theorem CV.begin {C E' : Nat → Nat → Int32} {tk : Nat → Option Nat} {b : Bool} {c : Nat} {sz : Nat → Nat} (h : CV C tk b c sz) {m r : Int32} {P B : Nat} (hP : P ≤ 3) (hE : AG E' (bgE C b sz m r P B c)) : CV (tqS E' b (bgQ C sz m P c)) tk b c sz := by
  obtain ⟨⟨h1, ⟨h2, h2'⟩, h3, h4, h5⟩, h6, h7⟩ := h
  have hb := jo_or b
  have k : ∀ k j, ¬ (jo b + 3 ≤ k ∧ k < jo b + 21 ∧ (k - (jo b + 3)) % 6 < 3) → k ≠ 5 → k ≠ 6 → k ≠ 7 → ¬ (k = 0 ∧ (j = 9 ∨ j = 7)) → ¬ (k = jo b ∧ (j = 2 ∨ j = 3 ∨ j = 4)) → ¬ (56 ≤ k ∧ (72 ≤ k ∨ k % 3 = 2) ∧ 2 ≤ j) → tqS E' b (bgQ C sz m P c) k j = C k j := by
    intro k j g1 g5 g6 g7 g2 g3 g4
    rw [show tqS E' b (bgQ C sz m P c) k j = E' k j from if_neg g1, hE k j g5 g6 g7, bgE_k h2' hP g2 g3 g4]
  have k3 : tqS E' b (bgQ C sz m P c) (jo b) 3 = nI P := by
    rw [tq_out (by omega), hE _ _ (by omega) (by omega) (by omega), bgE_3 h2' hP]
  have hN : TN (tqS E' b (bgQ C sz m P c)) := fun t ht => by
    have := taddr_m ht
    rw [k _ _ (by omega) (by omega) (by omega) (by omega) (by omega) (by omega) (by omega), k _ _ (by omega) (by omega) (by omega) (by omega) (by omega) (by omega) (by omega)]
    exact h1 t ht
  have h8 : tqS E' b (bgQ C sz m P c) 0 8 = nI c := (k _ _ (by omega) (by omega) (by omega) (by omega) (by omega) (by omega) (by omega)).trans h2
  refine ⟨⟨hN, ⟨h8, h2'⟩, fun t ht => ?_, fun t i ht hi => ?_, fun d => ?_, fun d p hp => ?_⟩, h6, fun _ => ⟨bgQ C sz m P c, P, hN, h6, ⟨h8, h2'⟩, ⟨k3, hP⟩, fun p hp => ⟨tq_id hp, bgQ_ok C m P h2' (fun t ht => (h3 t ht).2) p⟩⟩⟩
  · rw [k _ _ (by omega) (by omega) (by omega) (by omega) (by omega) (by omega) (by omega)]; exact h3 t ht
  · rw [k _ _ (by omega) (by omega) (by omega) (by omega) (by omega) (by omega) (by omega)]; exact h4 t i ht hi
  · have hd := jo_or d
    by_cases e : jo d = jo b
    · rw [e]; exact ⟨P, k3, hP⟩
    · rw [k _ _ (by omega) (by omega) (by omega) (by omega) (by omega) (by omega) (by omega)]; exact h5.1 d
  · have hd := jo_or d
    rw [k _ _ (by omega) (by omega) (by omega) (by omega) (by omega) (by omega) (by omega)]; exact h5.2 d p hp
theorem CV.chunk {C : Nat → Nat → Int32} {tk : Nat → Option Nat} {b : Bool} {c : Nat} {sz : Nat → Nat} (h : CV C tk b c sz) (hc : c < 6) (hu : C 0 7 = 0) (x : Int64) {f : Int32} (hf : -1000 ≤ f ∧ f ≤ nI 1000) {N : Nat} (hN : N ≤ 6) : CV (chC C c x f N) tk b (c + 1) (fun t => if t = c then N else sz t) := by
  obtain ⟨⟨h1, ⟨h2, h2'⟩, h3, h4, h5⟩, h6, h7⟩ := h
  have k : ∀ k j, ¬ (k = 0 ∧ j = 8) → k ≠ 55 + 3 * c → ¬ (k = 54 + 3 * c ∧ j = 1) → chC C c x f N k j = C k j := fun k j g1 g2 g3 => by
    unfold chC
    rw [show ∀ (F : Nat → Nat → Int32) v, xu F 0 8 v k j = F k j from fun F v => if_neg g1]
    show (if k = 55 + 3 * c ∧ j < N then bval x f j else xu C (54 + 3 * c) 1 (nI N) k j) = _
    rw [if_neg (fun q => g2 q.1)]
    exact if_neg g3
  have e1 : chC C c x f N (54 + 3 * c) 1 = nI N := by
    unfold chC
    rw [show ∀ (F : Nat → Nat → Int32) v, xu F 0 8 v (54 + 3 * c) 1 = F (54 + 3 * c) 1 from fun F v => if_neg (by omega)]
    show (if 54 + 3 * c = 55 + 3 * c ∧ 1 < N then bval x f 1 else xu C (54 + 3 * c) 1 (nI N) (54 + 3 * c) 1) = _
    rw [if_neg (by omega), xu_s]
  have e2 : ∀ i, i < N → chC C c x f N (55 + 3 * c) i = bval x f i := fun i hi => by
    unfold chC
    rw [show ∀ (F : Nat → Nat → Int32) v, xu F 0 8 v (55 + 3 * c) i = F (55 + 3 * c) i from fun F v => if_neg (by omega)]
    exact if_pos ⟨rfl, hi⟩
  refine ⟨⟨fun t ht => ?_, ⟨xu_s _ _ _ _, by omega⟩, fun t ht => ?_, fun t i ht hi => ?_, fun d => ?_, fun d p hp => ?_⟩, h6, fun q => absurd ?_ q⟩
  · have := taddr_m ht
    rw [k _ _ (by omega) (by omega) (by omega), k _ _ (by omega) (by omega) (by omega)]; exact h1 t ht
  · dsimp only
    by_cases e : t = c
    · subst e; rw [if_pos rfl]; exact ⟨e1, hN⟩
    · rw [if_neg e, k _ _ (by omega) (by omega) (by omega)]; exact h3 t (by omega)
  · dsimp only at hi
    by_cases e : t = c
    · subst e
      rw [if_pos rfl] at hi
      rw [e2 i hi]
      exact bval_lt hf i
    · rw [if_neg e] at hi
      rw [k _ _ (by omega) (by omega) (by omega)]; exact h4 t i (by omega) hi
  · have hd := jo_or d
    rw [k _ _ (by omega) (by omega) (by omega)]; exact h5.1 d
  · have hd := jo_or d
    rw [k _ _ (by omega) (by omega) (by omega)]; exact h5.2 d p hp
  · rw [k _ _ (by omega) (by omega) (by omega)]; exact hu
/-! the start -/
theorem CV.start {C : Nat → Nat → Int32} {tk : Nat → Option Nat} {b : Bool} (hC : ∀ k j, C k j = sR3.2.2.2.2 k j) (ht : ∀ w, w < 4 → tk w = none) : CV C tk b 0 (fun _ => 0) := by
  have z : ∀ k j v, sR3.2.2.2.2 k j = v → C k j = v := fun k j v e => (hC k j).trans e
  refine ⟨⟨fun t h => ?_, ⟨z _ _ _ (by decide +kernel), by omega⟩, fun t h => absurd h (Nat.not_lt_zero t), fun t i h => absurd h (Nat.not_lt_zero t), fun d => ?_, fun d => ?_⟩, fun w t hw e => ?_, fun q => absurd (z _ _ _ (by decide +kernel)) q⟩
  · rcases (by omega : t = 0 ∨ t = 1 ∨ t = 2 ∨ t = 3 ∨ t = 4 ∨ t = 5 ∨ t = 8 ∨ t = 9 ∨ t = 10) with rfl | rfl | rfl | rfl | rfl | rfl | rfl | rfl | rfl <;> exact ⟨z _ _ _ (by decide +kernel), z _ _ _ (by decide +kernel)⟩
  · cases d <;> exact ⟨0, z _ _ _ (by decide +kernel), by omega⟩
  · cases d
    · exact lt2 ⟨0, z _ _ _ (by decide +kernel), by omega⟩ ⟨0, z _ _ _ (by decide +kernel), by omega⟩ ⟨0, z _ _ _ (by decide +kernel), by omega⟩
    · exact lt2 ⟨0, z _ _ _ (by decide +kernel), by omega⟩ ⟨0, z _ _ _ (by decide +kernel), by omega⟩ ⟨0, z _ _ _ (by decide +kernel), by omega⟩
  · rw [ht w hw] at e; cases e
theorem MI.start {S : Nat → Nat → Int32} (h0 : ∀ j, S 0 j = sc0 j) (h15 : ∀ j, S 15 j = mini 15 j) : MI S 0 (fun _ => 0) := by
  refine ⟨(h0 13).trans rfl, by omega, fun t h => absurd h (Nat.not_lt_zero t), fun t i h => absurd h (Nat.not_lt_zero t), fun q => absurd ((h0 26).trans rfl) q, rfl, rfl, ⟨0, (h0 25).trans rfl, by omega⟩, fun p hp => ⟨0, (h15 p).trans ?_, by omega⟩⟩
  unfold mini
  split <;> rfl
