/-! what every call of the class keeps -/
theorem crd_len (r f : Int32) : ∀ (q A : List KV) (y : Option KV), (crd r f q A y).2.length ≤ (A ++ y.toList).length + rk (y.map (fun x => x.1)) q
  | [], A, y => by cases y <;> exact Nat.le_add_right _ _
  | x :: q, A, none => by
    rw [crd]
    split
    · have := crd_len r f q A none
      have := rk_skip (Option.map (fun x => x.1) (none : Option KV)) x q
      omega
    · have h9 : (crd r f q A (some (x.1, ini r x.2))).2.length ≤ A.length + 1 + rk (some x.1) q := by
        have := crd_len r f q A (some (x.1, ini r x.2))
        rw [Option.toList_some, List.length_append, List.length_singleton] at this
        exact this
      show _ ≤ (A ++ []).length + (1 + rk (some x.1) q)
      rw [List.append_nil]
      omega
  | x :: q, A, some y => by
    have e0 : rk (Option.map (fun x => x.1) (some y)) (x :: q) = (if some y.1 = some x.1 then 0 else 1) + rk (some x.1) q := rfl
    rw [crd]
    split
    · have := crd_len r f q A (some y)
      have := rk_skip (Option.map (fun x => x.1) (some y)) x q
      omega
    · split
      · rename_i ky
        rw [if_pos (congrArg some ky)] at e0
        split
        · exact Nat.le_add_right _ _
        · have h9 : (crd r f q A (some (y.1, comb r y.2 x.2))).2.length ≤ A.length + 1 + rk (some y.1) q := by
            have := crd_len r f q A (some (y.1, comb r y.2 x.2))
            rw [Option.toList_some, List.length_append, List.length_singleton] at this
            exact this
          have h8 : rk (some y.1) q = rk (some x.1) q := by rw [ky]
          rw [e0, Option.toList_some, List.length_append, List.length_singleton]
          omega
      · rename_i ky
        rw [if_neg (fun q => ky (Option.some.inj q))] at e0
        have h9 : (crd r f q (A ++ [y]) (some (x.1, ini r x.2))).2.length ≤ A.length + 1 + 1 + rk (some x.1) q := by
          have := crd_len r f q (A ++ [y]) (some (x.1, ini r x.2))
          rw [Option.toList_some, List.length_append, List.length_singleton, List.length_append, List.length_singleton] at this
          exact this
        rw [e0, Option.toList_some, List.length_append, List.length_singleton]
        omega
def CO (C : Nat → Nat → Int32) : Prop := (∀ d : Bool, ∃ q, C (jo d) 3 = nI q ∧ q ≤ 3) ∧ ∀ (d : Bool) (p : Nat), p < 3 → ∃ n, C (jo d + 6 + 6 * p) 2 = nI n ∧ n ≤ 36
def CY (C : Nat → Nat → Int32) (c : Nat) (sz : Nat → Nat) : Prop := TN C ∧ (C 0 8 = nI c ∧ c ≤ 6) ∧ (∀ t, t < c → C (54 + 3 * t) 1 = nI (sz t) ∧ sz t ≤ 6) ∧ (∀ t i, t < c → i < sz t → (C (55 + 3 * t) i).toInt.natAbs < 10 ^ 6) ∧ CO C
def CV (C : Nat → Nat → Int32) (tk : Nat → Option Nat) (b : Bool) (c : Nat) (sz : Nat → Nat) : Prop := CY C c sz ∧ TKo tk ∧ (¬ C 0 7 = 0 → ∃ Q r, CI C tk b Q c r)
def pr2 (k j : Nat) : Prop := (k = 0 ∧ j = 8) ∨ (8 ≤ k ∧ k < 50) ∨ (54 ≤ k ∧ k < 72 ∧ k % 3 ≠ 2) ∨ (56 ≤ k ∧ j < 2)
theorem CO.keep {C C' : Nat → Nat → Int32} (h : CO C) (hk : ∀ k j, 8 ≤ k → k < 50 → C' k j = C k j) : CO C' := by
  refine ⟨fun d => ?_, fun d p hp => ?_⟩
  · have hj := jo_lt d
    rw [hk _ _ (by omega) (by omega)]; exact h.1 d
  · have hj := jo_lt d
    rw [hk _ _ (by omega) (by omega)]; exact h.2 d p hp
theorem CY.keep {C C' : Nat → Nat → Int32} {c : Nat} {sz : Nat → Nat} (h : CY C c sz) (hk : ∀ k j, pr2 k j → C' k j = C k j) : CY C' c sz := by
  obtain ⟨h1, ⟨h2, h2'⟩, h3, h4, h5⟩ := h
  refine ⟨fun t ht => ?_, ⟨(hk _ _ (by unfold pr2; omega)).trans h2, h2'⟩, fun t ht => ?_, fun t i ht hi => ?_, h5.keep (fun k j a b => hk k j (by unfold pr2; omega))⟩
  · have := taddr_lt ht
    rw [hk _ _ (by unfold pr2; omega), hk _ _ (by unfold pr2; omega)]; exact h1 t ht
  · rw [hk _ _ (by unfold pr2; omega)]; exact h3 t ht
  · rw [hk _ _ (by unfold pr2; omega)]; exact h4 t i ht hi
theorem CY.out {C : Nat → Nat → Int32} {c : Nat} {sz : Nat → Nat} (h : CY C c sz) {b : Bool} {p : Nat} (hp : p < 3) {q : List KV} (hq : q.length ≤ 36) : CY (pqS C (jo b + 6 + 6 * p) q) c sz := by
  have hj := jo_lt b
  have hb : jo b = 8 ∨ jo b = 29 := by cases b; exact Or.inl rfl; exact Or.inr rfl
  obtain ⟨h1, ⟨h2, h2'⟩, h3, h4, h5⟩ := h
  have k : ∀ k j, k < 8 ∨ 50 ≤ k → pqS C (jo b + 6 + 6 * p) q k j = C k j := fun k j hk => pq_k (by omega)
  refine ⟨fun t ht => ?_, ⟨(k _ _ (by omega)).trans h2, h2'⟩, fun t ht => ?_, fun t i ht hi => ?_, fun d => ?_, fun d p' hp' => ?_⟩
  · have := taddr_lt ht
    rw [k _ _ (by omega), k _ _ (by omega)]; exact h1 t ht
  · rw [k _ _ (by omega)]; exact h3 t ht
  · rw [k _ _ (by omega)]; exact h4 t i ht hi
  · have hd : jo d = 8 ∨ jo d = 29 := by cases d; exact Or.inl rfl; exact Or.inr rfl
    rw [pq_k (by omega)]; exact h5.1 d
  · have hd : jo d = 8 ∨ jo d = 29 := by cases d; exact Or.inl rfl; exact Or.inr rfl
    by_cases e : jo d + 6 + 6 * p' = jo b + 6 + 6 * p
    · rw [e, pq_n]; exact ⟨_, rfl, hq⟩
    · rw [pq_k (by omega)]; exact h5.2 d p' hp'
theorem CY.gv {C : Nat → Nat → Int32} {tk : Nat → Option Nat} {c r w c' : Nat} {sz : Nat → Nat} (h : CY C c' sz) (hw : w < 4) : CY (gvC C tk c r w).1 c' sz :=
  h.keep (fun k j e => gvC_k (by unfold pr2 at e; omega) (by unfold pr2 at e; omega))
theorem CY.du {C : Nat → Nat → Int32} {w c : Nat} {sz : Nat → Nat} (h : CY C c sz) (hw : w < 4) : CY (duC C w) c sz :=
  h.keep (fun k j e => duC_k (by unfold pr2 at e; omega))
theorem taddr_m {s : Nat} (hs : tok s) : 56 ≤ taddr s ∧ taddr s < 75 ∧ (72 ≤ taddr s ∨ taddr s % 3 = 2) := by
  unfold taddr; split <;> omega
theorem CY.cpt {C : Nat → Nat → Int32} {tk : Nat → Option Nat} {w s c : Nat} {sz : Nat → Nat} (h : CY C c sz) (hs : tok s) : CY (cptC C tk w s) c sz := by
  have ta := taddr_m hs
  exact h.keep (fun k j e => cptC_k (by unfold pr2 at e; omega) (by unfold pr2 at e; omega))
theorem CY.giv {C : Nat → Nat → Int32} {c : Nat} {sz : Nat → Nat} (h : CY C c sz) : CY (dpC (xu C 0 7 (nI 0)) (fun _ => true) 4) c sz :=
  h.keep (fun k j e => by unfold pr2 at e; rw [dpC_k (by omega)]; exact if_neg (by omega))
theorem CY.wd {C : Nat → Nat → Int32} {tk : Nat → Option Nat} {b : Bool} {Q : Nat → List KV} {c r w : Nat} {sz : Nat → Nat} (h : CY C c sz) (hI : CI C tk b Q c r) (hw : w < 4) (sm : Bool) : CY (cwD C tk b Q w sm).1.1 c sz := by
  unfold cwD
  cases ht : tk w with
  | none => exact h
  | some t =>
    have htt := hI.tko w t hw ht
    dsimp only
    split
    · split
      · exact (h.du hw).cpt htt
      · rename_i h8
        have p3 : t - 8 < 3 := by omega
        have l36 : (crd (C (jo b) 2) (C (jo b) 4) (Q (t - 8)) [] none).2.length ≤ 36 := by
          have := crd_len (C (jo b) 2) (C (jo b) 4) (Q (t - 8)) [] none
          have h2 := (hI.2.2.2.2 _ p3).2.2
          have e : ([] ++ (none : Option KV).toList).length + rk (Option.map (fun x => x.1) (none : Option KV)) (Q (t - 8)) = 0 + rk none (Q (t - 8)) := rfl
          omega
        split
        · exact ((h.du hw).cpt htt).out p3 l36
        · exact (((h.du hw).cpt htt).out p3 l36).giv
    · exact h.du hw
theorem CY.w1 {C : Nat → Nat → Int32} {tk : Nat → Option Nat} {b : Bool} {Q : Nat → List KV} {c r w : Nat} {sz : Nat → Nat} (h : CY C c sz) (hI : CI C tk b Q c r) (hw : w < 4) (sm : Bool) : CY (cw1 C tk b Q c r w sm).1.1 c sz := by
  unfold cw1 cwG
  split
  · exact h
  · split
    · exact (h.gv hw).wd (hI.gv hw) hw sm
    · exact h.wd hI hw sm
theorem CY.tl {C : Nat → Nat → Int32} {tk : Nat → Option Nat} {b : Bool} {Q : Nat → List KV} {c r : Nat} {sz : Nat → Nat} (h : CY C c sz) (hI : CI C tk b Q c r) : ∀ n, n ≤ 4 → CY (ctL C tk b Q c r n).1.1 c sz
  | 0, _ => h
  | n + 1, hn => by
    have ih := h.tl hI n (by omega)
    unfold ctL
    split
    · exact ih
    · exact ih.w1 (hI.tl n (by omega)) (by omega) _
theorem CY.xu0 {C : Nat → Nat → Int32} {c j : Nat} {sz : Nat → Nat} (h : CY C c sz) (hj : 8 ≠ j) (v : Int32) : CY (xu C 0 j v) c sz :=
  h.keep (fun k i e => if_neg (by unfold pr2 at e; omega))
theorem CY.ts {C : Nat → Nat → Int32} {tk : Nat → Option Nat} {b : Bool} {Q : Nat → List KV} {c r : Nat} {sz : Nat → Nat} (h : CY C c sz) (hI : CI C tk b Q c r) : CY (ctS C tk b Q c r).1.1.1 c sz ∧ TKo (ctS C tk b Q c r).1.1.2 := by
  have hL := (h.xu0 (j := 11) (by decide) (C 0 11 + nI 1)).tl hI.tick0 4 (by omega)
  have hT := (hI.tick0.tl 4 (by omega)).tko
  unfold ctS ctE
  split
  · exact ⟨hL, hT⟩
  · split
    · exact ⟨(hL.xu0 (by decide) _).xu0 (by decide) _, hT⟩
    · split <;> exact ⟨hL, hT⟩
theorem CV.rn {b : Bool} {Q : Nat → List KV} {c r : Nat} {sz : Nat → Nat} : ∀ (m d : Nat) (C : Nat → Nat → Int32) (tk : Nat → Option Nat), CY C c sz → CI C tk b Q c r → CV (rnC b Q c r m d C tk).1.1.1.1 (rnC b Q c r m d C tk).1.1.1.2 (rnC b Q c r m d C tk).1.1.2 c sz
  | 0, d, C, tk, h, hI => ⟨h, hI.tko, fun _ => ⟨Q, r, hI⟩⟩
  | m + 1, d, C, tk, h, hI => by
    have hts := h.ts hI
    have hci := hI.ts
    have hfl := ctS_flip (C := C) (tk := tk) (b := b) (Q := Q) (c := c) (r := r)
    have ih := CV.rn (b := b) (Q := Q) (c := c) (r := r) (sz := sz) m (d + 1)
    rw [rnC]
    generalize ctS C tk b Q c r = o at *
    obtain ⟨⟨⟨C', tk'⟩, b'⟩, k⟩ := o
    dsimp only at *
    split
    · exact ⟨h, hI.tko, fun _ => ⟨Q, r, hI⟩⟩
    · split
      · split
        · rename_i hb
          exact ih _ _ hts.1 (hci hb)
        · rename_i hb
          exact ⟨hts.1, hts.2, fun q => absurd (hfl hb) q⟩
      · refine ⟨hts.1, hts.2, fun q => ?_⟩
        dsimp only at q ⊢
        by_cases hb : b' = b
        · subst hb; exact ⟨Q, r, hci rfl⟩
        · exact absurd (hfl hb) q
theorem CV.xu0 {C : Nat → Nat → Int32} {tk : Nat → Option Nat} {b : Bool} {c j : Nat} {sz : Nat → Nat} (h : CV C tk b c sz) (h7 : 7 ≠ j) (h8 : 8 ≠ j) (v : Int32) : CV (xu C 0 j v) tk b c sz := by
  refine ⟨h.1.xu0 h8 v, h.2.1, fun q => ?_⟩
  rw [xu_j _ _ _ _ h7] at q
  obtain ⟨Q, r, hI⟩ := h.2.2 q
  have hj := jo_lt b
  exact ⟨Q, r, hI.keep (fun k i e => if_neg (by unfold prt at e; omega)) (fun w t hw e => Or.inl e)⟩
theorem CV.same {C C' : Nat → Nat → Int32} {tk tk' : Nat → Option Nat} {b : Bool} {c : Nat} {sz : Nat → Nat} (h : CV C tk b c sz) (hk : ∀ k j, (k = 0 ∧ (j = 7 ∨ j = 8)) ∨ (8 ≤ k ∧ k < 50) ∨ (54 ≤ k ∧ k < 72 ∧ k % 3 ≠ 2) ∨ (56 ≤ k ∧ j < 2) → C' k j = C k j) (ht : ∀ w t, tk' w = some t → tk w = some t) : CV C' tk' b c sz := by
  refine ⟨h.1.keep (fun k j e => hk k j (by unfold pr2 at e; omega)), fun w t hw e => h.2.1 w t hw (ht w t e), fun q => ?_⟩
  rw [hk 0 7 (by omega)] at q
  obtain ⟨Q, r, hI⟩ := h.2.2 q
  have hj := jo_lt b
  exact ⟨Q, r, hI.keep (fun k i e => hk k i (by unfold prt at e; omega)) (fun w t hw e => Or.inl (ht w t e))⟩
theorem CV.ag {C C' : Nat → Nat → Int32} {tk : Nat → Option Nat} {b : Bool} {c : Nat} {sz : Nat → Nat} (h : CV C tk b c sz) (ha : AG C' C) : CV C' tk b c sz :=
  h.same (fun k j e => ha k j (by omega) (by omega) (by omega)) (fun w t e => e)
theorem CV.speed {C : Nat → Nat → Int32} {tk : Nat → Option Nat} {b : Bool} {c : Nat} {sz : Nat → Nat} (h : CV C tk b c sz) {w : Nat} (hw : w < 4) (s : Int32) : CV (xu C (50 + w) 1 s) tk b c sz :=
  h.same (fun k j e => if_neg (by omega)) (fun w t e => e)
theorem CV.stop {C : Nat → Nat → Int32} {tk : Nat → Option Nat} {b : Bool} {c : Nat} {sz : Nat → Nat} (h : CV C tk b c sz) : CV (dpC (xu C 0 7 (nI 0)) (fun _ => true) 4) (dpT tk (fun _ => true) 4) b c sz :=
  ⟨h.1.giv, fun w t hw e => h.2.1 w t hw (dpT_t e), fun q => absurd (by rw [dpC_k (by omega), xu_s]; rfl) q⟩
theorem cloL_keep2 {C : Nat → Nat → Int32} {w : Int32} {k j : Nat} (h4 : ¬ (56 ≤ k ∧ k % 3 = 2 ∧ j = 4)) (h : ¬ (k = 0 ∧ j = 14)) : ∀ t, t ≤ 6 → (cloL C w t).1 k j = C k j
  | 0, _ => rfl
  | t + 1, ht => by
    have ih := cloL_keep2 (C := C) (w := w) h4 h t (by omega)
    have e : taddr t = 56 + 3 * t := by unfold taddr; rw [if_pos (by omega)]
    rw [cloL]
    split
    · dsimp only
      rw [show ∀ (f : Nat → Nat → Int32) v, xu f 0 14 v k j = f k j from fun f v => if_neg h, show ∀ (f : Nat → Nat → Int32) v, xu f (taddr t) 4 v k j = f k j from fun f v => if_neg (by omega)]
      exact ih
    · exact ih
theorem CV.worker {C : Nat → Nat → Int32} {tk : Nat → Option Nat} {b : Bool} {c : Nat} {sz : Nat → Nat} (h : CV C tk b c sz) {w : Nat} (hw : w < 4) (up : Int32) : CV (wkC C tk w up c).1 (wkC C tk w up c).2 b c sz := by
  have hc6 := h.1.2.1.2
  unfold wkC
  split
  · exact h
  · split
    · have h1 : CV (xu (xu C (50 + w) 0 up) (50 + w) 3 (nI 0)) (xr tk w none) b c sz := h.same (fun k j e => by
        rw [show ∀ (f : Nat → Nat → Int32) v, xu f (50 + w) 3 v k j = f k j from fun f v => if_neg (by omega)]; exact if_neg (by omega)) (fun i t e => by
        by_cases hi : i = w
        · subst hi; rw [xr_s] at e; cases e
        · rw [xr_n _ _ hi] at e; exact e)
      unfold lsD
      split
      · exact h1
      · split
        · exact h1.same (fun k j e => by dsimp only; rw [dpC_k (by omega), cloL_keep2 (by omega) (by omega) c hc6]) (fun i t e => dpT_t e)
        · exact h1.same (fun k j e => cloL_keep2 (by omega) (by omega) c hc6) (fun i t e => e)
    · exact h.same (fun k j e => if_neg (by omega)) (fun i t e => e)
