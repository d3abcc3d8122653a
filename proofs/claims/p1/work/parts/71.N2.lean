/-! keys of a job, and what the reference keeps -/
theorem nI_rg {n : Nat} (h : n ≤ 9) : -1 ≤ (nI n).toInt ∧ (nI n).toInt ≤ 9 := by rw [nI_toInt (by omega)]; omega
theorem dg_key : ∀ (f n : Nat), ∀ y ∈ dg f n, -1 ≤ y.1.toInt ∧ y.1.toInt ≤ 9
  | 0, _, y, h => by cases h
  | f + 1, n, y, h => by
    unfold dg at h
    rcases List.mem_cons.mp h with rfl | h
    · exact nI_rg (by omega)
    · split at h
      · cases h
      · exact dg_key f _ y h
theorem mpL_key {m v : Int32} (hm : ¬ m = nI 3) : ∀ y ∈ mpL m v, -1 ≤ y.1.toInt ∧ y.1.toInt ≤ 9 := by
  intro y h
  unfold mpL at h
  split at h
  · rw [List.mem_singleton] at h
    subst h
    show -1 ≤ (mdl v (nI 5)).toInt ∧ (mdl v (nI 5)).toInt ≤ 9
    rw [mdl_pt (by decide) (by decide)]
    exact nI_rg (by have := pt_lt (show 0 < 5 by decide) v; omega)
  · split at h
    · exact dg_key _ _ y h
    · split at h
      · rw [List.mem_singleton] at h
        subst h
        show -1 ≤ (mdl v (nI 3)).toInt ∧ (mdl v (nI 3)).toInt ≤ 9
        rw [mdl_pt (by decide) (by decide)]
        exact nI_rg (by have := pt_lt (show 0 < 3 by decide) v; omega)
      · rcases List.mem_cons.mp h with rfl | h
        · show -1 ≤ (if v < 0 then (-1 : Int32) else if 0 < v then nI 1 else nI 0).toInt ∧ (if v < 0 then (-1 : Int32) else if 0 < v then nI 1 else nI 0).toInt ≤ 9
          split
          · decide
          · split <;> decide
        · split at h
          · cases h
          · rw [List.mem_singleton] at h
            subst h
            exact nI_rg (by omega)
theorem mpL_3 (v : Int32) : (mpL (nI 3) v).length ≤ 1 := by
  unfold mpL
  rw [if_neg (by decide), if_neg (by decide), if_neg (by decide), if_pos rfl]
  split <;> simp
/-- few keys: in a range, or few pairs -/
def few (L : List KV) (n : Nat) : Prop := (∀ y ∈ L, -1 ≤ y.1.toInt ∧ y.1.toInt ≤ 9) ∨ L.length ≤ n
theorem cL_key {S : Nat → Nat → Int32} (hm : ¬ S 0 17 = nI 3) (c : Nat) : ∀ n, ∀ y ∈ cL S c n, -1 ≤ y.1.toInt ∧ y.1.toInt ≤ 9
  | 0, y, h => by cases h
  | n + 1, y, h => by
    rcases List.mem_append.mp h with h | h
    · exact cL_key hm c n y h
    · exact mpL_key hm y h
theorem aL_key {S : Nat → Nat → Int32} (hm : ¬ S 0 17 = nI 3) (sz : Nat → Nat) : ∀ c, ∀ y ∈ aL S sz c, -1 ≤ y.1.toInt ∧ y.1.toInt ≤ 9
  | 0, y, h => by cases h
  | c + 1, y, h => by
    rcases List.mem_append.mp h with h | h
    · exact aL_key hm sz c y h
    · exact cL_key hm c _ y h
theorem cL_3 {S : Nat → Nat → Int32} (hm : S 0 17 = nI 3) (c : Nat) : ∀ n, (cL S c n).length ≤ n
  | 0 => Nat.le_refl 0
  | n + 1 => by
    have h1 := cL_3 hm c n
    have h2 := mpL_3 (S 2 (c * 6 + n))
    unfold cL
    rw [List.length_append, hm]
    omega
theorem aL_3 {S : Nat → Nat → Int32} (hm : S 0 17 = nI 3) {sz : Nat → Nat} : ∀ c, (∀ t, t < c → sz t ≤ 6) → (aL S sz c).length ≤ 6 * c
  | 0, _ => Nat.le_refl 0
  | c + 1, h => by
    have h1 := aL_3 hm c (fun t ht => h t (by omega))
    have h2 := cL_3 hm c (sz c)
    have h3 := h c (by omega)
    unfold aL
    rw [List.length_append]
    omega
theorem aL_few (S : Nat → Nat → Int32) {sz : Nat → Nat} {c : Nat} (hc : c ≤ 6) (hz : ∀ t, t < c → sz t ≤ 6) : few (aL S sz c) 36 := by
  by_cases hm : S 0 17 = nI 3
  · right
    have := aL_3 hm (sz := sz) c hz
    omega
  · exact Or.inl (aL_key hm sz c)
theorem few.isort {L : List KV} {n : Nat} (h : few L n) : few (isort L) n := by
  rcases h with h | h
  · exact Or.inl (fun y hy => h y (isort_mem.mp hy))
  · right; rw [isort_len]; exact h
theorem few.filter {L : List KV} {n : Nat} (h : few L n) (f : KV → Bool) : few (L.filter f) n := by
  rcases h with h | h
  · exact Or.inl (fun y hy => h y (List.mem_filter.mp hy).1)
  · exact Or.inr (Nat.le_trans (List.length_filter_le f L) h)
/-- the key's changes among the first places -/
def kch (f : Nat → Int32) : Nat → Nat
  | 0 => 0
  | i + 1 => kch f i + (if 0 < i ∧ f (i - 1) = f i then 0 else 1)
theorem gs_kch (S : Nat → Nat → Int32) (p : Nat) : ∀ i, gs S p i ≤ kch (S 10) i
  | 0 => Nat.le_refl 0
  | i + 1 => by
    have ih := gs_kch S p i
    unfold gs kch
    by_cases h : 0 < i ∧ S 10 (i - 1) = S 10 i
    · rw [if_pos h, if_pos (Or.inl h)]; omega
    · rw [if_neg h]
      split <;> omega
theorem kch_le (f : Nat → Int32) : ∀ i, kch f i ≤ i
  | 0 => Nat.le_refl 0
  | i + 1 => by
    have := kch_le f i
    unfold kch; split <;> omega
theorem kch_srt {f : Nat → Int32} {lo : Int} : ∀ i, (∀ j, j ≤ i → lo ≤ (f j).toInt) → (∀ j, j < i → (f j).toInt ≤ (f (j + 1)).toInt) → (kch f (i + 1) : Int) ≤ 1 + (f i).toInt - lo
  | 0, h1, _ => by
    have := h1 0 (Nat.le_refl 0)
    show ((0 + (if 0 < 0 ∧ f (0 - 1) = f 0 then 0 else 1) : Nat) : Int) ≤ _
    rw [if_neg (by omega)]; omega
  | i + 1, h1, h2 => by
    have ih := kch_srt (f := f) (lo := lo) i (fun j hj => h1 j (by omega)) (fun j hj => h2 j (by omega))
    have h3 := h2 i (by omega)
    show ((kch f (i + 1) + (if 0 < i + 1 ∧ f (i + 1 - 1) = f (i + 1) then 0 else 1) : Nat) : Int) ≤ _
    rw [Nat.add_sub_cancel]
    by_cases h : f i = f (i + 1)
    · rw [if_pos ⟨by omega, h⟩]; omega
    · rw [if_neg (fun q => h q.2)]
      have : (f i).toInt ≠ (f (i + 1)).toInt := fun q => h (Int32.toInt_inj.mp q)
      omega
theorem kch_36 {f : Nat → Int32} {q : List KV} (hs : srt q) (hf : ∀ i (hi : i < q.length), f i = (q[i]).1) (h : few q 36) : kch f q.length ≤ 36 := by
  rcases h with h | h
  · cases hn : q.length with
    | zero => exact Nat.zero_le _
    | succ n =>
      have e : ∀ j, j ≤ n → ∃ y ∈ q, f j = y.1 := fun j hj => ⟨q[j], List.getElem_mem _, hf j (by omega)⟩
      have k1 := kch_srt (f := f) (lo := -1) n (fun j hj => by obtain ⟨y, hy, e⟩ := e j hj; rw [e]; exact (h y hy).1) (fun j hj => by
        rw [hf j (by omega), hf (j + 1) (by omega)]
        exact (List.pairwise_iff_getElem.mp hs) j (j + 1) (by omega) (by omega) (by omega))
      obtain ⟨y, hy, e⟩ := e n (Nat.le_refl n)
      have := (h y hy).2
      rw [e] at k1
      omega
  · have := kch_le f q.length
    omega
/-! what the ticks keep beside -/
def MP (A1 A2 : Nat → Int32) (S : Nat → Nat → Int32) : Prop := S 1 = A1 ∧ S 2 = A2 ∧ (∃ q, S 0 25 = nI q ∧ q ≤ 3) ∧ ∀ p, p < 3 → ∃ n, S 15 p = nI n ∧ n ≤ 100
theorem MP.same {A1 A2 : Nat → Int32} {S T : Nat → Nat → Int32} (h : MP A1 A2 S) (e1 : T 1 = S 1) (e2 : T 2 = S 2) (e25 : T 0 25 = S 0 25) (e15 : T 15 = S 15) : MP A1 A2 T :=
  ⟨e1.trans h.1, e2.trans h.2.1, by rw [e25]; exact h.2.2.1, by rw [e15]; exact h.2.2.2⟩
theorem MP.xu0 {A1 A2 : Nat → Int32} {S : Nat → Nat → Int32} (h : MP A1 A2 S) {j : Nat} (hj : 25 ≠ j) (v : Int32) : MP A1 A2 (xu S 0 j v) :=
  h.same (xu_k _ _ _ (by decide)) (xu_k _ _ _ (by decide)) (xu_j _ _ _ _ hj) (xu_k _ _ _ (by decide))
theorem MP.xuk {A1 A2 : Nat → Int32} {S : Nat → Nat → Int32} (h : MP A1 A2 S) {k : Nat} (h0 : 0 ≠ k) (h1 : 1 ≠ k) (h2 : 2 ≠ k) (h15 : 15 ≠ k) (j : Nat) (v : Int32) : MP A1 A2 (xu S k j v) :=
  h.same (xu_k _ _ _ h1) (xu_k _ _ _ h2) (congrFun (xu_k _ _ _ h0) 25) (xu_k _ _ _ h15)
theorem MP.get {A1 A2 : Nat → Int32} {S : Nat → Nat → Int32} {c r np w : Nat} (h : MP A1 A2 S) : MP A1 A2 (gtS S c r np w) := by
  rcases gtS_case S c r np w with e | ⟨t, T, -, e, hT⟩
  · rw [e]; exact h
  · rw [e]
    have hT2 : MP A1 A2 T := by
      rcases hT with rfl | rfl
      · exact h
      · exact h.xu0 (by decide) _
    exact (hT2.xuk (by decide) (by decide) (by decide) (by decide) _ _).xuk (by decide) (by decide) (by decide) (by decide) _ _
theorem MP.unit {A1 A2 : Nat → Int32} {S : Nat → Nat → Int32} {w : Nat} (h : MP A1 A2 S) : MP A1 A2 (wkU S w) :=
  h.same (wkU_k (by decide) (by decide)) (wkU_k (by decide) (by decide)) (congrFun (wkU_k (by decide) (by decide)) 25) (wkU_k (by decide) (by decide))
theorem MP.fn1 {A1 A2 : Nat → Int32} {S : Nat → Nat → Int32} {w tn : Nat} (h : MP A1 A2 S) : MP A1 A2 (fn1 S w tn) :=
  h.same (fn1_k (by decide) (by decide) (by decide) (by decide)) (fn1_k (by decide) (by decide) (by decide) (by decide)) (congrFun (fn1_k (by decide) (by decide) (by decide) (by decide)) 25) (fn1_k (by decide) (by decide) (by decide) (by decide))
theorem MP.rc {A1 A2 : Nat → Int32} {S : Nat → Nat → Int32} {np pn i : Nat} {put : Int32} (h : MP A1 A2 S) : MP A1 A2 (rcS S np put pn i).1 :=
  h.same (rcS_k (by decide) (by decide) (by decide)) (rcS_k (by decide) (by decide) (by decide)) (rcS_keep (by decide) (by decide) (by omega) i) (rcS_k (by decide) (by decide) (by decide))
theorem MP.gvs {A1 A2 : Nat → Int32} {S : Nat → Nat → Int32} {ro : Int32} {n : Nat} (h : MP A1 A2 S) : MP A1 A2 (gvS S ro n) :=
  h.same (gvS_k _ _ _ (by decide) (by decide)) (gvS_k _ _ _ (by decide) (by decide)) (congrFun (gvS_k _ _ _ (by decide) (by decide)) 25) (gvS_k _ _ _ (by decide) (by decide))
theorem MP.fin {A1 A2 : Nat → Int32} {S : Nat → Nat → Int32} {np w tn : Nat} (h : MP A1 A2 S) : MP A1 A2 (fnS S np w tn) := by
  unfold fnS
  split
  · exact h.fn1
  · split
    · exact h.fn1.rc
    · exact (h.fn1.rc.xu0 (by decide) _).gvs
theorem MP.w2 {A1 A2 : Nat → Int32} {U : Nat → Nat → Int32} {np w : Nat} {sm : Bool} (h : MP A1 A2 U) : MP A1 A2 (wk2 U np w sm).1 := by
  unfold wk2
  split
  · exact h
  · split
    · exact h.unit
    · exact h.unit.fin
theorem MP.w1 {A1 A2 : Nat → Int32} {S : Nat → Nat → Int32} {c r np w : Nat} {sm : Bool} (h : MP A1 A2 S) : MP A1 A2 (wk1 S c r np w sm).1 := by
  unfold wk1
  split
  · exact h
  · refine MP.w2 ?_
    split
    · exact h.get
    · exact h
theorem MP.tl {A1 A2 : Nat → Int32} {S : Nat → Nat → Int32} {c r np : Nat} (h : MP A1 A2 S) : ∀ w, MP A1 A2 (tkL S c r np w).1
  | 0 => h.xu0 (by decide) _
  | w + 1 => by
    have ih := h.tl (c := c) (r := r) (np := np) w
    rw [tkL]
    split
    · exact ih
    · exact ih.w1
theorem enL_out {T : Nat → Nat → Int32} {np : Nat} (hg : ∀ p, gs T p np ≤ 100) (h15 : ∀ p, p < 3 → ∃ n, T 15 p = nI n ∧ n ≤ 100) : ∀ m, ∀ p, p < 3 → ∃ n, enL T np m 15 p = nI n ∧ n ≤ 100
  | 0 => h15
  | m + 1 => fun p hp => by
    have ih := enL_out hg h15 m
    by_cases e : p = m
    · subst e
      have h1 := rcS_gs (enL T np p) np (nI 1) p np
      have h2 := gs_congr (S := enL T np p) (T := T) (funext (fun j => enL_keep (by decide) (by decide) (by decide) (by omega) p)) (enL_keep (by decide) (by decide) (by decide) (by omega) p) p np
      have h3 := hg p
      exact ⟨_, xu_s _ _ _ _, by omega⟩
    · show ∃ n, xu (rcS (enL T np m) np (nI 1) m np).1 15 m _ 15 p = nI n ∧ n ≤ 100
      rw [xu_j _ _ _ _ e, rcS_k (by decide) (by decide) (by decide)]
      exact ih p hp
theorem MP.tick {A1 A2 : Nat → Int32} {S : Nat → Nat → Int32} {c r np : Nat} (h : MP A1 A2 S) (hT : TI S c r np) : MP A1 A2 (tkS S c r np) := by
  have hL := h.tl (c := c) (r := r) (np := np) 4
  have hTL := hT.keepL 4
  unfold tkS tkE
  split
  · exact hL
  · split
    · obtain ⟨a1, a2, a3, a4, a5, a6, a7, a8, a9, a10⟩ := hTL
      generalize (tkL S c r np 4).1 = U at *
      have e0 : ∀ k, k ≠ 0 → en0 U k = U k := fun k hk => by unfold en0; rw [xu_k _ _ _ hk, xu_k _ _ _ hk, xu_k _ _ _ hk]
      have e19 : en0 U 0 19 = U 0 19 := by unfold en0; rw [xu_j _ _ _ _ (by decide), xu_j _ _ _ _ (by decide), xu_j _ _ _ _ (by decide)]
      have e25 : en0 U 0 25 = U 0 19 := xu_s _ _ _ _
      refine ⟨?_, ?_, ⟨r, ?_, a5⟩, ?_⟩
      · exact (funext (fun j => enL_keep (by decide) (by decide) (by decide) (by omega) r)).trans ((e0 1 (by decide)).trans hL.1)
      · exact (funext (fun j => enL_keep (by decide) (by decide) (by decide) (by omega) r)).trans ((e0 2 (by decide)).trans hL.2.1)
      · rw [enL_keep (by decide) (by decide) (by decide) (by omega) r, e25]; exact a3
      · refine enL_out (fun p => ?_) ?_ r
        · rw [gs_congr (T := U) (e0 10 (by decide)) e19]; exact a10 p
        · rw [e0 15 (by decide)]; exact hL.2.2.2
    · split
      · exact hL
      · exact hL.xu0 (by decide) _
theorem MP.run {A1 A2 : Nat → Int32} {S : Nat → Nat → Int32} {c r np : Nat} (h : MP A1 A2 S) (hT : TI S c r np) : ∀ n, MP A1 A2 (rnL S c r np n).1
  | 0 => h
  | n + 1 => by
    have ih := h.run hT n
    rw [rnL]
    split
    · exact ih
    · dsimp only
      exact MP.tick ih (TI.run hT n)
/-- what every call of the reference keeps -/
def MI (S : Nat → Nat → Int32) (c : Nat) (sz : Nat → Nat) : Prop := S 0 13 = nI c ∧ c ≤ 6 ∧ (∀ t, t < c → S 1 t = nI (sz t) ∧ sz t ≤ 6) ∧ (∀ t i, t < c → i < sz t → (S 2 (t * 6 + i)).toInt.natAbs < 10 ^ 6) ∧ (¬ S 0 26 = 0 → ∃ r np, TI S c r np) ∧ MP (S 1) (S 2) S
theorem MI.of {S T : Nat → Nat → Int32} {c : Nat} {sz : Nat → Nat} (h : MI S c sz) (e13 : T 0 13 = S 0 13) (hp : MP (S 1) (S 2) T) (hT : ¬ T 0 26 = 0 → ∃ r np, TI T c r np) : MI T c sz := by
  obtain ⟨a1, a2, a3, a4, a5, a6⟩ := h
  exact ⟨e13.trans a1, a2, by rw [hp.1]; exact a3, by rw [hp.2.1]; exact a4, hT, by rw [hp.1, hp.2.1]; exact hp⟩
theorem TI.xu0 {S : Nat → Nat → Int32} {c r np j : Nat} (h : TI S c r np) (hj : 12 ≠ j ∧ 13 ≠ j ∧ 19 ≠ j ∧ 20 ≠ j) (v : Int32) : TI (xu S 0 j v) c r np :=
  h.keep (xu_k _ _ _ (by decide)) (xu_j _ _ _ _ hj.1) (xu_j _ _ _ _ hj.2.1) (xu_j _ _ _ _ hj.2.2.1) (xu_j _ _ _ _ hj.2.2.2) (fun w _ => Or.inr (Or.inl (congrFun (xu_k _ _ _ (by decide)) w)))
theorem TI.xuk {S : Nat → Nat → Int32} {c r np k : Nat} (h : TI S c r np) (h0 : 0 ≠ k) (h4 : 4 ≠ k) (h10 : 10 ≠ k) (j : Nat) (v : Int32) : TI (xu S k j v) c r np :=
  h.keep (xu_k _ _ _ h10) (congrFun (xu_k _ _ _ h0) _) (congrFun (xu_k _ _ _ h0) _) (congrFun (xu_k _ _ _ h0) _) (congrFun (xu_k _ _ _ h0) _) (fun w _ => Or.inr (Or.inl (congrFun (xu_k _ _ _ h4) w)))
theorem TI.gvs {S : Nat → Nat → Int32} {c r np : Nat} {ro : Int32} {n : Nat} (h : TI S c r np) : TI (gvS S ro n) c r np :=
  h.keep (gvS_k _ _ _ (by decide) (by decide)) (congrFun (gvS_k _ _ _ (by decide) (by decide)) _) (congrFun (gvS_k _ _ _ (by decide) (by decide)) _) (congrFun (gvS_k _ _ _ (by decide) (by decide)) _) (congrFun (gvS_k _ _ _ (by decide) (by decide)) _) (fun w _ => by
    rcases gvS_t S ro n w with q | q
    · exact Or.inl q
    · exact Or.inr (Or.inl q))
theorem MI.xu0 {S : Nat → Nat → Int32} {c j : Nat} {sz : Nat → Nat} (h : MI S c sz) (hj : 12 ≠ j ∧ 13 ≠ j ∧ 19 ≠ j ∧ 20 ≠ j) (h25 : 25 ≠ j) (h26 : 26 ≠ j) (v : Int32) : MI (xu S 0 j v) c sz :=
  h.of (xu_j _ _ _ _ hj.2.1) (h.2.2.2.2.2.xu0 h25 v) (fun q => by
    rw [xu_j _ _ _ _ h26] at q
    obtain ⟨r, np, hT⟩ := h.2.2.2.2.1 q
    exact ⟨r, np, hT.xu0 hj v⟩)
theorem MI.stop {S : Nat → Nat → Int32} {c : Nat} {sz : Nat → Nat} (h : MI S c sz) : MI (stS S) c sz := by
  unfold stS
  split
  · exact h.xu0 (by decide) (by decide) (by decide) _
  · refine h.of ?_ ((h.2.2.2.2.2.xu0 (by decide) _).xu0 (by decide) _).gvs (fun q => absurd ?_ q)
    · rw [gvS_k _ _ _ (by decide) (by decide), xu_j _ _ _ _ (by decide), xu_j _ _ _ _ (by decide)]
    · rw [gvS_k _ _ _ (by decide) (by decide), xu_s]; rfl
theorem MI.speed {S : Nat → Nat → Int32} {c : Nat} {sz : Nat → Nat} (h : MI S c sz) (w s : Int32) : MI (spS S w s) c sz := by
  unfold spS
  split
  · have h1 := h.xu0 (j := 14) (by decide) (by decide) (by decide) (nI 0)
    refine h1.of (congrFun (xu_k _ _ _ (by decide)) _) (h1.2.2.2.2.2.xuk (by decide) (by decide) (by decide) (by decide) _ _) (fun q => ?_)
    rw [xu_k _ _ _ (by decide)] at q
    obtain ⟨r, np, hT⟩ := h1.2.2.2.2.1 q
    exact ⟨r, np, hT.xuk (by decide) (by decide) (by decide) _ _⟩
  · exact h.xu0 (by decide) (by decide) (by decide) _
theorem MP.lo {A1 A2 : Nat → Int32} {V : Nat → Nat → Int32} {w : Int32} (h : MP A1 A2 V) (t : Nat) : MP A1 A2 (loL V w t).1 :=
  h.same (funext (fun j => loL_keep (by decide) (by omega) t)) (funext (fun j => loL_keep (by decide) (by omega) t)) (loL_keep (by decide) (by omega) t) (funext (fun j => loL_keep (by decide) (by omega) t))
theorem TI.lo {V : Nat → Nat → Int32} {w : Int32} {c r np : Nat} (h : TI V c r np) (t : Nat) : TI (loL V w t).1 c r np :=
  h.keep (funext (fun j => loL_keep (by decide) (by omega) t)) (loL_keep (by decide) (by omega) t) (loL_keep (by decide) (by omega) t) (loL_keep (by decide) (by omega) t) (loL_keep (by decide) (by omega) t) (fun i _ => Or.inr (Or.inl (loL_keep (by decide) (by omega) t)))
theorem MI.worker {S : Nat → Nat → Int32} {c : Nat} {sz : Nat → Nat} (h : MI S c sz) (w up : Int32) : MI (woS S w up c) c sz := by
  have h1 := h.xu0 (j := 14) (by decide) (by decide) (by decide) (nI 0)
  have p1 := h1.2.2.2.2.2
  rw [xu_k _ _ _ (by decide), xu_k _ _ _ (by decide)] at p1
  have pw : MP (S 1) (S 2) (wo1 S w.toNatClampNeg up) := ((p1.xuk (by decide) (by decide) (by decide) (by decide) _ _).xuk (by decide) (by decide) (by decide) (by decide) _ _).xuk (by decide) (by decide) (by decide) (by decide) _ _
  have e0 : ∀ j, 14 ≠ j → wo1 S w.toNatClampNeg up 0 j = S 0 j := fun j hj => by
    unfold wo1
    rw [xu_k _ _ _ (by decide), xu_k _ _ _ (by decide), xu_k _ _ _ (by decide), xu_j _ _ _ _ (fun q => hj q.symm)]
  have tw : ¬ S 0 26 = 0 → ∃ r np, TI (wo1 S w.toNatClampNeg up) c r np := fun q => by
    obtain ⟨r, np, hT⟩ := h.2.2.2.2.1 q
    refine ⟨r, np, hT.keep ?_ (e0 _ (by decide)) (e0 _ (by decide)) (e0 _ (by decide)) (e0 _ (by decide)) (fun i hi => ?_)⟩
    · unfold wo1
      rw [xu_k _ _ _ (by decide), xu_k _ _ _ (by decide), xu_k _ _ _ (by decide), xu_k _ _ _ (by decide)]
    · unfold wo1
      rw [xu_k _ _ _ (by decide)]
      by_cases e : i = w.toNatClampNeg
      · subst e; rw [xu_s]; exact Or.inl rfl
      · rw [xu_j _ _ _ _ e, xu_k _ _ _ (by decide), xu_k _ _ _ (by decide)]; exact Or.inr (Or.inl rfl)
  unfold woS
  split
  · split
    · exact h1
    · split
      · split
        · rename_i j0
          exact h.of (e0 _ (by decide)) pw (fun q => absurd ((e0 26 (by decide)).trans j0) q)
        · rename_i j1
          obtain ⟨r, np, hT⟩ := tw j1
          split
          · exact h.of (by rw [gvS_k _ _ _ (by decide) (by decide), loL_keep (by decide) (by omega), e0 _ (by decide)]) (pw.lo c).gvs (fun _ => ⟨r, np, (hT.lo c).gvs⟩)
          · exact h.of (by rw [loL_keep (by decide) (by omega), e0 _ (by decide)]) (pw.lo c) (fun _ => ⟨r, np, hT.lo c⟩)
      · refine h.of (by rw [xu_k _ _ _ (by decide), xu_j _ _ _ _ (by decide)]) (p1.xuk (by decide) (by decide) (by decide) (by decide) _ _) (fun q => ?_)
        rw [xu_k _ _ _ (by decide), xu_j _ _ _ _ (by decide)] at q
        obtain ⟨r, np, hT⟩ := h.2.2.2.2.1 q
        exact ⟨r, np, (hT.xu0 (by decide) _).xuk (by decide) (by decide) (by decide) _ _⟩
  · exact h.xu0 (by decide) (by decide) (by decide) _
theorem MI.run {S : Nat → Nat → Int32} {c r np : Nat} {sz : Nat → Nat} (h : MI S c sz) (hT : ¬ S 0 26 = 0 → TI S c r np) (n : Int32) : MI (rnS S c r np n).1 c sz := by
  unfold rnS
  split
  · split
    · exact (h.xu0 (by decide) (by decide) (by decide) _).xu0 (by decide) (by decide) (by decide) _
    · rename_i j1
      have t0 := (hT j1).xu0 (j := 14) (by decide) (nI 0)
      have p0 := h.2.2.2.2.2.xu0 (j := 14) (by decide) (nI 0)
      have t1 := t0.run n.toNatClampNeg
      exact h.of (t1.1.trans h.1.symm) (p0.run t0 _) (fun _ => ⟨r, np, t1⟩)
  · exact h.xu0 (by decide) (by decide) (by decide) _
