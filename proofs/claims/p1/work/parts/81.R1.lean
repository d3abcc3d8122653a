/-! REDUCING: the reference by places, the class by a list -/
def gro (r f : Int32) : List KV → Option KV → Option (List KV)
  | [], y => some y.toList
  | x :: q, none => if x.2 < f then gro r f q none else gro r f q (some (x.1, ini r x.2))
  | x :: q, some y => if x.2 < f then gro r f q (some y) else if y.1 = x.1 then (if r = nI 4 ∧ x.2 = 0 then none else gro r f q (some (y.1, comb r y.2 x.2))) else (gro r f q (some (x.1, ini r x.2))).map (fun l => y :: l)
theorem crd_gro (r f : Int32) : ∀ (q A : List KV) (y : Option KV), (∀ l, gro r f q y = some l → crd r f q A y = (true, A ++ l)) ∧ (gro r f q y = none → (crd r f q A y).1 = false)
  | [], A, y => by
    refine ⟨fun l h => ?_, fun h => by cases y <;> cases h⟩
    have e : y.toList = l := by cases y <;> exact Option.some.inj h
    rw [← e]
    cases y <;> rfl
  | x :: q, A, none => by
    rw [gro, crd]
    split
    · exact crd_gro r f q A none
    · exact crd_gro r f q A _
  | x :: q, A, some y => by
    rw [gro, crd]
    split
    · exact crd_gro r f q A _
    · split
      · split
        · exact ⟨fun l h => (by cases h), fun _ => rfl⟩
        · exact crd_gro r f q A _
      · have ih := crd_gro r f q (A ++ [y]) (some (x.1, ini r x.2))
        refine ⟨fun l h => ?_, fun h => ?_⟩
        · obtain ⟨l', h1, h2⟩ := Option.map_eq_some_iff.mp h
          rw [ih.1 l' h1, ← h2, List.append_assoc]; rfl
        · exact ih.2 (Option.map_eq_none_iff.mp h)
/-- the reference: the values of key k at the head of a list -/
def rdl (r f k : Int32) : List KV → Int32 → Nat → Int32 × Nat × Bool
  | [], x, n => (x, n, false)
  | a :: s, x, n => if a.1 = k then (if a.2 < f then rdl r f k s x n else if r = nI 4 ∧ 0 < n ∧ a.2 = 0 then (x, n + 1, true) else rdl r f k s (cmb r x n a.2) (n + 1)) else (x, n, false)
def okr (r : Int32) : Prop := r = nI 0 ∨ r = nI 1 ∨ r = nI 2 ∨ r = nI 3 ∨ r = nI 4
theorem cmb_at (x v : Int32) (n : Nat) : cmb (nI 0) x n v = x + v ∧ cmb (nI 1) x n v = nI n + nI 1 ∧ cmb (nI 2) x n v = (if n = 0 ∨ x < v then v else x) ∧ cmb (nI 3) x n v = x * nI 31 + v ∧ cmb (nI 4) x n v = (if n = 0 then v else x / v) := by
  refine ⟨?_, ?_, ?_, ?_, ?_⟩ <;> unfold cmb
  · rw [if_pos rfl]
  · rw [if_neg (by decide), if_pos rfl]
  · rw [if_neg (by decide), if_neg (by decide), if_pos rfl]
  · rw [if_neg (by decide), if_neg (by decide), if_neg (by decide), if_pos rfl]
  · rw [if_neg (by decide), if_neg (by decide), if_neg (by decide), if_neg (by decide), if_pos rfl]
theorem comb_at (x v : Int32) : comb (nI 0) x v = x + v ∧ comb (nI 1) x v = x + nI 1 ∧ comb (nI 2) x v = (if x < v then v else x) ∧ comb (nI 3) x v = x * nI 31 + v ∧ comb (nI 4) x v = (if v = 0 then nI 0 else x / v) := by
  refine ⟨?_, ?_, ?_, ?_, ?_⟩ <;> unfold comb
  · rw [if_pos rfl]
  · rw [if_neg (by decide), if_pos rfl]
  · rw [if_neg (by decide), if_neg (by decide), if_pos rfl]
  · rw [if_neg (by decide), if_neg (by decide), if_neg (by decide), if_pos rfl]
  · rw [if_neg (by decide), if_neg (by decide), if_neg (by decide), if_neg (by decide), if_pos rfl]
theorem ini_ne {r v : Int32} (h : ¬ r = nI 1) : ini r v = v := if_neg h
theorem cmb_ini {r v : Int32} (hr : okr r) : cmb r (nI 0) 0 v = ini r v ∧ (r = nI 1 → ini r v = nI 1) := by
  obtain ⟨c0, c1, c2, c3, c4⟩ := cmb_at (nI 0) v 0
  refine ⟨?_, fun h => if_pos h⟩
  rcases hr with rfl | rfl | rfl | rfl | rfl
  · rw [c0, ini_ne (by decide)]; exact Int32.zero_add v
  · rw [c1, show ini (nI 1) v = nI 1 from if_pos rfl]; decide
  · rw [c2, ini_ne (by decide), if_pos (Or.inl rfl)]
  · rw [c3, ini_ne (by decide), show nI 0 * nI 31 = 0 by decide]; exact Int32.zero_add v
  · rw [c4, ini_ne (by decide), if_pos rfl]
theorem cmb_comb {r x v : Int32} {n : Nat} (hr : okr r) (hn : 0 < n) (hx : r = nI 1 → x = nI n) (hz : ¬ (r = nI 4 ∧ v = 0)) : cmb r x n v = comb r x v ∧ (r = nI 1 → comb r x v = nI (n + 1)) := by
  obtain ⟨c0, c1, c2, c3, c4⟩ := cmb_at x v n
  obtain ⟨d0, d1, d2, d3, d4⟩ := comb_at x v
  constructor
  · rcases hr with rfl | rfl | rfl | rfl | rfl
    · rw [c0, d0]
    · rw [c1, d1, hx rfl]
    · rw [c2, d2]
      by_cases h : x < v
      · rw [if_pos (Or.inr h), if_pos h]
      · rw [if_neg (by rintro (q | q); omega; exact h q), if_neg h]
    · rw [c3, d3]
    · rw [c4, d4, if_neg (by omega), if_neg (fun q => hz ⟨rfl, q⟩)]
  · intro e
    subst e
    rw [d1, hx rfl, nI_add]
theorem gro_new (r f : Int32) {k x : Int32} : ∀ (t : List KV), (∀ a ∈ t, ¬ k = a.1) → gro r f t (some (k, x)) = (gro r f t none).map (fun l => (k, x) :: l)
  | [], _ => rfl
  | b :: t, h => by
    rw [gro, gro]
    split
    · exact gro_new r f t (fun a ha => h a (List.mem_cons_of_mem _ ha))
    · rw [if_neg (h b List.mem_cons_self)]
/-- the key's own pairs, then the others -/
theorem gro_grp {r f k : Int32} (hr : okr r) (P : Int32 → Bool) (hP : P k = true) : ∀ (s : List KV), srt s → (∀ a ∈ s, k.toInt ≤ a.1.toInt) →
    (∀ (x : Int32) (n : Nat), 0 < n → (r = nI 1 → x = nI n) → gro r f (s.filter (fun a => P a.1)) (some (k, x)) = if (rdl r f k s x n).2.2 = true then none else (gro r f (s.filter (fun a => P a.1 && decide (¬ a.1 = k))) none).map (fun l => (k, (rdl r f k s x n).1) :: l)) ∧
    gro r f (s.filter (fun a => P a.1)) none = if (rdl r f k s (nI 0) 0).2.2 = true then none else if (rdl r f k s (nI 0) 0).2.1 = 0 then gro r f (s.filter (fun a => P a.1 && decide (¬ a.1 = k))) none else (gro r f (s.filter (fun a => P a.1 && decide (¬ a.1 = k))) none).map (fun l => (k, (rdl r f k s (nI 0) 0).1) :: l)
  | [], _, _ => ⟨fun x n _ _ => rfl, rfl⟩
  | a :: s, hs, hk => by
    rw [srt, List.pairwise_cons] at hs
    have ih := gro_grp hr P hP (f := f) s hs.2 (fun b hb => hk b (List.mem_cons_of_mem _ hb))
    by_cases ha : a.1 = k
    · have f1 : (a :: s).filter (fun a => P a.1) = a :: s.filter (fun a => P a.1) := List.filter_cons_of_pos (p := fun (a : KV) => P a.1) (by show P a.1 = true; rw [ha]; exact hP)
      have f2 : (a :: s).filter (fun a => P a.1 && decide (¬ a.1 = k)) = s.filter (fun a => P a.1 && decide (¬ a.1 = k)) := List.filter_cons_of_neg (by simp [ha])
      rw [f1, f2]
      constructor
      · intro x n hn hx
        by_cases hv : a.2 < f
        · rw [show rdl r f k (a :: s) x n = rdl r f k s x n by rw [rdl, if_pos ha, if_pos hv], show gro r f (a :: s.filter (fun a => P a.1)) (some (k, x)) = gro r f (s.filter (fun a => P a.1)) (some (k, x)) by rw [gro, if_pos hv]]
          exact ih.1 x n hn hx
        · by_cases hz : r = nI 4 ∧ a.2 = 0
          · rw [show rdl r f k (a :: s) x n = (x, n + 1, true) by rw [rdl, if_pos ha, if_neg hv, if_pos ⟨hz.1, hn, hz.2⟩], show gro r f (a :: s.filter (fun a => P a.1)) (some (k, x)) = none by rw [gro, if_neg hv, if_pos ha.symm, if_pos hz]]
            rfl
          · have cc := cmb_comb hr hn hx hz
            rw [show rdl r f k (a :: s) x n = rdl r f k s (comb r x a.2) (n + 1) by rw [rdl, if_pos ha, if_neg hv, if_neg (fun q => hz ⟨q.1, q.2.2⟩), cc.1], show gro r f (a :: s.filter (fun a => P a.1)) (some (k, x)) = gro r f (s.filter (fun a => P a.1)) (some (k, comb r x a.2)) by rw [gro, if_neg hv, if_pos ha.symm, if_neg hz]]
            exact ih.1 _ (n + 1) (by omega) cc.2
      · by_cases hv : a.2 < f
        · rw [show rdl r f k (a :: s) (nI 0) 0 = rdl r f k s (nI 0) 0 by rw [rdl, if_pos ha, if_pos hv], show gro r f (a :: s.filter (fun a => P a.1)) none = gro r f (s.filter (fun a => P a.1)) none by rw [gro, if_pos hv]]
          exact ih.2
        · have ci := cmb_ini (v := a.2) hr
          have mono : ∀ (t : List KV) (x : Int32) (n : Nat), n ≤ (rdl r f k t x n).2.1 := by
            intro t
            induction t with
            | nil => intro x n; exact Nat.le_refl _
            | cons b t iht =>
              intro x n
              rw [rdl]
              split
              · split
                · exact iht x n
                · split
                  · exact Nat.le_succ n
                  · exact Nat.le_trans (Nat.le_succ n) (iht _ _)
              · exact Nat.le_refl _
          have m1 := mono s (ini r a.2) 1
          rw [show rdl r f k (a :: s) (nI 0) 0 = rdl r f k s (ini r a.2) 1 by rw [rdl, if_pos ha, if_neg hv, if_neg (fun q => absurd q.2.1 (by omega)), ci.1], show gro r f (a :: s.filter (fun a => P a.1)) none = gro r f (s.filter (fun a => P a.1)) (some (k, ini r a.2)) by rw [gro, if_neg hv, ha]]
          rw [ih.1 (ini r a.2) 1 (by omega) ci.2, if_neg (c := (rdl r f k s (ini r a.2) 1).2.1 = 0) (by omega)]
    · have hlt : ∀ b ∈ a :: s, ¬ k = b.1 := by
        intro b hb e
        have h1 := hk a List.mem_cons_self
        have h2 : k.toInt ≠ a.1.toInt := fun q => ha (Int32.toInt_inj.mp q).symm
        rcases List.mem_cons.mp hb with rfl | hb
        · exact ha e.symm
        · have h3 := hs.1 b hb
          unfold kle at h3
          rw [e] at h1 h2
          omega
      have f3 : (a :: s).filter (fun a => P a.1 && decide (¬ a.1 = k)) = (a :: s).filter (fun a => P a.1) := by
        apply List.filter_congr
        intro b hb
        have h9 : ¬ b.1 = k := fun q => hlt b hb q.symm
        rw [decide_eq_true h9, Bool.and_true]
      rw [f3]
      constructor
      · intro x n hn hx
        rw [show rdl r f k (a :: s) x n = (x, n, false) by rw [rdl, if_neg ha], gro_new r f _ (fun b hb => hlt b (List.mem_filter.mp hb).1)]
        rfl
      · rw [show rdl r f k (a :: s) (nI 0) 0 = (nI 0, 0, false) by rw [rdl, if_neg ha]]; rfl
/-- the reference over a list, prev the key before -/
def rclo (r f : Int32) (P : Int32 → Bool) : Option Int32 → List KV → Option (List KV)
  | _, [] => some []
  | prev, a :: s => if prev = some a.1 ∨ ¬ P a.1 = true then rclo r f P (some a.1) s else
      if (rdl r f a.1 (a :: s) (nI 0) 0).2.2 = true then none else if (rdl r f a.1 (a :: s) (nI 0) 0).2.1 = 0 then rclo r f P (some a.1) s
      else (rclo r f P (some a.1) s).map (fun l => (a.1, (rdl r f a.1 (a :: s) (nI 0) 0).1) :: l)
theorem rclo_gro {r f : Int32} (hr : okr r) (P : Int32 → Bool) : ∀ (s : List KV) (prev : Option Int32), srt s → (∀ k, prev = some k → ∀ a ∈ s, k.toInt ≤ a.1.toInt) → rclo r f P prev s = gro r f (s.filter (fun a => P a.1 && decide (¬ some a.1 = prev))) none
  | [], prev, _, _ => rfl
  | a :: s, prev, hs, hk => by
    have hs0 := hs
    rw [srt, List.pairwise_cons] at hs
    have ih := rclo_gro (f := f) hr P s (some a.1) hs.2 (fun k e b hb => by cases e; exact hs.1 b hb)
    have e1 : s.filter (fun b => P b.1 && decide (¬ some b.1 = some a.1)) = s.filter (fun b => P b.1 && decide (¬ b.1 = a.1)) := List.filter_congr (fun b _ => by simp)
    rw [e1] at ih
    rw [rclo]
    by_cases hp : prev = some a.1
    · rw [if_pos (Or.inl hp), ih]
      subst hp
      rw [List.filter_cons_of_neg (by simp)]
      rw [e1]
    · -- no key of what follows is the one before
      have np : ∀ b ∈ a :: s, ¬ some b.1 = prev := by
        intro b hb e
        have h1 := hk b.1 e.symm a List.mem_cons_self
        have h2 : b.1.toInt ≠ a.1.toInt := fun q => hp (by rw [← e, Int32.toInt_inj.mp q])
        rcases List.mem_cons.mp hb with rfl | hb
        · exact h2 rfl
        · have h3 := hs.1 b hb
          unfold kle at h3
          omega
      have e2 : (a :: s).filter (fun b => P b.1 && decide (¬ some b.1 = prev)) = (a :: s).filter (fun b => P b.1) := List.filter_congr (fun b hb => by rw [decide_eq_true (np b hb), Bool.and_true])
      rw [e2]
      by_cases hP : P a.1 = true
      · rw [if_neg (by rintro (q | q); exact hp q; exact q hP)]
        have g := (gro_grp (f := f) hr P hP (a :: s) hs0 (fun b hb => by
          rcases List.mem_cons.mp hb with rfl | hb
          · exact Int.le_refl _
          · exact hs.1 b hb)).2
        have f2 : (a :: s).filter (fun b => P b.1 && decide (¬ b.1 = a.1)) = s.filter (fun b => P b.1 && decide (¬ b.1 = a.1)) := List.filter_cons_of_neg (by simp)
        rw [f2] at g
        rw [g, ih]
      · rw [if_pos (Or.inr hP), ih]
        have f3 : (a :: s).filter (fun b => P b.1) = s.filter (fun b => P b.1) := List.filter_cons_of_neg hP
        rw [f3]
        congr 1
        apply List.filter_congr
        intro b hb
        by_cases e : b.1 = a.1
        · rw [e]; simp [hP]
        · simp [e]
