theorem gro_mem (r f : Int32) : ∀ (s : List KV) (y : Option KV) (l : List KV), gro r f s y = some l → ∀ x ∈ l, (∃ a ∈ s, a.1 = x.1) ∨ ∃ y', y = some y' ∧ y'.1 = x.1
  | [], y, l, h, x, hx => by
    cases y with
    | none => cases h; cases hx
    | some y' =>
      have e : [y'] = l := Option.some.inj h
      rw [← e, List.mem_singleton] at hx
      exact Or.inr ⟨y', rfl, by rw [hx]⟩
  | a :: s, none, l, h, x, hx => by
    rw [gro] at h
    split at h
    · rcases gro_mem r f s none l h x hx with ⟨b, hb, e⟩ | ⟨y', e, -⟩
      · exact Or.inl ⟨b, List.mem_cons_of_mem _ hb, e⟩
      · cases e
    · rcases gro_mem r f s _ l h x hx with ⟨b, hb, e⟩ | ⟨y', e, e2⟩
      · exact Or.inl ⟨b, List.mem_cons_of_mem _ hb, e⟩
      · exact Or.inl ⟨a, List.mem_cons_self, by rw [← e2, ← Option.some.inj e]⟩
  | a :: s, some y, l, h, x, hx => by
    rw [gro] at h
    split at h
    · rcases gro_mem r f s (some y) l h x hx with ⟨b, hb, e⟩ | g
      · exact Or.inl ⟨b, List.mem_cons_of_mem _ hb, e⟩
      · exact Or.inr g
    · split at h
      · split at h
        · cases h
        · rcases gro_mem r f s _ l h x hx with ⟨b, hb, e⟩ | ⟨y', e, e2⟩
          · exact Or.inl ⟨b, List.mem_cons_of_mem _ hb, e⟩
          · exact Or.inr ⟨y, rfl, by rw [← e2, ← Option.some.inj e]⟩
      · obtain ⟨l', h1, h2⟩ := Option.map_eq_some_iff.mp h
        rw [← h2] at hx
        rcases List.mem_cons.mp hx with rfl | hx
        · exact Or.inr ⟨x, rfl, rfl⟩
        · rcases gro_mem r f s _ l' h1 x hx with ⟨b, hb, e⟩ | ⟨y', e, e2⟩
          · exact Or.inl ⟨b, List.mem_cons_of_mem _ hb, e⟩
          · exact Or.inl ⟨a, List.mem_cons_self, by rw [← e2, ← Option.some.inj e]⟩
/-- reduce writes behind pn * 100 alone -/
theorem rcS_low {S : Nat → Nat → Int32} {np : Nat} {put : Int32} {pn k x : Nat} (hk : k = 13 ∨ k = 14) (hx : x < pn * 100) : ∀ i, (rcS S np put pn i).1 k x = S k x
  | 0 => rfl
  | i + 1 => by
    have ih := rcS_low (S := S) (np := np) (put := put) hk hx i
    rw [rcS]
    split
    · exact ih
    · split
      · dsimp only; rw [rdT_keep (by omega)]; exact ih
      · dsimp only
        split
        · rw [rdT_keep (by omega)]; exact ih
        · rw [show ∀ (f : Nat → Nat → Int32) m v, xu f 14 (pn * 100 + m) v k x = f k x from fun f m v => if_neg (by omega), show ∀ (f : Nat → Nat → Int32) m v, xu f 13 (pn * 100 + m) v k x = f k x from fun f m v => if_neg (by omega), rdT_keep (by omega)]
          exact ih
theorem rcS_p0 {S : Nat → Nat → Int32} {np pn k x : Nat} (hk : k = 13 ∨ k = 14) : ∀ i, (rcS S np (nI 0) pn i).1 k x = S k x
  | 0 => rfl
  | i + 1 => by
    have ih := rcS_p0 (S := S) (np := np) (pn := pn) (x := x) hk i
    rw [rcS]
    split
    · exact ih
    · split
      · dsimp only; rw [rdT_keep (by omega)]; exact ih
      · dsimp only
        rw [if_pos (show nI 0 = 0 from rfl), rdT_keep (by omega)]; exact ih
def OUTS (S : Nat → Nat → Int32) (O : Nat → List KV) (n : Nat) : Prop := ∀ p, p < n → S 15 p = nI (O p).length ∧ ∀ i (hi : i < (O p).length), S 13 (p * 100 + i) = ((O p)[i]).1 ∧ S 14 (p * 100 + i) = ((O p)[i]).2
theorem enL_fin {T : Nat → Nat → Int32} {q : List KV} (hq : RWS T q) (hs : srt q) (hr : okr (T 0 18)) (h14 : T 0 14 = 0) {O : Nat → List KV} : ∀ m, (∀ p, p < m → gro (T 0 18) (T 0 16) (q.filter (fun a => inP T p a.1)) none = some (O p) ∧ (O p).length ≤ 100) → enL T q.length m 0 14 = 0 ∧ OUTS (enL T q.length m) O m
  | 0, _ => ⟨h14, fun p hp => absurd hp (Nat.not_lt_zero p)⟩
  | m + 1, hg => by
    obtain ⟨ih1, ih2⟩ := enL_fin hq hs hr h14 (O := O) m (fun p hp => hg p (by omega))
    have ek : ∀ k, k ≠ 13 → k ≠ 14 → k ≠ 15 → k ≠ 0 → enL T q.length m k = T k := fun k a b c d => funext (fun j => enL_keep a b c (by omega) m)
    have e0 : ∀ j, j ≠ 14 → j ≠ 27 → enL T q.length m 0 j = T 0 j := fun j a b => enL_keep (by omega) (by omega) (by omega) (by omega) m
    have hq' : RWS (enL T q.length m) q := fun i hi => by rw [ek 10 (by omega) (by omega) (by omega) (by omega), ek 11 (by omega) (by omega) (by omega) (by omega)]; exact hq i hi
    have rf := (rcS_fin hq' hs (by rw [e0 18 (by omega) (by omega)]; exact hr) ih1 (nI 1) m).1 (O m) (by
      unfold inP
      rw [e0 18 (by omega) (by omega), e0 16 (by omega) (by omega), e0 19 (by omega) (by omega)]
      exact (hg m (by omega)).1)
    obtain ⟨r1, r2, r3⟩ := rf
    have eL : enL T q.length (m + 1) = xu (rcS (enL T q.length m) q.length (nI 1) m q.length).1 15 m (nI (rcS (enL T q.length m) q.length (nI 1) m q.length).2) := rfl
    rw [eL]
    refine ⟨by rw [xu_k _ _ _ (by omega)]; exact r1, fun p hp => ?_⟩
    by_cases e : p = m
    · subst e
      rw [xu_s, r2]
      refine ⟨rfl, fun i hi => ?_⟩
      rw [xu_k _ _ _ (by omega), xu_k _ _ _ (by omega)]
      exact r3 (by decide) i hi
    · obtain ⟨o1, o2⟩ := ih2 p (by omega)
      have l1 := (hg p (by omega)).2
      rw [xu_j _ _ _ _ e, rcS_k (by omega) (by omega) (by omega)]
      refine ⟨o1, fun i hi => ?_⟩
      rw [xu_k _ _ _ (by omega), xu_k _ _ _ (by omega), rcS_low (Or.inl rfl) (by omega), rcS_low (Or.inr rfl) (by omega)]
      exact o2 i hi
/-- the outputs of the last job that ended -/
def RO (S C : Nat → Nat → Int32) (b : Bool) : Prop := ∃ (ro : Nat) (O : Nat → List KV), S 0 25 = nI ro ∧ C (jo (!b)) 3 = nI ro ∧ ro ≤ 3 ∧ (ro = 0 → C (jo (!b) + 6) 2 = nI 0) ∧ OUTS S O ro ∧ ∀ p, p < ro → PL C (jo (!b) + 6 + 6 * p) (O p) ∧ (O p).length ≤ 36 ∧ ∀ x ∈ O p, pt ro x.1 = p
section XR7
variable {S C : Nat → Nat → Int32} {tk : Nat → Option Nat} {b : Bool} {c r np : Nat} {q : List KV} {Q : Nat → List KV}
theorem RJ.len (h : RJ S C tk b c r np q Q) {p : Nat} (hp : p < 3) {l : List KV} (hl : gro (S 0 18) (S 0 16) (Q p) none = some l) : l.length ≤ 36 := by
  have e := (crd_gro (S 0 18) (S 0 16) (Q p) [] none).1 l hl
  have h1 := crd_len (S 0 18) (S 0 16) (Q p) [] none
  rw [e] at h1
  have h2 := (h.2.2.2.2.2.2.2.2.2.2.2.2 p hp).2.2
  have h3 : ([] ++ l).length ≤ 0 + rk none (Q p) := h1
  rw [List.nil_append] at h3
  omega
theorem RJ.pts (h : RJ S C tk b c r np q Q) {p : Nat} (hp : p < 3) {l : List KV} (hl : gro (S 0 18) (S 0 16) (Q p) none = some l) : ∀ x ∈ l, pt r x.1 = p := by
  intro x hx
  obtain ⟨-, -, -, -, -, ⟨q1, q2, q3, q4⟩, -, ⟨t1, t2, t3, t4, t5, -⟩, -⟩ := h
  rcases gro_mem _ _ _ _ _ hl x hx with ⟨a, ha, e⟩ | ⟨y', e, -⟩
  · rw [q4 p hp] at ha
    have h1 := of_decide_eq_true (List.mem_filter.mp ha).2
    rw [t3, mdl_pt (by omega) (by omega), e] at h1
    have h2 := pt_lt (show 0 < r by omega) x.1
    exact (nI_inj (by omega) (by omega)).mp h1
  · cases e
/-- the end of a job -/
theorem RJ.en (h : RJ S C tk b c r np q Q) (h14 : S 0 14 = 0) (hm : ∀ t, t < c → ¬ S 8 t = 0) (hd : ∀ p, p < r → ¬ S 8 (8 + p) = 0) : enL (en0 S) np r 0 14 = 0 ∧ RN (enL (en0 S) np r) (eJC C) tk ∧ RO (enL (en0 S) np r) (eJC C) (!b) := by
  have hG := h.2.2.2.2.2.2.1
  have hr1 : 1 ≤ r := h.2.2.2.2.2.2.2.1.2.2.2.1
  obtain ⟨hc6, hr3, htk⟩ := h.c6
  obtain ⟨q1, q2, q3, q4⟩ := h.2.2.2.2.2.1
  obtain ⟨d1, d2, d3⟩ := h.2.2.1
  have e0k : ∀ k, k ≠ 0 → en0 S k = S k := fun k hk => by unfold en0; rw [xu_k _ _ _ hk, xu_k _ _ _ hk, xu_k _ _ _ hk]
  have e00 : ∀ j, j ≠ 25 → j ≠ 22 → j ≠ 26 → en0 S 0 j = S 0 j := fun j a b c => by unfold en0; rw [xu_j _ _ _ _ a, xu_j _ _ _ _ b, xu_j _ _ _ _ c]
  have ex : ∀ p, ∃ l, p < r → gro (S 0 18) (S 0 16) (Q p) none = some l ∧ PL C (jo b + 6 + 6 * p) l := fun p => by
    by_cases hp : p < r
    · obtain ⟨l, a, b⟩ := hG p hp (hd p hp)
      exact ⟨l, fun _ => ⟨a, b⟩⟩
    · exact ⟨[], fun g => absurd g hp⟩
  obtain ⟨O, hO⟩ : ∃ O : Nat → List KV, ∀ p, p < r → gro (S 0 18) (S 0 16) (Q p) none = some (O p) ∧ PL C (jo b + 6 + 6 * p) (O p) := ⟨fun p => (ex p).choose, fun p hp => (ex p).choose_spec hp⟩
  have hf := enL_fin (T := en0 S) (q := q) (fun i hi => by rw [e0k 10 (by omega), e0k 11 (by omega)]; exact q1 i hi) q2 (by rw [e00 18 (by omega) (by omega) (by omega)]; exact d2) (by rw [e00 14 (by omega) (by omega) (by omega)]; exact h14) (O := O) r (fun p hp => by
    have hl := (hO p hp).1
    refine ⟨?_, ?_⟩
    · unfold inP
      rw [e00 18 (by omega) (by omega) (by omega), e00 16 (by omega) (by omega) (by omega), e00 19 (by omega) (by omega) (by omega)]
      have e9 := q4 p (by omega)
      unfold inP at e9
      rw [← e9]
      exact hl
    · have := h.len (by omega) hl
      omega)
  rw [q3] at hf
  have tn : ∀ w, w < 4 → tk w = none := fun w hw => by
    cases e : tk w with
    | none => rfl
    | some t =>
      obtain ⟨i1, i2, -⟩ := h.2.2.2.2.1 w t hw e
      rcases i1 with i1 | ⟨i1, i3⟩
      · exact absurd i2 (hm t i1)
      · have := hd (t - 8) (by omega)
        rw [show 8 + (t - 8) = t by omega] at this
        exact absurd i2 this
  have nk : ∀ k, k ≠ 13 → k ≠ 14 → k ≠ 15 → k ≠ 0 → enL (en0 S) np r k = S k := fun k a b c d => (funext (fun j => enL_keep a b c (by omega) r)).trans (e0k k d)
  have n0 : ∀ j, j ≠ 14 → j ≠ 27 → enL (en0 S) np r 0 j = en0 S 0 j := fun j a b => enL_keep (by omega) (by omega) (by omega) (by omega) r
  have ck : ∀ k j, ¬ (k = 0 ∧ (j = 7 ∨ j = 12)) → eJC C k j = C k j := fun k j hk => by
    unfold eJC
    rw [show ∀ (f : Nat → Nat → Int32) v, xu f 0 12 v k j = f k j from fun f v => if_neg (by omega), show ∀ (f : Nat → Nat → Int32) v, xu f 0 7 v k j = f k j from fun f v => if_neg (by omega)]
  have hb := jo_or b
  obtain ⟨k1, k2, k3, k4, k5, k6⟩ := h.2.1
  refine ⟨hf.1, ⟨fun v hv => ?_, ⟨?_, ?_, ?_, ?_, ?_, ?_⟩, ?_, tn⟩, r, O, ?_, ?_, hr3, fun g => absurd g (by omega), hf.2, fun p hp => ⟨?_, h.len (by omega) (hO p hp).1, h.pts (by omega) (hO p hp).1⟩⟩
  · rw [ck _ _ (by omega), ck _ _ (by omega), ck _ _ (by omega), ck _ _ (by omega), nk 7 (by omega) (by omega) (by omega) (by omega), nk 3 (by omega) (by omega) (by omega) (by omega), nk 4 (by omega) (by omega) (by omega) (by omega), nk 5 (by omega) (by omega) (by omega) (by omega), nk 6 (by omega) (by omega) (by omega) (by omega)]
    exact h.1 v hv
  · rw [n0 _ (by omega) (by omega)]
    unfold eJC en0
    rw [show ∀ (f : Nat → Nat → Int32) v, xu f 0 12 v 0 7 = f 0 7 from fun f v => if_neg (by omega), xu_s, xu_j _ _ _ _ (by omega), xu_j _ _ _ _ (by omega), xu_s]
  · rw [ck _ _ (by omega), n0 _ (by omega) (by omega), e00 _ (by omega) (by omega) (by omega)]; exact k2
  · rw [ck _ _ (by omega), n0 _ (by omega) (by omega), e00 _ (by omega) (by omega) (by omega)]; exact k3
  · rw [n0 _ (by omega) (by omega)]
    unfold eJC en0
    rw [xu_s, xu_j _ _ _ _ (by omega), xu_s, k4]
  · rw [ck _ _ (by omega), n0 _ (by omega) (by omega), e00 _ (by omega) (by omega) (by omega)]; exact k5
  · rw [ck _ _ (by omega), n0 _ (by omega) (by omega), e00 _ (by omega) (by omega) (by omega)]; exact k6
  · rw [n0 _ (by omega) (by omega)]
    unfold en0
    rw [xu_j _ _ _ _ (by omega), xu_j _ _ _ _ (by omega), xu_s]; rfl
  · rw [n0 _ (by omega) (by omega)]
    unfold en0
    rw [xu_s]
    exact h.2.2.2.2.2.2.2.1.2.2.1
  · rw [Bool.not_not, ck _ _ (by omega)]
    exact h.2.2.2.2.2.2.2.2.2.2.2.1.1
  · rw [Bool.not_not]
    exact (hO p hp).2.keep (fun k j hk => ck k j (by omega))
theorem idl_cany (h4 : ∀ w, w < 4 → S 4 w = oI (tk w)) (htk : TKo tk) : idl S 4 = false ↔ cany tk = true := by
  have ng : ∀ w, w < 4 → (S 4 w < 0 ↔ tk w = none) := fun w hw => by rw [h4 w hw]; exact oI_neg (fun s hs => htk w s hw hs)
  have key : ∀ n, n ≤ 4 → (idl S n = false ↔ (lst (fun w => (tk w).isSome) n).isSome = true) := by
    intro n
    induction n with
    | zero => intro _; exact ⟨fun g => (by cases g), fun g => (by cases g)⟩
    | succ n ih =>
      intro hn
      have ih := ih (by omega)
      rw [idl, lst]
      cases e : lst (fun w => (tk w).isSome) n with
      | some j =>
        rw [e] at ih
        rw [ih.mpr rfl]
        exact ⟨fun _ => rfl, fun _ => rfl⟩
      | none =>
        rw [e] at ih
        have i1 : idl S n = true := by
          cases g : idl S n with
          | true => rfl
          | false => cases ih.mp g
        rw [i1, Bool.true_and]
        cases t : tk n with
        | none =>
          rw [decide_eq_true ((ng n (by omega)).mpr t)]
          exact ⟨fun g => (by cases g), fun g => (by cases g)⟩
        | some s =>
          rw [decide_eq_false (fun g => by rw [(ng n (by omega)).mp g] at t; cases t)]
          exact ⟨fun _ => rfl, fun _ => rfl⟩
  exact key 4 (Nat.le_refl 4)
theorem RJ.thr (h : RJ S C tk b c r np q Q) (v : Int32) : RJ (xu S 0 14 v) C tk b c r np q Q := by
  have e0 : ∀ j, j ≠ 14 → xu S 0 14 v 0 j = S 0 j := fun j hj => xu_j _ _ _ _ hj
  have ek : ∀ k, k ≠ 0 → xu S 0 14 v k = S k := fun k hk => xu_k _ _ _ hk
  refine h.mk ⟨fun k hk => ek k (by omega), fun j hj => e0 j (by omega), fun k j _ => rfl⟩ (fun w hw => ?_) ?_ (fun w t hw e => ?_) (h.2.2.2.2.2.2.2.1.xu0 (by decide) v) h.2.2.2.2.2.2.2.2
  · rw [ek 7 (by omega), ek 3 (by omega), ek 4 (by omega), ek 5 (by omega), ek 6 (by omega)]; exact h.1 w hw
  · unfold RK
    rw [e0 _ (by omega), e0 _ (by omega), e0 _ (by omega), e0 _ (by omega), e0 _ (by omega), e0 _ (by omega)]; exact h.2.1
  · rw [ek 8 (by omega), ek 5 (by omega)]; exact h.2.2.2.2.1 w t hw e
end XR7
