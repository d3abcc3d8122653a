section XR5
variable {S T C D : Nat → Nat → Int32} {tk tk' : Nat → Option Nat} {b : Bool} {c r np : Nat} {q : List KV} {Q : Nat → List KV}
theorem min_eq {x y : Int32} {u s : Nat} (hx : x = nI u) (hy : y = nI s) (hu : u < 1000) (hs : s ≤ 4) : (if x ≤ y then x else y) = nI (min u s) ∧ xmin y x = nI (min u s) := by
  subst hx
  subst hy
  unfold xmin
  by_cases h : u ≤ s
  · rw [if_pos ((nI_lei (by omega) (by omega)).mpr h), Nat.min_eq_left h]
    refine ⟨rfl, ?_⟩
    by_cases h2 : u < s
    · rw [if_pos ((nI_lti (by omega) (by omega)).mpr h2)]
    · rw [if_neg (fun q => h2 ((nI_lti (by omega) (by omega)).mp q)), show s = u by omega]
  · rw [if_neg (fun q => h ((nI_lei (by omega) (by omega)).mp q)), Nat.min_eq_right (by omega), if_neg (fun q => h (by have := (nI_lti (by omega) (by omega)).mp q; omega))]
    exact ⟨rfl, rfl⟩
/-- after the units, before what they bring about -/
def UP (S C : Nat → Nat → Int32) (tk : Nat → Option Nat) (b : Bool) (c r np : Nat) (q : List KV) (Q : Nat → List KV) (w : Nat) : Prop :=
  RW S C tk ∧ RK S C ∧ RD S C b ∧ RE S C np c r ∧ (∀ v s, v < 4 → tk v = some s → inr c r s ∧ S 8 s = 0 ∧ (v ≠ w → ∃ u, S 5 v = nI u ∧ 1 ≤ u ∧ u < 1000)) ∧ RQ S q Q np ∧ RG S C b Q r ∧ TI S c r np ∧ CI C tk b Q c r
theorem RJ.unit (h : RJ S C tk b c r np q Q) {w t : Nat} (hw : w < 4) (ht : tk w = some t) : ∃ u', u' < 1000 ∧ S 5 w - wkN S w = nI u' ∧ C (50 + w) 3 - duN C w = nI u' ∧ wkU S w 5 w = nI u' ∧ UP (wkU S w) (duC C w) tk b c r np q Q w := by
  obtain ⟨a1, a2, a3, a4, a5, s, hs, hs1, hs4⟩ := h.1 w hw
  obtain ⟨hin, h8, u, hu, hu1, hu2⟩ := h.2.2.2.2.1 w t hw ht
  have m := min_eq hu hs hu2 hs4
  have en : wkN S w = nI (min u s) := m.1
  have ed : duN C w = nI (min u s) := by unfold duN; rw [a2, a4]; exact m.2
  have sb : nI u - nI (min u s) = nI (u - min u s) := nI_sub (Nat.min_le_left u s)
  have e5 : S 5 w - wkN S w = nI (u - min u s) := by rw [hu, en, sb]
  have e3 : C (50 + w) 3 - duN C w = nI (u - min u s) := by rw [a4, hu, ed, sb]
  have s5 : ∀ v, wkU S w 5 v = if v = w then nI (u - min u s) else S 5 v := fun v => by
    unfold wkU
    rw [xu_k _ _ _ (by omega), e5]
    by_cases e : v = w
    · subst e; rw [xu_s, if_pos rfl]
    · rw [xu_j _ _ _ _ e, if_neg e]
  have s6 : ∀ v, wkU S w 6 v = if v = w then S 6 w + nI (min u s) else S 6 v := fun v => by
    unfold wkU
    rw [en]
    by_cases e : v = w
    · subst e; rw [xu_s, if_pos rfl]
    · rw [xu_j _ _ _ _ e, if_neg e, xu_k _ _ _ (by omega)]
  have ek : ∀ k, k ≠ 5 → k ≠ 6 → wkU S w k = S k := fun k h5 h6 => wkU_k h5 h6
  have ck : ∀ k j, ¬ (k = 50 + w ∧ (j = 3 ∨ j = 4)) → duC C w k j = C k j := fun k j hk => duC_k hk
  have c3 : duC C w (50 + w) 3 = nI (u - min u s) := by unfold duC; rw [xu_s, e3]
  have c4 : duC C w (50 + w) 4 = S 6 w + nI (min u s) := by
    unfold duC
    rw [show ∀ (f : Nat → Nat → Int32) v, xu f (50 + w) 3 v (50 + w) 4 = f (50 + w) 4 from fun f v => if_neg (by omega), xu_s, ed, a5]
  have hj := jo_lt b
  obtain ⟨x1, x2, x3, x4⟩ := h.st (T := wkU S w) (D := duC C w) ⟨fun k hk => ek k (by omega) (by omega), fun j _ => congrFun (ek 0 (by omega) (by omega)) j, fun k j hk => ck k j (by omega)⟩
  refine ⟨u - min u s, by omega, e5, e3, by rw [s5, if_pos rfl], fun v hv => ?_, ?_, x1, x2, fun v x hv e => ?_, x3, x4, h.2.2.2.2.2.2.2.1.unit, h.2.2.2.2.2.2.2.2.du hw⟩
  · obtain ⟨b1, b2, b3, b4, b5, b6⟩ := h.1 v hv
    rw [ck _ 0 (by omega), ck _ 1 (by omega), ek 7 (by omega) (by omega), ek 3 (by omega) (by omega), ek 4 (by omega) (by omega), s5, s6]
    refine ⟨b1, b2, b3, ?_, ?_, b6⟩
    · by_cases e : v = w
      · subst e; rw [if_pos rfl]; exact c3
      · rw [if_neg e, ck _ _ (by omega)]; exact b4
    · by_cases e : v = w
      · subst e; rw [if_pos rfl]; exact c4
      · rw [if_neg e, ck _ _ (by omega)]; exact b5
  · unfold RK
    rw [ck _ _ (by omega), ck _ _ (by omega), ck _ _ (by omega), ck _ _ (by omega), ck _ _ (by omega), ck _ _ (by omega), ek 0 (by omega) (by omega)]
    exact h.2.1
  · obtain ⟨y1, y2, y3⟩ := h.2.2.2.2.1 v x hv e
    refine ⟨y1, by rw [ek 8 (by omega) (by omega)]; exact y2, fun n => ?_⟩
    rw [s5, if_neg n]; exact y3
theorem UP.on {w : Nat} (h : UP S C tk b c r np q Q w) {u : Nat} (hu : S 5 w = nI u) (h1 : 1 ≤ u) (h2 : u < 1000) : RJ S C tk b c r np q Q := by
  obtain ⟨a1, a2, a3, a4, a5, a6, a7, a8, a9⟩ := h
  refine ⟨a1, a2, a3, a4, fun v s hv e => ?_, a6, a7, a8, a9⟩
  obtain ⟨y1, y2, y3⟩ := a5 v s hv e
  by_cases ev : v = w
  · subst ev; exact ⟨y1, y2, u, hu, h1, h2⟩
  · exact ⟨y1, y2, y3 ev⟩
/-- a task is done; x: a reduce task whose output is still to be made -/
def RP (S C : Nat → Nat → Int32) (tk : Nat → Option Nat) (b : Bool) (c r np : Nat) (q : List KV) (Q : Nat → List KV) (x : Nat) : Prop :=
  RW S C tk ∧ RK S C ∧ RD S C b ∧ RE S C np c r ∧ RH S tk c r ∧ RQ S q Q np ∧ (∀ p, p < r → 8 + p ≠ x → ¬ S 8 (8 + p) = 0 → ∃ l, gro (S 0 18) (S 0 16) (Q p) none = some l ∧ PL C (jo b + 6 + 6 * p) l) ∧ TI S c r np ∧ CI C tk b Q c r
theorem UP.fin {w : Nat} (h : UP S C tk b c r np q Q w) {t : Nat} (hw : w < 4) (ht : tk w = some t) : RP (fn1 S w t) (cptC C tk w t) (cptT tk t) b c r np q Q t := by
  obtain ⟨hW, hK, ⟨d1, d2, d3⟩, hE, hH, ⟨q1, q2, q3, q4⟩, hG, hT, hI⟩ := h
  have hj := jo_lt b
  have hc6 := hI.2.2.1.2
  have hr3 := hI.2.2.2.1.2
  obtain ⟨hin, h8, -⟩ := hH w t hw ht
  have htt := inr_tok hc6 hr3 hin
  have tat := taddr_lt htt
  have htk := hI.tko
  have s4 : ∀ v, v < 4 → (S 4 v = nI t ↔ tk v = some t) := fun v hv => by rw [(hW v hv).2.2.1]; exact oI_eq (fun s hs => htk v s hv hs) htt
  have fk : ∀ k, k ≠ 4 → k ≠ 5 → k ≠ 8 → k ≠ 9 → fn1 S w t k = S k := fun k a1 a2 a3 a4 => fn1_k a1 a2 a3 a4
  have f45 : ∀ k v, (k = 4 ∨ k = 5) → fn1 S w t k v = if v < 4 ∧ S 4 v = nI t then (if k = 4 then -1 else nI 0) else S k v := fun k v hk => by
    unfold fn1
    rw [xu_k _ _ _ (by omega), xu_k _ _ _ (by omega)]
    show (if (k = 4 ∨ k = 5) ∧ v < 4 ∧ S 4 v = nI t then (if k = 4 then -1 else nI 0) else S k v) = _
    by_cases e : v < 4 ∧ S 4 v = nI t
    · rw [if_pos ⟨hk, e⟩, if_pos e]
    · rw [if_neg (fun g => e g.2), if_neg e]
  have f8 : ∀ s, fn1 S w t 8 s = if s = t then nI 1 else S 8 s := fun s => by
    unfold fn1
    rw [xu_k _ _ _ (by omega)]
    by_cases e : s = t
    · subst e; rw [xu_s, if_pos rfl]
    · rw [xu_j _ _ _ _ e, if_neg e, drS_k _ _ _ (by omega) (by omega)]
  have f9 : ∀ s, fn1 S w t 9 s = if s = t then nI w else S 9 s := fun s => by
    unfold fn1
    by_cases e : s = t
    · subst e; rw [xu_s, if_pos rfl]
    · rw [xu_j _ _ _ _ e, if_neg e, xu_k _ _ _ (by omega), drS_k _ _ _ (by omega) (by omega)]
  have ck : ∀ k j, ¬ (k = taddr t ∧ j = 4) → ¬ (50 ≤ k ∧ k < 54 ∧ j = 3) → cptC C tk w t k j = C k j := fun k j a1 a2 => cptC_k a1 a2
  have c4 : cptC C tk w t (taddr t) 4 = nI w := by unfold cptC; rw [dpC_k (by omega), xu_s]
  have c3 : ∀ v, v < 4 → cptC C tk w t (50 + v) 3 = if tk v = some t then nI 0 else C (50 + v) 3 := fun v hv => by
    unfold cptC dpC
    by_cases e : tk v = some t
    · rw [if_pos ⟨by omega, by omega, rfl, by rw [Nat.add_sub_cancel_left]; exact decide_eq_true e⟩, if_pos e]
    · rw [if_neg (fun g => e (by have g4 := g.2.2.2; rw [Nat.add_sub_cancel_left] at g4; exact of_decide_eq_true g4)), if_neg e]
      exact if_neg (by omega)
  have tv : ∀ v, v < 4 → cptT tk t v = if tk v = some t then none else tk v := fun v hv => by
    unfold cptT dpT
    by_cases e : tk v = some t
    · rw [if_pos ⟨hv, decide_eq_true e⟩, if_pos e]
    · rw [if_neg (fun g => e (of_decide_eq_true g.2)), if_neg e]
  refine ⟨fun v hv => ?_, ?_, ⟨?_, ?_, ?_⟩, fun s hs => ?_, fun v s hv e => ?_, ⟨fun i hi => ?_, q2, q3, fun p hp => ?_⟩, fun p hp hx e => ?_, ?_, hI.cpt htt⟩
  · obtain ⟨b1, b2, b3, b4, b5, b6⟩ := hW v hv
    rw [ck _ 0 (by omega) (by omega), ck _ 1 (by omega) (by omega), ck _ 4 (by omega) (by omega), fk 7 (by omega) (by omega) (by omega) (by omega), fk 3 (by omega) (by omega) (by omega) (by omega), fk 6 (by omega) (by omega) (by omega) (by omega), f45 4 v (Or.inl rfl), f45 5 v (Or.inr rfl), c3 v hv, tv v hv]
    by_cases e : tk v = some t
    · have g : v < 4 ∧ S 4 v = nI t := ⟨hv, (s4 v hv).mpr e⟩
      simp only [if_pos e, if_pos g]
      exact ⟨b1, b2, rfl, rfl, b5, b6⟩
    · rw [if_neg e, if_neg (fun g => e ((s4 v hv).mp g.2)), if_neg e, if_neg (fun g => e ((s4 v hv).mp g.2))]
      exact ⟨b1, b2, b3, b4, b5, b6⟩
  · unfold RK
    rw [ck _ _ (by omega) (by omega), ck _ _ (by omega) (by omega), ck _ _ (by omega) (by omega), ck _ _ (by omega) (by omega), ck _ _ (by omega) (by omega), ck _ _ (by omega) (by omega), fk 0 (by omega) (by omega) (by omega) (by omega)]
    exact hK
  · rw [ck _ _ (by omega) (by omega), fk 0 (by omega) (by omega) (by omega) (by omega)]; exact d1
  · rw [fk 0 (by omega) (by omega) (by omega) (by omega)]; exact d2
  · rw [ck _ _ (by omega) (by omega), fk 0 (by omega) (by omega) (by omega) (by omega)]; exact d3
  · have hst := inr_tok hc6 hr3 hs
    have tas := taddr_lt hst
    have nd : nds (fn1 S w t) np s = nds S np s := nds_congr (fk 1 (by omega) (by omega) (by omega) (by omega)) (fk 12 (by omega) (by omega) (by omega) (by omega)) (fk 10 (by omega) (by omega) (by omega) (by omega)) (congrFun (fk 0 (by omega) (by omega) (by omega) (by omega)) _) (congrFun (fk 0 (by omega) (by omega) (by omega) (by omega)) _) np s
    have rn : rns (fn1 S w t) s = rns S s := by unfold rns; rw [fk 12 (by omega) (by omega) (by omega) (by omega), fk 0 (by omega) (by omega) (by omega) (by omega)]
    obtain ⟨e1, e2, e3, e4, e5⟩ := hE s hs
    rw [ck _ 2 (by omega) (by omega), ck _ 3 (by omega) (by omega), nd, rn, f8, f9]
    by_cases e : s = t
    · subst e
      rw [if_pos rfl, if_pos rfl, c4]
      exact ⟨⟨fun g => absurd g (nI_nm1 (by omega)), fun g => absurd g (by decide)⟩, fun _ => rfl, e3, e4, e5⟩
    · rw [if_neg e, if_neg e, ck _ 4 (fun g => e (taddr_inj hst htt g.1)) (by omega)]
      exact ⟨e1, e2, e3, e4, e5⟩
  · rw [tv v hv] at e
    by_cases ev : tk v = some t
    · rw [if_pos ev] at e; cases e
    · rw [if_neg ev] at e
      obtain ⟨y1, y2, y3⟩ := hH v s hv e
      have st : s ≠ t := fun g => ev (by rw [e, g])
      have vw : v ≠ w := fun g => ev (by rw [g]; exact ht)
      rw [f8, if_neg st, f45 5 v (Or.inr rfl), if_neg (fun g => ev ((s4 v hv).mp g.2))]
      exact ⟨y1, y2, y3 vw⟩
  · rw [fk 10 (by omega) (by omega) (by omega) (by omega), fk 11 (by omega) (by omega) (by omega) (by omega)]; exact q1 i hi
  · rw [q4 p hp]
    unfold inP
    rw [fk 0 (by omega) (by omega) (by omega) (by omega)]
  · rw [f8, if_neg hx] at e
    rw [fk 0 (by omega) (by omega) (by omega) (by omega)]
    obtain ⟨l, g1, g2⟩ := hG p hp e
    exact ⟨l, g1, g2.keep (fun k j hk => ck k j (by omega) (by omega))⟩
  · exact hT.keep (fk 10 (by omega) (by omega) (by omega) (by omega)) (congrFun (fk 0 (by omega) (by omega) (by omega) (by omega)) _) (congrFun (fk 0 (by omega) (by omega) (by omega) (by omega)) _) (congrFun (fk 0 (by omega) (by omega) (by omega) (by omega)) _) (congrFun (fk 0 (by omega) (by omega) (by omega) (by omega)) _) (fun v _ => by
      rcases fn1_t S w t v with g | g
      · exact Or.inl g
      · exact Or.inr (Or.inl g))
theorem RP.map {t : Nat} (h : RP S C tk b c r np q Q t) (ht : t < 8) : RJ S C tk b c r np q Q := by
  obtain ⟨a1, a2, a3, a4, a5, a6, a7, a8, a9⟩ := h
  exact ⟨a1, a2, a3, a4, a5, a6, fun p hp e => a7 p hp (by omega) e, a8, a9⟩
/-- the output of partition p is made -/
theorem RP.red {p : Nat} (h : RP S C tk b c r np q Q (8 + p)) (hp3 : p < 3) (hS : ∀ k, k ≠ 0 → k ≠ 13 → k ≠ 14 → T k = S k) (h0 : ∀ j, j ≠ 14 → j ≠ 27 → T 0 j = S 0 j) {l : List KV} (hl : gro (S 0 18) (S 0 16) (Q p) none = some l) : RJ T (pqS C (jo b + 6 + 6 * p) l) tk b c r np q Q := by
  obtain ⟨hW, hK, ⟨d1, d2, d3⟩, hE, hH, ⟨q1, q2, q3, q4⟩, hG, hT, hI⟩ := h
  have hb := jo_or b
  have hc6 := hI.2.2.1.2
  have hr3 := hI.2.2.2.1.2
  have ck : ∀ k j, ¬ (k = jo b + 6 + 6 * p ∨ k = jo b + 6 + 6 * p + 1 ∨ k = jo b + 6 + 6 * p + 2) → pqS C (jo b + 6 + 6 * p) l k j = C k j := fun k j hk => pq_k (by omega)
  refine ⟨fun v hv => ?_, ?_, ⟨?_, ?_, ?_⟩, fun s hs => ?_, fun v s hv e => ?_, ⟨fun i hi => ?_, q2, q3, fun p' hp' => ?_⟩, fun p' hp' e => ?_, ?_, hI.out hp3 l⟩
  · rw [ck _ _ (by omega), ck _ _ (by omega), ck _ _ (by omega), ck _ _ (by omega), hS 7 (by omega) (by omega) (by omega), hS 3 (by omega) (by omega) (by omega), hS 4 (by omega) (by omega) (by omega), hS 5 (by omega) (by omega) (by omega), hS 6 (by omega) (by omega) (by omega)]
    exact hW v hv
  · unfold RK
    rw [ck _ _ (by omega), ck _ _ (by omega), ck _ _ (by omega), ck _ _ (by omega), ck _ _ (by omega), ck _ _ (by omega), h0 _ (by omega) (by omega), h0 _ (by omega) (by omega), h0 _ (by omega) (by omega), h0 _ (by omega) (by omega), h0 _ (by omega) (by omega), h0 _ (by omega) (by omega)]
    exact hK
  · rw [ck _ _ (by omega), h0 _ (by omega) (by omega)]; exact d1
  · rw [h0 _ (by omega) (by omega)]; exact d2
  · rw [ck _ _ (by omega), h0 _ (by omega) (by omega)]; exact d3
  · have tas := taddr_lt (inr_tok hc6 hr3 hs)
    have nd : nds T np s = nds S np s := nds_congr (hS 1 (by omega) (by omega) (by omega)) (hS 12 (by omega) (by omega) (by omega)) (hS 10 (by omega) (by omega) (by omega)) (h0 _ (by omega) (by omega)) (h0 _ (by omega) (by omega)) np s
    have rn : rns T s = rns S s := by unfold rns; rw [hS 12 (by omega) (by omega) (by omega), h0 _ (by omega) (by omega)]
    rw [ck _ _ (by omega), ck _ _ (by omega), ck _ _ (by omega), hS 8 (by omega) (by omega) (by omega), hS 9 (by omega) (by omega) (by omega), nd, rn]
    exact hE s hs
  · rw [hS 8 (by omega) (by omega) (by omega), hS 5 (by omega) (by omega) (by omega)]; exact hH v s hv e
  · rw [hS 10 (by omega) (by omega) (by omega), hS 11 (by omega) (by omega) (by omega)]; exact q1 i hi
  · rw [q4 p' hp']
    unfold inP
    rw [h0 19 (by omega) (by omega)]
  · rw [hS 8 (by omega) (by omega) (by omega)] at e
    rw [h0 18 (by omega) (by omega), h0 16 (by omega) (by omega)]
    by_cases ep : p' = p
    · subst ep; exact ⟨l, hl, PL.self⟩
    · obtain ⟨l', g1, g2⟩ := hG p' hp' (by omega) e
      exact ⟨l', g1, g2.keep (fun k j hk => ck k j (by omega))⟩
  · exact hT.keep (hS 10 (by omega) (by omega) (by omega)) (h0 _ (by omega) (by omega)) (h0 _ (by omega) (by omega)) (h0 _ (by omega) (by omega)) (h0 _ (by omega) (by omega)) (fun v _ => Or.inr (Or.inl (congrFun (hS 4 (by omega) (by omega) (by omega)) v)))
end XR5
