section XR14
variable {l : Launch} {G : xG} {h0 : xH} {z : Nat} {S C : Nat → Nat → Int32} {b : Bool} {tk : Nat → Option Nat} {c : Nat} {sz : Nat → Nat}
theorem ldr_cld (h4 : ∀ w, w < 4 → S 4 w = oI (tk w)) (htk : TKo tk) {k : Nat} (hk : tok k) : ldr S (nI k) 4 = oI (cld tk k) := by
  have e : ∀ w, w < 4 → (S 4 w = nI k ↔ tk w = some k) := fun w hw => by rw [h4 w hw]; exact oI_eq (fun s hs => htk w s hw hs) hk
  have u : ldr S (nI k) 4 = if S 4 0 = nI k then nI 0 else if S 4 1 = nI k then nI 1 else if S 4 2 = nI k then nI 2 else if S 4 3 = nI k then nI 3 else -1 := rfl
  rw [u]
  unfold cld
  by_cases g0 : tk 0 = some k
  · rw [if_pos ((e 0 (by omega)).mpr g0), lst_first (i := 0) (by omega) (fun j hj => absurd hj (Nat.not_lt_zero j)) (decide_eq_true g0)]; rfl
  · rw [if_neg (fun q => g0 ((e 0 (by omega)).mp q))]
    have f0 : ∀ j, j < 1 → decide (tk j = some k) = false := fun j hj => by
      obtain rfl : j = 0 := (by omega)
      exact decide_eq_false g0
    by_cases g1 : tk 1 = some k
    · rw [if_pos ((e 1 (by omega)).mpr g1), lst_first (i := 1) (by omega) f0 (decide_eq_true g1)]; rfl
    · rw [if_neg (fun q => g1 ((e 1 (by omega)).mp q))]
      have f1 := ltS f0 (show decide (tk 1 = some k) = false from decide_eq_false g1)
      by_cases g2 : tk 2 = some k
      · rw [if_pos ((e 2 (by omega)).mpr g2), lst_first (i := 2) (by omega) f1 (decide_eq_true g2)]; rfl
      · rw [if_neg (fun q => g2 ((e 2 (by omega)).mp q))]
        have f2 := ltS f1 (show decide (tk 2 = some k) = false from decide_eq_false g2)
        by_cases g3 : tk 3 = some k
        · rw [if_pos ((e 3 (by omega)).mpr g3), lst_first (i := 3) (by omega) f2 (decide_eq_true g3)]; rfl
        · rw [if_neg (fun q => g3 ((e 3 (by omega)).mp q)), lst_none (ltS f2 (show decide (tk 3 = some k) = false from decide_eq_false g3))]; rfl
theorem ts_eq {r np : Nat} {q : List KV} {Q : Nat → List KV} (h : RJ S C tk b c r np q Q) (mp : Int32) {t : Nat} (ht : t < (if mp = 0 then r else c)) {w : Int32} (hw : rng w 0 3) : ctsV C tk c mp (tsK mp t) w = tsV S c np mp t w := by
  obtain ⟨hc6, hr3, htk⟩ := h.c6
  have hin : inr c r (tsK mp t) := by
    unfold tsK
    split at ht
    · rename_i g; rw [if_pos g]; exact Or.inr ⟨by omega, by omega⟩
    · rename_i g; rw [if_neg g]; exact Or.inl ht
  have k8 : tsK mp t < 8 ↔ ¬ mp = 0 := by
    unfold tsK
    split at ht
    · rename_i g; rw [if_pos g]; exact ⟨fun q => absurd q (by omega), fun q => absurd g q⟩
    · rename_i g; rw [if_neg g]; exact ⟨fun _ => g, fun _ => by omega⟩
  have kt : ¬ mp = 0 → tsK mp t = t := fun g => if_neg g
  obtain ⟨x1, x2, x3, x4, x5⟩ := h.2.2.2.1 _ hin
  have hkt := inr_tok hc6 hr3 hin
  have ld := ldr_cld h.s4 htk hkt
  have tw : tsW S (tsK mp t) = if C (taddr (tsK mp t)) 4 = -1 then oI (cld tk (tsK mp t)) else C (taddr (tsK mp t)) 4 := by
    unfold tsW
    by_cases g : S 8 (tsK mp t) = 0
    · rw [if_pos g, if_pos (x1.mpr g), ld]
    · rw [if_neg g, if_neg (fun y => g (x1.mp y)), x2 g]
  obtain ⟨n, rfl, -, hn⟩ := rng_of (by decide) (by decide) hw
  have c0 : ctsV C tk c mp (tsK mp t) (nI 0) = (if C (taddr (tsK mp t)) 4 = -1 then (if 0 < cdo tk (tsK mp t) 4 then nI 1 else nI 0) else nI 2) := by unfold ctsV; rw [if_pos rfl]
  have c1 : ctsV C tk c mp (tsK mp t) (nI 1) = (if ¬ mp = 0 ∨ (∀ t, t < c → ¬ C (taddr t) 4 = -1) then C (taddr (tsK mp t)) 2 else nI 0) := by unfold ctsV; rw [if_neg (by decide), if_pos rfl]
  have c2 : ctsV C tk c mp (tsK mp t) (nI 2) = C (taddr (tsK mp t)) 3 := by unfold ctsV; rw [if_neg (by decide), if_neg (by decide), if_pos rfl]
  have c3 : ctsV C tk c mp (tsK mp t) (nI 3) = (if C (taddr (tsK mp t)) 4 = -1 then oI (cld tk (tsK mp t)) else C (taddr (tsK mp t)) 4) := by unfold ctsV; rw [if_neg (by decide), if_neg (by decide), if_neg (by decide)]
  have t0 : tsV S c np mp t (nI 0) = (if S 8 (tsK mp t) = 0 then (if tsW S (tsK mp t) < 0 then nI 0 else nI 1) else nI 2) := by unfold tsV; rw [if_pos (show nI 0 = 0 from rfl)]
  have t1 : tsV S c np mp t (nI 1) = (if mp = 0 ∧ ¬ (∀ t, t < c → ¬ S 8 t = 0) then nI 0 else nds S np (tsK mp t)) := by unfold tsV; rw [if_neg (by decide), if_pos rfl]
  have t2 : tsV S c np mp t (nI 2) = (if mp = 0 then nI 0 else rns S t) := by unfold tsV; rw [if_neg (by decide), if_neg (by decide), if_pos rfl]
  have t3 : tsV S c np mp t (nI 3) = tsW S (tsK mp t) := by unfold tsV; rw [if_neg (by decide), if_neg (by decide), if_neg (by decide)]
  rcases (by omega : n = 0 ∨ n = 1 ∨ n = 2 ∨ n = 3) with rfl | rfl | rfl | rfl
  · rw [c0, t0]
    by_cases g : S 8 (tsK mp t) = 0
    · rw [if_pos (x1.mpr g), if_pos g, tw, if_pos (x1.mpr g)]
      cases e : cld tk (tsK mp t) with
      | none =>
        rw [if_neg (by rw [cdo_0 4 e]; omega), if_pos (by decide)]
      | some v =>
        have v4 : v < 4 := (lst_lt e).1
        have := cdo_1 4 v4 (of_decide_eq_true (lst_lt e).2 : tk v = some (tsK mp t))
        rw [if_pos (by omega), show oI (some v) = nI v from rfl, if_neg (Int32.not_lt.mpr (nI_pos' (by omega)))]
    · rw [if_neg (fun y => g (x1.mp y)), if_neg g]
  · rw [c1, t1, x3]
    have ad : (∀ t, t < c → ¬ C (taddr t) 4 = -1) ↔ ∀ t, t < c → ¬ S 8 t = 0 := ⟨fun y t ht g => y t ht ((h.2.2.2.1 t (Or.inl ht)).1.mpr g), fun y t ht g => y t ht ((h.2.2.2.1 t (Or.inl ht)).1.mp g)⟩
    by_cases g : ¬ mp = 0 ∨ ∀ t, t < c → ¬ C (taddr t) 4 = -1
    · rw [if_pos g, if_neg (by rintro ⟨y1, y2⟩; rcases g with z | z; exact z y1; exact y2 (ad.mp z))]
    · rw [if_neg g, if_pos ⟨Classical.byContradiction (fun y => g (Or.inl y)), fun y => g (Or.inr (ad.mpr y))⟩]
  · rw [c2, t2, x5]
    by_cases g : mp = 0
    · rw [if_pos g, if_neg (fun y => k8.mp y g)]
    · rw [if_neg g, if_pos (k8.mpr g), kt g]
  · rw [c3, t3, tw]
theorem e_task (hnt : l.stackTraces = false) (hs : CSh h0 z) (h : RA S C tk b c sz) (hz : CZ C tk) (mp t w : Int32) : ∃ r np, (¬ S 0 26 = 0 → TI S c r np) ∧ xVM l G 8 124 m_A_task [.ref z, .int mp, .int t, .int w] (cset z C b tk h0) (XQ z h0 (tsS S c r np mp t w).1 (some (.int (tsS S c r np mp t w).2)) cd_task (fun k => k = 0 ∨ k = 2 ∨ k = 1)) := by
  obtain ⟨hc, hc6⟩ := h.2.1.1.2.1
  have e7 : C 0 7 = S 0 26 := h.2.2.2.2.2.1.1
  by_cases u : C 0 7 = 0
  · have j0 : S 0 26 = 0 := e7.symm.trans u
    refine ⟨0, 0, fun q => absurd j0 q, ?_⟩
    by_cases ok : okt mp t w
    · have eT : tsS S c 0 0 mp t w = (xu (xu S 0 14 (nI 0)) 0 14 (nI 3), nI 0) := by unfold tsS; rw [if_pos ok, if_pos j0]
      rw [eT]
      dsimp only
      exact xV.imp (c_A_taskX1 hnt hs ok u) (fun r h' q => XQ.no ((h.thr _).thr _) hz (Or.inr (Or.inr rfl)) q.1 q.2 (xu_s _ _ _ _))
    · have eT : tsS S c 0 0 mp t w = (xu S 0 14 (nI 1), nI 0) := by unfold tsS; rw [if_neg ok]
      rw [eT]
      dsimp only
      exact xV.imp (c_A_taskX0 hnt ok) (fun r h' q => XQ.no (h.thr _) hz (Or.inl rfl) q.1 q.2 (xu_s _ _ _ _))
  · have j1 : ¬ S 0 26 = 0 := fun q => u (e7.trans q)
    obtain ⟨r, np, q, Q, hJ⟩ := h.2.2.2.2.2.2.1 j1
    refine ⟨r, np, fun _ => hJ.2.2.2.2.2.2.2.1, ?_⟩
    obtain ⟨hr, hr3⟩ := hJ.2.2.2.2.2.2.2.2.2.2.2.1
    by_cases ok : okt mp t w
    · obtain ⟨T, rfl, -, h2⟩ := rng_of (by decide) (by split <;> decide) ok.1
      have t6 : T < 6 := by split at h2 <;> omega
      have lt : nI T < nI (if mp = 0 then r else c) ↔ T < (if mp = 0 then r else c) := nI_lti (by omega) (by split <;> omega)
      by_cases g : T < (if mp = 0 then r else c)
      · have eT : tsS S c r np mp (nI T) w = (xu S 0 14 (nI 0), tsV S c np mp T w) := by unfold tsS; rw [if_pos ok, if_neg j1, if_pos (lt.mpr g), nI_clamp (by omega)]
        rw [eT]
        dsimp only
        rw [← ts_eq hJ mp g ok.2]
        exact xV.imp (c_A_task hs h.2.1.2.1 ok u hc hc6 hr hr3 g) (fun r h' q => XQ.ok (h.thr _) hz q.1 q.2 (xu_s _ _ _ _))
      · have eT : tsS S c r np mp (nI T) w = (xu (xu S 0 14 (nI 0)) 0 14 (nI 2), nI 0) := by unfold tsS; rw [if_pos ok, if_neg j1, if_neg (fun y => g (lt.mp y))]
        rw [eT]
        dsimp only
        exact xV.imp (c_A_taskX2 hnt hs ok t6 u hc hc6 hr hr3 (by omega)) (fun r h' q => XQ.no ((h.thr _).thr _) hz (Or.inr (Or.inl rfl)) q.1 q.2 (xu_s _ _ _ _))
    · have eT : tsS S c r np mp t w = (xu S 0 14 (nI 1), nI 0) := by unfold tsS; rw [if_neg ok]
      rw [eT]
      dsimp only
      exact xV.imp (c_A_taskX0 hnt ok) (fun r h' q => XQ.no (h.thr _) hz (Or.inl rfl) q.1 q.2 (xu_s _ _ _ _))
theorem RA.ag {D : Nat → Nat → Int32} (h : RA S C tk b c sz) (ha : AG D C) : RA S D tk b c sz := by
  have hb := jo_dis b
  have hW : RW S D tk := h.2.2.2.2.1.same (fun _ _ => rfl) (fun k j g1 g2 => ha k j (by omega) (by omega) (by omega))
  have hK : RK S D := by
    unfold RK
    rw [ha _ _ (by omega) (by omega) (by omega), ha _ _ (by omega) (by omega) (by omega), ha _ _ (by omega) (by omega) (by omega), ha _ _ (by omega) (by omega) (by omega), ha _ _ (by omega) (by omega) (by omega), ha _ _ (by omega) (by omega) (by omega)]
    exact h.2.2.2.2.2.1
  refine h.up h.1 (h.2.1.ag ha) (MF.refl S) (fun k j e => ha k j (by omega) (by omega) (by omega)) hW hK (fun g => ?_) h.2.2.2.2.2.2.2
  obtain ⟨r, np, q, Q, hJ⟩ := h.2.2.2.2.2.2.1 g
  exact ⟨r, np, q, Q, hJ.mk ⟨fun _ _ => rfl, fun _ _ => rfl, fun k j e => ha k j (by omega) (by omega) (by omega)⟩ hW hK hJ.2.2.2.2.1 hJ.2.2.2.2.2.2.2.1 (hJ.2.2.2.2.2.2.2.2.keep (fun k j e => ha k j (by unfold prt at e; omega) (by unfold prt at e; omega) (by unfold prt at e; omega)) (fun w t hw e => Or.inl e))⟩
/-- calls whose answers are not held against each other -/
def XS (z : Nat) (h0 : xH) (S : Nat → Nat → Int32) (K : Nat → Prop) : xR → xH → Prop := fun r h' => ∃ D b tk c sz, RA S D tk b c sz ∧ CZ D tk ∧ ((∃ v, r = .inl (some (.int v)) ∧ h' = cset z D b tk h0) ∨ (∃ k, K k ∧ r = .inr (k, xnx (cset z D b tk h0)) ∧ h' = thrw k (cset z D b tk h0)))
theorem u_count (hs : CSh h0 z) (h : RA S C tk b c sz) (hz : CZ C tk) (w : Int32) : xVM l G 4 91 m_A_count [.ref z, .int w] (cset z C b tk h0) (XS z h0 S (fun _ => False)) := by
  have hv := h.2.1
  obtain ⟨hc, hc6⟩ := hv.1.2.1
  refine xV.imp (c_A_count hs w hc hc6 hv.1.2.2.1 hv.1.2.2.2.1) (fun q h' q9 => ?_)
  obtain ⟨E', hE, q1, q2⟩ := q9
  exact ⟨E', b, tk, c, sz, h.ag hE, hz.keep (fun w hw => hE _ _ (by omega) (by omega) (by omega)), Or.inl ⟨_, q1, q2⟩⟩
theorem u_output (hnt : l.stackTraces = false) (hs : CSh h0 z) (h : RA S C tk b c sz) (hz : CZ C tk) (p i w : Int32) : xVM l G 8 124 m_A_output [.ref z, .int p, .int i, .int w] (cset z C b tk h0) (XS z h0 S (fun k => k = 0 ∨ k = 2)) := by
  have hv := h.2.1
  by_cases ok : oko p w
  · obtain ⟨N, rfl, -, h2⟩ := rng_of (by decide) (by decide) ok.1
    obtain ⟨q, hq, hq3⟩ := hv.1.2.2.2.2.1 (!b)
    obtain ⟨n, hn, hn3⟩ := hv.1.2.2.2.2.2 (!b) N (by omega)
    by_cases g : N < q ∧ (i = -1 ∨ ∃ k, i = nI k ∧ k < n)
    · exact xV.imp (c_A_output hs ok hq hq3 g.1 hn hn3 g.2) (fun r h' q => ⟨C, b, tk, c, sz, h, hz, Or.inl ⟨_, q.1, q.2⟩⟩)
    · exact xV.imp (c_A_outputX2 hnt hs ok (by omega) hq hq3 hn hn3 (by
        by_cases g1 : N < q
        · right
          exact ⟨fun e => g ⟨g1, Or.inl e⟩, fun e => g ⟨g1, Or.inr e⟩⟩
        · left; omega)) (fun r h' q => ⟨C, b, tk, c, sz, h, hz, Or.inr ⟨2, Or.inr rfl, q.1, q.2⟩⟩)
  · exact xV.imp (c_A_outputX0 hnt ok) (fun r h' q => ⟨C, b, tk, c, sz, h, hz, Or.inr ⟨0, Or.inl rfl, q.1, q.2⟩⟩)
theorem u_find (hnt : l.stackTraces = false) (hs : CSh h0 z) (h : RA S C tk b c sz) (hz : CZ C tk) (k : Int32) : xVM l G 7 102 m_A_find [.ref z, .int k] (cset z C b tk h0) (XS z h0 S (fun k => k = 2)) := by
  have hv := h.2.1
  obtain ⟨q, hq, hq3⟩ := hv.1.2.2.2.2.1 (!b)
  have p3 : pt (max q 1) k < 3 := by have := pt_lt (show 0 < max q 1 by omega) k; omega
  obtain ⟨n, hn, hn3⟩ := hv.1.2.2.2.2.2 (!b) _ p3
  cases e : idxOf (C (jo (!b) + 6 + 6 * pt (max q 1) k + 1)) k n with
  | none => exact xV.imp (c_A_findX hnt hs k hq hq3 hn hn3 e) (fun r h' q => ⟨C, b, tk, c, sz, h, hz, Or.inr ⟨2, rfl, q.1, q.2⟩⟩)
  | some i => exact xV.imp (c_A_find hs k hq hq3 hn hn3 e) (fun r h' q => ⟨C, b, tk, c, sz, h, hz, Or.inl ⟨_, q.1, q.2⟩⟩)
theorem RA.ou (h : RA S C tk b c sz) (p i w : Int32) : RA (ouS S p i w).1 C tk b c sz := by
  unfold ouS
  split
  · split
    · exact (h.thr _).thr _
    · exact h.thr _
  · exact h.thr _
theorem RA.fd (h : RA S C tk b c sz) (oc : Nat → Nat) (k : Int32) (q : Nat) : RA (fdS S oc k q).1 C tk b c sz := by
  unfold fdS
  split
  · exact h.thr _
  · exact (h.thr _).thr _
end XR14
theorem RA.start : RA S0 sR3.2.2.2.2 (fun _ => none) false 0 (fun _ => 0) ∧ CZ sR3.2.2.2.2 (fun _ => none) := by
  refine ⟨⟨MI.start (fun j => rfl) (fun j => rfl), CV.start (fun _ _ => rfl) (fun _ _ => rfl), fun t h => absurd h (Nat.not_lt_zero t), ⟨0, fun _ => [], rfl, by decide +kernel, by omega, fun _ => by decide +kernel, fun p hp => absurd hp (Nat.not_lt_zero p), fun p hp => absurd hp (Nat.not_lt_zero p)⟩, ?_, ⟨by decide +kernel, by decide +kernel, by decide +kernel, by decide +kernel, by decide +kernel, by decide +kernel⟩, fun g => absurd rfl g, fun _ w _ => rfl⟩, ?_⟩
  · exact lt3 ⟨by decide +kernel, by decide +kernel, by decide +kernel, by decide +kernel, by decide +kernel, 1, by decide +kernel, by omega, by omega⟩ ⟨by decide +kernel, by decide +kernel, by decide +kernel, by decide +kernel, by decide +kernel, 1, by decide +kernel, by omega, by omega⟩ ⟨by decide +kernel, by decide +kernel, by decide +kernel, by decide +kernel, by decide +kernel, 1, by decide +kernel, by omega, by omega⟩ ⟨by decide +kernel, by decide +kernel, by decide +kernel, by decide +kernel, by decide +kernel, 1, by decide +kernel, by omega, by omega⟩
  · exact lt3 (fun _ => by decide +kernel) (fun _ => by decide +kernel) (fun _ => by decide +kernel) (fun _ => by decide +kernel)
theorem law_start0 {g h1 h2 : xH} {z : Nat} (hg : xsl g = 0) (b : CB g h1 z sR3 3244) (m : MB (xnw h1 7 0 31) h2 (z + 75) 15 sc0) : xnw h2 102 1 1 = cset z sR3.2.2.2.2 false (fun _ => none) (mset (z + 75) S0 (xnw h2 102 1 1)) ∧ LB z (xnw h2 102 1 1) 0 := by
  have n1 : xnx h1 = z + 75 := b.1.trans (by rw [show sR3.1 = 75 by decide +kernel])
  have hs := b.shape
  obtain ⟨m1, m2, m3, m4, m5, m6⟩ := m
  have lo : ∀ a, a < z + 75 → xT (xnw h2 102 1 1) a = xT h1 a ∧ xN (xnw h2 102 1 1) a = xN h1 a ∧ xI (xnw h2 102 1 1) a = xI h1 a ∧ xP (xnw h2 102 1 1) a = xP h1 a := fun a ha => by
    have q1 : a ≠ xnx h2 := by omega
    have q2 : a ≠ xnx h1 := by omega
    obtain ⟨c1, c2, c3, c4, -⟩ := m6 a ha
    exact ⟨(xr_n _ _ q1).trans (c1.trans (xr_n _ _ q2)), (xr_n _ _ q1).trans (c2.trans (xr_n _ _ q2)), (xr_n _ _ q1).trans (c3.trans (xr_n _ _ q2)), (xr_n _ _ q1).trans (c4.trans (xr_n _ _ q2))⟩
  have mi : ∀ k, k < 16 → xT (xnw h2 102 1 1) (z + 75 + k) = xT h2 (z + 75 + k) ∧ xN (xnw h2 102 1 1) (z + 75 + k) = xN h2 (z + 75 + k) ∧ xI (xnw h2 102 1 1) (z + 75 + k) = xI h2 (z + 75 + k) ∧ xP (xnw h2 102 1 1) (z + 75 + k) = xP h2 (z + 75 + k) := fun k hk => by
    have q1 : z + 75 + k ≠ xnx h2 := by omega
    exact ⟨xr_n _ _ q1, xr_n _ _ q1, xr_n _ _ q1, xr_n _ _ q1⟩
  have hm2 : MSh h2 (z + 75) := ⟨m3, fun k hk => ⟨(m4 k hk.1 (by omega)).1, (m4 k hk.1 (by omega)).2.1, (m4 k hk.1 (by omega)).2.2.1⟩⟩
  have e91 : z + 91 = xnx h2 := by omega
  refine ⟨?_, ⟨?_, ?_, ?_, ?_, ?_, ?_, ?_⟩⟩
  · generalize hH : xnw h2 102 1 1 = H at *
    obtain ⟨x1, x2, xI0, xP0, x5⟩ := H
    show _ = (x1, x2, (fun a j => if z ≤ a ∧ a < z + 75 then sR3.2.2.2.2 (a - z) j else if z + 75 ≤ a ∧ a < z + 75 + 16 then S0 (a - (z + 75)) j else xI0 a j), (fun a j => if a = z ∧ j = 5 then some (z + jo false) else if a = z ∧ j = 6 then some (z + jo (!false)) else if z + 50 ≤ a ∧ a < z + 54 ∧ j = 2 then none else xP0 a j), x5)
    congr 3
    · funext a j
      split
      · rename_i q
        have e : xI0 a = xI h1 a := (lo a q.2).2.2.1
        have s1 : sR3.1 = 75 := by decide +kernel
        have := (b.2.2.1 (a - z) (by rw [s1]; omega)).2.2.2 j
        rw [show z + (a - z) = a by omega] at this
        rw [e, this]
      · split
        · rename_i q
          have e : xI0 (z + 75 + (a - (z + 75))) = xI h2 (z + 75 + (a - (z + 75))) := (mi (a - (z + 75)) (by omega)).2.2.1
          rw [show z + 75 + (a - (z + 75)) = a by omega] at e
          rw [e]
          unfold S0
          by_cases k0 : a - (z + 75) = 0
          · rw [if_pos k0, show a = z + 75 by omega]; exact m5 j
          · rw [if_neg k0]
            have := (m4 (a - (z + 75)) (by omega) (by omega)).2.2.2 j
            rw [show z + 75 + (a - (z + 75)) = a by omega] at this
            exact this
        · rfl
    · congr 1
      funext a j
      split
      · rename_i q
        obtain ⟨rfl, rfl⟩ := q
        have e : xP0 a = xP h1 a := (lo a (by omega)).2.2.2
        rw [e]
        exact b.P (k := 0) (j := 5) (m := 8) (by decide +kernel) (by decide +kernel)
      · split
        · rename_i q
          obtain ⟨rfl, rfl⟩ := q
          have e : xP0 a = xP h1 a := (lo a (by omega)).2.2.2
          rw [e]
          exact b.P (k := 0) (j := 6) (m := 29) (by decide +kernel) (by decide +kernel)
        · split
          · rename_i q
            have e : xP0 a = xP h1 a := (lo a (by omega)).2.2.2
            obtain ⟨q1, q2, rfl⟩ := q
            rw [e]
            rcases (by omega : a = z + 50 ∨ a = z + 51 ∨ a = z + 52 ∨ a = z + 53) with rfl | rfl | rfl | rfl
            · exact b.P0 (k := 50) (j := 2) (by decide +kernel) (by decide +kernel)
            · exact b.P0 (k := 51) (j := 2) (by decide +kernel) (by decide +kernel)
            · exact b.P0 (k := 52) (j := 2) (by decide +kernel) (by decide +kernel)
            · exact b.P0 (k := 53) (j := 2) (by decide +kernel) (by decide +kernel)
          · rfl
  · exact hs.congr (fun k hk => ⟨(lo (z + k) (by omega)).1, (lo (z + k) (by omega)).2.1, (lo (z + k) (by omega)).2.2.2⟩)
  · exact hm2.congr (fun k hk => ⟨(mi k hk).1, (mi k hk).2.1, (mi k hk).2.2.2⟩)
  · rw [e91]; exact xr_s _ _ _
  · rw [e91]; exact xr_s _ _ _
  · show z + 92 ≤ xnx h2 + 1; omega
  · show xnx h2 + 1 ≤ z + 92 + 0; omega
  · show xsl h2 + 1 ≤ 6000 + 6 * 0
    have e : msum 15 = 1293 := by decide +kernel
    have e2 : xsl (xnw h1 7 0 31) = xsl h1 + 31 := rfl
    have b2 := b.2.1
    omega
