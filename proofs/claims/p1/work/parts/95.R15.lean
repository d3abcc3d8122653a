/-! output and find, side by side -/
theorem PL.rd {C : Nat → Nat → Int32} {o : Nat} {l : List KV} (h : PL C o l) : C o 2 = nI l.length ∧ ∀ i (hi : i < l.length), C (o + 1) i = (l[i]).1 ∧ C (o + 2) i = (l[i]).2 := by
  refine ⟨(congrFun (congrFun h o) 2).symm.trans pq_n, fun i hi => ⟨(congrFun (congrFun h (o + 1)) i).symm.trans ?_, (congrFun (congrFun h (o + 2)) i).symm.trans ?_⟩⟩
  · unfold pqS; rw [if_pos rfl, List.getElem?_eq_getElem hi]; rfl
  · unfold pqS; rw [if_neg (by omega), if_pos rfl, List.getElem?_eq_getElem hi]; rfl
theorem idxOf_congr {f g : Nat → Int32} {k : Int32} (n : Nat) (h : ∀ j, j < n → f j = g j) : idxOf f k n = idxOf g k n := by
  rw [idx_lst, idx_lst]
  exact lst_congr n (fun j hj => by rw [h j hj])
section XR15
variable {l : Launch} {G : xG} {h0 : xH} {z : Nat} {S C : Nat → Nat → Int32} {b : Bool} {tk : Nat → Option Nat} {c : Nat} {sz : Nat → Nat}
theorem e_output (hnt : l.stackTraces = false) (hs : CSh h0 z) (h : RA S C tk b c sz) (hz : CZ C tk) (p i w : Int32) : xVM l G 8 124 m_A_output [.ref z, .int p, .int i, .int w] (cset z C b tk h0) (XQ z h0 (ouS S p i w).1 (some (.int (ouS S p i w).2)) cd_output (fun k => k = 0 ∨ k = 2)) := by
  have hv := h.2.1
  obtain ⟨ro, O, r1, r2, r3, r4, r5, r6⟩ := h.2.2.2.1
  by_cases ok : oko p w
  · obtain ⟨N, rfl, -, h2⟩ := rng_of (by decide) (by decide) ok.1
    have cl : (nI N).toNatClampNeg = N := nI_clamp (by omega)
    by_cases g : N < ro
    · obtain ⟨q1, q2⟩ := r5 N g
      obtain ⟨p1, p2, p3⟩ := r6 N g
      obtain ⟨d1, d2⟩ := p1.rd
      by_cases gi : i = -1 ∨ ∃ k, i = nI k ∧ k < (O N).length
      · have eT : ouS S (nI N) i w = (xu S 0 14 (nI 0), if i = -1 then nI (O N).length else if w = 0 then C (jo (!b) + 6 + 6 * N + 1) i.toNatClampNeg else C (jo (!b) + 6 + 6 * N + 2) i.toNatClampNeg) := by
          unfold ouS
          rw [if_pos ok, cl, r1, q1]
          rcases gi with rfl | ⟨k, rfl, hk⟩
          · rw [if_neg (by rintro (x | x | x); exact absurd ((nI_lei (by omega) (by omega)).mp x) (by omega); exact absurd x (by decide); exact absurd x (Int32.not_le.mpr (Int32.lt_of_lt_of_le (by decide) (nI_pos' (n := (O N).length) (by omega))))), if_pos rfl, if_pos (by decide)]
          · have k0 := nI_pos' (n := k) (by omega)
            rw [if_neg (by
              rintro (x | x | x)
              · exact absurd ((nI_lei (by omega) (by omega)).mp x) (by omega)
              · exact absurd (Int32.lt_of_le_of_lt k0 x) (by decide)
              · exact absurd ((nI_lei (by omega) (by omega)).mp x) (by omega)), if_neg (nI_nm1 (by omega)), if_neg (Int32.not_lt.mpr k0), nI_clamp (by omega), (q2 k hk).1, (q2 k hk).2, (d2 k hk).1, (d2 k hk).2]
        rw [eT]
        dsimp only
        exact xV.imp (c_A_output hs ok r2 r3 g d1 p2 gi) (fun r h' q => XQ.ok (h.thr _) hz q.1 q.2 (xu_s _ _ _ _))
      · have eT : ouS S (nI N) i w = (xu (xu S 0 14 (nI 0)) 0 14 (nI 2), nI 0) := by
          unfold ouS
          rw [if_pos ok, cl, r1, q1, if_pos (by
            by_cases i0 : i < 0
            · right; left
              have n1 : ¬ i = -1 := fun e => gi (Or.inl e)
              rw [Int32.lt_iff_toInt_lt] at i0 ⊢
              have n2 : i.toInt ≠ (-1 : Int32).toInt := fun e => n1 (Int32.toInt_inj.mp e)
              rw [show (-1 : Int32).toInt = -1 from rfl] at n2 ⊢
              rw [Int32.toInt_zero] at i0
              omega
            · right; right
              obtain ⟨k, rfl, hk⟩ := nI_ofp (Int32.not_lt.mp i0)
              exact (nI_lei (by omega) hk).mpr (Nat.not_lt.mp (fun y => gi (Or.inr ⟨k, rfl, y⟩))))]
        rw [eT]
        dsimp only
        exact xV.imp (c_A_outputX2 hnt hs ok (by omega) r2 r3 d1 p2 (Or.inr ⟨fun e => gi (Or.inl e), fun e => gi (Or.inr e)⟩)) (fun r h' q => XQ.no ((h.thr _).thr _) hz (Or.inr rfl) q.1 q.2 (xu_s _ _ _ _))
    · obtain ⟨n, hn, hn3⟩ := hv.1.2.2.2.2.2 (!b) N (by omega)
      have eT : ouS S (nI N) i w = (xu (xu S 0 14 (nI 0)) 0 14 (nI 2), nI 0) := by
        unfold ouS
        rw [if_pos ok, r1, if_pos (Or.inl ((nI_lei (by omega) (by omega)).mpr (by omega)))]
      rw [eT]
      dsimp only
      exact xV.imp (c_A_outputX2 hnt hs ok (by omega) r2 r3 hn hn3 (Or.inl (by omega))) (fun r h' q => XQ.no ((h.thr _).thr _) hz (Or.inr rfl) q.1 q.2 (xu_s _ _ _ _))
  · have eT : ouS S p i w = (xu S 0 14 (nI 1), nI 0) := by unfold ouS; rw [if_neg ok]
    rw [eT]
    dsimp only
    exact xV.imp (c_A_outputX0 hnt ok) (fun r h' q => XQ.no (h.thr _) hz (Or.inl rfl) q.1 q.2 (xu_s _ _ _ _))
theorem e_find (hnt : l.stackTraces = false) (hs : CSh h0 z) (h : RA S C tk b c sz) (hz : CZ C tk) (key : Int32) : ∃ (q : Nat) (oc : Nat → Nat), S 0 25 = nI q ∧ q ≤ 3 ∧ (∀ p, p < q → S 15 p = nI (oc p) ∧ oc p ≤ 100) ∧
    xVM l G 7 102 m_A_find [.ref z, .int key] (cset z C b tk h0) (XQ z h0 (fdS S oc key q).1 (some (.int (fdS S oc key q).2)) cd_find (fun k => k = 2)) := by
  obtain ⟨ro, O, r1, r2, r3, r4, r5, r6⟩ := h.2.2.2.1
  refine ⟨ro, fun p => (O p).length, r1, r3, fun p hp => ⟨(r5 p hp).1, by have := (r6 p hp).2.1; show (O p).length ≤ 100; omega⟩, ?_⟩
  by_cases z0 : ro = 0
  · subst z0
    have p0 : pt (max 0 1) key = 0 := by have := pt_lt (show 0 < max 0 1 by omega) key; omega
    have eT : fdS S (fun p => (O p).length) key 0 = (xu (xu S 0 14 (nI 0)) 0 14 (nI 1), nI 0) := rfl
    rw [eT]
    dsimp only
    exact xV.imp (c_A_findX hnt hs key r2 r3 (n := 0) (by rw [p0]; exact r4 rfl) (by omega) rfl) (fun r h' q => XQ.no ((h.thr _).thr _) hz rfl q.1 q.2 (xu_s _ _ _ _))
  · have mx : max ro 1 = ro := by omega
    have pl := pt_lt (show 0 < ro by omega) key
    obtain ⟨q1, q2⟩ := r5 _ pl
    obtain ⟨p1, p2, p3⟩ := r6 _ pl
    obtain ⟨d1, d2⟩ := p1.rd
    have ix : idxOf (C (jo (!b) + 6 + 6 * pt ro key + 1)) key (O (pt ro key)).length = idxOf (fun i => S 13 (pt ro key * 100 + i)) key (O (pt ro key)).length := idxOf_congr _ (fun j hj => by rw [(d2 j hj).1, (q2 j hj).1])
    have no : ∀ p, p < ro → p ≠ pt ro key → idxOf (fun i => S 13 (p * 100 + i)) key (O p).length = none := fun p hp hne => idxOf_none.mpr (fun j hj e => by
      have e1 := ((r5 p hp).2 j hj).1
      have e2 := (r6 p hp).2.2 _ (List.getElem_mem hj)
      rw [← e1, e] at e2
      exact hne e2.symm)
    have fd : ∀ m, m ≤ ro → fdL S (fun p => (O p).length) key m = if pt ro key < m then (idxOf (fun i => S 13 (pt ro key * 100 + i)) key (O (pt ro key)).length).map (fun i => S 14 (pt ro key * 100 + i)) else none := by
      intro m
      induction m with
      | zero => intro _; rw [if_neg (by omega)]; rfl
      | succ m ih =>
        intro hm
        rw [fdL, ih (by omega)]
        by_cases g1 : pt ro key < m
        · rw [if_pos g1, if_pos (by omega)]
          cases e : (idxOf (fun i => S 13 (pt ro key * 100 + i)) key (O (pt ro key)).length).map (fun i => S 14 (pt ro key * 100 + i)) with
          | some v => rfl
          | none =>
            dsimp only
            rw [no m (by omega) (by omega)]; rfl
        · rw [if_neg g1]
          dsimp only
          by_cases g2 : pt ro key = m
          · rw [if_pos (by omega), g2]
          · rw [if_neg (by omega), no m (by omega) (fun e => g2 e.symm)]; rfl
    have fr := fd ro (Nat.le_refl ro)
    rw [if_pos pl] at fr
    cases e : idxOf (fun i => S 13 (pt ro key * 100 + i)) key (O (pt ro key)).length with
    | none =>
      rw [e] at fr
      have eT : fdS S (fun p => (O p).length) key ro = (xu (xu S 0 14 (nI 0)) 0 14 (nI 1), nI 0) := by unfold fdS; rw [fr]; rfl
      rw [eT]
      dsimp only
      exact xV.imp (c_A_findX hnt hs key r2 r3 (n := (O (pt ro key)).length) (by rw [mx]; exact d1) p2 (by rw [mx, ix, e])) (fun r h' q => XQ.no ((h.thr _).thr _) hz rfl q.1 q.2 (xu_s _ _ _ _))
    | some i =>
      rw [e] at fr
      have il := (idxOf_lt e).1
      have eT : fdS S (fun p => (O p).length) key ro = (xu S 0 14 (nI 0), C (jo (!b) + 6 + 6 * pt (max ro 1) key + 2) i) := by
        unfold fdS
        rw [fr, mx]
        show (xu S 0 14 (nI 0), S 14 (pt ro key * 100 + i)) = _
        rw [(q2 i il).2, (d2 i il).2]
      rw [eT]
      dsimp only
      exact xV.imp (c_A_find hs key r2 r3 (n := (O (pt ro key)).length) (by rw [mx]; exact d1) p2 (by rw [mx, ix, e])) (fun r h' q => XQ.ok (h.thr _) hz q.1 q.2 (xu_s _ _ _ _))
end XR15
