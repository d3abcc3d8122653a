/-- no job is under way -/
def RN (S C : Nat → Nat → Int32) (tk : Nat → Option Nat) : Prop := RW S C tk ∧ RK S C ∧ S 0 26 = 0 ∧ ∀ w, w < 4 → tk w = none
section XR6
variable {S C : Nat → Nat → Int32} {tk : Nat → Option Nat} {b : Bool} {c r np : Nat} {q : List KV} {Q : Nat → List KV}
theorem oI_neg {o : Option Nat} (ho : ∀ s, o = some s → tok s) : oI o < 0 ↔ o = none := by
  cases o with
  | none => exact ⟨fun _ => rfl, fun _ => by decide⟩
  | some s => 
    have := ho s rfl
    exact ⟨fun g => absurd g (Int32.not_lt.mpr (nI_pos' (by omega))), fun g => by cases g⟩
/-- a worker's part of a tick, on both sides -/
def WS (T : Nat → Nat → Int32) (sm : Bool) (p : CTS) (b : Bool) (c r np : Nat) (q : List KV) (Q : Nat → List KV) : Prop :=
  (p.2.2 = false ∧ T 0 14 = 0 ∧ sm = p.2.1 ∧ RJ T p.1.1 p.1.2 b c r np q Q) ∨ (p.2.2 = true ∧ T 0 14 = nI 3 ∧ RN T p.1.1 p.1.2)
theorem RP.fail {x : Nat} (h : RP S C tk b c r np q Q x) (p : Nat) (hp : p < 3) (l : List KV) {T : Nat → Nat → Int32} (hS : ∀ k, k ≠ 0 → k ≠ 13 → k ≠ 14 → T k = S k) (h0 : ∀ j, j ≠ 14 → j ≠ 27 → T 0 j = S 0 j) :
    RN (gvS (xu T 0 26 (nI 0)) (nI 0) 4) (dpC (xu (pqS C (jo b + 6 + 6 * p) l) 0 7 (nI 0)) (fun _ => true) 4) (dpT tk (fun _ => true) 4) := by
  obtain ⟨hW, hK, -⟩ := h
  have hb := jo_or b
  have ck : ∀ k j, ¬ (8 ≤ k ∧ k < 50) → ¬ (k = 0 ∧ j = 7) → ¬ (50 ≤ k ∧ k < 54 ∧ j = 3) → dpC (xu (pqS C (jo b + 6 + 6 * p) l) 0 7 (nI 0)) (fun _ => true) 4 k j = C k j := fun k j a1 a2 a3 => by
    rw [dpC_k (by omega), show ∀ (f : Nat → Nat → Int32) v, xu f 0 7 v k j = f k j from fun f v => if_neg a2, pq_k (by omega)]
  have gk : ∀ k, k ≠ 4 → k ≠ 5 → k ≠ 0 → k ≠ 13 → k ≠ 14 → gvS (xu T 0 26 (nI 0)) (nI 0) 4 k = S k := fun k a4 a5 a0 a13 a14 => by rw [gvS_k _ _ _ a4 a5, xu_k _ _ _ a0, hS k a0 a13 a14]
  have g0 : ∀ j, j ≠ 26 → j ≠ 14 → j ≠ 27 → gvS (xu T 0 26 (nI 0)) (nI 0) 4 0 j = S 0 j := fun j a b c => by rw [gvS_k _ _ _ (by omega) (by omega), xu_j _ _ _ _ a, h0 j b c]
  have tn : ∀ w, w < 4 → dpT tk (fun _ => true) 4 w = none := fun w hw => if_pos ⟨hw, rfl⟩
  refine ⟨fun v hv => ?_, ?_, ?_, tn⟩
  · obtain ⟨b1, b2, b3, b4, b5, b6⟩ := hW v hv
    rw [ck _ 0 (by omega) (by omega) (by omega), ck _ 1 (by omega) (by omega) (by omega), ck _ 4 (by omega) (by omega) (by omega), gk 7 (by omega) (by omega) (by omega) (by omega) (by omega), gk 3 (by omega) (by omega) (by omega) (by omega) (by omega), gk 6 (by omega) (by omega) (by omega) (by omega) (by omega), tn v hv]
    refine ⟨b1, b2, ?_, ?_, b5, b6⟩
    · exact if_pos ⟨Or.inl rfl, hv, Or.inl rfl⟩
    · rw [show dpC (xu (pqS C (jo b + 6 + 6 * p) l) 0 7 (nI 0)) (fun _ => true) 4 (50 + v) 3 = nI 0 from if_pos ⟨by omega, by omega, rfl, rfl⟩]
      exact (if_pos ⟨Or.inr rfl, hv, Or.inl rfl⟩ : gvS (xu T 0 26 (nI 0)) (nI 0) 4 5 v = _).symm
  · obtain ⟨k1, k2, k3, k4, k5, k6⟩ := hK
    refine ⟨?_, ?_, ?_, ?_, ?_, ?_⟩
    · rw [dpC_k (by omega), xu_s, gvS_k _ _ _ (by omega) (by omega), xu_s]
    · rw [ck _ _ (by omega) (by omega) (by omega), g0 _ (by omega) (by omega) (by omega)]; exact k2
    · rw [ck _ _ (by omega) (by omega) (by omega), g0 _ (by omega) (by omega) (by omega)]; exact k3
    · rw [ck _ _ (by omega) (by omega) (by omega), g0 _ (by omega) (by omega) (by omega)]; exact k4
    · rw [ck _ _ (by omega) (by omega) (by omega), g0 _ (by omega) (by omega) (by omega)]; exact k5
    · rw [ck _ _ (by omega) (by omega) (by omega), g0 _ (by omega) (by omega) (by omega)]; exact k6
  · rw [gvS_k _ _ _ (by omega) (by omega), xu_s]; rfl
theorem RJ.wd (h : RJ S C tk b c r np q Q) (h14 : S 0 14 = 0) {w : Nat} (hw : w < 4) (sm : Bool) : WS (wk2 S np w sm).1 (wk2 S np w sm).2 (cwD C tk b Q w sm) b c r np q Q := by
  obtain ⟨hc6, hr3, htk⟩ := h.c6
  have s4 := h.s4 w hw
  have ng : S 4 w < 0 ↔ tk w = none := by rw [s4]; exact oI_neg (fun s hs => htk w s hw hs)
  cases ht : tk w with
  | none =>
    rw [show cwD C tk b Q w sm = ((C, tk), sm, false) by unfold cwD; rw [ht], show wk2 S np w sm = (S, sm) from if_pos (ng.mpr ht)]
    exact Or.inl ⟨rfl, h14, rfl, h⟩
  | some t =>
    have n4 : ¬ S 4 w < 0 := fun g => by rw [ng.mp g] at ht; cases ht
    have htt := htk w t hw ht
    obtain ⟨u, hu, e5, e3, eU, hU⟩ := h.unit hw ht
    have w14 : wkU S w 0 14 = 0 := by rw [wkU_k (by omega) (by omega)]; exact h14
    by_cases u0 : u = 0
    · subst u0
      have z3 : C (50 + w) 3 - duN C w = 0 := e3
      have et : (S 4 w).toNatClampNeg = t := by rw [s4, ht]; exact nI_clamp (by omega)
      rw [show wk2 S np w sm = (fnS (wkU S w) np w t, true) by unfold wk2; rw [if_neg n4, e5, if_neg (by decide), et]]
      have hP := hU.fin hw ht
      have f14 : fn1 (wkU S w) w t 0 14 = 0 := by rw [fn1_k (by omega) (by omega) (by omega) (by omega)]; exact w14
      by_cases h8 : t < 8
      · rw [show cwD C tk b Q w sm = ((cptC (duC C w) tk w t, cptT tk t), true, false) by unfold cwD; rw [ht]; dsimp only; rw [if_pos z3, if_pos h8], show fnS (wkU S w) np w t = fn1 (wkU S w) w t from if_pos h8]
        exact Or.inl ⟨rfl, f14, rfl, hP.map h8⟩
      · obtain ⟨p, rfl⟩ : ∃ p, t = 8 + p := ⟨t - 8, by omega⟩
        have p3 : p < 3 := by omega
        have e8 : 8 + p - 8 = p := by omega
        obtain ⟨-, -, ⟨d1, d2, d3⟩, -, -, ⟨q1, q2, q3, q4⟩, -⟩ := hP
        have j2 : C (jo b) 2 = fn1 (wkU S w) w (8 + p) 0 18 := by
          rw [fn1_k (by omega) (by omega) (by omega) (by omega), wkU_k (by omega) (by omega)]; exact h.2.2.1.1
        have j4 : C (jo b) 4 = fn1 (wkU S w) w (8 + p) 0 16 := by
          rw [fn1_k (by omega) (by omega) (by omega) (by omega), wkU_k (by omega) (by omega)]; exact h.2.2.1.2.2
        have rf := rcS_fin q1 q2 d2 f14 (nI 0) p
        rw [q3, ← q4 p p3] at rf
        have hP := hU.fin hw ht
        have hS : ∀ k, k ≠ 0 → k ≠ 13 → k ≠ 14 → (rcS (fn1 (wkU S w) w (8 + p)) np (nI 0) p np).1 k = fn1 (wkU S w) w (8 + p) k := fun k a0 a13 a14 => rcS_k a13 a14 a0
        have h0 : ∀ j, j ≠ 14 → j ≠ 27 → (rcS (fn1 (wkU S w) w (8 + p)) np (nI 0) p np).1 0 j = fn1 (wkU S w) w (8 + p) 0 j := fun j a14 a27 => rcS_keep (by omega) (by omega) (by omega) np
        have cg := crd_gro (fn1 (wkU S w) w (8 + p) 0 18) (fn1 (wkU S w) w (8 + p) 0 16) (Q p) [] none
        cases hg : gro (fn1 (wkU S w) w (8 + p) 0 18) (fn1 (wkU S w) w (8 + p) 0 16) (Q p) none with
        | some l =>
          obtain ⟨t0, -, -⟩ := rf.1 l hg
          have ec := cg.1 l hg
          rw [List.nil_append] at ec
          have e1 : cwD C tk b Q w sm = ((pqS (cptC (duC C w) tk w (8 + p)) (jo b + 6 + 6 * p) l, cptT tk (8 + p)), true, false) := by
            unfold cwD; rw [ht]; dsimp only; rw [e8, if_pos z3, if_neg h8, j2, j4, ec, if_pos rfl]
          have e2 : fnS (wkU S w) np w (8 + p) = (rcS (fn1 (wkU S w) w (8 + p)) np (nI 0) p np).1 := by
            unfold fnS; rw [if_neg h8, e8, if_pos (by rw [t0]; decide)]
          rw [e1, e2]
          exact Or.inl ⟨rfl, t0, rfl, hP.red p3 hS h0 hg⟩
        | none =>
          have t3 := rf.2 hg
          have ec := cg.2 hg
          have e1 : cwD C tk b Q w sm = ((dpC (xu (pqS (cptC (duC C w) tk w (8 + p)) (jo b + 6 + 6 * p) (crd (C (jo b) 2) (C (jo b) 4) (Q p) [] none).2) 0 7 (nI 0)) (fun _ => true) 4, dpT (cptT tk (8 + p)) (fun _ => true) 4), true, true) := by
            unfold cwD; rw [ht]; dsimp only; rw [e8, if_pos z3, if_neg h8, if_neg (by rw [j2, j4, ec]; exact Bool.false_ne_true)]
          have e2 : fnS (wkU S w) np w (8 + p) = gvS (xu (rcS (fn1 (wkU S w) w (8 + p)) np (nI 0) p np).1 0 26 (nI 0)) (nI 0) 4 := by
            unfold fnS; rw [if_neg h8, e8, if_neg (by rw [t3]; decide)]
          rw [e1, e2]
          refine Or.inr ⟨rfl, ?_, hP.fail p p3 _ hS h0⟩
          dsimp only
          rw [gvS_k _ _ _ (by omega) (by omega), xu_j _ _ _ _ (by omega)]
          exact t3
    · have z3 : ¬ C (50 + w) 3 - duN C w = 0 := by rw [e3]; exact nI_ne0 (by omega) (by omega)
      rw [show cwD C tk b Q w sm = ((duC C w, tk), sm, false) by unfold cwD; rw [ht]; dsimp only; rw [if_neg z3], show wk2 S np w sm = (wkU S w, sm) by unfold wk2; rw [if_neg n4, if_pos (by rw [e5]; exact nI_lt (a := 0) (by omega) (by omega))]]
      exact Or.inl ⟨rfl, w14, rfl, hU.on eU (by omega) hu⟩
theorem RJ.w1 (h : RJ S C tk b c r np q Q) (h14 : S 0 14 = 0) {w : Nat} (hw : w < 4) (sm : Bool) : WS (wk1 S c r np w sm).1 (wk1 S c r np w sm).2 (cw1 C tk b Q c r w sm) b c r np q Q := by
  obtain ⟨hc6, hr3, htk⟩ := h.c6
  have e0 := (h.1 w hw).1
  have ng : S 4 w < 0 ↔ tk w = none := by rw [h.s4 w hw]; exact oI_neg (fun s hs => htk w s hw hs)
  by_cases up : S 7 w = 0
  · rw [show wk1 S c r np w sm = (S, sm) from if_pos up, show cw1 C tk b Q c r w sm = ((C, tk), sm, false) from if_pos (e0.trans up)]
    exact Or.inl ⟨rfl, h14, rfl, h⟩
  · rw [show wk1 S c r np w sm = wk2 (if S 4 w < 0 then gtS S c r np w else S) np w sm from if_neg up, show cw1 C tk b Q c r w sm = cwG C tk b Q c r w sm from if_neg (fun g => up (e0.symm.trans g))]
    cases ht : tk w with
    | none =>
      rw [if_pos (ng.mpr ht), show cwG C tk b Q c r w sm = cwD (gvC C tk c r w).1 (gvC C tk c r w).2 b Q w sm by unfold cwG; rw [ht]]
      refine (h.gt hw).wd ?_ hw sm
      rcases gtS_case S c r np w with e | ⟨t, T, -, e, hT⟩
      · rw [e]; exact h14
      · rw [e, xu_k _ _ _ (by omega), xu_k _ _ _ (by omega)]
        rcases hT with rfl | rfl
        · exact h14
        · rw [xu_j _ _ _ _ (by omega)]; exact h14
    | some t =>
      rw [if_neg (fun g => by rw [ng.mp g] at ht; cases ht), show cwG C tk b Q c r w sm = cwD C tk b Q w sm by unfold cwG; rw [ht]]
      exact h.wd h14 hw sm
theorem RJ.tl (h : RJ S C tk b c r np q Q) (h14 : S 0 14 = 0) : ∀ n, n ≤ 4 → WS (tkL S c r np n).1 (tkL S c r np n).2 (ctL (xu C 0 11 (C 0 11 + nI 1)) tk b Q c r n) b c r np q Q
  | 0, _ => Or.inl ⟨rfl, by show xu S 0 21 (S 0 21 + nI 1) 0 14 = 0; rw [xu_j _ _ _ _ (by omega)]; exact h14, rfl, h.cnt (Or.inl ⟨rfl, rfl⟩)⟩
  | n + 1, hn => by
    rw [tkL, ctL]
    rcases h.tl h14 n (by omega) with ⟨a1, a2, a3, a4⟩ | ⟨a1, a2, a3⟩
    · rw [if_neg (fun g => g a2), if_neg (by rw [a1]; exact Bool.false_ne_true), a3]
      exact a4.w1 a2 (by omega) _
    · rw [if_pos (by rw [a2]; decide), if_pos a1]
      exact Or.inr ⟨a1, a2, a3⟩
end XR6
