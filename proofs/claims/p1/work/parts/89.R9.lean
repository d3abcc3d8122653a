/-! THE TWO SIDE BY SIDE, at every call -/
def RC (S C : Nat → Nat → Int32) (c : Nat) (sz : Nat → Nat) : Prop := ∀ t, t < c → 1 ≤ sz t ∧ C (54 + 3 * t) 1 = S 1 t ∧ ∀ i, i < sz t → C (55 + 3 * t) i = S 2 (t * 6 + i)
def RA (S C : Nat → Nat → Int32) (tk : Nat → Option Nat) (b : Bool) (c : Nat) (sz : Nat → Nat) : Prop :=
  MI S c sz ∧ CV C tk b c sz ∧ RC S C c sz ∧ RO S C b ∧ RW S C tk ∧ RK S C ∧ (¬ S 0 26 = 0 → ∃ r np q Q, RJ S C tk b c r np q Q) ∧ (S 0 26 = 0 → ∀ w, w < 4 → tk w = none)
section XR9
variable {S T C D : Nat → Nat → Int32} {tk tk' : Nat → Option Nat} {b : Bool} {c : Nat} {sz : Nat → Nat}
theorem RO.keep (h : RO S C b) (mf : MF S T) (cf : CF C D b) : RO T D b := by
  obtain ⟨ro, O, h1, h2, h3, h4, h5, h6⟩ := h
  have hb := jo_dis b
  refine ⟨ro, O, mf.2.trans h1, (cf _ _ (by omega)).trans h2, h3, fun g => (cf _ _ (by omega)).trans (h4 g), fun p hp => ?_, fun p hp => ⟨(h6 p hp).1.keep (fun k j e => cf k j (by omega)), (h6 p hp).2⟩⟩
  rw [mf.1 15 (by omega), mf.1 13 (by omega), mf.1 14 (by omega)]
  exact h5 p hp
theorem RC.keep {c : Nat} {sz : Nat → Nat} (hc : c ≤ 6) (h : RC S C c sz) (e1 : T 1 = S 1) (e2 : T 2 = S 2) (cg : CG C D) : RC T D c sz := fun t ht => by
  refine ⟨(h t ht).1, ?_, fun i hi => ?_⟩
  · rw [e1, cg _ _ (by omega)]; exact (h t ht).2.1
  · rw [e2, cg _ _ (by omega)]; exact (h t ht).2.2 i hi
theorem CF.cg (h : CF C D b) : CG C D := fun k j e => h k j (by omega)
theorem RA.up (h : RA S C tk b c sz) (hM : MI T c sz) (hV : CV D tk' b c sz) (mf : MF S T) (cf : CF C D b) (hW : RW T D tk') (hK : RK T D) (hJ : ¬ T 0 26 = 0 → ∃ r np q Q, RJ T D tk' b c r np q Q) (hN : T 0 26 = 0 → ∀ w, w < 4 → tk' w = none) : RA T D tk' b c sz :=
  ⟨hM, hV, RC.keep hM.2.1 h.2.2.1 (mf.1 1 (by omega)) (mf.1 2 (by omega)) cf.cg, h.2.2.2.1.keep mf cf, hW, hK, hJ, hN⟩
theorem RW.same (h : RW S C tk) (hS : ∀ k, k = 3 ∨ k = 4 ∨ k = 5 ∨ k = 6 ∨ k = 7 → T k = S k) (hC : ∀ k j, 50 ≤ k → k < 54 → D k j = C k j) : RW T D tk := fun w hw => by
  rw [hC _ _ (by omega) (by omega), hC _ _ (by omega) (by omega), hC _ _ (by omega) (by omega), hC _ _ (by omega) (by omega), hS 7 (by omega), hS 3 (by omega), hS 4 (by omega), hS 5 (by omega), hS 6 (by omega)]
  exact h w hw
theorem RA.thr (h : RA S C tk b c sz) (v : Int32) : RA (xu S 0 14 v) C tk b c sz := by
  have e0 : ∀ j, j ≠ 14 → xu S 0 14 v 0 j = S 0 j := fun j hj => xu_j _ _ _ _ hj
  refine h.up (h.1.t14 v) h.2.1 ((MF.refl S).xu0 (by decide) v) (CF.refl C b) (h.2.2.2.2.1.same (fun k hk => xu_k _ _ _ (by omega)) (fun _ _ _ _ => rfl)) ?_ (fun g => ?_) (fun g => ?_)
  · unfold RK
    rw [e0 _ (by omega), e0 _ (by omega), e0 _ (by omega), e0 _ (by omega), e0 _ (by omega), e0 _ (by omega)]; exact h.2.2.2.2.2.1
  · rw [e0 _ (by omega)] at g
    obtain ⟨r, np, q, Q, hJ⟩ := h.2.2.2.2.2.2.1 g
    exact ⟨r, np, q, Q, hJ.thr v⟩
  · rw [e0 _ (by omega)] at g
    exact h.2.2.2.2.2.2.2 g
theorem RA.filter (h : RA S C tk b c sz) (v : Int32) : RA (xu (xu S 0 14 (nI 0)) 0 15 v) (xu C 0 10 v) tk b c sz := by
  have h := h.thr (nI 0)
  generalize xu S 0 14 (nI 0) = S at *
  have hb := jo_dis b
  have e0 : ∀ j, j ≠ 15 → xu S 0 15 v 0 j = S 0 j := fun j hj => xu_j _ _ _ _ hj
  have c0 : ∀ k j, ¬ (k = 0 ∧ j = 10) → xu C 0 10 v k j = C k j := fun k j hk => if_neg hk
  have hW : RW (xu S 0 15 v) (xu C 0 10 v) tk := h.2.2.2.2.1.same (fun k hk => xu_k _ _ _ (by omega)) (fun k j _ _ => c0 k j (by omega))
  have hK : RK (xu S 0 15 v) (xu C 0 10 v) := by
    obtain ⟨k1, k2, k3, k4, k5, k6⟩ := h.2.2.2.2.2.1
    refine ⟨?_, ?_, ?_, ?_, ?_, ?_⟩
    · rw [c0 _ _ (by omega), e0 _ (by omega)]; exact k1
    · rw [xu_s, xu_s]
    · rw [c0 _ _ (by omega), e0 _ (by omega)]; exact k3
    · rw [c0 _ _ (by omega), e0 _ (by omega)]; exact k4
    · rw [c0 _ _ (by omega), e0 _ (by omega)]; exact k5
    · rw [c0 _ _ (by omega), e0 _ (by omega)]; exact k6
  refine h.up (h.1.xu0 (by decide) (by decide) (by decide) v) (h.2.1.xu0 (by decide) (by decide) v) ((MF.refl S).xu0 (by decide) v) (fun k j e => c0 k j (by omega)) hW hK (fun g => ?_) (fun g => ?_)
  · rw [e0 _ (by omega)] at g
    obtain ⟨r, np, q, Q, hJ⟩ := h.2.2.2.2.2.2.1 g
    refine ⟨r, np, q, Q, hJ.mk ⟨fun k hk => xu_k _ _ _ (by omega), fun j hj => e0 j (by omega), fun k j hk => c0 k j (by omega)⟩ hW hK (fun w t hw e => ?_) (hJ.2.2.2.2.2.2.2.1.xu0 (by decide) v) (hJ.2.2.2.2.2.2.2.2.keep (fun k j e => c0 k j (by unfold prt at e; omega)) (fun w t hw e => Or.inl e))⟩
    rw [xu_k _ _ _ (by omega), xu_k _ _ _ (by omega)]
    exact hJ.2.2.2.2.1 w t hw e
  · rw [e0 _ (by omega)] at g
    exact h.2.2.2.2.2.2.2 g
theorem RA.speed (h : RA S C tk b c sz) {w : Nat} (hw : w < 4) {s : Int32} (hs : rng s 1 4) : RA (xu (xu S 0 14 (nI 0)) 3 w s) (xu C (50 + w) 1 s) tk b c sz := by
  obtain ⟨k, rfl, hk1, hk4⟩ := rng_of (by decide) (by decide) hs
  have h := h.thr (nI 0)
  generalize xu S 0 14 (nI 0) = S at *
  have hb := jo_dis b
  have ek : ∀ j, j ≠ 3 → xu S 3 w (nI k) j = S j := fun j hj => xu_k _ _ _ hj
  have c0 : ∀ i j, ¬ (i = 50 + w ∧ j = 1) → xu C (50 + w) 1 (nI k) i j = C i j := fun i j hk => if_neg hk
  have hW : RW (xu S 3 w (nI k)) (xu C (50 + w) 1 (nI k)) tk := fun v hv => by
    obtain ⟨b1, b2, b3, b4, b5, b6⟩ := h.2.2.2.2.1 v hv
    rw [c0 _ 0 (by omega), c0 _ 3 (by omega), c0 _ 4 (by omega), ek 7 (by omega), ek 4 (by omega), ek 5 (by omega), ek 6 (by omega)]
    by_cases e : v = w
    · subst e
      rw [xu_s, xu_s]
      exact ⟨b1, rfl, b3, b4, b5, k, rfl, hk1, hk4⟩
    · rw [c0 _ 1 (by omega), xu_j _ _ _ _ e]
      exact ⟨b1, b2, b3, b4, b5, b6⟩
  have hK : RK (xu S 3 w (nI k)) (xu C (50 + w) 1 (nI k)) := by
    unfold RK
    rw [c0 _ _ (by omega), c0 _ _ (by omega), c0 _ _ (by omega), c0 _ _ (by omega), c0 _ _ (by omega), c0 _ _ (by omega), ek 0 (by omega)]
    exact h.2.2.2.2.2.1
  have hM : MI (xu S 3 w (nI k)) c sz := by
    refine h.1.of (congrFun (ek 0 (by omega)) _) (h.1.2.2.2.2.2.xuk (by decide) (by decide) (by decide) (by decide) _ _) (fun q => ?_)
    rw [ek 0 (by omega)] at q
    obtain ⟨r, np, hT⟩ := h.1.2.2.2.2.1 q
    exact ⟨r, np, hT.xuk (by decide) (by decide) (by decide) _ _⟩
  refine h.up hM (h.2.1.speed hw _) ((MF.refl S).kk (fun j hj => ek j (by omega))) (fun i j e => c0 i j (by omega)) hW hK (fun g => ?_) (fun g => ?_)
  · rw [ek 0 (by omega)] at g
    obtain ⟨r, np, q, Q, hJ⟩ := h.2.2.2.2.2.2.1 g
    refine ⟨r, np, q, Q, hJ.mk ⟨fun j hj => ek j (by omega), fun j hj => congrFun (ek 0 (by omega)) j, fun i j hk => c0 i j (by omega)⟩ hW hK (fun v t hv e => ?_) (hJ.2.2.2.2.2.2.2.1.xuk (by decide) (by decide) (by decide) _ _) (hJ.2.2.2.2.2.2.2.2.keep (fun i j e => c0 i j (by unfold prt at e; omega)) (fun v t hv e => Or.inl e))⟩
    rw [ek 8 (by omega), ek 5 (by omega)]
    exact hJ.2.2.2.2.1 v t hv e
  · rw [ek 0 (by omega)] at g
    exact h.2.2.2.2.2.2.2 g
theorem RA.stop (h : RA S C tk b c sz) (hj : ¬ S 0 26 = 0) : RA (stS S) (dpC (xu C 0 7 (nI 0)) (fun _ => true) 4) (dpT tk (fun _ => true) 4) b c sz := by
  have hM := h.1.stop
  have hV := h.2.1.stop
  unfold stS at hM ⊢
  rw [if_neg hj] at hM ⊢
  have hb := jo_dis b
  have ck : ∀ k j, ¬ (k = 0 ∧ j = 7) → ¬ (50 ≤ k ∧ k < 54 ∧ j = 3) → dpC (xu C 0 7 (nI 0)) (fun _ => true) 4 k j = C k j := fun k j a2 a3 => by
    rw [dpC_k (by omega), show ∀ (f : Nat → Nat → Int32) v, xu f 0 7 v k j = f k j from fun f v => if_neg a2]
  have gk : ∀ k, k ≠ 4 → k ≠ 5 → k ≠ 0 → gvS (xu (xu S 0 14 (nI 0)) 0 26 (nI 0)) (nI 0) 4 k = S k := fun k a4 a5 a0 => by rw [gvS_k _ _ _ a4 a5, xu_k _ _ _ a0, xu_k _ _ _ a0]
  have g0 : ∀ j, j ≠ 26 → j ≠ 14 → gvS (xu (xu S 0 14 (nI 0)) 0 26 (nI 0)) (nI 0) 4 0 j = S 0 j := fun j a b => by rw [gvS_k _ _ _ (by omega) (by omega), xu_j _ _ _ _ a, xu_j _ _ _ _ b]
  have j0 : gvS (xu (xu S 0 14 (nI 0)) 0 26 (nI 0)) (nI 0) 4 0 26 = 0 := by rw [gvS_k _ _ _ (by omega) (by omega), xu_s]; rfl
  have tn : ∀ w, w < 4 → dpT tk (fun _ => true) 4 w = none := fun w hw => if_pos ⟨hw, rfl⟩
  refine h.up hM hV ⟨fun k hk => gk k (by omega) (by omega) (by omega), g0 _ (by omega) (by omega)⟩ (fun k j e => ck k j (by omega) (by omega)) (fun v hv => ?_) ?_ (fun g => absurd j0 g) (fun _ => tn)
  · obtain ⟨b1, b2, b3, b4, b5, b6⟩ := h.2.2.2.2.1 v hv
    rw [ck _ 0 (by omega) (by omega), ck _ 1 (by omega) (by omega), ck _ 4 (by omega) (by omega), gk 7 (by omega) (by omega) (by omega), gk 3 (by omega) (by omega) (by omega), gk 6 (by omega) (by omega) (by omega), tn v hv]
    refine ⟨b1, b2, ?_, ?_, b5, b6⟩
    · exact if_pos ⟨Or.inl rfl, hv, Or.inl rfl⟩
    · rw [show dpC (xu C 0 7 (nI 0)) (fun _ => true) 4 (50 + v) 3 = nI 0 from if_pos ⟨by omega, by omega, rfl, rfl⟩]
      exact (if_pos ⟨Or.inr rfl, hv, Or.inl rfl⟩ : gvS (xu (xu S 0 14 (nI 0)) 0 26 (nI 0)) (nI 0) 4 5 v = _).symm
  · obtain ⟨k1, k2, k3, k4, k5, k6⟩ := h.2.2.2.2.2.1
    refine ⟨?_, ?_, ?_, ?_, ?_, ?_⟩
    · rw [dpC_k (by omega), xu_s, j0]; rfl
    · rw [ck _ _ (by omega) (by omega), g0 _ (by omega) (by omega)]; exact k2
    · rw [ck _ _ (by omega) (by omega), g0 _ (by omega) (by omega)]; exact k3
    · rw [ck _ _ (by omega) (by omega), g0 _ (by omega) (by omega)]; exact k4
    · rw [ck _ _ (by omega) (by omega), g0 _ (by omega) (by omega)]; exact k5
    · rw [ck _ _ (by omega) (by omega), g0 _ (by omega) (by omega)]; exact k6
/-- run, once a job is under way -/
theorem RA.run (h : RA S C tk b c sz) (hj : ¬ S 0 26 = 0) (n : Nat) : ∃ r np q Q, RJ S C tk b c r np q Q ∧ ((((rnC b Q c r n 0 C tk).2 = 0 ∧ (rnL (xu S 0 14 (nI 0)) c r np n).1 0 14 = 0 ∧ (rnL (xu S 0 14 (nI 0)) c r np n).2 = (rnC b Q c r n 0 C tk).1.2) ∨ ((rnC b Q c r n 0 C tk).2 = 1 ∧ (rnL (xu S 0 14 (nI 0)) c r np n).1 0 14 = nI 2) ∨ ((rnC b Q c r n 0 C tk).2 = 2 ∧ (rnL (xu S 0 14 (nI 0)) c r np n).1 0 14 = nI 3)) ∧
    RA (rnL (xu S 0 14 (nI 0)) c r np n).1 (rnC b Q c r n 0 C tk).1.1.1.1 (rnC b Q c r n 0 C tk).1.1.1.2 (rnC b Q c r n 0 C tk).1.1.2 c sz) := by
  obtain ⟨r, np, q, Q, hJ⟩ := h.2.2.2.2.2.2.1 hj
  refine ⟨r, np, q, Q, hJ, ?_⟩
  have h0 := h.thr (nI 0)
  have hJ0 := hJ.thr (nI 0)
  have j0 : ¬ xu S 0 14 (nI 0) 0 26 = 0 := by rw [xu_j _ _ _ _ (by omega)]; exact hj
  have rs := run_sim (S0 := xu S 0 14 (nI 0)) (C0 := C) n 0 C tk rfl hJ0 (show xu S 0 14 (nI 0) 0 14 = 0 from xu_s S 0 14 (nI 0)) j0 (MF.refl _) (CF.refl C b)
  rw [Nat.zero_add] at rs
  obtain ⟨ra, rb⟩ := rs
  refine ⟨ra, ?_⟩
  have hV := CV.rn (sz := sz) n 0 C tk h.2.1.1 hJ.2.2.2.2.2.2.2.2
  have hT := hJ0.2.2.2.2.2.2.2.1.run n
  have hp := h0.1.2.2.2.2.2.run hJ0.2.2.2.2.2.2.2.1 n
  have hM : MI (rnL (xu S 0 14 (nI 0)) c r np n).1 c sz := h0.1.of (hT.1.trans h0.1.1.symm) hp (fun _ => ⟨r, np, hT⟩)
  generalize rnL (xu S 0 14 (nI 0)) c r np n = m at *
  generalize rnC b Q c r n 0 C tk = o at *
  obtain ⟨⟨⟨⟨C', tk'⟩, b'⟩, d⟩, k⟩ := o
  obtain ⟨T, d'⟩ := m
  dsimp only at *
  rcases rb with ⟨a1, a2, a3, a4, a5⟩ | ⟨a1, a2, a3, a4, a5, a6⟩ | ⟨a1, a2, a3, a4⟩
  · subst a1
    exact h0.up hM hV a4 a5 a2.1 a2.2.1 (fun _ => ⟨r, np, q, Q, a2⟩) (fun g => absurd g a3)
  · subst a1
    exact ⟨hM, hV, RC.keep hM.2.1 h0.2.2.1 a4 a5 a6, a3, a2.1, a2.2.1, fun g => absurd a2.2.2.1 g, fun _ => a2.2.2.2⟩
  · subst a1
    exact h0.up hM hV a3 a4 a2.1 a2.2.1 (fun g => absurd a2.2.2.1 g) (fun _ => a2.2.2.2)
end XR9
