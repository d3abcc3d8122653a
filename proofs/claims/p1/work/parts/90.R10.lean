section XR10
variable {S T C D : Nat → Nat → Int32} {tk tk' : Nat → Option Nat} {b : Bool} {c r np : Nat} {q : List KV} {Q : Nat → List KV} {sz : Nat → Nat}
/-- worker w loses its task, and is up or down -/
theorem RW.down (h : RW S C tk) {w : Nat} (hw : w < 4) (up : Int32) : RW (wo1 S w up) (xu (xu C (50 + w) 0 up) (50 + w) 3 (nI 0)) (xr tk w none) := fun v hv => by
  obtain ⟨b1, b2, b3, b4, b5, b6⟩ := h v hv
  have ck : ∀ j, ¬ (50 + v = 50 + w ∧ (j = 0 ∨ j = 3)) → xu (xu C (50 + w) 0 up) (50 + w) 3 (nI 0) (50 + v) j = C (50 + v) j := fun j hj => by
    rw [show ∀ (f : Nat → Nat → Int32) x, xu f (50 + w) 3 x (50 + v) j = f (50 + v) j from fun f x => if_neg (by omega)]; exact if_neg (by omega)
  have s3 : wo1 S w up 3 = S 3 := by unfold wo1; rw [xu_k _ _ _ (by omega), xu_k _ _ _ (by omega), xu_k _ _ _ (by omega), xu_k _ _ _ (by omega)]
  have s6 : wo1 S w up 6 = S 6 := by unfold wo1; rw [xu_k _ _ _ (by omega), xu_k _ _ _ (by omega), xu_k _ _ _ (by omega), xu_k _ _ _ (by omega)]
  have s7 : wo1 S w up 7 v = if v = w then up else S 7 v := by
    unfold wo1
    rw [xu_k _ _ _ (by omega), xu_k _ _ _ (by omega)]
    by_cases e : v = w
    · subst e; rw [xu_s, if_pos rfl]
    · rw [xu_j _ _ _ _ e, if_neg e, xu_k _ _ _ (by omega)]
  have s4 : wo1 S w up 4 v = if v = w then -1 else S 4 v := by
    unfold wo1
    rw [xu_k _ _ _ (by omega)]
    by_cases e : v = w
    · subst e; rw [xu_s, if_pos rfl]
    · rw [xu_j _ _ _ _ e, if_neg e, xu_k _ _ _ (by omega), xu_k _ _ _ (by omega)]
  have s5 : wo1 S w up 5 v = if v = w then nI 0 else S 5 v := by
    unfold wo1
    by_cases e : v = w
    · subst e; rw [xu_s, if_pos rfl]
    · rw [xu_j _ _ _ _ e, if_neg e, xu_k _ _ _ (by omega), xu_k _ _ _ (by omega), xu_k _ _ _ (by omega)]
  rw [s3, s6, s7, s4, s5, ck 1 (by omega), ck 4 (by omega)]
  by_cases e : v = w
  · subst e
    rw [if_pos rfl, if_pos rfl, if_pos rfl, xu_s, xr_s, show ∀ (f : Nat → Nat → Int32) x, xu f (50 + v) 3 x (50 + v) 0 = f (50 + v) 0 from fun f x => if_neg (by omega), xu_s]
    exact ⟨rfl, b2, rfl, rfl, b5, b6⟩
  · rw [if_neg e, if_neg e, if_neg e, xr_n _ _ e, ck 0 (by omega), ck 3 (by omega)]
    exact ⟨b1, b2, b3, b4, b5, b6⟩
theorem wo1_k {w : Nat} {up : Int32} {k : Nat} (h4 : k ≠ 4) (h5 : k ≠ 5) (h7 : k ≠ 7) (h0 : k ≠ 0) : wo1 S w up k = S k := by
  unfold wo1; rw [xu_k _ _ _ h5, xu_k _ _ _ h4, xu_k _ _ _ h7, xu_k _ _ _ h0]
theorem wo1_0 {w : Nat} {up : Int32} {j : Nat} (hj : j ≠ 14) : wo1 S w up 0 j = S 0 j := by
  unfold wo1; rw [xu_k _ _ _ (by omega), xu_k _ _ _ (by omega), xu_k _ _ _ (by omega), xu_j _ _ _ _ hj]
theorem RK.down (h : RK S C) {w : Nat} (up : Int32) : RK (wo1 S w up) (xu (xu C (50 + w) 0 up) (50 + w) 3 (nI 0)) := by
  have ck : ∀ j, xu (xu C (50 + w) 0 up) (50 + w) 3 (nI 0) 0 j = C 0 j := fun j => by
    rw [show ∀ (f : Nat → Nat → Int32) x, xu f (50 + w) 3 x 0 j = f 0 j from fun f x => if_neg (by omega)]; exact if_neg (by omega)
  unfold RK
  rw [ck, ck, ck, ck, ck, ck, wo1_0 (by omega), wo1_0 (by omega), wo1_0 (by omega), wo1_0 (by omega), wo1_0 (by omega), wo1_0 (by omega)]
  exact h
theorem RJ.down (h : RJ S C tk b c r np q Q) {w : Nat} (hw : w < 4) (up : Int32) : RJ (wo1 S w up) (xu (xu C (50 + w) 0 up) (50 + w) 3 (nI 0)) (xr tk w none) b c r np q Q := by
  have ck : ∀ k j, ¬ (50 ≤ k ∧ k < 54) → xu (xu C (50 + w) 0 up) (50 + w) 3 (nI 0) k j = C k j := fun k j hk => by
    rw [show ∀ (f : Nat → Nat → Int32) x, xu f (50 + w) 3 x k j = f k j from fun f x => if_neg (by omega)]; exact if_neg (by omega)
  have hj := jo_lt b
  have xn : ∀ v s, xr tk w none v = some s → v ≠ w ∧ tk v = some s := fun v s e => by
    by_cases g : v = w
    · subst g; rw [xr_s] at e; cases e
    · rw [xr_n _ _ g] at e; exact ⟨g, e⟩
  refine h.mk ⟨fun k hk => wo1_k (by omega) (by omega) (by omega) (by omega), fun j hj => wo1_0 (by omega), fun k j hk => ck k j (by omega)⟩ (h.1.down hw up) (h.2.1.down up) (fun v s hv e => ?_) ?_ (h.2.2.2.2.2.2.2.2.keep (fun k j e => ck k j (by unfold prt at e; omega)) (fun v s hv e => Or.inl (xn v s e).2))
  · obtain ⟨g1, g2⟩ := xn v s e
    rw [wo1_k (by omega) (by omega) (by omega) (by omega)]
    have s5 : wo1 S w up 5 v = S 5 v := by
      unfold wo1
      rw [xu_j _ _ _ _ g1, xu_k _ _ _ (by omega), xu_k _ _ _ (by omega), xu_k _ _ _ (by omega)]
    rw [s5]
    exact h.2.2.2.2.1 v s hv g2
  · refine h.2.2.2.2.2.2.2.1.keep (wo1_k (by omega) (by omega) (by omega) (by omega)) (wo1_0 (by omega)) (wo1_0 (by omega)) (wo1_0 (by omega)) (wo1_0 (by omega)) (fun v hv => ?_)
    unfold wo1
    rw [xu_k _ _ _ (by omega)]
    by_cases e : v = w
    · subst e; rw [xu_s]; exact Or.inl rfl
    · rw [xu_j _ _ _ _ e, xu_k _ _ _ (by omega), xu_k _ _ _ (by omega)]; exact Or.inr (Or.inl rfl)
/-- a map task that was done comes to be not done -/
theorem RJ.undo (h : RJ S C tk b c r np q Q) {t : Nat} (ht : t < c) : RJ (xu (xu S 8 t (nI 0)) 0 24 (S 0 24 + nI 1)) (xu (xu C (taddr t) 4 (-1)) 0 14 (C 0 14 + nI 1)) tk b c r np q Q := by
  obtain ⟨hc6, hr3, htk⟩ := h.c6
  have hj := jo_lt b
  have tat := taddr_lt (show tok t by omega)
  have ek : ∀ k, k ≠ 8 → k ≠ 0 → xu (xu S 8 t (nI 0)) 0 24 (S 0 24 + nI 1) k = S k := fun k h8 h0 => by rw [xu_k _ _ _ h0, xu_k _ _ _ h8]
  have e0 : ∀ j, j ≠ 24 → xu (xu S 8 t (nI 0)) 0 24 (S 0 24 + nI 1) 0 j = S 0 j := fun j hj => by rw [xu_j _ _ _ _ hj, xu_k _ _ _ (by omega)]
  have e8 : ∀ s, xu (xu S 8 t (nI 0)) 0 24 (S 0 24 + nI 1) 8 s = if s = t then nI 0 else S 8 s := fun s => by
    rw [xu_k _ _ _ (by omega)]
    by_cases e : s = t
    · subst e; rw [xu_s, if_pos rfl]
    · rw [xu_j _ _ _ _ e, if_neg e]
  have ck : ∀ k j, ¬ (k = 0 ∧ j = 14) → ¬ (k = taddr t ∧ j = 4) → xu (xu C (taddr t) 4 (-1)) 0 14 (C 0 14 + nI 1) k j = C k j := fun k j a1 a2 => by
    rw [show ∀ (f : Nat → Nat → Int32) x, xu f 0 14 x k j = f k j from fun f x => if_neg a1]; exact if_neg a2
  have c4 : xu (xu C (taddr t) 4 (-1)) 0 14 (C 0 14 + nI 1) (taddr t) 4 = -1 := by
    rw [show ∀ (f : Nat → Nat → Int32) x, xu f 0 14 x (taddr t) 4 = f (taddr t) 4 from fun f x => if_neg (by omega), xu_s]
  obtain ⟨hW, ⟨k1, k2, k3, k4, k5, k6⟩, ⟨d1, d2, d3⟩, hE, hH, ⟨q1, q2, q3, q4⟩, hG, hT, hI⟩ := h
  refine ⟨hW.same (fun k hk => ek k (by omega) (by omega)) (fun k j _ _ => ck k j (by omega) (by omega)), ⟨?_, ?_, ?_, ?_, ?_, ?_⟩, ⟨?_, ?_, ?_⟩, fun s hs => ?_, fun v s hv e => ?_, ⟨fun i hi => ?_, q2, q3, fun p hp => ?_⟩, fun p hp e => ?_, ?_, ?_⟩
  · rw [ck _ _ (by omega) (by omega), e0 _ (by omega)]; exact k1
  · rw [ck _ _ (by omega) (by omega), e0 _ (by omega)]; exact k2
  · rw [ck _ _ (by omega) (by omega), e0 _ (by omega)]; exact k3
  · rw [ck _ _ (by omega) (by omega), e0 _ (by omega)]; exact k4
  · rw [ck _ _ (by omega) (by omega), e0 _ (by omega)]; exact k5
  · rw [xu_s, xu_s, k6]
  · rw [ck _ _ (by omega) (by omega), e0 _ (by omega)]; exact d1
  · rw [e0 _ (by omega)]; exact d2
  · rw [ck _ _ (by omega) (by omega), e0 _ (by omega)]; exact d3
  · have hst := inr_tok hc6 hr3 hs
    have tas := taddr_lt hst
    have nd : nds (xu (xu S 8 t (nI 0)) 0 24 (S 0 24 + nI 1)) np s = nds S np s := nds_congr (ek 1 (by omega) (by omega)) (ek 12 (by omega) (by omega)) (ek 10 (by omega) (by omega)) (e0 _ (by omega)) (e0 _ (by omega)) np s
    have rn : rns (xu (xu S 8 t (nI 0)) 0 24 (S 0 24 + nI 1)) s = rns S s := by unfold rns; rw [ek 12 (by omega) (by omega), e0 _ (by omega)]
    obtain ⟨x1, x2, x3, x4, x5⟩ := hE s hs
    rw [ck _ 2 (by omega) (by omega), ck _ 3 (by omega) (by omega), nd, rn, e8, ek 9 (by omega) (by omega)]
    by_cases e : s = t
    · subst e
      rw [if_pos rfl, c4]
      exact ⟨⟨fun _ => rfl, fun _ => rfl⟩, fun g => absurd rfl g, x3, x4, x5⟩
    · rw [if_neg e, ck _ 4 (by omega) (fun g => e (taddr_inj hst (by omega) g.1))]
      exact ⟨x1, x2, x3, x4, x5⟩
  · obtain ⟨y1, y2, y3⟩ := hH v s hv e
    rw [e8, ek 5 (by omega) (by omega)]
    refine ⟨y1, ?_, y3⟩
    split
    · rfl
    · exact y2
  · rw [ek 10 (by omega) (by omega), ek 11 (by omega) (by omega)]; exact q1 i hi
  · rw [q4 p hp]
    unfold inP
    rw [e0 19 (by omega)]
  · rw [e8, if_neg (by omega)] at e
    rw [e0 18 (by omega), e0 16 (by omega)]
    obtain ⟨l, g1, g2⟩ := hG p hp e
    exact ⟨l, g1, g2.keep (fun k j hk => ck k j (by omega) (by omega))⟩
  · exact hT.keep (ek 10 (by omega) (by omega)) (e0 _ (by omega)) (e0 _ (by omega)) (e0 _ (by omega)) (e0 _ (by omega)) (fun v _ => Or.inr (Or.inl (congrFun (ek 4 (by omega) (by omega)) v)))
  · exact hI.keep (fun k j e => ck k j (by unfold prt at e; omega) (by unfold prt at e; omega)) (fun v s hv e => Or.inl e)
theorem RJ.lose (h : RJ S C tk b c r np q Q) {w : Nat} (hw : w < 4) : ∀ n, n ≤ c → RJ (loL S (nI w) n).1 (cloL C (nI w) n).1 tk b c r np q Q ∧ (loL S (nI w) n).2 = (cloL C (nI w) n).2
  | 0, _ => ⟨h, rfl⟩
  | n + 1, hn => by
    obtain ⟨ih, ih2⟩ := h.lose hw n (by omega)
    obtain ⟨x1, x2, -⟩ := ih.2.2.2.1 n (Or.inl (by omega))
    have key : ((loL S (nI w) n).1 8 n = 0 ∨ ¬ (loL S (nI w) n).1 9 n = nI w) ↔ ¬ (cloL C (nI w) n).1 (taddr n) 4 = nI w := by
      constructor
      · rintro (g | g) e
        · rw [x1.mpr g] at e; exact nI_nm1 (by omega) e.symm
        · by_cases g0 : (loL S (nI w) n).1 8 n = 0
          · rw [x1.mpr g0] at e; exact nI_nm1 (by omega) e.symm
          · exact g ((x2 g0).symm.trans e)
      · intro g
        by_cases g0 : (loL S (nI w) n).1 8 n = 0
        · exact Or.inl g0
        · exact Or.inr (fun e => g ((x2 g0).trans e))
    rw [loL, cloL]
    by_cases g : (cloL C (nI w) n).1 (taddr n) 4 = nI w
    · rw [if_pos g, if_neg (fun e => key.mp e g)]
      exact ⟨ih.undo (by omega), rfl⟩
    · rw [if_neg g, if_pos (key.mpr g)]
      exact ⟨ih, ih2⟩
theorem isR_iff (h4 : ∀ w, w < 4 → S 4 w = oI (tk w)) (htk : TKo tk) {w : Nat} (hw : w < 4) : nI 8 ≤ S 4 w ↔ isR tk w = true := by
  rw [h4 w hw]
  unfold isR
  cases e : tk w with
  | none => exact ⟨fun g => absurd g (by decide), fun g => (by cases g)⟩
  | some t =>
    have := htk w t hw e
    show nI 8 ≤ nI t ↔ decide (8 ≤ t) = true
    rw [nI_lei (by omega) (by omega), decide_eq_true_iff]
/-- the reduce tasks are given up -/
theorem RJ.gvR (h : RJ S C tk b c r np q Q) : RJ (gvS S (nI 1) 4) (dpC C (isR tk) 4) (dpT tk (isR tk) 4) b c r np q Q := by
  obtain ⟨hc6, hr3, htk⟩ := h.c6
  have hj := jo_lt b
  have iR := fun w hw => isR_iff (S := S) h.s4 htk (w := w) hw
  have ek : ∀ k, k ≠ 4 → k ≠ 5 → gvS S (nI 1) 4 k = S k := fun k h4 h5 => gvS_k _ _ _ h4 h5
  have g45 : ∀ k v, (k = 4 ∨ k = 5) → v < 4 → gvS S (nI 1) 4 k v = if isR tk v = true then (if k = 4 then -1 else nI 0) else S k v := fun k v hk hv => by
    unfold gvS
    by_cases e : isR tk v = true
    · rw [if_pos ⟨hk, hv, Or.inr ((iR v hv).mpr e)⟩, if_pos e]
    · rw [if_neg (fun g => by rcases g.2.2 with x | x; exact absurd x (by decide); exact e ((iR v hv).mp x)), if_neg e]
  have ck : ∀ k j, ¬ (50 ≤ k ∧ k < 54 ∧ j = 3) → dpC C (isR tk) 4 k j = C k j := fun k j hk => dpC_k (by omega)
  have c3 : ∀ v, v < 4 → dpC C (isR tk) 4 (50 + v) 3 = if isR tk v = true then nI 0 else C (50 + v) 3 := fun v hv => by
    unfold dpC
    by_cases e : isR tk v = true
    · rw [if_pos ⟨by omega, by omega, rfl, by rw [Nat.add_sub_cancel_left]; exact e⟩, if_pos e]
    · rw [if_neg (fun g => e (by have g4 := g.2.2.2; rw [Nat.add_sub_cancel_left] at g4; exact g4)), if_neg e]
  have tv : ∀ v, v < 4 → dpT tk (isR tk) 4 v = if isR tk v = true then none else tk v := fun v hv => by
    unfold dpT
    by_cases e : isR tk v = true
    · rw [if_pos ⟨hv, e⟩, if_pos e]
    · rw [if_neg (fun g => e g.2), if_neg e]
  refine h.mk ⟨fun k hk => ek k (by omega) (by omega), fun j hj => congrFun (ek 0 (by omega) (by omega)) j, fun k j hk => ck k j (by omega)⟩ (fun v hv => ?_) ?_ (fun v s hv e => ?_) h.2.2.2.2.2.2.2.1.gvs (h.2.2.2.2.2.2.2.2.keep (fun k j e => ck k j (by unfold prt at e; omega)) (fun v s hv e => Or.inl (dpT_t e)))
  · obtain ⟨b1, b2, b3, b4, b5, b6⟩ := h.1 v hv
    rw [ck _ 0 (by omega), ck _ 1 (by omega), ck _ 4 (by omega), ek 7 (by omega) (by omega), ek 3 (by omega) (by omega), ek 6 (by omega) (by omega), g45 4 v (Or.inl rfl) hv, g45 5 v (Or.inr rfl) hv, c3 v hv, tv v hv]
    by_cases e : isR tk v = true
    · simp only [if_pos e]
      exact ⟨b1, b2, rfl, rfl, b5, b6⟩
    · simp only [if_neg e]
      exact ⟨b1, b2, b3, b4, b5, b6⟩
  · unfold RK
    rw [ck _ _ (by omega), ck _ _ (by omega), ck _ _ (by omega), ck _ _ (by omega), ck _ _ (by omega), ck _ _ (by omega), ek 0 (by omega) (by omega)]
    exact h.2.1
  · rw [tv v hv] at e
    by_cases g : isR tk v = true
    · rw [if_pos g] at e; cases e
    · rw [if_neg g] at e
      rw [ek 8 (by omega) (by omega), g45 5 v (Or.inr rfl) hv, if_neg g]
      exact h.2.2.2.2.1 v s hv e
theorem MF.wo (w : Nat) (up : Int32) : MF S (wo1 S w up) := ⟨fun k hk => wo1_k (by omega) (by omega) (by omega) (by omega), wo1_0 (by omega)⟩
theorem MF.lo {A : Nat → Nat → Int32} (h : MF A S) (w : Int32) (n : Nat) : MF A (loL S w n).1 := ⟨fun k hk => (funext (fun j => loL_keep (by omega) (by omega) n)).trans (h.1 k hk), (loL_keep (by omega) (by omega) n).trans h.2⟩
theorem RA.worker (h : RA S C tk b c sz) {w : Nat} (hw : w < 4) {up : Int32} (hup : up = nI 0 ∨ up = nI 1) : RA (woS S (nI w) up c) (wkC C tk w up c).1 (wkC C tk w up c).2 b c sz := by
  have hM := h.1.worker (nI w) up
  have hV := h.2.1.worker hw up
  have hb := jo_dis b
  have hc6 := h.1.2.1
  have rg : rng (nI w) 0 3 := ⟨nI_le (by omega) (by omega), nI_le (by omega) (by omega)⟩
  have cl : (nI w).toNatClampNeg = w := nI_clamp (by omega)
  have e7 : C (50 + w) 0 = S 7 w := (h.2.2.2.2.1 w hw).1
  unfold woS at hM ⊢
  rw [if_pos rg, cl] at hM ⊢
  unfold wkC at hV ⊢
  by_cases g7 : S 7 w = up
  · rw [if_pos g7] at hM ⊢
    rw [if_pos (e7.trans g7)]
    exact h.thr _
  · rw [if_neg g7] at hM ⊢
    rw [if_neg (fun g => g7 (e7.symm.trans g))] at hV ⊢
    have cw : ∀ k j, ¬ (50 ≤ k ∧ k < 54) → xu (xu C (50 + w) 0 up) (50 + w) 3 (nI 0) k j = C k j := fun k j hk => by
      rw [show ∀ (f : Nat → Nat → Int32) x, xu f (50 + w) 3 x k j = f k j from fun f x => if_neg (by omega)]; exact if_neg (by omega)
    by_cases u0 : up = 0
    · rw [if_pos u0] at hM ⊢
      rw [if_pos u0] at hV ⊢
      unfold lsD at hV ⊢
      have j7 : xu (xu C (50 + w) 0 up) (50 + w) 3 (nI 0) 0 7 = S 0 26 := by rw [cw _ _ (by omega)]; exact h.2.2.2.2.2.1.1
      by_cases g : S 0 26 = 0
      · rw [if_pos g] at hM ⊢
        rw [if_pos (j7.trans g)] at hV ⊢
        refine h.up hM hV (MF.wo w up) (fun k j e => cw k j (by omega)) (h.2.2.2.2.1.down hw up) (h.2.2.2.2.2.1.down up) (fun n => absurd ((wo1_0 (by omega)).trans g) n) (fun _ v hv => ?_)
        dsimp only
        by_cases e : v = w
        · rw [e, xr_s]
        · rw [xr_n _ _ e]; exact h.2.2.2.2.2.2.2 g v hv
      · rw [if_neg g] at hM ⊢
        rw [if_neg (fun n => g (j7.symm.trans n))] at hV ⊢
        obtain ⟨r, np, q, Q, hJ⟩ := h.2.2.2.2.2.2.1 g
        obtain ⟨hL, hf⟩ := (hJ.down hw up).lose hw c (Nat.le_refl c)
        have j26 : (loL (wo1 S w up) (nI w) c).1 0 26 = S 0 26 := by rw [loL_keep (by omega) (by omega)]; exact wo1_0 (by omega)
        have clk : CF C (cloL (xu (xu C (50 + w) 0 up) (50 + w) 3 (nI 0)) (nI w) c).1 b := fun k j e => by rw [cloL_keep2 (by omega) (by omega) c hc6]; exact cw k j (by omega)
        rw [hf] at hM ⊢
        by_cases fl : (cloL (xu (xu C (50 + w) 0 up) (50 + w) 3 (nI 0)) (nI w) c).2 = true
        · rw [if_pos fl] at hM ⊢
          rw [if_pos fl] at hV ⊢
          have hG := hL.gvR
          refine h.up hM hV (((MF.wo w up).lo (nI w) c).kk (fun k hk => gvS_k _ _ _ (by omega) (by omega))) (clk.tr (fun k j e => dpC_k (by omega))) hG.1 hG.2.1 (fun _ => ⟨r, np, q, Q, hG⟩) (fun n => absurd ?_ g)
          rw [gvS_k _ _ _ (by omega) (by omega), j26] at n
          exact n
        · rw [if_neg fl] at hM ⊢
          rw [if_neg fl] at hV ⊢
          exact h.up hM hV ((MF.wo w up).lo (nI w) c) clk hL.1 hL.2.1 (fun _ => ⟨r, np, q, Q, hL⟩) (fun n => absurd (j26.symm.trans n) g)
    · rw [if_neg u0] at hM ⊢
      rw [if_neg u0] at hV ⊢
      have h0 := h.thr (nI 0)
      have e0 : ∀ j, xu (xu S 0 14 (nI 0)) 7 w up 0 j = xu S 0 14 (nI 0) 0 j := fun j => congrFun (xu_k _ _ _ (by omega)) j
      have c0 : ∀ k j, ¬ (k = 50 + w ∧ j = 0) → xu C (50 + w) 0 up k j = C k j := fun k j hk => if_neg hk
      have hW : RW (xu (xu S 0 14 (nI 0)) 7 w up) (xu C (50 + w) 0 up) tk := fun v hv => by
        obtain ⟨b1, b2, b3, b4, b5, b6⟩ := h0.2.2.2.2.1 v hv
        rw [c0 _ 1 (by omega), c0 _ 3 (by omega), c0 _ 4 (by omega), xu_k (k := 7) (k' := 3) _ _ _ (by omega), xu_k (k := 7) (k' := 4) _ _ _ (by omega), xu_k (k := 7) (k' := 5) _ _ _ (by omega), xu_k (k := 7) (k' := 6) _ _ _ (by omega)]
        by_cases e : v = w
        · subst e
          rw [xu_s, xu_s]
          exact ⟨rfl, b2, b3, b4, b5, b6⟩
        · rw [c0 _ 0 (by omega), xu_j _ _ _ _ e]
          exact ⟨b1, b2, b3, b4, b5, b6⟩
      have hK : RK (xu (xu S 0 14 (nI 0)) 7 w up) (xu C (50 + w) 0 up) := by
        unfold RK
        rw [c0 _ _ (by omega), c0 _ _ (by omega), c0 _ _ (by omega), c0 _ _ (by omega), c0 _ _ (by omega), c0 _ _ (by omega), e0, e0, e0, e0, e0, e0]
        exact h0.2.2.2.2.2.1
      refine h0.up hM hV ((MF.refl _).kk (fun k hk => xu_k _ _ _ (by omega))) (fun k j e => c0 k j (by omega)) hW hK (fun n => ?_) (fun n => ?_)
      · rw [e0] at n
        obtain ⟨r, np, q, Q, hJ⟩ := h0.2.2.2.2.2.2.1 n
        refine ⟨r, np, q, Q, hJ.mk ⟨fun k hk => xu_k _ _ _ (by omega), fun j hj => e0 j, fun k j hk => c0 k j (by omega)⟩ hW hK (fun v s hv e => ?_) (hJ.2.2.2.2.2.2.2.1.xuk (by decide) (by decide) (by decide) _ _) (hJ.2.2.2.2.2.2.2.2.keep (fun k j e => c0 k j (by unfold prt at e; omega)) (fun v s hv e => Or.inl e))⟩
        rw [xu_k (k := 7) (k' := 8) _ _ _ (by omega), xu_k (k := 7) (k' := 5) _ _ _ (by omega)]
        exact hJ.2.2.2.2.1 v s hv e
      · rw [e0] at n
        exact h0.2.2.2.2.2.2.2 n
end XR10
