/-! what a tick leaves as it was -/
def MF (A S : Nat → Nat → Int32) : Prop := (∀ k, k = 1 ∨ k = 2 ∨ k = 13 ∨ k = 14 ∨ k = 15 → S k = A k) ∧ S 0 25 = A 0 25
theorem MF.refl (A : Nat → Nat → Int32) : MF A A := ⟨fun _ _ => rfl, rfl⟩
theorem MF.tr {A B S : Nat → Nat → Int32} (h : MF A B) (g : MF B S) : MF A S := ⟨fun k hk => (g.1 k hk).trans (h.1 k hk), g.2.trans h.2⟩
theorem MF.xu0 {A S : Nat → Nat → Int32} (h : MF A S) {j : Nat} (hj : 25 ≠ j) (v : Int32) : MF A (xu S 0 j v) := ⟨fun k hk => (xu_k _ _ _ (by omega)).trans (h.1 k hk), (xu_j _ _ _ _ hj).trans h.2⟩
theorem MF.kk {A S T : Nat → Nat → Int32} (h : MF A S) (e : ∀ k, k = 0 ∨ k = 1 ∨ k = 2 ∨ k = 13 ∨ k = 14 ∨ k = 15 → T k = S k) : MF A T := ⟨fun k hk => (e k (by omega)).trans (h.1 k hk), (congrFun (e 0 (by omega)) 25).trans h.2⟩
theorem MF.gt {A S : Nat → Nat → Int32} {c r np w : Nat} (h : MF A S) : MF A (gtS S c r np w) := by
  rcases gtS_case S c r np w with e | ⟨t, T, -, e, hT⟩
  · rw [e]; exact h
  · rw [e]
    have hT2 : MF A T := by
      rcases hT with rfl | rfl
      · exact h
      · exact h.xu0 (by decide) _
    exact hT2.kk (fun k hk => by rw [xu_k _ _ _ (by omega), xu_k _ _ _ (by omega)])
theorem MF.rc {A S : Nat → Nat → Int32} {np pn i : Nat} (h : MF A S) : MF A (rcS S np (nI 0) pn i).1 := by
  refine ⟨fun k hk => ?_, (rcS_keep (by omega) (by omega) (by omega) i).trans h.2⟩
  refine Eq.trans ?_ (h.1 k hk)
  by_cases k3 : k = 13 ∨ k = 14
  · exact funext (fun x => rcS_p0 k3 i)
  · exact rcS_k (by omega) (by omega) (by omega)
theorem MF.fn {A S : Nat → Nat → Int32} {np w tn : Nat} (h : MF A S) : MF A (fnS S np w tn) := by
  have h1 : MF A (fn1 S w tn) := h.kk (fun k hk => fn1_k (by omega) (by omega) (by omega) (by omega))
  unfold fnS
  split
  · exact h1
  · split
    · exact h1.rc
    · exact (h1.rc.xu0 (by decide) _).kk (fun k hk => gvS_k _ _ _ (by omega) (by omega))
theorem MF.w1 {A S : Nat → Nat → Int32} {c r np w : Nat} {sm : Bool} (h : MF A S) : MF A (wk1 S c r np w sm).1 := by
  have w2 : ∀ U, MF A U → MF A (wk2 U np w sm).1 := fun U hU => by
    have h1 : MF A (wkU U w) := hU.kk (fun k hk => wkU_k (by omega) (by omega))
    unfold wk2
    split
    · exact hU
    · split
      · exact h1
      · exact h1.fn
  unfold wk1
  split
  · exact h
  · refine w2 _ ?_
    split
    · exact h.gt
    · exact h
theorem MF.tl {A S : Nat → Nat → Int32} {c r np : Nat} (h : MF A S) : ∀ n, MF A (tkL S c r np n).1
  | 0 => h.xu0 (by decide) _
  | n + 1 => by
    have ih := h.tl (c := c) (r := r) (np := np) n
    rw [tkL]
    split
    · exact ih
    · exact ih.w1
/-- the job goes on, unless something is thrown -/
theorem w1_26 {S : Nat → Nat → Int32} {c r np w : Nat} {sm : Bool} (h : (wk1 S c r np w sm).1 0 14 = 0) : (wk1 S c r np w sm).1 0 26 = S 0 26 := by
  have w2 : ∀ U, U 0 26 = S 0 26 → (wk2 U np w sm).1 0 14 = 0 → (wk2 U np w sm).1 0 26 = S 0 26 := fun U hU h => by
    have u0 : wkU U w 0 26 = S 0 26 := by rw [wkU_k (by omega) (by omega)]; exact hU
    unfold wk2 at h ⊢
    split
    · exact hU
    · rename_i g1
      rw [if_neg g1] at h
      split
      · exact u0
      · rename_i g2
        rw [if_neg g2] at h
        dsimp only at h ⊢
        unfold fnS at h ⊢
        have f0 : ∀ t, fn1 (wkU U w) w t 0 26 = S 0 26 := fun t => by rw [fn1_k (by omega) (by omega) (by omega) (by omega)]; exact u0
        split
        · exact f0 _
        · rename_i g3
          rw [if_neg g3] at h
          split
          · rw [rcS_keep (by omega) (by omega) (by omega)]; exact f0 _
          · rename_i g4
            rw [if_neg g4, gvS_k _ _ _ (by omega) (by omega), xu_j _ _ _ _ (by omega)] at h
            exact absurd (by rw [h]; decide) g4
  unfold wk1 at h ⊢
  split
  · rfl
  · rename_i g
    rw [if_neg g] at h
    refine w2 _ ?_ h
    split
    · rcases gtS_case S c r np w with e | ⟨t, T, -, e, hT⟩
      · rw [e]
      · rw [e, xu_k _ _ _ (by omega), xu_k _ _ _ (by omega)]
        rcases hT with rfl | rfl
        · rfl
        · exact xu_j _ _ _ _ (by omega)
    · rfl
theorem tl_26 {S : Nat → Nat → Int32} {c r np : Nat} : ∀ n, (tkL S c r np n).1 0 14 = 0 → (tkL S c r np n).1 0 26 = S 0 26
  | 0, _ => by show xu S 0 21 (S 0 21 + nI 1) 0 26 = S 0 26; rw [xu_j _ _ _ _ (by omega)]
  | n + 1, h => by
    rw [tkL] at h ⊢
    split
    · rename_i g; rw [if_pos g] at h; exact absurd h g
    · rename_i g
      rw [if_neg g] at h
      rw [w1_26 h]
      exact tl_26 n (Classical.byContradiction g)
def CF (C D : Nat → Nat → Int32) (b : Bool) : Prop := ∀ k j, (jo (!b) ≤ k ∧ k < jo (!b) + 21) ∨ (54 ≤ k ∧ k < 72 ∧ k % 3 ≠ 2) ∨ (k = 0 ∧ j = 8) → D k j = C k j
theorem CF.refl (C : Nat → Nat → Int32) (b : Bool) : CF C C b := fun _ _ _ => rfl
theorem CF.tr {C D E : Nat → Nat → Int32} {b : Bool} (h : CF C D b) (g : CF D E b) : CF C E b := fun k j e => (g k j e).trans (h k j e)
theorem jo_dis (b : Bool) : (jo b = 8 ∧ jo (!b) = 29) ∨ (jo b = 29 ∧ jo (!b) = 8) := by cases b; exact Or.inl ⟨rfl, rfl⟩; exact Or.inr ⟨rfl, rfl⟩
theorem CF.wd {A C : Nat → Nat → Int32} {tk : Nat → Option Nat} {b : Bool} {Q : Nat → List KV} {w : Nat} (h : CF A C b) (htk : TKo tk) (hw : w < 4) (sm : Bool) : CF A (cwD C tk b Q w sm).1.1 b := by
  have hb := jo_dis b
  have du : CF C (duC C w) b := fun k j e => duC_k (by omega)
  unfold cwD
  cases ht : tk w with
  | none => exact h
  | some t =>
    have htt := htk w t hw ht
    have tm := taddr_m htt
    have cp : CF (duC C w) (cptC (duC C w) tk w t) b := fun k j e => cptC_k (by omega) (by omega)
    dsimp only
    split
    · split
      · exact h.tr (du.tr cp)
      · rename_i h8
        have ou : ∀ l, CF (cptC (duC C w) tk w t) (pqS (cptC (duC C w) tk w t) (jo b + 6 + 6 * (t - 8)) l) b := fun l k j e => pq_k (by omega)
        split
        · exact h.tr (du.tr (cp.tr (ou _)))
        · refine h.tr (du.tr (cp.tr ((ou (crd (C (jo b) 2) (C (jo b) 4) (Q (t - 8)) [] none).2).tr (fun k j e => ?_))))
          dsimp only
          rw [dpC_k (by omega)]
          exact if_neg (by omega)
    · exact h.tr du
theorem CF.w1 {A C : Nat → Nat → Int32} {tk : Nat → Option Nat} {b : Bool} {Q : Nat → List KV} {c r w : Nat} (h : CF A C b) (hI : CI C tk b Q c r) (hw : w < 4) (sm : Bool) : CF A (cw1 C tk b Q c r w sm).1.1 b := by
  have hb := jo_dis b
  unfold cw1 cwG
  split
  · exact h
  · split
    · exact (h.tr (fun k j e => gvC_k (by omega) (by omega))).wd (hI.gv hw).tko hw sm
    · exact h.wd hI.tko hw sm
theorem CF.tl {A C : Nat → Nat → Int32} {tk : Nat → Option Nat} {b : Bool} {Q : Nat → List KV} {c r : Nat} (h : CF A C b) (hI : CI C tk b Q c r) : ∀ n, n ≤ 4 → CF A (ctL C tk b Q c r n).1.1 b
  | 0, _ => h
  | n + 1, hn => by
    have ih := h.tl hI n (by omega)
    unfold ctL
    split
    · exact ih
    · exact ih.w1 (hI.tl n (by omega)) (by omega) _
def CG (C D : Nat → Nat → Int32) : Prop := ∀ k j, (54 ≤ k ∧ k < 72 ∧ k % 3 ≠ 2) → D k j = C k j
section XR8
variable {S C : Nat → Nat → Int32} {tk : Nat → Option Nat} {b : Bool} {c r np : Nat} {q : List KV} {Q : Nat → List KV}
/-- a tick on both sides -/
def TS (S C S' : Nat → Nat → Int32) (o : CTR) (b : Bool) (c r np : Nat) (q : List KV) (Q : Nat → List KV) : Prop :=
  (o.2 = 0 ∧ o.1.2 = b ∧ S' 0 14 = 0 ∧ RJ S' o.1.1.1 o.1.1.2 b c r np q Q ∧ S' 0 26 = S 0 26 ∧ MF S S' ∧ CF C o.1.1.1 b) ∨
  (o.2 = 0 ∧ o.1.2 = (!b) ∧ S' 0 14 = 0 ∧ RN S' o.1.1.1 o.1.1.2 ∧ RO S' o.1.1.1 (!b) ∧ S' 1 = S 1 ∧ S' 2 = S 2 ∧ CG C o.1.1.1) ∨
  (o.2 = 1 ∧ o.1.2 = b ∧ S' 0 14 = nI 2 ∧ RJ S' o.1.1.1 o.1.1.2 b c r np q Q ∧ S' 0 26 = S 0 26 ∧ MF S S' ∧ CF C o.1.1.1 b) ∨
  (o.2 = 2 ∧ o.1.2 = b ∧ S' 0 14 = nI 3 ∧ RN S' o.1.1.1 o.1.1.2 ∧ MF S S' ∧ CF C o.1.1.1 b)
theorem RJ.tick (h : RJ S C tk b c r np q Q) (h14 : S 0 14 = 0) : TS S C (tkS S c r np) (ctS C tk b Q c r) b c r np q Q := by
  have mf := (MF.refl S).tl (c := c) (r := r) (np := np) 4
  have j26 := tl_26 (S := S) (c := c) (r := r) (np := np) 4
  have cf := CF.tl (A := C) (C := xu C 0 11 (C 0 11 + nI 1)) (b := b) (Q := Q) (fun k j e => if_neg (by have := jo_dis b; omega)) h.2.2.2.2.2.2.2.2.tick0 4 (Nat.le_refl 4)
  unfold tkS ctS
  rcases h.tl h14 4 (Nat.le_refl 4) with ⟨a1, a2, a3, a4⟩ | ⟨a1, a2, a3⟩
  · generalize ctL (xu C 0 11 (C 0 11 + nI 1)) tk b Q c r 4 = p at *
    generalize tkL S c r np 4 = o at *
    obtain ⟨⟨D, tk'⟩, sm, fl⟩ := p
    obtain ⟨T, sm'⟩ := o
    dsimp only at a1 a2 a3 a4 mf j26 cf
    subst a1
    subst a3
    obtain ⟨hc6, hr3, htk⟩ := a4.c6
    have hE := a4.2.2.2.1
    have al : ((∀ t, t < c → ¬ T 8 t = 0) ∧ ∀ q, q < r → ¬ T 8 (8 + q) = 0) ↔ ((∀ t, t < c → ¬ D (taddr t) 4 = -1) ∧ ∀ t, t < r → ¬ D (taddr (8 + t)) 4 = -1) := by
      constructor
      · rintro ⟨x1, x2⟩
        exact ⟨fun t ht g => x1 t ht ((hE t (Or.inl ht)).1.mp g), fun t ht g => x2 t ht ((hE (8 + t) (Or.inr ⟨by omega, by omega⟩)).1.mp g)⟩
      · rintro ⟨x1, x2⟩
        exact ⟨fun t ht g => x1 t ht ((hE t (Or.inl ht)).1.mpr g), fun t ht g => x2 t ht ((hE (8 + t) (Or.inr ⟨by omega, by omega⟩)).1.mpr g)⟩
    unfold tkE ctE
    dsimp only
    rw [if_neg (fun g => g (by rw [a2]; decide)), if_neg Bool.false_ne_true]
    by_cases g : (∀ t, t < c → ¬ T 8 t = 0) ∧ ∀ q, q < r → ¬ T 8 (8 + q) = 0
    · rw [if_pos g, if_pos (al.mp g)]
      obtain ⟨e1, e2, e3⟩ := a4.en a2 g.1 g.2
      have nk : ∀ k, k = 1 ∨ k = 2 → enL (en0 T) np r k = T k := fun k hk => (funext (fun j => enL_keep (by omega) (by omega) (by omega) (by omega) r)).trans (by unfold en0; rw [xu_k _ _ _ (by omega), xu_k _ _ _ (by omega), xu_k _ _ _ (by omega)])
      refine Or.inr (Or.inl ⟨rfl, rfl, e1, e2, e3, (nk 1 (Or.inl rfl)).trans (mf.1 1 (by omega)), (nk 2 (Or.inr rfl)).trans (mf.1 2 (by omega)), fun k j e => ?_⟩)
      dsimp only
      unfold eJC
      rw [show ∀ (f : Nat → Nat → Int32) v, xu f 0 12 v k j = f k j from fun f v => if_neg (by omega), show ∀ (f : Nat → Nat → Int32) v, xu f 0 7 v k j = f k j from fun f v => if_neg (by omega)]
      exact cf k j (by omega)
    · rw [if_neg g, if_neg (fun w => g (al.mpr w))]
      have ic := idl_cany a4.s4 htk
      by_cases g2 : sm' = true ∨ idl T 4 = false
      · rw [if_pos g2, if_pos (by rcases g2 with w | w; exact Or.inl w; exact Or.inr (ic.mp w))]
        exact Or.inl ⟨rfl, rfl, a2, a4, j26 a2, mf, cf⟩
      · rw [if_neg g2, if_neg (by rintro (w | w); exact g2 (Or.inl w); exact g2 (Or.inr (ic.mpr w)))]
        exact Or.inr (Or.inr (Or.inl ⟨rfl, rfl, xu_s _ _ _ _, a4.thr _, (xu_j _ _ _ _ (by omega)).trans (j26 a2), mf.xu0 (by omega) _, cf⟩))
  · unfold tkE ctE
    rw [if_pos (by rw [a2]; decide), if_pos a1]
    exact Or.inr (Or.inr (Or.inr ⟨rfl, rfl, a2, a3, mf, cf⟩))
/-- a run on both sides, from S0, C0: what it comes to -/
def RR (S C S' : Nat → Nat → Int32) (n : Nat) (o : CRR) (b : Bool) (c r np : Nat) (q : List KV) (Q : Nat → List KV) : Prop :=
  ((o.2 = 0 ∧ S' 0 14 = 0 ∧ n = o.1.2) ∨ (o.2 = 1 ∧ S' 0 14 = nI 2) ∨ (o.2 = 2 ∧ S' 0 14 = nI 3)) ∧
  ((o.1.1.2 = b ∧ RJ S' o.1.1.1.1 o.1.1.1.2 b c r np q Q ∧ ¬ S' 0 26 = 0 ∧ MF S S' ∧ CF C o.1.1.1.1 b) ∨
   (o.1.1.2 = (!b) ∧ RN S' o.1.1.1.1 o.1.1.1.2 ∧ RO S' o.1.1.1.1 (!b) ∧ S' 1 = S 1 ∧ S' 2 = S 2 ∧ CG C o.1.1.1.1) ∨
   (o.1.1.2 = b ∧ RN S' o.1.1.1.1 o.1.1.1.2 ∧ MF S S' ∧ CF C o.1.1.1.1 b))
theorem run_sim {S0 C0 : Nat → Nat → Int32} : ∀ (m d : Nat) (C : Nat → Nat → Int32) (tk : Nat → Option Nat), (rnL S0 c r np d).2 = d → RJ (rnL S0 c r np d).1 C tk b c r np q Q → (rnL S0 c r np d).1 0 14 = 0 → ¬ (rnL S0 c r np d).1 0 26 = 0 → MF S0 (rnL S0 c r np d).1 → CF C0 C b → RR S0 C0 (rnL S0 c r np (d + m)).1 (rnL S0 c r np (d + m)).2 (rnC b Q c r m d C tk) b c r np q Q
  | 0, d, C, tk, h1, h2, h3, h4, h5, h6 => ⟨Or.inl ⟨rfl, h3, h1⟩, Or.inl ⟨rfl, h2, h4, h5, h6⟩⟩
  | m + 1, d, C, tk, h1, h2, h3, h4, h5, h6 => by
    have ht := h2.tick h3
    have e1 : rnL S0 c r np (d + 1) = (tkS (rnL S0 c r np d).1 c r np, d + 1) := by
      rw [rnL, if_neg (by rintro (g | g); exact h4 g; exact g h3), h1]
    have st := rnL_stop (S := S0) (c := c) (r := r) (np := np) (n := d + 1)
    have ih := run_sim (S0 := S0) (C0 := C0) m (d + 1)
    rw [e1] at st ih
    dsimp only at st ih
    rw [show d + (m + 1) = d + 1 + m by omega, rnC, if_neg (by rw [h2.2.1.1]; exact h4)]
    generalize tkS (rnL S0 c r np d).1 c r np = T at *
    generalize ctS C tk b Q c r = o at *
    obtain ⟨⟨⟨C', tk'⟩, b'⟩, k⟩ := o
    rcases ht with ⟨a1, a2, a3, a4, a5, a6, a7⟩ | ⟨a1, a2, a3, a4, a5, a6, a7, a8⟩ | ⟨a1, a2, a3, a4, a5, a6, a7⟩ | ⟨a1, a2, a3, a4, a5, a6⟩
    · dsimp only at *
      subst a1
      subst a2
      rw [if_pos rfl, if_pos rfl]
      exact ih C' tk' rfl a4 a3 (by rw [a5]; exact h4) (h5.tr a6) (h6.tr a7)
    · dsimp only at *
      subst a1
      have hb : ¬ b' = b := by rw [a2]; cases b <;> decide
      rw [if_pos rfl, if_neg hb, st (Or.inl a4.2.2.1) m]
      exact ⟨Or.inl ⟨rfl, a3, rfl⟩, Or.inr (Or.inl ⟨a2, a4, a5, a6.trans (h5.1 1 (by omega)), a7.trans (h5.1 2 (by omega)), fun x y e => (a8 x y e).trans (h6 x y (by omega))⟩)⟩
    · dsimp only at *
      subst a1
      subst a2
      rw [if_neg (by decide), st (Or.inr (by rw [a3]; decide)) m]
      exact ⟨Or.inr (Or.inl ⟨rfl, a3⟩), Or.inl ⟨rfl, a4, by show ¬ T 0 26 = 0; rw [a5]; exact h4, h5.tr a6, h6.tr a7⟩⟩
    · dsimp only at *
      subst a1
      subst a2
      rw [if_neg (by decide), st (Or.inl a4.2.2.1) m]
      exact ⟨Or.inr (Or.inr ⟨rfl, a3⟩), Or.inr (Or.inr ⟨rfl, a4, h5.tr a5, h6.tr a6⟩)⟩
end XR8
