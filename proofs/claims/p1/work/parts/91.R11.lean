/-! who has no task has nothing left to do -/
def CZ (C : Nat → Nat → Int32) (tk : Nat → Option Nat) : Prop := ∀ w, w < 4 → tk w = none → C (50 + w) 3 = nI 0
section XR11
variable {C D : Nat → Nat → Int32} {tk tk' : Nat → Option Nat} {b : Bool} {Q : Nat → List KV} {c r : Nat}
theorem CZ.keep (h : CZ C tk) (e : ∀ w, w < 4 → D (50 + w) 3 = C (50 + w) 3) : CZ D tk := fun w hw g => (e w hw).trans (h w hw g)
theorem CZ.gv (h : CZ C tk) (w : Nat) : CZ (gvC C tk c r w).1 (gvC C tk c r w).2 := by
  unfold gvC
  generalize gvF C tk c r w = o
  obtain ⟨o1, s⟩ := o
  cases o1 with
  | none => exact h
  | some t =>
    intro v hv e
    have e' : xr tk w (some t) v = none := e
    have vw : v ≠ w := fun g => by rw [g, xr_s] at e'; cases e'
    rw [xr_n _ _ vw] at e'
    show xu (if s = true then xu C 0 13 (C 0 13 + nI 1) else C) (50 + w) 3 (C (taddr t) 2) (50 + v) 3 = nI 0
    rw [show ∀ (f : Nat → Nat → Int32) x, xu f (50 + w) 3 x (50 + v) 3 = f (50 + v) 3 from fun f x => if_neg (by omega)]
    split
    · rw [show ∀ x, xu C 0 13 x (50 + v) 3 = C (50 + v) 3 from fun x => if_neg (by omega)]; exact h v hv e'
    · exact h v hv e'
theorem CZ.dp (h : CZ C tk) (p : Nat → Bool) : CZ (dpC C p 4) (dpT tk p 4) := fun v hv e => by
  unfold dpC
  by_cases g : p v = true
  · rw [if_pos ⟨by omega, by omega, rfl, by rw [Nat.add_sub_cancel_left]; exact g⟩]
  · rw [if_neg (fun x => g (by have x4 := x.2.2.2; rw [Nat.add_sub_cancel_left] at x4; exact x4))]
    rw [show dpT tk p 4 v = tk v from if_neg (fun x => g x.2)] at e
    exact h v hv e
theorem CZ.wd (h : CZ C tk) (htk : TKo tk) {w : Nat} (hw : w < 4) (sm : Bool) : CZ (cwD C tk b Q w sm).1.1 (cwD C tk b Q w sm).1.2 := by
  have hb := jo_lt b
  unfold cwD
  cases ht : tk w with
  | none => exact h
  | some t =>
    have htt := htk w t hw ht
    have ta := taddr_lt htt
    have du : CZ (duC C w) tk := fun v hv e => by
      have vw : v ≠ w := fun g => by rw [g, ht] at e; cases e
      rw [duC_k (by omega)]; exact h v hv e
    have cp : CZ (cptC (duC C w) tk w t) (cptT tk t) := (du.keep (D := xu (duC C w) (taddr t) 4 (nI w)) (fun v hv => if_neg (by omega))).dp (hasT tk t)
    dsimp only
    split
    · split
      · exact cp
      · rename_i h8
        have ou : ∀ l, CZ (pqS (cptC (duC C w) tk w t) (jo b + 6 + 6 * (t - 8)) l) (cptT tk t) := fun l => cp.keep (fun v hv => pq_k (by omega))
        split
        · exact ou _
        · exact ((ou (crd (C (jo b) 2) (C (jo b) 4) (Q (t - 8)) [] none).2).keep (fun v hv => if_neg (by omega))).dp _
    · exact du
theorem CZ.tl (h : CZ C tk) (hI : CI C tk b Q c r) : ∀ n, n ≤ 4 → CZ (ctL C tk b Q c r n).1.1 (ctL C tk b Q c r n).1.2
  | 0, _ => h
  | n + 1, hn => by
    have ih := h.tl hI n (by omega)
    have hIn := hI.tl n (by omega)
    unfold ctL
    split
    · exact ih
    · unfold cw1 cwG
      split
      · exact ih
      · split
        · exact (ih.gv n).wd (hIn.gv (by omega)).tko (by omega) _
        · exact ih.wd hIn.tko (by omega) _
theorem CZ.ts (h : CZ C tk) (hI : CI C tk b Q c r) : CZ (ctS C tk b Q c r).1.1.1 (ctS C tk b Q c r).1.1.2 := by
  have hL := (h.keep (D := xu C 0 11 (C 0 11 + nI 1)) (fun v hv => if_neg (by omega))).tl hI.tick0 4 (by omega)
  unfold ctS ctE
  split
  · exact hL
  · split
    · exact hL.keep (fun v hv => by
        dsimp only
        unfold eJC
        rw [show ∀ (f : Nat → Nat → Int32) x, xu f 0 12 x (50 + v) 3 = f (50 + v) 3 from fun f x => if_neg (by omega)]; exact if_neg (by omega))
    · split <;> exact hL
theorem CZ.rn : ∀ (m d : Nat) (C : Nat → Nat → Int32) (tk : Nat → Option Nat), CZ C tk → CI C tk b Q c r → CZ (rnC b Q c r m d C tk).1.1.1.1 (rnC b Q c r m d C tk).1.1.1.2
  | 0, d, C, tk, h, hI => h
  | m + 1, d, C, tk, h, hI => by
    have hts := h.ts hI
    have hci := hI.ts
    have ih := CZ.rn m (d + 1)
    rw [rnC]
    generalize ctS C tk b Q c r = o at *
    obtain ⟨⟨⟨C', tk'⟩, b'⟩, k⟩ := o
    dsimp only at *
    split
    · exact h
    · split
      · split
        · rename_i hb; exact ih _ _ hts (hci hb)
        · exact hts
      · exact hts
theorem CZ.worker (h : CZ C tk) {w : Nat} (hw : w < 4) (up : Int32) (hc : c ≤ 6) : CZ (wkC C tk w up c).1 (wkC C tk w up c).2 := by
  unfold wkC
  split
  · exact h
  · split
    · have h1 : CZ (xu (xu C (50 + w) 0 up) (50 + w) 3 (nI 0)) (xr tk w none) := fun v hv e => by
        by_cases g : v = w
        · subst g; rw [xu_s]
        · rw [xr_n _ _ g] at e
          rw [show ∀ (f : Nat → Nat → Int32) x, xu f (50 + w) 3 x (50 + v) 3 = f (50 + v) 3 from fun f x => if_neg (by omega), show ∀ x, xu C (50 + w) 0 x (50 + v) 3 = C (50 + v) 3 from fun x => if_neg (by omega)]
          exact h v hv e
      have h2 : ∀ W, CZ (cloL (xu (xu C (50 + w) 0 up) (50 + w) 3 (nI 0)) W c).1 (xr tk w none) := fun W => h1.keep (fun v hv => cloL_keep2 (by omega) (by omega) c hc)
      unfold lsD
      split
      · exact h1
      · split
        · exact (h2 _).dp _
        · exact h2 _
    · exact h.keep (fun v hv => if_neg (by omega))
end XR11
/-! reading what begin lays -/
theorem rnw_at {E : Nat → Nat → Int32} {g : Nat → Nat} {u v : Nat → Int32} : ∀ n, (∀ s t, s < n → t < n → taddr (g s) = taddr (g t) → s = t) → ∀ t, t < n → rnw E g u v n (taddr (g t)) 2 = u t + v t ∧ rnw E g u v n (taddr (g t)) 3 = v t ∧ rnw E g u v n (taddr (g t)) 4 = -1
  | 0, _, t, h => absurd h (Nat.not_lt_zero t)
  | n + 1, inj, t, ht => by
    rw [rnw]
    by_cases e : t = n
    · subst e
      refine ⟨?_, ?_, xu_s _ _ _ _⟩
      · rw [xu_j _ _ _ _ (by omega), xu_j _ _ _ _ (by omega), xu_s]
      · rw [xu_j _ _ _ _ (by omega), xu_s]
    · have na : taddr (g t) ≠ taddr (g n) := fun q => e (inj t n ht (by omega) q)
      rw [xu_a _ _ _ _ na, xu_a _ _ _ _ na, xu_a _ _ _ _ na, xu_a _ _ _ _ na, xu_a _ _ _ _ na, xu_a _ _ _ _ na, xu_a _ _ _ _ na, xu_a _ _ _ _ na, xu_a _ _ _ _ na]
      exact rnw_at n (fun s t' hs ht' => inj s t' (by omega) (by omega)) t (by omega)
theorem pof_len {S : Nat → Nat → Int32} {q : List KV} (hq : RWS S q) (p : Nat) : ∀ n, n ≤ q.length → pof S (nI p) n = ((q.take n).filter (fun a => inP S p a.1)).length
  | 0, _ => by rw [List.take_zero]; rfl
  | n + 1, hn => by
    have nl : n < q.length := by omega
    rw [pof, pof_len hq p n (by omega), List.take_succ_eq_append_getElem nl, List.filter_append, List.length_append, (hq n nl).1]
    by_cases g : mdl (q[n]).1 (S 0 19) = nI p
    · rw [if_pos g, List.filter_cons_of_pos (p := fun (a : KV) => inP S p a.1) (decide_eq_true g)]; rfl
    · rw [if_neg g, List.filter_cons_of_neg (p := fun (a : KV) => inP S p a.1) (fun x => g (of_decide_eq_true x))]; rfl
theorem cL_cc {S C : Nat → Nat → Int32} {m : Int32} (hm : m = nI 0 ∨ m = nI 1 ∨ m = nI 2 ∨ m = nI 3 ∨ m = nI 4) (h17 : S 0 17 = m) {t : Nat} : ∀ n, (∀ i, i < n → C (55 + 3 * t) i = S 2 (t * 6 + i)) → ccL m (C (55 + 3 * t)) n = cL S t n
  | 0, _ => rfl
  | n + 1, h => by
    rw [ccL, cL, cL_cc hm h17 n (fun i hi => h i (by omega)), h n (by omega), h17, show cmpL m (S 2 (t * 6 + n)) = mpL m (S 2 (t * 6 + n)) from if_pos hm]
theorem aL_ca {S C : Nat → Nat → Int32} {m : Int32} (hm : m = nI 0 ∨ m = nI 1 ∨ m = nI 2 ∨ m = nI 3 ∨ m = nI 4) (h17 : S 0 17 = m) {sz : Nat → Nat} : ∀ c, (∀ t i, t < c → i < sz t → C (55 + 3 * t) i = S 2 (t * 6 + i)) → caL m C sz c = aL S sz c
  | 0, _ => rfl
  | c + 1, h => by
    rw [caL, aL, aL_ca hm h17 c (fun t i ht hi => h t i (by omega) hi), cL_cc hm h17 (sz c) (fun i hi => h c i (by omega) hi)]
