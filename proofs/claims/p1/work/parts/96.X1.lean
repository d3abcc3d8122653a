/-! the law's state, side by side -/
def LX (z n : Nat) (H : xH) : Prop := ∃ C b tk c sz S h0, H = cset z C b tk (mset (z + 75) S h0) ∧ LB z h0 n ∧ RA S C tk b c sz ∧ CZ C tk
theorem LX.mk {z n : Nat} {C : Nat → Nat → Int32} {b : Bool} {tk : Nat → Option Nat} {c : Nat} {sz : Nat → Nat} {S : Nat → Nat → Int32} {h0 : xH} (hB : LB z h0 n) (hR : RA S C tk b c sz) (hz : CZ C tk) : LX z n (cset z C b tk (mset (z + 75) S h0)) := ⟨C, b, tk, c, sz, S, h0, rfl, hB, hR, hz⟩
/-- the class has done its part, j the code -/
def M2 (z n : Nat) (S T : Nat → Nat → Int32) (j : Nat) (H : xH) : Prop := ∃ D b tk c sz h0, H = cset z D b tk (mset (z + 75) S h0) ∧ LB z h0 n ∧ RA T D tk b c sz ∧ CZ D tk ∧ T 0 14 = nI j ∧ j ≤ 3
def M1 (z n : Nat) (S T : Nat → Nat → Int32) (a : Int32) (j : Nat) (H : xH) : Prop := ∃ D b tk c sz h0, H = cset z D b tk (mset (z + 75) S h0) ∧ LB z h0 n ∧ RA T D tk b c sz ∧ CZ D tk ∧ T 0 14 = nI j ∧ j ≤ 3 ∧ (j = 0 → xJ h0 (z + 91) 0 = a.toInt64)
def M0 (z n : Nat) (S : Nat → Nat → Int32) (H : xH) : Prop := ∃ D b tk c sz h0, H = cset z D b tk (mset (z + 75) S h0) ∧ LB z h0 n ∧ RA S D tk b c sz ∧ CZ D tk
section XX1
variable {z n : Nat} {S T : Nat → Nat → Int32} {h0 h' : xH} {V : Option Value} {a : Int32} {cd : Nat → Nat} {K : Nat → Prop} {r : xR}
theorem XQ_h {v : Option Value} (q : XQ z h0 T V cd K (.inl v) h') : v = V ∧ ∃ D b tk c sz, h' = cset z D b tk h0 ∧ RA T D tk b c sz ∧ CZ D tk ∧ T 0 14 = nI 0 := by
  obtain ⟨D, b, tk, c, sz, hR, hz, ⟨e1, e2, e3⟩ | ⟨k, -, e1, -⟩⟩ := q
  · cases e1; exact ⟨rfl, D, b, tk, c, sz, e2, hR, hz, e3⟩
  · cases e1
theorem XQ_t {k p : Nat} (q : XQ z h0 T V cd K (.inr (k, p)) h') : K k ∧ ∃ D b tk c sz, h' = thrw k (cset z D b tk h0) ∧ RA T D tk b c sz ∧ CZ D tk ∧ T 0 14 = nI (cd k) := by
  obtain ⟨D, b, tk, c, sz, hR, hz, ⟨e1, -⟩ | ⟨k, hK, e1, e2, e3⟩⟩ := q
  · cases e1
  · cases e1; exact ⟨hK, D, b, tk, c, sz, e2, hR, hz, e3⟩
theorem thr_base {k : Nat} {D : Nat → Nat → Int32} {b : Bool} {tk : Nat → Option Nat} (hB : LB z h0 n) : thrw k (cset z D b tk (mset (z + 75) S h0)) = cset z D b tk (mset (z + 75) S (thrw k h0)) := by
  have hx' : z + 92 ≤ h0.1.1 := hB.2.2.2.2.1
  rw [thrw_cset (h0 := mset (z + 75) S h0) (show z + 75 ≤ h0.1.1 by omega), thrw_mset (show z + 75 + 16 ≤ h0.1.1 by omega)]
theorem XQ_I {v : Option Value} {h1 : xH} (hB : LB z h0 n) (q : XQ z (mset (z + 75) S h0) T (some (.int a)) cd K (.inl v) h1) : ∃ i, v = some (.int i) ∧ xT h1 (z + 91) = 102 ∧ xN h1 (z + 91) = 1 := by
  obtain ⟨e, D, b, tk, c, sz, rfl, -⟩ := XQ_h q
  exact ⟨a, e, hB.2.2.1, hB.2.2.2.1⟩
theorem wPX (hB : LB z h0 n) (hcd : ∀ k, 1 ≤ cd k ∧ cd k ≤ 3) (q : wP (XQ z (mset (z + 75) S h0) T (some (.int a)) cd K) (z + 91) cd r h') : ∃ j, r = .inl (some (.int (nI j))) ∧ M1 z (n + 1) S T a j h' := by
  rcases q with ⟨i, h1, q, e, rfl⟩ | ⟨k, p, q, e⟩
  · obtain ⟨e1, D, b, tk, c, sz, rfl, hR, hz, e3⟩ := XQ_h q
    obtain rfl : i = a := by cases e1; rfl
    exact ⟨0, e, D, b, tk, c, sz, xwJ h0 (z + 91) 0 i.toInt64, rfl, hB.next.long, hR, hz, e3, by omega, fun _ => xu_s _ _ _ _⟩
  · obtain ⟨-, D, b, tk, c, sz, rfl, hR, hz, e3⟩ := XQ_t q
    exact ⟨cd k, e, D, b, tk, c, sz, thrw k h0, thr_base hB, hB.thrw k, hR, hz, e3, (hcd k).2, fun g => absurd g (by have := (hcd k).1; omega)⟩
theorem wVX (hB : LB z h0 n) (hcd : ∀ k, 1 ≤ cd k ∧ cd k ≤ 3) (q : wV (XQ z (mset (z + 75) S h0) T none cd K) cd r h') : ∃ j, r = .inl (some (.int (nI j))) ∧ M2 z (n + 1) S T j h' := by
  rcases q with ⟨q, e⟩ | ⟨k, p, q, e⟩
  · obtain ⟨-, D, b, tk, c, sz, rfl, hR, hz, e3⟩ := XQ_h q
    exact ⟨0, e, D, b, tk, c, sz, h0, rfl, hB.next, hR, hz, e3, by omega⟩
  · obtain ⟨-, D, b, tk, c, sz, rfl, hR, hz, e3⟩ := XQ_t q
    exact ⟨cd k, e, D, b, tk, c, sz, thrw k h0, thr_base hB, hB.thrw k, hR, hz, e3, (hcd k).2⟩
theorem XQ_f (hB : LB z h0 n) {v : Option Value} (q : XQ z (mset (z + 75) S h0) T none cd K (.inl v) h') : v = none ∧ M2 z (n + 1) S T 0 h' := by
  obtain ⟨e, D, b, tk, c, sz, rfl, hR, hz, e3⟩ := XQ_h q
  exact ⟨e, D, b, tk, c, sz, h0, rfl, hB.next, hR, hz, e3, by omega⟩
theorem XS_I {v : Option Value} {h1 : xH} (hB : LB z h0 n) (q : XS z (mset (z + 75) S h0) S K (.inl v) h1) : ∃ i, v = some (.int i) ∧ xT h1 (z + 91) = 102 ∧ xN h1 (z + 91) = 1 := by
  obtain ⟨D, b, tk, c, sz, hR, hz, ⟨i, e1, rfl⟩ | ⟨k, -, e1, -⟩⟩ := q
  · cases e1; exact ⟨i, rfl, hB.2.2.1, hB.2.2.2.1⟩
  · cases e1
theorem XS_K {k p : Nat} (q : XS z h0 S K (.inr (k, p)) h') : K k := by
  obtain ⟨D, b, tk, c, sz, hR, hz, ⟨i, e1, -⟩ | ⟨k, hK, e1, -⟩⟩ := q
  · cases e1
  · cases e1; exact hK
theorem XS_0 (hB : LB z h0 n) (q : XS z (mset (z + 75) S h0) S K r h') : M0 z (n + 1) S h' := by
  obtain ⟨D, b, tk, c, sz, hR, hz, ⟨i, -, rfl⟩ | ⟨k, hK, -, rfl⟩⟩ := q
  · exact ⟨D, b, tk, c, sz, h0, rfl, hB.next, hR, hz⟩
  · exact ⟨D, b, tk, c, sz, thrw k h0, thr_base hB, hB.thrw k, hR, hz⟩
theorem M0.long {H : xH} {x : Int64} (h : M0 z n S H) : M0 z n S (xwJ H (z + 91) 0 x) := by
  obtain ⟨D, b, tk, c, sz, h0, rfl, hB, hR, hz⟩ := h
  exact ⟨D, b, tk, c, sz, xwJ h0 (z + 91) 0 x, rfl, hB.long, hR, hz⟩
theorem wPS (hB : LB z h0 n) (q : wP (XS z (mset (z + 75) S h0) S K) (z + 91) cd r h') : ∃ j, r = .inl (some (.int (nI j))) ∧ M0 z (n + 1) S h' := by
  rcases q with ⟨i, h1, q, e, rfl⟩ | ⟨k, p, q, e⟩
  · exact ⟨0, e, (XS_0 hB q).long⟩
  · exact ⟨cd k, e, XS_0 hB q⟩
theorem XQ_K {k p : Nat} (q : XQ z h0 T V cd K (.inr (k, p)) h') : K k := (XQ_t q).1
theorem XQ_K1 {i k p : Nat} (q : XQ z h0 T V cd (fun k => k = i) (.inr (k, p)) h') : k = i := (XQ_t q).1
theorem XS_K1 {i k p : Nat} (q : XS z h0 S (fun k => k = i) (.inr (k, p)) h') : k = i := XS_K (K := fun k => k = i) q
theorem lg_self (x : Int64) : lg_cmp x x = 0 := by
  unfold lg_cmp
  simp
end XX1
theorem x_lald0 {l : Launch} {G : xG} {fr wd : Nat} {M : xM} {pc : Nat} {L : List (Nat × Value)} {st : List Value} {h : xH} {Q : xR → xH → Prop} {a : Nat} {x : Int64} (hd : decode (xMc M) pc = .ok (.laload, 1)) (hT : xT h a = 102) (hN : xN h a = 1) (hv : xJ h a 0 = x) (kq : xV l G fr wd M (pc + 1) L (.long x :: st) h Q) : xV l G fr wd M pc L (.int (nI 0) :: .ref a :: st) h Q := by
  refine x_lald (t := 102) hd hT (by decide) rfl (by rw [hN]; exact vp_in_nI (by decide) (by decide)) ?_
  rw [nI_clamp (by decide), hv]
  exact kq
