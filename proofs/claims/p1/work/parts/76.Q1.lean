/-! THE LAW'S HEAP: the class at z, the reference at z + 75, the long[] at z + 91, then what was thrown -/
section XQ1
variable {l : Launch} {G : xG} {fr wd : Nat} {M : xM} {pc : Nat} {L : List (Nat × Value)} {st : List Value} {h : xH} {Q : xR → xH → Prop}
theorem x_sld0 {a : Nat} (hd : decode (xMc M) pc = .ok (.iaload, 1)) (hi : a < xGL G) (hL : xGL G ≤ 2560) (kq : xV l G fr wd M (pc + 1) L (.int (xGx G a) :: st) h Q) : xV l G fr wd M pc L (.int (nI a) :: .ref (xGb G) :: st) h Q := by
  refine x_sld hd (vp_in_nI hi (by omega)) ?_
  rw [nI_clamp (by omega)]
  exact kq
theorem x_sldA {a b : Nat} (hd : decode (xMc M) pc = .ok (.iaload, 1)) (hi : a + b < xGL G) (hL : xGL G ≤ 2560) (kq : xV l G fr wd M (pc + 1) L (.int (xGx G (a + b)) :: st) h Q) : xV l G fr wd M pc L (.int (nI a + nI b) :: .ref (xGb G) :: st) h Q := by
  rw [nI_add]
  exact x_sld0 hd hi hL kq
theorem x_last0 {a : Nat} {x : Int64} (hd : decode (xMc M) pc = .ok (.lastore, 1)) (hT : xT h a = 102) (hN : xN h a = 1) (kq : xV l G fr wd M (pc + 1) L st (xwJ h a 0 x) Q) : xV l G fr wd M pc L (.long x :: .int (nI 0) :: .ref a :: st) h Q := by
  refine x_last (t := 102) hd hT (by decide) rfl (by rw [hN]; exact vp_in_nI (by decide) (by decide)) ?_
  rw [nI_clamp (by decide)]
  exact kq
end XQ1
theorem mc_swap {z y : Nat} (hy : z + 75 ≤ y) (S : Nat → Nat → Int32) (C : Nat → Nat → Int32) (b : Bool) (tk : Nat → Option Nat) (h0 : xH) : mset y S (cset z C b tk h0) = cset z C b tk (mset y S h0) := by
  show (h0.1, h0.2.1, _, _) = (h0.1, h0.2.1, _, _)
  congr 3
  funext a j
  show (if y ≤ a ∧ a < y + 16 then S (a - y) j else if z ≤ a ∧ a < z + 75 then C (a - z) j else h0.2.2.1 a j) = if z ≤ a ∧ a < z + 75 then C (a - z) j else if y ≤ a ∧ a < y + 16 then S (a - y) j else h0.2.2.1 a j
  by_cases h1 : z ≤ a ∧ a < z + 75
  · rw [if_neg (by omega), if_pos h1, if_pos h1]
  · rw [if_neg h1, if_neg h1]
theorem thrw_mset {y k : Nat} {S : Nat → Nat → Int32} {h0 : xH} (hn : y + 16 ≤ xnx h0) : thrw k (mset y S h0) = mset y S (thrw k h0) := by
  show (_, _, xr (fun a j => if y ≤ a ∧ a < y + 16 then S (a - y) j else h0.2.2.1 a j) h0.1.1 (fun _ => 0), _) = (_, _, (fun a j => if y ≤ a ∧ a < y + 16 then S (a - y) j else xr h0.2.2.1 h0.1.1 (fun _ => 0) a j), _)
  congr 3
  funext a j
  by_cases e : a = h0.1.1
  · subst e
    have : ¬ (y ≤ h0.1.1 ∧ h0.1.1 < y + 16) := fun q => by have : y + 16 ≤ h0.1.1 := hn; omega
    rw [xr_s, if_neg this, xr_s]
  · rw [xr_n _ _ e]
    by_cases h1 : y ≤ a ∧ a < y + 16
    · rw [if_pos h1, if_pos h1]
    · rw [if_neg h1, if_neg h1, xr_n _ _ e]
theorem thrw_cset {z k : Nat} {C : Nat → Nat → Int32} {b : Bool} {tk : Nat → Option Nat} {h0 : xH} (hn : z + 75 ≤ xnx h0) : thrw k (cset z C b tk h0) = cset z C b tk (thrw k h0) := by
  have hn' : z + 75 ≤ h0.1.1 := hn
  show (_, _, xr (fun a j => if z ≤ a ∧ a < z + 75 then C (a - z) j else h0.2.2.1 a j) h0.1.1 (fun _ => 0), xr (fun a j => if a = z ∧ j = 5 then some (z + jo b) else if a = z ∧ j = 6 then some (z + jo (!b)) else if z + 50 ≤ a ∧ a < z + 54 ∧ j = 2 then (tk (a - (z + 50))).map (fun t => z + taddr t) else h0.2.2.2.1 a j) h0.1.1 (fun _ => none), _)
    = (_, _, (fun a j => if z ≤ a ∧ a < z + 75 then C (a - z) j else xr h0.2.2.1 h0.1.1 (fun _ => 0) a j), (fun a j => if a = z ∧ j = 5 then some (z + jo b) else if a = z ∧ j = 6 then some (z + jo (!b)) else if z + 50 ≤ a ∧ a < z + 54 ∧ j = 2 then (tk (a - (z + 50))).map (fun t => z + taddr t) else xr h0.2.2.2.1 h0.1.1 (fun _ => none) a j), _)
  congr 4
  · funext a j
    by_cases e : a = h0.1.1
    · subst e
      rw [xr_s, if_neg (by omega), xr_s]
    · rw [xr_n _ _ e]
      by_cases h1 : z ≤ a ∧ a < z + 75
      · rw [if_pos h1, if_pos h1]
      · rw [if_neg h1, if_neg h1, xr_n _ _ e]
  · funext a j
    by_cases e : a = h0.1.1
    · subst e
      rw [xr_s, if_neg (by omega), if_neg (by omega), if_neg (by omega), xr_s]
    · rw [xr_n _ _ e]
      simp only [xr_n _ _ e]
theorem CSh.congr {h h' : xH} {z : Nat} (hs : CSh h z) (e : ∀ k, k < 75 → xT h' (z + k) = xT h (z + k) ∧ xN h' (z + k) = xN h (z + k) ∧ xP h' (z + k) = xP h (z + k)) : CSh h' z := by
  obtain ⟨a1, ⟨a2, a3, a4, a5, a6⟩, ⟨b1, b2, b3⟩, ⟨c1, c2, c3⟩, ⟨d1, d2, d3⟩, ⟨e1, e2, e3⟩, f1, g1, i1, j1, k1⟩ := hs
  have T : ∀ k t, k < 75 → xT h (z + k) = t → xT h' (z + k) = t := fun k t hk q => (e k hk).1.trans q
  have N : ∀ k t, k < 75 → xN h (z + k) = t → xN h' (z + k) = t := fun k t hk q => (e k hk).2.1.trans q
  have P : ∀ k j t, k < 75 → xP h (z + k) j = t → xP h' (z + k) j = t := fun k j t hk q => (congrFun (e k hk).2.2 j).trans q
  refine ⟨T 0 _ (by omega) a1, ⟨P 0 _ _ (by omega) a2, P 0 _ _ (by omega) a3, P 0 _ _ (by omega) a4, P 0 _ _ (by omega) a5, P 0 _ _ (by omega) a6⟩, ⟨T _ _ (by omega) b1, N _ _ (by omega) b2, fun w hw => P _ _ _ (by omega) (b3 w hw)⟩, ⟨T _ _ (by omega) c1, N _ _ (by omega) c2, fun w hw => P _ _ _ (by omega) (c3 w hw)⟩,
    ⟨T _ _ (by omega) d1, N _ _ (by omega) d2, fun w hw => P _ _ _ (by omega) (d3 w hw)⟩, ⟨T _ _ (by omega) e1, N _ _ (by omega) e2, fun w hw => P _ _ _ (by omega) (e3 w hw)⟩, fun o cap ho => ?_, fun b => ?_, fun w hw => T _ _ (by omega) (i1 w hw), fun c hc => ?_, fun t ht => T _ _ (taddr_lt ht).1 (k1 t ht)⟩
  · have hl := isP_lt ho
    obtain ⟨q1, q2, q3, q4, q5, q6, q7⟩ := f1 o cap ho
    exact ⟨T _ _ (by omega) q1, P _ _ _ (by omega) q2, P _ _ _ (by omega) q3, T _ _ (by omega) q4, T _ _ (by omega) q5, N _ _ (by omega) q6, N _ _ (by omega) q7⟩
  · have hj := jo_lt b
    obtain ⟨q1, q2, q3, q4, q5, q6, q7, q8, q9⟩ := g1 b
    exact ⟨T _ _ (by omega) q1, P _ _ _ (by omega) q2, P _ _ _ (by omega) q3, T _ _ (by omega) q4, N _ _ (by omega) q5, T _ _ (by omega) q6, N _ _ (by omega) q7, fun p hp => P _ _ _ (by omega) (q8 p hp), fun p hp => P _ _ _ (by omega) (q9 p hp)⟩
  · obtain ⟨q1, q2, q3, q4⟩ := j1 c hc
    exact ⟨T _ _ (by omega) q1, P _ _ _ (by omega) q2, T _ _ (by omega) q3, N _ _ (by omega) q4⟩
theorem mfi_lt {k : Nat} (hk : 1 ≤ k ∧ k < 16) : mfi k < 31 := by unfold mfi; split <;> omega
theorem MSh.congr {h h' : xH} {y : Nat} (hs : MSh h y) (e : ∀ k, k < 16 → xT h' (y + k) = xT h (y + k) ∧ xN h' (y + k) = xN h (y + k) ∧ xP h' (y + k) = xP h (y + k)) : MSh h' y :=
  ⟨(e 0 (by omega)).1.trans hs.1, fun k hk => ⟨(e k hk.2).1.trans (hs.2 k hk).1, (e k hk.2).2.1.trans (hs.2 k hk).2.1, (congrFun (e 0 (by omega)).2.2 _).trans (hs.2 k hk).2.2⟩⟩
theorem MSh.cset {h0 : xH} {z y : Nat} (hm : MSh h0 y) (hy : z + 75 ≤ y) (C : Nat → Nat → Int32) (b : Bool) (tk : Nat → Option Nat) : MSh (cset z C b tk h0) y :=
  hm.congr (fun k hk => ⟨rfl, rfl, by
    funext j
    show (if y + k = z ∧ j = 5 then _ else if y + k = z ∧ j = 6 then _ else if z + 50 ≤ y + k ∧ y + k < z + 54 ∧ j = 2 then _ else h0.2.2.2.1 (y + k) j) = _
    rw [if_neg (by omega), if_neg (by omega), if_neg (by omega)]⟩)
/-- the ground of the law's heap after n calls -/
def LB (z : Nat) (h0 : xH) (n : Nat) : Prop := CSh h0 z ∧ MSh h0 (z + 75) ∧ xT h0 (z + 91) = 102 ∧ xN h0 (z + 91) = 1 ∧ z + 92 ≤ xnx h0 ∧ xnx h0 ≤ z + 92 + n ∧ xsl h0 ≤ 6000 + 6 * n
theorem LB.next {z : Nat} {h0 : xH} {n : Nat} (h : LB z h0 n) : LB z h0 (n + 1) := by
  obtain ⟨a1, a2, a3, a4, a5, a6, a7⟩ := h
  exact ⟨a1, a2, a3, a4, a5, by omega, by omega⟩
theorem LB.long {z : Nat} {h0 : xH} {n a : Nat} {x : Int64} (h : LB z h0 n) : LB z (xwJ h0 a 0 x) n := h
theorem LB.thrw {z : Nat} {h0 : xH} {n : Nat} (h : LB z h0 n) (k : Nat) : LB z (thrw k h0) (n + 1) := by
  obtain ⟨a1, a2, a3, a4, a5, a6, a7⟩ := h
  have hx : ∀ a, a < z + 92 → xT (xnw h0 (200 + k) 0 6) a = xT h0 a ∧ xN (xnw h0 (200 + k) 0 6) a = xN h0 a ∧ xP (xnw h0 (200 + k) 0 6) a = xP h0 a := fun a ha => by
    have n1 : a ≠ h0.1.1 := by have : z + 92 ≤ h0.1.1 := a5; omega
    exact ⟨xr_n _ _ n1, xr_n _ _ n1, xr_n _ _ n1⟩
  refine ⟨a1.congr (fun q hq => hx _ (by omega)), a2.congr (fun q hq => hx _ (by omega)), (hx _ (by omega)).1.trans a3, (hx _ (by omega)).2.1.trans a4, ?_, ?_, ?_⟩
  · show z + 92 ≤ h0.1.1 + 1; have : z + 92 ≤ h0.1.1 := a5; omega
  · show h0.1.1 + 1 ≤ z + 92 + (n + 1); have : h0.1.1 ≤ z + 92 + n := a6; omega
  · show h0.1.2 + 6 ≤ 6000 + 6 * (n + 1); have : h0.1.2 ≤ 6000 + 6 * n := a7; omega
