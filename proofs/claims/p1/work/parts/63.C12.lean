/-! a tick of the class -/
def PL (C : Nat → Nat → Int32) (o : Nat) (q : List KV) : Prop := pqS C o q = C
theorem PL.keep {C C' : Nat → Nat → Int32} {o : Nat} {q : List KV} (h : PL C o q) (hk : ∀ k j, (k = o ∨ k = o + 1 ∨ k = o + 2) → C' k j = C k j) : PL C' o q := by
  funext k j
  by_cases h1 : k = o ∨ k = o + 1 ∨ k = o + 2
  · rw [hk k j h1, ← congrFun (congrFun h k) j]
    unfold pqS
    rw [hk k j h1]
  · exact pq_k (by omega)
def CI (C : Nat → Nat → Int32) (tk : Nat → Option Nat) (b : Bool) (Q : Nat → List KV) (c r : Nat) : Prop :=
  TN C ∧ TKo tk ∧ (C 0 8 = nI c ∧ c ≤ 6) ∧ (C (jo b) 3 = nI r ∧ r ≤ 3) ∧ ∀ p, p < 3 → PL C (jo b + 3 + 6 * p) (Q p) ∧ (Q p).length ≤ 216 ∧ rk none (Q p) ≤ 36
def prt (b : Bool) (k j : Nat) : Prop := (k = 0 ∧ j = 8) ∨ (k = jo b ∧ j = 3) ∨ (jo b + 3 ≤ k ∧ k < jo b + 21 ∧ (k - (jo b + 3)) % 6 < 3) ∨ (56 ≤ k ∧ j < 2)
theorem CI.keep {C C' : Nat → Nat → Int32} {tk tk' : Nat → Option Nat} {b : Bool} {Q : Nat → List KV} {c r : Nat} (h : CI C tk b Q c r) (hk : ∀ k j, prt b k j → C' k j = C k j) (ht : ∀ w t, w < 4 → tk' w = some t → tk w = some t ∨ t < c ∨ (8 ≤ t ∧ t < 8 + r)) : CI C' tk' b Q c r := by
  obtain ⟨h1, h2, ⟨h3, h3'⟩, ⟨h4, h4'⟩, h5⟩ := h
  have hj := jo_lt b
  refine ⟨fun t htt => ?_, fun w t hw e => ?_, ⟨(hk _ _ (by unfold prt; omega)).trans h3, h3'⟩, ⟨(hk _ _ (by unfold prt; omega)).trans h4, h4'⟩, fun p hp => ⟨(h5 p hp).1.keep (fun k j e => hk _ _ (by unfold prt; omega)), (h5 p hp).2⟩⟩
  · have := taddr_lt htt
    rw [hk _ _ (by unfold prt; omega), hk _ _ (by unfold prt; omega)]
    exact h1 t htt
  · rcases ht w t hw e with q | q
    · exact h2 w t hw q
    · omega
theorem CI.tko {C : Nat → Nat → Int32} {tk : Nat → Option Nat} {b : Bool} {Q : Nat → List KV} {c r : Nat} (h : CI C tk b Q c r) : TKo tk := h.2.1
theorem gvC_k {C : Nat → Nat → Int32} {tk : Nat → Option Nat} {c r w k j : Nat} (h1 : ¬ (k = 0 ∧ j = 13)) (h2 : ¬ (k = 50 + w ∧ j = 3)) : (gvC C tk c r w).1 k j = C k j := by
  unfold gvC
  generalize gvF C tk c r w = o
  obtain ⟨o1, s⟩ := o
  cases o1 with
  | none => rfl
  | some t =>
    show xu (if s = true then xu C 0 13 (C 0 13 + nI 1) else C) (50 + w) 3 (C (taddr t) 2) k j = C k j
    rw [show ∀ f : Nat → Nat → Int32, xu f (50 + w) 3 (C (taddr t) 2) k j = f k j from fun f => if_neg h2]
    split
    · exact if_neg h1
    · rfl
theorem gvC_t {C : Nat → Nat → Int32} {tk : Nat → Option Nat} {c r w i t : Nat} (h : (gvC C tk c r w).2 i = some t) : tk i = some t ∨ t < c ∨ (8 ≤ t ∧ t < 8 + r) := by
  unfold gvC at h
  cases hg : gvF C tk c r w with
  | mk o1 s =>
    rw [hg] at h
    cases o1 with
    | none => exact Or.inl h
    | some u =>
      have h' : xr tk w (some u) i = some t := h
      by_cases hi : i = w
      · subst hi
        rw [xr_s] at h'
        obtain rfl : u = t := Option.some.inj h'
        exact Or.inr (gvF_lt (w := i) (by rw [hg]))
      · rw [xr_n _ _ hi] at h'
        exact Or.inl h'
theorem CI.gv {C : Nat → Nat → Int32} {tk : Nat → Option Nat} {b : Bool} {Q : Nat → List KV} {c r w : Nat} (h : CI C tk b Q c r) (hw : w < 4) : CI (gvC C tk c r w).1 (gvC C tk c r w).2 b Q c r := by
  have hj := jo_lt b
  exact h.keep (fun k j e => gvC_k (by unfold prt at e; omega) (by unfold prt at e; omega)) (fun i t hi e => gvC_t e)
theorem duC_k {C : Nat → Nat → Int32} {w k j : Nat} (h : ¬ (k = 50 + w ∧ (j = 3 ∨ j = 4))) : duC C w k j = C k j := by
  unfold duC
  rw [show ∀ (f : Nat → Nat → Int32) v, xu f (50 + w) 3 v k j = f k j from fun f v => if_neg (by omega), show ∀ v, xu C (50 + w) 4 v k j = C k j from fun v => if_neg (by omega)]
theorem CI.du {C : Nat → Nat → Int32} {tk : Nat → Option Nat} {b : Bool} {Q : Nat → List KV} {c r w : Nat} (h : CI C tk b Q c r) (hw : w < 4) : CI (duC C w) tk b Q c r := by
  have hj := jo_lt b
  exact h.keep (fun k j e => duC_k (by unfold prt at e; omega)) (fun i t hi e => Or.inl e)
theorem dpT_t {tk : Nat → Option Nat} {p : Nat → Bool} {n w t : Nat} (h : dpT tk p n w = some t) : tk w = some t := by
  unfold dpT at h
  split at h
  · cases h
  · exact h
theorem CI.cpt {C : Nat → Nat → Int32} {tk : Nat → Option Nat} {b : Bool} {Q : Nat → List KV} {c r : Nat} (h : CI C tk b Q c r) {w s : Nat} (hs : tok s) : CI (cptC C tk w s) (cptT tk s) b Q c r := by
  have hj := jo_lt b
  have ta := taddr_lt hs
  exact h.keep (fun k j e => cptC_k (by unfold prt at e; omega) (by unfold prt at e; omega)) (fun i t hi e => Or.inl (dpT_t e))
theorem CI.out {C : Nat → Nat → Int32} {tk : Nat → Option Nat} {b : Bool} {Q : Nat → List KV} {c r : Nat} (h : CI C tk b Q c r) {p : Nat} (hp : p < 3) (q : List KV) : CI (pqS C (jo b + 6 + 6 * p) q) tk b Q c r := by
  have hj := jo_lt b
  exact h.keep (fun k j e => pq_k (by unfold prt at e; omega)) (fun i t hi e => Or.inl e)
theorem CI.giv {C : Nat → Nat → Int32} {tk : Nat → Option Nat} {b : Bool} {Q : Nat → List KV} {c r : Nat} (h : CI C tk b Q c r) : CI (dpC (xu C 0 7 (nI 0)) (fun _ => true) 4) (dpT tk (fun _ => true) 4) b Q c r := by
  have hj := jo_lt b
  exact h.keep (fun k j e => by unfold prt at e; rw [dpC_k (by omega)]; exact if_neg (by omega)) (fun i t hi e => Or.inl (dpT_t e))
abbrev CTS : Type := ((Nat → Nat → Int32) × (Nat → Option Nat)) × Bool × Bool
/-- worker w works: the cells, the tasks, whether a task came to its end, whether the reducer failed -/
def cwD (C : Nat → Nat → Int32) (tk : Nat → Option Nat) (b : Bool) (Q : Nat → List KV) (w : Nat) (sm : Bool) : CTS :=
  match tk w with
  | none => ((C, tk), sm, false)
  | some t => if C (50 + w) 3 - duN C w = 0 then
      (if t < 8 then ((cptC (duC C w) tk w t, cptT tk t), true, false)
       else if (crd (C (jo b) 2) (C (jo b) 4) (Q (t - 8)) [] none).1 = true then ((pqS (cptC (duC C w) tk w t) (jo b + 6 + 6 * (t - 8)) (crd (C (jo b) 2) (C (jo b) 4) (Q (t - 8)) [] none).2, cptT tk t), true, false)
       else ((dpC (xu (pqS (cptC (duC C w) tk w t) (jo b + 6 + 6 * (t - 8)) (crd (C (jo b) 2) (C (jo b) 4) (Q (t - 8)) [] none).2) 0 7 (nI 0)) (fun _ => true) 4, dpT (cptT tk t) (fun _ => true) 4), true, true))
    else ((duC C w, tk), sm, false)
def cwG (C : Nat → Nat → Int32) (tk : Nat → Option Nat) (b : Bool) (Q : Nat → List KV) (c r w : Nat) (sm : Bool) : CTS :=
  match tk w with
  | none => cwD (gvC C tk c r w).1 (gvC C tk c r w).2 b Q w sm
  | some _ => cwD C tk b Q w sm
def cw1 (C : Nat → Nat → Int32) (tk : Nat → Option Nat) (b : Bool) (Q : Nat → List KV) (c r w : Nat) (sm : Bool) : CTS := if C (50 + w) 0 = 0 then ((C, tk), sm, false) else cwG C tk b Q c r w sm
def ctL (C : Nat → Nat → Int32) (tk : Nat → Option Nat) (b : Bool) (Q : Nat → List KV) (c r : Nat) : Nat → CTS
  | 0 => ((C, tk), false, false)
  | n + 1 => if (ctL C tk b Q c r n).2.2 = true then ctL C tk b Q c r n else cw1 (ctL C tk b Q c r n).1.1 (ctL C tk b Q c r n).1.2 b Q c r n (ctL C tk b Q c r n).2.1
theorem CI.wd {C : Nat → Nat → Int32} {tk : Nat → Option Nat} {b : Bool} {Q : Nat → List KV} {c r w : Nat} (h : CI C tk b Q c r) (hw : w < 4) (sm : Bool) : CI (cwD C tk b Q w sm).1.1 (cwD C tk b Q w sm).1.2 b Q c r := by
  unfold cwD
  cases ht : tk w with
  | none => exact h
  | some t =>
    have htt := h.tko w t hw ht
    have hp : ¬ t < 8 → t - 8 < 3 := fun q => by omega
    dsimp only
    split
    · split
      · exact (h.du hw).cpt htt
      · rename_i h8
        split
        · exact ((h.du hw).cpt htt).out (hp h8) _
        · exact (((h.du hw).cpt htt).out (hp h8) _).giv
    · exact h.du hw
theorem CI.w1 {C : Nat → Nat → Int32} {tk : Nat → Option Nat} {b : Bool} {Q : Nat → List KV} {c r w : Nat} (h : CI C tk b Q c r) (hw : w < 4) (sm : Bool) : CI (cw1 C tk b Q c r w sm).1.1 (cw1 C tk b Q c r w sm).1.2 b Q c r := by
  unfold cw1 cwG
  split
  · exact h
  · split
    · exact (h.gv hw).wd hw sm
    · exact h.wd hw sm
theorem CI.tl {C : Nat → Nat → Int32} {tk : Nat → Option Nat} {b : Bool} {Q : Nat → List KV} {c r : Nat} (h : CI C tk b Q c r) : ∀ n, n ≤ 4 → CI (ctL C tk b Q c r n).1.1 (ctL C tk b Q c r n).1.2 b Q c r
  | 0, _ => h
  | n + 1, hn => by
    have ih := h.tl n (by omega)
    unfold ctL
    split
    · exact ih
    · exact ih.w1 (by omega) _
abbrev CTR : Type := (((Nat → Nat → Int32) × (Nat → Option Nat)) × Bool) × Nat
def ctE (o : CTS) (b : Bool) (c r : Nat) : CTR :=
  if o.2.2 = true then ((o.1, b), 2)
  else if (∀ t, t < c → ¬ o.1.1 (taddr t) 4 = -1) ∧ (∀ t, t < r → ¬ o.1.1 (taddr (8 + t)) 4 = -1) then (((eJC o.1.1, o.1.2), !b), 0)
  else if o.2.1 = true ∨ cany o.1.2 = true then ((o.1, b), 0) else ((o.1, b), 1)
def ctS (C : Nat → Nat → Int32) (tk : Nat → Option Nat) (b : Bool) (Q : Nat → List KV) (c r : Nat) : CTR := ctE (ctL (xu C 0 11 (C 0 11 + nI 1)) tk b Q c r 4) b c r
theorem CI.tick0 {C : Nat → Nat → Int32} {tk : Nat → Option Nat} {b : Bool} {Q : Nat → List KV} {c r : Nat} (h : CI C tk b Q c r) : CI (xu C 0 11 (C 0 11 + nI 1)) tk b Q c r := by
  have hj := jo_lt b
  exact h.keep (fun k j e => if_neg (by unfold prt at e; omega)) (fun i t hi e => Or.inl e)
theorem CI.ts {C : Nat → Nat → Int32} {tk : Nat → Option Nat} {b : Bool} {Q : Nat → List KV} {c r : Nat} (h : CI C tk b Q c r) (he : (ctS C tk b Q c r).1.2 = b) : CI (ctS C tk b Q c r).1.1.1 (ctS C tk b Q c r).1.1.2 b Q c r := by
  have hL := h.tick0.tl 4 (by omega)
  unfold ctS ctE at he ⊢
  split
  · exact hL
  · rename_i n2
    rw [if_neg n2] at he
    split
    · rename_i al
      rw [if_pos al] at he
      cases b <;> cases he
    · split <;> exact hL
section XC12
variable {l : Launch} {G : xG} {h0 : xH} {z : Nat} {C : Nat → Nat → Int32} {b : Bool} {tk : Nat → Option Nat} {Q : Nat → List KV} {c r : Nat}
theorem pt_do (hs : CSh h0 z) (hI : CI C tk b Q c r) {w : Nat} (hw : w < 4) (sm : Bool) {P : xR → xH → Prop}
    (nx : (cwD C tk b Q w sm).2.2 = false → xV l G 4 92 m_A_passTick 14 [(2, .int (nI (w + 1))), (1, .int (bI ((cwD C tk b Q w sm).2.1 = true))), (0, .ref z)] [] (cset z (cwD C tk b Q w sm).1.1 b (cwD C tk b Q w sm).1.2 h0) P)
    (fl : (cwD C tk b Q w sm).2.2 = true → P (.inl (some (.int (nI 2)))) (cset z (cwD C tk b Q w sm).1.1 b (cwD C tk b Q w sm).1.2 h0)) :
    xV l G 4 92 m_A_passTick 51 [(2, .int (nI w)), (1, .int (bI (sm = true))), (0, .ref z)] [] (cset z C b tk h0) P := by
  have hj := jo_lt b
  cases ht : tk w with
  | none =>
    have e : cwD C tk b Q w sm = ((C, tk), sm, false) := by unfold cwD; rw [ht]
    rw [e] at nx
    have n2 := nx rfl
    dsimp only at n2
    first | refine x_aload_n d_A_passTick_51 rfl ?_ | refine x_aloadq_n d_A_passTick_51 rfl ?_
    refine xc_refA (j := 0) d_A_passTick_52 hs rfl (by decide) wf_A_11 (fun _ _ => rfl) hs.r0 ?_
    refine x_iload_n d_A_passTick_55 rfl ?_
    first | refine xc_aaW d_A_passTick_56 hs (by first | assumption | omega) ?_ | refine xc_aaC d_A_passTick_56 hs (by first | assumption | omega) ?_ | refine xc_aaM d_A_passTick_56 hs (by first | assumption | omega) ?_ | refine xc_aaR d_A_passTick_56 hs (by first | assumption | omega) ?_ | refine xc_aaT d_A_passTick_56 hs (by first | assumption | omega) ?_ | refine xc_aaO d_A_passTick_56 hs (by first | assumption | omega) ?_
    refine x_callV (M' := m_K_doUnits) (As := []) (fr' := 1) (wd' := 21) d_A_passTick_57 (hs.K (by first | assumption | omega)) rfl pl_K_doUnits rfl (Nat.le_of_ble_eq_true rfl) (by decide) (by decide) wc_K_doUnits wi_K wl_A_244 wm_K_doUnits we_K_doUnits (by decide) np_K_doUnits (Nat.le_of_ble_eq_true rfl) (fun q hq => by cases hq) (c_du0 hs hw ht) (fun k a h1 q => by cases q.1) (fun v h1 q => ?_)
    obtain ⟨q1, rfl⟩ := q
    cases q1
    refine x_if_eq_t (tgt := 79) d_A_passTick_60 (by decide) ((by decide)) ?_
    first | refine x_incN d_A_passTick_79 rfl (by decide) ?_ | refine x_inc d_A_passTick_79 rfl (by decide) ?_
    refine x_goto (tgt := 14) d_A_passTick_82 (by decide) ?_
    refine xV.loc (n2) (by repeat (first | exact trivial | refine ⟨rfl, ?_⟩))
  | some t =>
    have htt := hI.tko w t hw ht
    first | refine x_aload_n d_A_passTick_51 rfl ?_ | refine x_aloadq_n d_A_passTick_51 rfl ?_
    refine xc_refA (j := 0) d_A_passTick_52 hs rfl (by decide) wf_A_11 (fun _ _ => rfl) hs.r0 ?_
    refine x_iload_n d_A_passTick_55 rfl ?_
    first | refine xc_aaW d_A_passTick_56 hs (by first | assumption | omega) ?_ | refine xc_aaC d_A_passTick_56 hs (by first | assumption | omega) ?_ | refine xc_aaM d_A_passTick_56 hs (by first | assumption | omega) ?_ | refine xc_aaR d_A_passTick_56 hs (by first | assumption | omega) ?_ | refine xc_aaT d_A_passTick_56 hs (by first | assumption | omega) ?_ | refine xc_aaO d_A_passTick_56 hs (by first | assumption | omega) ?_
    refine x_callV (M' := m_K_doUnits) (As := []) (fr' := 1) (wd' := 21) d_A_passTick_57 (hs.K (by first | assumption | omega)) rfl pl_K_doUnits rfl (Nat.le_of_ble_eq_true rfl) (by decide) (by decide) wc_K_doUnits wi_K wl_A_244 wm_K_doUnits we_K_doUnits (by decide) np_K_doUnits (Nat.le_of_ble_eq_true rfl) (fun q hq => by cases hq) (c_du1 hs hw ht) (fun k a h1 q => by cases q.1) (fun v h1 q => ?_)
    obtain ⟨q1, rfl⟩ := q
    cases q1
    by_cases z0 : C (50 + w) 3 - duN C w = 0
    · rw [bI_t z0]
      by_cases h8 : t < 8
      · have e : cwD C tk b Q w sm = ((cptC (duC C w) tk w t, cptT tk t), true, false) := by unfold cwD; rw [ht]; dsimp only; rw [if_pos z0, if_pos h8]
        rw [e] at nx
        have n2 := nx rfl
        dsimp only at n2
        rw [bI_t rfl] at n2
        refine x_if_eq_f 79 d_A_passTick_60 (by decide) ((by decide)) ?_
        refine x_iconst (v := nI 1) d_A_passTick_63 (by decide) ?_
        refine x_istore_n d_A_passTick_64 (by decide) ?_
        first | refine x_aload_n d_A_passTick_65 rfl ?_ | refine x_aloadq_n d_A_passTick_65 rfl ?_
        refine x_iload_n d_A_passTick_66 rfl ?_
        refine x_callV (M' := m_A_completeTask) (As := [_]) (fr' := 3) (wd' := 69) d_A_passTick_67 hs.A rfl pl_A_completeTask rfl (Nat.le_of_ble_eq_true rfl) (by decide) (by decide) wc_A_completeTask wi_A wl_A_247 wm_A_completeTask we_A_completeTask (by decide) np_A_completeTask (Nat.le_of_ble_eq_true rfl) (fun q hq => by cases hq) (c_A_completeM hs (hI.du hw).1 hI.tko hw ht h8) (fun k a h1 q => by cases q.1) (fun v h1 q => ?_)
        obtain ⟨q1, rfl⟩ := q
        cases q1
        refine x_if_ne_t (tgt := 79) d_A_passTick_70 (by decide) ((by decide)) ?_
        first | refine x_incN d_A_passTick_79 rfl (by decide) ?_ | refine x_inc d_A_passTick_79 rfl (by decide) ?_
        refine x_goto (tgt := 14) d_A_passTick_82 (by decide) ?_
        refine xV.loc (n2) (by repeat (first | exact trivial | refine ⟨rfl, ?_⟩))
      · obtain ⟨p, rfl⟩ : ∃ p, t = 8 + p := ⟨t - 8, by omega⟩
        have p3 : p < 3 := by omega
        have e8 : 8 + p - 8 = p := by omega
        have hQ := (hI.du hw).2.2.2.2 p p3
        have e2 : duC C w (jo b) 2 = C (jo b) 2 := duC_k (by omega)
        have e4 : duC C w (jo b) 4 = C (jo b) 4 := duC_k (by omega)
        refine x_if_eq_f 79 d_A_passTick_60 (by decide) ((by decide)) ?_
        refine x_iconst (v := nI 1) d_A_passTick_63 (by decide) ?_
        refine x_istore_n d_A_passTick_64 (by decide) ?_
        first | refine x_aload_n d_A_passTick_65 rfl ?_ | refine x_aloadq_n d_A_passTick_65 rfl ?_
        refine x_iload_n d_A_passTick_66 rfl ?_
        refine x_callV (M' := m_A_completeTask) (As := [_]) (fr' := 3) (wd' := 69) d_A_passTick_67 hs.A rfl pl_A_completeTask rfl (Nat.le_of_ble_eq_true rfl) (by decide) (by decide) wc_A_completeTask wi_A wl_A_247 wm_A_completeTask we_A_completeTask (by decide) np_A_completeTask (Nat.le_of_ble_eq_true rfl) (fun q hq => by cases hq) (c_A_completeR hs (hI.du hw).1 hI.tko hw ht hQ.1 hQ.2.1 hQ.2.2) (fun k a h1 q => by cases q.1) (fun v h1 q => ?_)
        obtain ⟨q1, rfl⟩ := q
        cases q1
        rw [e2, e4]
        by_cases ok : (crd (C (jo b) 2) (C (jo b) 4) (Q p) [] none).1 = true
        · have e : cwD C tk b Q w sm = ((pqS (cptC (duC C w) tk w (8 + p)) (jo b + 6 + 6 * p) (crd (C (jo b) 2) (C (jo b) 4) (Q p) [] none).2, cptT tk (8 + p)), true, false) := by unfold cwD; rw [ht]; dsimp only; rw [e8, if_pos z0, if_neg h8, if_pos ok]
          rw [e] at nx
          have n2 := nx rfl
          dsimp only at n2
          rw [bI_t rfl] at n2
          rw [bI_t ok]
          refine x_if_ne_t (tgt := 79) d_A_passTick_70 (by decide) ((by decide)) ?_
          first | refine x_incN d_A_passTick_79 rfl (by decide) ?_ | refine x_inc d_A_passTick_79 rfl (by decide) ?_
          refine x_goto (tgt := 14) d_A_passTick_82 (by decide) ?_
          refine xV.loc (n2) (by repeat (first | exact trivial | refine ⟨rfl, ?_⟩))
        · have e : cwD C tk b Q w sm = ((dpC (xu (pqS (cptC (duC C w) tk w (8 + p)) (jo b + 6 + 6 * p) (crd (C (jo b) 2) (C (jo b) 4) (Q p) [] none).2) 0 7 (nI 0)) (fun _ => true) 4, dpT (cptT tk (8 + p)) (fun _ => true) 4), true, true) := by unfold cwD; rw [ht]; dsimp only; rw [e8, if_pos z0, if_neg h8, if_neg ok]
          rw [e] at fl
          have n2 := fl rfl
          dsimp only at n2
          rw [bI_f ok]
          refine x_if_ne_f 79 d_A_passTick_70 (by decide) ((by decide)) ?_
          first | refine x_aload_n d_A_passTick_73 rfl ?_ | refine x_aloadq_n d_A_passTick_73 rfl ?_
          refine x_callV (M' := m_A_giveUpJob) (As := []) (fr' := 1) (wd' := 20) d_A_passTick_74 hs.A rfl pl_A_giveUpJob rfl (Nat.le_of_ble_eq_true rfl) (by decide) (by decide) wc_A_giveUpJob wi_A wl_A_137 wm_A_giveUpJob we_A_giveUpJob (by decide) np_A_giveUpJob (Nat.le_of_ble_eq_true rfl) (fun q hq => by cases hq) (c_A_giveUpJob hs) (fun k a h1 q => by cases q.1) (fun v h1 q => ?_)
          obtain ⟨q1, rfl⟩ := q
          cases q1
          refine x_iconst (v := nI 2) d_A_passTick_77 (by decide) ?_
          refine x_iret d_A_passTick_78 rfl (by first | rfl | assumption) ?_
          exact n2
    · have e : cwD C tk b Q w sm = ((duC C w, tk), sm, false) := by unfold cwD; rw [ht]; dsimp only; rw [if_neg z0]
      rw [e] at nx
      have n2 := nx rfl
      dsimp only at n2
      rw [bI_f z0]
      refine x_if_eq_t (tgt := 79) d_A_passTick_60 (by decide) ((by decide)) ?_
      first | refine x_incN d_A_passTick_79 rfl (by decide) ?_ | refine x_inc d_A_passTick_79 rfl (by decide) ?_
      refine x_goto (tgt := 14) d_A_passTick_82 (by decide) ?_
      refine xV.loc (n2) (by repeat (first | exact trivial | refine ⟨rfl, ?_⟩))
theorem pt_one (hs : CSh h0 z) (hI : CI C tk b Q c r) {w : Nat} (hw : w < 4) (sm : Bool) {P : xR → xH → Prop}
    (nx : (cw1 C tk b Q c r w sm).2.2 = false → xV l G 4 92 m_A_passTick 14 [(2, .int (nI (w + 1))), (1, .int (bI ((cw1 C tk b Q c r w sm).2.1 = true))), (0, .ref z)] [] (cset z (cw1 C tk b Q c r w sm).1.1 b (cw1 C tk b Q c r w sm).1.2 h0) P)
    (fl : (cw1 C tk b Q c r w sm).2.2 = true → P (.inl (some (.int (nI 2)))) (cset z (cw1 C tk b Q c r w sm).1.1 b (cw1 C tk b Q c r w sm).1.2 h0)) :
    xV l G 4 92 m_A_passTick 14 [(2, .int (nI w)), (1, .int (bI (sm = true))), (0, .ref z)] [] (cset z C b tk h0) P := by
  refine x_iload_n d_A_passTick_14 rfl ?_
  refine x_iconst (v := nI 4) d_A_passTick_15 (by decide) ?_
  refine x_icmp_ge_f 85 d_A_passTick_16 (by decide) ((nI_ge (by omega) (by omega))) ?_
  first | refine x_aload_n d_A_passTick_19 rfl ?_ | refine x_aloadq_n d_A_passTick_19 rfl ?_
  refine xc_refA (j := 0) d_A_passTick_20 hs rfl (by decide) wf_A_11 (fun _ _ => rfl) hs.r0 ?_
  refine x_iload_n d_A_passTick_23 rfl ?_
  first | refine xc_aaW d_A_passTick_24 hs (by first | assumption | omega) ?_ | refine xc_aaC d_A_passTick_24 hs (by first | assumption | omega) ?_ | refine xc_aaM d_A_passTick_24 hs (by first | assumption | omega) ?_ | refine xc_aaR d_A_passTick_24 hs (by first | assumption | omega) ?_ | refine xc_aaT d_A_passTick_24 hs (by first | assumption | omega) ?_ | refine xc_aaO d_A_passTick_24 hs (by first | assumption | omega) ?_
  refine xc_get (kc := 5) (j := 0) d_A_passTick_25 (hs.K (by first | assumption | omega)) (by omega) rfl (by decide) wf_A_92 (fun _ _ => rfl) ?_
  by_cases up : C (50 + w) 0 = 0
  · have e : cw1 C tk b Q c r w sm = ((C, tk), sm, false) := if_pos up
    rw [e] at nx
    have n2 := nx rfl
    dsimp only at n2
    refine x_if_ne_f 34 d_A_passTick_28 (by decide) (up) ?_
    refine x_goto (tgt := 79) d_A_passTick_31 (by decide) ?_
    first | refine x_incN d_A_passTick_79 rfl (by decide) ?_ | refine x_inc d_A_passTick_79 rfl (by decide) ?_
    refine x_goto (tgt := 14) d_A_passTick_82 (by decide) ?_
    refine xV.loc (n2) (by repeat (first | exact trivial | refine ⟨rfl, ?_⟩))
  · have e : cw1 C tk b Q c r w sm = cwG C tk b Q c r w sm := if_neg up
    refine x_if_ne_t (tgt := 34) d_A_passTick_28 (by decide) (up) ?_
    first | refine x_aload_n d_A_passTick_34 rfl ?_ | refine x_aloadq_n d_A_passTick_34 rfl ?_
    refine xc_refA (j := 0) d_A_passTick_35 hs rfl (by decide) wf_A_11 (fun _ _ => rfl) hs.r0 ?_
    refine x_iload_n d_A_passTick_38 rfl ?_
    first | refine xc_aaW d_A_passTick_39 hs (by first | assumption | omega) ?_ | refine xc_aaC d_A_passTick_39 hs (by first | assumption | omega) ?_ | refine xc_aaM d_A_passTick_39 hs (by first | assumption | omega) ?_ | refine xc_aaR d_A_passTick_39 hs (by first | assumption | omega) ?_ | refine xc_aaT d_A_passTick_39 hs (by first | assumption | omega) ?_ | refine xc_aaO d_A_passTick_39 hs (by first | assumption | omega) ?_
    refine xc_task d_A_passTick_40 hs (by first | assumption | omega) rfl (by decide) wf_A_237 (fun _ _ => rfl) ?_
    cases ht : tk w with
    | some t =>
      rw [e, show cwG C tk b Q c r w sm = cwD C tk b Q w sm by unfold cwG; rw [ht]] at nx fl
      have n2 := pt_do hs hI hw sm nx fl
      refine x_ifnonnull (tgt := 51) d_A_passTick_43 (by decide) ?_
      refine xV.loc (n2) (by repeat (first | exact trivial | refine ⟨rfl, ?_⟩))
    | none =>
      rw [e, show cwG C tk b Q c r w sm = cwD (gvC C tk c r w).1 (gvC C tk c r w).2 b Q w sm by unfold cwG; rw [ht]] at nx fl
      have n2 := pt_do hs (hI.gv hw) hw sm nx fl
      refine x_ifnonnullN d_A_passTick_43 ?_
      first | refine x_aload_n d_A_passTick_46 rfl ?_ | refine x_aloadq_n d_A_passTick_46 rfl ?_
      refine x_iload_n d_A_passTick_47 rfl ?_
      refine x_callV (M' := m_A_giveTask) (As := [_]) (fr' := 2) (wd' := 50) d_A_passTick_48 hs.A rfl pl_A_giveTask rfl (Nat.le_of_ble_eq_true rfl) (by decide) (by decide) wc_A_giveTask wi_A wl_A_241 wm_A_giveTask we_A_giveTask (by decide) np_A_giveTask (Nat.le_of_ble_eq_true rfl) (fun q hq => by cases hq) (c_A_giveTask hs hI.1 hI.tko hw hI.2.2.1.1 hI.2.2.1.2 hI.2.2.2.1.1 hI.2.2.2.1.2) (fun k a h1 q => by cases q.1) (fun v h1 q => ?_)
      obtain ⟨q1, rfl⟩ := q
      cases q1
      refine xV.loc (n2) (by repeat (first | exact trivial | refine ⟨rfl, ?_⟩))
theorem c_A_passTick (hs : CSh h0 z) (hI : CI C tk b Q c r) :
    xVM l G 4 92 m_A_passTick [.ref z] (cset z C b tk h0) (fun q h' => q = .inl (some (.int (nI (ctS C tk b Q c r).2))) ∧ h' = cset z (ctS C tk b Q c r).1.1.1 (ctS C tk b Q c r).1.2 (ctS C tk b Q c r).1.1.2 h0) := by
  generalize hR : ctS C tk b Q c r = R
  have hI0 := hI.tick0
  unfold ctS at hR
  generalize hD : xu C 0 11 (C 0 11 + nI 1) = D at hR hI0
  have lp : ∀ m i : Nat, i + m = 4 → (ctL D tk b Q c r i).2.2 = false → xV l G 4 92 m_A_passTick 14 [(2, .int (nI i)), (1, .int (bI ((ctL D tk b Q c r i).2.1 = true))), (0, .ref z)] [] (cset z (ctL D tk b Q c r i).1.1 b (ctL D tk b Q c r i).1.2 h0) (fun q h' => q = .inl (some (.int (nI R.2))) ∧ h' = cset z R.1.1.1 R.1.2 R.1.1.2 h0) := by
    intro m
    induction m with
    | zero =>
      intro i him hf
      obtain rfl : i = 4 := by omega
      have hI4 := hI0.tl 4 (by omega)
      generalize ctL D tk b Q c r 4 = o at *
      obtain ⟨⟨C4, tk4⟩, sm, fl⟩ := o
      obtain rfl : fl = false := hf
      dsimp only at *
      obtain ⟨-, -, ⟨hc, hc6⟩, ⟨hr, hr3⟩, -⟩ := hI4
      unfold ctE at hR
      dsimp only at hR
      rw [if_neg (by decide)] at hR
      have tail : ¬ ((∀ t, t < c → ¬ C4 (taddr t) 4 = -1) ∧ (∀ t, t < r → ¬ C4 (taddr (8 + t)) 4 = -1)) → xV l G 4 92 m_A_passTick 107 [(1, .int (bI (sm = true))), (0, .ref z)] [] (cset z C4 b tk4 h0) (fun q h' => q = .inl (some (.int (nI R.2))) ∧ h' = cset z R.1.1.1 R.1.2 R.1.1.2 h0) := by
        intro na
        rw [if_neg na] at hR
        by_cases s1 : sm = true
        · rw [if_pos (Or.inl s1)] at hR
          subst hR
          rw [bI_t s1]
          refine x_iload_n d_A_passTick_107 rfl ?_
          refine x_if_ne_t (tgt := 118) d_A_passTick_108 (by decide) ((by decide)) ?_
          refine x_iconst (v := nI 0) d_A_passTick_118 (by decide) ?_
          refine x_goto (tgt := 123) d_A_passTick_119 (by decide) ?_
          refine x_iret d_A_passTick_123 rfl (by first | rfl | assumption) ?_
          exact ⟨rfl, rfl⟩
        · rw [bI_f s1]
          refine x_iload_n d_A_passTick_107 rfl ?_
          refine x_if_ne_f 118 d_A_passTick_108 (by decide) ((by decide)) ?_
          first | refine x_aload_n d_A_passTick_111 rfl ?_ | refine x_aloadq_n d_A_passTick_111 rfl ?_
          refine x_callV (M' := m_A_anyoneWorks) (As := []) (fr' := 0) (wd' := 0) d_A_passTick_112 hs.A rfl pl_A_anyoneWorks rfl (Nat.le_of_ble_eq_true rfl) (by decide) (by decide) wc_A_anyoneWorks wi_A wl_A_254 wm_A_anyoneWorks we_A_anyoneWorks (by decide) np_A_anyoneWorks (Nat.le_of_ble_eq_true rfl) (fun q hq => by cases hq) (c_A_anyoneWorks hs) (fun k a h1 q => by cases q.1) (fun v h1 q => ?_)
          obtain ⟨q1, rfl⟩ := q
          cases q1
          by_cases a1 : cany tk4 = true
          · rw [if_pos (Or.inr a1)] at hR
            subst hR
            rw [bI_t a1]
            refine x_if_eq_f 122 d_A_passTick_115 (by decide) ((by decide)) ?_
            refine x_iconst (v := nI 0) d_A_passTick_118 (by decide) ?_
            refine x_goto (tgt := 123) d_A_passTick_119 (by decide) ?_
            refine x_iret d_A_passTick_123 rfl (by first | rfl | assumption) ?_
            exact ⟨rfl, rfl⟩
          · rw [if_neg (by rintro (q | q); exact s1 q; exact a1 q)] at hR
            subst hR
            rw [bI_f a1]
            refine x_if_eq_t (tgt := 122) d_A_passTick_115 (by decide) ((by decide)) ?_
            refine x_iconst (v := nI 1) d_A_passTick_122 (by decide) ?_
            refine x_iret d_A_passTick_123 rfl (by first | rfl | assumption) ?_
            exact ⟨rfl, rfl⟩
      refine x_iload_n d_A_passTick_14 rfl ?_
      refine x_iconst (v := nI 4) d_A_passTick_15 (by decide) ?_
      refine x_icmp_ge_t (tgt := 85) d_A_passTick_16 (by decide) ((nI_le (by omega) (by omega))) ?_
      first | refine x_aload_n d_A_passTick_85 rfl ?_ | refine x_aloadq_n d_A_passTick_85 rfl ?_
      refine x_iconst (v := nI 1) d_A_passTick_86 (by decide) ?_
      refine x_callV (M' := m_A_allDone) (As := [_]) (fr' := 1) (wd' := 21) d_A_passTick_87 hs.A rfl pl_A_allDone rfl (Nat.le_of_ble_eq_true rfl) (by decide) (by decide) wc_A_allDone wi_A wl_A_170 wm_A_allDone we_A_allDone (by decide) np_A_allDone (Nat.le_of_ble_eq_true rfl) (fun q hq => by cases hq) (c_A_allDoneM hs (by decide) hc hc6) (fun k a h1 q => by cases q.1) (fun v h1 q => ?_)
      obtain ⟨q1, rfl⟩ := q
      cases q1
      by_cases md : ∀ t, t < c → ¬ C4 (taddr t) 4 = -1
      · rw [bI_t md]
        refine x_if_eq_f 107 d_A_passTick_90 (by decide) ((by decide)) ?_
        first | refine x_aload_n d_A_passTick_93 rfl ?_ | refine x_aloadq_n d_A_passTick_93 rfl ?_
        refine x_iconst (v := nI 0) d_A_passTick_94 (by decide) ?_
        refine x_callV (M' := m_A_allDone) (As := [_]) (fr' := 1) (wd' := 21) d_A_passTick_95 hs.A rfl pl_A_allDone rfl (Nat.le_of_ble_eq_true rfl) (by decide) (by decide) wc_A_allDone wi_A wl_A_170 wm_A_allDone we_A_allDone (by decide) np_A_allDone (Nat.le_of_ble_eq_true rfl) (fun q hq => by cases hq) (c_A_allDoneR hs rfl hr hr3) (fun k a h1 q => by cases q.1) (fun v h1 q => ?_)
        obtain ⟨q1, rfl⟩ := q
        cases q1
        by_cases rdn : ∀ t, t < r → ¬ C4 (taddr (8 + t)) 4 = -1
        · rw [if_pos ⟨md, rdn⟩] at hR
          subst hR
          rw [bI_t rdn]
          refine x_if_eq_f 107 d_A_passTick_98 (by decide) ((by decide)) ?_
          first | refine x_aload_n d_A_passTick_101 rfl ?_ | refine x_aloadq_n d_A_passTick_101 rfl ?_
          refine x_callV (M' := m_A_endJob) (As := []) (fr' := 0) (wd' := 0) d_A_passTick_102 hs.A rfl pl_A_endJob rfl (Nat.le_of_ble_eq_true rfl) (by decide) (by decide) wc_A_endJob wi_A wl_A_251 wm_A_endJob we_A_endJob (by decide) np_A_endJob (Nat.le_of_ble_eq_true rfl) (fun q hq => by cases hq) (c_A_endJob hs) (fun k a h1 q => by cases q.1) (fun v h1 q => ?_)
          obtain ⟨q1, rfl⟩ := q
          cases q1
          refine x_iconst (v := nI 0) d_A_passTick_105 (by decide) ?_
          refine x_iret d_A_passTick_106 rfl (by first | rfl | assumption) ?_
          exact ⟨rfl, rfl⟩
        · rw [bI_f rdn]
          refine x_if_eq_t (tgt := 107) d_A_passTick_98 (by decide) ((by decide)) ?_
          refine xV.loc (tail (fun q => rdn q.2)) (by repeat (first | exact trivial | refine ⟨rfl, ?_⟩))
      · rw [bI_f md]
        refine x_if_eq_t (tgt := 107) d_A_passTick_90 (by decide) ((by decide)) ?_
        refine xV.loc (tail (fun q => md q.1)) (by repeat (first | exact trivial | refine ⟨rfl, ?_⟩))
    | succ m ih =>
      intro i him hf
      have e : ctL D tk b Q c r (i + 1) = cw1 (ctL D tk b Q c r i).1.1 (ctL D tk b Q c r i).1.2 b Q c r i (ctL D tk b Q c r i).2.1 := by rw [ctL, if_neg (by rw [hf]; decide)]
      have nx := ih (i + 1) (by omega)
      rw [e] at nx
      refine pt_one hs (hI0.tl i (by omega)) (by omega) _ nx (fun hq => ?_)
      have k : ∀ n, (ctL D tk b Q c r (i + 1 + n)) = ctL D tk b Q c r (i + 1) := by
        intro n
        induction n with
        | zero => rfl
        | succ n ihn => rw [← Nat.add_assoc, ctL, ihn, if_pos (by rw [e]; exact hq)]
      have k4 : ctL D tk b Q c r 4 = ctL D tk b Q c r (i + 1) := by rw [← k m, show i + 1 + m = 4 by omega]
      rw [k4, e] at hR
      unfold ctE at hR
      rw [if_pos hq] at hR
      subst hR
      exact ⟨rfl, rfl⟩
  have this := lp 4 0 (by omega) rfl
  rw [show ctL D tk b Q c r 0 = ((D, tk), false, false) from rfl] at this
  dsimp only at this
  rw [bI_f (by decide)] at this
  unfold xVM
  first | refine x_aload_n d_A_passTick_0 rfl ?_ | refine x_aloadq_n d_A_passTick_0 rfl ?_
  refine x_dup d_A_passTick_1 rfl ?_
  refine xc_getA (j := 11) d_A_passTick_2 hs rfl (by decide) wf_A_64 (fun _ _ => rfl) ?_
  refine x_iconst (v := nI 1) d_A_passTick_5 (by decide) ?_
  refine x_iadd d_A_passTick_6 ?_
  refine xc_putA (j := 11) d_A_passTick_7 hs rfl (by decide) wf_A_64 (Or.inl rfl) (by first | rfl | assumption) rfl (fun _ _ => rfl) ?_
  refine x_iconst (v := nI 0) d_A_passTick_10 (by decide) ?_
  refine x_istore_n d_A_passTick_11 (by decide) ?_
  refine x_iconst (v := nI 0) d_A_passTick_12 (by decide) ?_
  refine x_istore_n d_A_passTick_13 (by decide) ?_
  rw [hD]
  refine xV.loc (this) (by repeat (first | exact trivial | refine ⟨rfl, ?_⟩))
end XC12
