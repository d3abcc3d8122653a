/-! THE TWO SIDE BY SIDE, while a job is under way -/
abbrev inr (c r t : Nat) : Prop := t < c ∨ (8 ≤ t ∧ t < 8 + r)
def RW (S C : Nat → Nat → Int32) (tk : Nat → Option Nat) : Prop := ∀ w, w < 4 → C (50 + w) 0 = S 7 w ∧ C (50 + w) 1 = S 3 w ∧ S 4 w = oI (tk w) ∧ C (50 + w) 3 = S 5 w ∧ C (50 + w) 4 = S 6 w ∧ ∃ s, S 3 w = nI s ∧ 1 ≤ s ∧ s ≤ 4
def RK (S C : Nat → Nat → Int32) : Prop := C 0 7 = S 0 26 ∧ C 0 10 = S 0 15 ∧ C 0 11 = S 0 21 ∧ C 0 12 = S 0 22 ∧ C 0 13 = S 0 23 ∧ C 0 14 = S 0 24
def RD (S C : Nat → Nat → Int32) (b : Bool) : Prop := C (jo b) 2 = S 0 18 ∧ okr (S 0 18) ∧ C (jo b) 4 = S 0 16
def RE (S C : Nat → Nat → Int32) (np c r : Nat) : Prop := ∀ t, inr c r t → (C (taddr t) 4 = -1 ↔ S 8 t = 0) ∧ (¬ S 8 t = 0 → C (taddr t) 4 = S 9 t) ∧ C (taddr t) 2 = nds S np t ∧ (∃ u, nds S np t = nI u ∧ 1 ≤ u ∧ u < 1000) ∧ C (taddr t) 3 = (if t < 8 then rns S t else nI 0)
def RH (S : Nat → Nat → Int32) (tk : Nat → Option Nat) (c r : Nat) : Prop := ∀ w t, w < 4 → tk w = some t → inr c r t ∧ S 8 t = 0 ∧ ∃ u, S 5 w = nI u ∧ 1 ≤ u ∧ u < 1000
def RQ (S : Nat → Nat → Int32) (q : List KV) (Q : Nat → List KV) (np : Nat) : Prop := RWS S q ∧ srt q ∧ q.length = np ∧ ∀ p, p < 3 → Q p = q.filter (fun a => inP S p a.1)
def RG (S C : Nat → Nat → Int32) (b : Bool) (Q : Nat → List KV) (r : Nat) : Prop := ∀ p, p < r → ¬ S 8 (8 + p) = 0 → ∃ l, gro (S 0 18) (S 0 16) (Q p) none = some l ∧ PL C (jo b + 6 + 6 * p) l
def RJ (S C : Nat → Nat → Int32) (tk : Nat → Option Nat) (b : Bool) (c r np : Nat) (q : List KV) (Q : Nat → List KV) : Prop := RW S C tk ∧ RK S C ∧ RD S C b ∧ RE S C np c r ∧ RH S tk c r ∧ RQ S q Q np ∧ RG S C b Q r ∧ TI S c r np ∧ CI C tk b Q c r
theorem oI_eq {o : Option Nat} {t : Nat} (ho : ∀ s, o = some s → tok s) (ht : tok t) : oI o = nI t ↔ o = some t := by
  cases o with
  | none => exact ⟨fun q => absurd q.symm (nI_nm1 (by omega)), fun q => by cases q⟩
  | some s =>
    have := ho s rfl
    constructor
    · intro q
      have e : nI s = nI t := q
      rw [(nI_inj (by omega) (by omega)).mp e]
    · intro q; rw [Option.some.inj q]; rfl
theorem dng_cdo {S : Nat → Nat → Int32} {tk : Nat → Option Nat} (h4 : ∀ w, w < 4 → S 4 w = oI (tk w)) (htk : TKo tk) {t : Nat} (ht : tok t) : ∀ n, n ≤ 4 → dng S (nI t) n = cdo tk t n
  | 0, _ => rfl
  | n + 1, hn => by
    have e : S 4 n = nI t ↔ tk n = some t := by rw [h4 n (by omega)]; exact oI_eq (fun s hs => htk n s (by omega) hs) ht
    rw [dng, cdo, dng_cdo h4 htk ht n (by omega)]
    by_cases q : tk n = some t
    · rw [if_pos q, if_pos (e.mpr q)]
    · rw [if_neg q, if_neg (fun w => q (e.mp w))]
theorem idx_lst (f : Nat → Int32) (k : Int32) : ∀ n, idxOf f k n = lst (fun w => decide (f w = k)) n
  | 0 => rfl
  | n + 1 => by
    rw [idxOf, lst, idx_lst f k n]
    cases lst (fun w => decide (f w = k)) n with
    | some j => rfl
    | none =>
      by_cases e : f n = k
      · simp [e]
      · simp [e]
theorem lst_congr {p p' : Nat → Bool} : ∀ n, (∀ j, j < n → p j = p' j) → lst p n = lst p' n
  | 0, _ => rfl
  | n + 1, h => by rw [lst, lst, lst_congr n (fun j hj => h j (by omega)), h n (by omega)]
theorem lst_first_none {p : Nat → Bool} : ∀ {n : Nat}, lst p n = none → ∀ t, t < n → p t = false
  | 0, _, t, h => absurd h (Nat.not_lt_zero t)
  | n + 1, h, t, ht => by
    have h1 : lst p n = none := by
      cases e : lst p n with
      | none => rfl
      | some j => rw [lst_some e] at h; cases h
    by_cases e : t = n
    · subst e
      cases hp : p t with
      | false => rfl
      | true => rw [lst_hit h1 hp] at h; cases h
    · exact lst_first_none h1 t (by omega)
theorem lfo_cld {S : Nat → Nat → Int32} {tk : Nat → Option Nat} (h4 : ∀ w, w < 4 → S 4 w = oI (tk w)) (htk : TKo tk) {t w : Nat} (ht : tok t) (hl : cld tk t = some w) : lfo S (nI t) = S 5 w := by
  unfold lfo
  rw [idx_lst, lst_congr (p' := fun w => decide (tk w = some t)) 4 (fun j hj => by
    have e : S 4 j = nI t ↔ tk j = some t := by rw [h4 j hj]; exact oI_eq (fun s hs => htk j s hj hs) ht
    by_cases q : tk j = some t
    · rw [decide_eq_true q, decide_eq_true (e.mpr q)]
    · rw [decide_eq_false q, decide_eq_false (fun w => q (e.mp w))])]
  rw [show lst (fun w => decide (tk w = some t)) 4 = some w from hl]
theorem cdo_0 {tk : Nat → Option Nat} {t : Nat} : ∀ n, lst (fun w => decide (tk w = some t)) n = none → cdo tk t n = 0
  | 0, _ => rfl
  | n + 1, h => by
    have h1 : lst (fun w => decide (tk w = some t)) n = none := by
      cases e : lst (fun w => decide (tk w = some t)) n with
      | none => rfl
      | some j => rw [lst_some e] at h; cases h
    have h2 : ¬ tk n = some t := fun q => by rw [lst_hit h1 (decide_eq_true q)] at h; cases h
    rw [cdo, cdo_0 n h1, if_neg h2]
theorem cdo_1 {tk : Nat → Option Nat} {t w : Nat} : ∀ n, w < n → tk w = some t → 1 ≤ cdo tk t n
  | 0, h, _ => absurd h (Nat.not_lt_zero w)
  | n + 1, h, e => by
    rw [cdo]
    by_cases hw : w = n
    · subst hw; rw [if_pos e]; omega
    · have := cdo_1 n (by omega) e
      omega
theorem inr_tok {c r t : Nat} (hc : c ≤ 6) (hr : r ≤ 3) (h : inr c r t) : tok t := by omega
section XR3
variable {S C : Nat → Nat → Int32} {tk : Nat → Option Nat} {b : Bool} {c r np : Nat} {q : List KV} {Q : Nat → List KV}
theorem RJ.c6 (h : RJ S C tk b c r np q Q) : c ≤ 6 ∧ r ≤ 3 ∧ TKo tk := ⟨h.2.2.2.2.2.2.2.2.2.2.1.2, h.2.2.2.2.2.2.2.2.2.2.2.1.2, h.2.2.2.2.2.2.2.2.2.1⟩
theorem RJ.s4 (h : RJ S C tk b c r np q Q) : ∀ w, w < 4 → S 4 w = oI (tk w) := fun w hw => (h.1 w hw).2.2.1
theorem RJ.cb (h : RJ S C tk b c r np q Q) (t : Nat) : cbd C t ↔ rdbl S t := by
  have h1 := (h.1 (t % 4) (by omega)).1
  have h2 := (h.1 ((t + 1) % 4) (by omega)).1
  show (8 ≤ t ∨ ¬ C (50 + t % 4) 0 = 0 ∨ ¬ C (50 + (t + 1) % 4) 0 = 0) ↔ (8 ≤ t ∨ ¬ S 7 (t % 4) = 0 ∨ ¬ S 7 ((t + 1) % 4) = 0)
  rw [h1, h2]
theorem RJ.fr (h : RJ S C tk b c r np q Q) {fm t : Nat} (hf : fm ≤ t) (ht : inr c r t) : cfr C tk t = frs S fm t := by
  obtain ⟨hc, hr, htk⟩ := h.c6
  have e1 := (h.2.2.2.1 t ht).1
  have e2 := dng_cdo h.s4 htk (inr_tok hc hr ht) 4 (Nat.le_refl 4)
  have e3 := h.cb t
  have key : (C (taddr t) 4 = -1 ∧ cdo tk t 4 = 0 ∧ cbd C t) ↔ (fm ≤ t ∧ S 8 t = 0 ∧ rdbl S t ∧ dng S (nI t) 4 = 0) := by
    rw [e2, e1, e3]
    constructor
    · rintro ⟨a, d, e⟩; exact ⟨hf, a, e, d⟩
    · rintro ⟨-, a, e, d⟩; exact ⟨a, d, e⟩
  unfold cfr
  by_cases g : fm ≤ t ∧ S 8 t = 0 ∧ rdbl S t ∧ dng S (nI t) 4 = 0
  · rw [decide_eq_true (key.mpr g)]; exact (decide_eq_true g).symm
  · rw [decide_eq_false (fun w => g (key.mp w))]; exact (decide_eq_false g).symm
theorem lst8 {p : Nat → Bool} (h : ∀ t, t < 8 → p t = false) : ∀ r, lst p (8 + r) = (lst (fun i => p (8 + i)) r).map (fun i => 8 + i)
  | 0 => lst_none h
  | r + 1 => by
    rw [← Nat.add_assoc, lst, lst8 h r, lst]
    cases lst (fun i => p (8 + i)) r with
    | some j => rfl
    | none =>
      dsimp only [Option.map_none]
      cases p (8 + r) <;> rfl
theorem RJ.sc (h : RJ S C tk b c r np q Q) {fm : Nat} : ∀ n, (∀ i, i < n → inr c r (fm + i)) → (csec C tk fm n).1 = sec S fm (fm + n) ∧ (csec C tk fm n).2 = (match sec S fm (fm + n) with | none => nI 0 | some s => lfo S (nI s))
  | 0, _ => by rw [Nat.add_zero, sec_none (Nat.le_refl fm)]; exact ⟨rfl, rfl⟩
  | n + 1, hn => by
    obtain ⟨hc, hr, htk⟩ := h.c6
    have ih := h.sc (fm := fm) n (fun i hi => hn i (by omega))
    have ht := inr_tok hc hr (hn n (by omega))
    have e2 := dng_cdo h.s4 htk ht 4 (Nat.le_refl 4)
    have e3 := h.cb (fm + n)
    have eS : sec S fm (fm + (n + 1)) = if fm ≤ fm + n ∧ S 8 (fm + n) = 0 ∧ rdbl S (fm + n) ∧ dng S (nI (fm + n)) 4 = 1 ∧ btr S (sec S fm (fm + n)) (fm + n) = true then some (fm + n) else sec S fm (fm + n) := rfl
    rw [eS, csec]
    cases hl : cld tk (fm + n) with
    | none =>
      have := cdo_0 4 hl
      rw [if_neg (by rw [e2, this]; rintro ⟨-, -, -, q, -⟩; cases q)]
      exact ih
    | some w =>
      have hw : w < 4 := (lst_lt hl).1
      have hk : tk w = some (fm + n) := of_decide_eq_true (lst_lt hl).2
      obtain ⟨-, s8, u, hu, hu1, hu2⟩ := h.2.2.2.2.1 w _ hw hk
      have c1 := cdo_1 4 hw hk
      have lf := lfo_cld h.s4 htk ht hl
      have cw : C (50 + w) 3 = S 5 w := (h.1 w hw).2.2.2.1
      have hb : btr S (sec S fm (fm + n)) (fm + n) = true ↔ (csec C tk fm n).2 < C (50 + w) 3 := by
        rw [ih.2, cw]
        cases sec S fm (fm + n) with
        | none =>
          have : nI 0 < S 5 w := by rw [hu]; exact nI_lt (by omega) (by omega)
          exact ⟨fun _ => this, fun _ => rfl⟩
        | some s =>
          unfold btr
          rw [decide_eq_true_iff, lf]
      dsimp only
      by_cases g : cdo tk (fm + n) 4 ≤ 1 ∧ cbd C (fm + n) ∧ (csec C tk fm n).2 < C (50 + w) 3
      · rw [if_pos g, if_pos ⟨by omega, s8, e3.mp g.2.1, by rw [e2]; omega, hb.mpr g.2.2⟩]
        exact ⟨rfl, by rw [cw]; exact lf.symm⟩
      · rw [if_neg g, if_neg (fun w => g ⟨by rw [← e2]; omega, e3.mpr w.2.2.1, hb.mp w.2.2.2.2⟩)]
        exact ih
theorem RJ.gf (h : RJ S C tk b c r np q Q) (w : Nat) : gvF C tk c r w = (if mdn S c = true then (gch true (lst (frs S 8) (8 + r)) (lst (frh S 8 w) (8 + r)) (sec S 8 (8 + r)), decide (lst (frs S 8) (8 + r) = none)) else (gch false (lst (frs S 0) c) (lst (frh S 0 w) c) (sec S 0 c), decide (lst (frs S 0) c = none))) := by
  have md : (∀ t, t < c → ¬ C (taddr t) 4 = -1) ↔ mdn S c = true := by
    unfold mdn
    rw [decide_eq_true_iff]
    constructor
    · intro a t ht e; exact a t ht ((h.2.2.2.1 t (Or.inl ht)).1.mpr e)
    · intro a t ht e; exact a t ht ((h.2.2.2.1 t (Or.inl ht)).1.mp e)
  unfold gvF
  by_cases m : mdn S c = true
  · rw [if_pos (md.mpr m), if_pos m]
    have eF : lst (frs S 8) (8 + r) = cfR C tk r := by
      rw [lst8 (p := frs S 8) (fun t ht => decide_eq_false (fun q => by omega))]
      unfold cfR
      rw [lst_congr r (fun j hj => (h.fr (fm := 8) (by omega) (Or.inr ⟨by omega, by omega⟩)).symm)]
    have eS := (h.sc (fm := 8) r (fun i hi => Or.inr ⟨by omega, by omega⟩)).1
    rw [eF]
    cases cfR C tk r with
    | none => rw [eS]; rfl
    | some t => rfl
  · rw [if_neg (fun q => m (md.mp q)), if_neg m]
    have eF : lst (frs S 0) c = lst (cfr C tk) c := lst_congr c (fun j hj => (h.fr (fm := 0) (by omega) (Or.inl hj)).symm)
    have eH : lst (frh S 0 w) c = lst (cfh C tk w) c := lst_congr c (fun j hj => by unfold frh cfh; rw [h.fr (fm := 0) (by omega) (Or.inl hj)])
    have eS := (h.sc (fm := 0) c (fun i hi => Or.inl (by omega))).1
    rw [Nat.zero_add] at eS
    rw [eF, eH]
    unfold cfM
    cases hH : lst (cfh C tk w) c with
    | some t =>
      have hx := lst_lt hH
      have hf : cfr C tk t = true := (Bool.and_eq_true_iff.mp hx.2).1
      cases hF : lst (cfr C tk) c with
      | none => have := lst_first_none hF t hx.1; rw [hf] at this; cases this
      | some f => rfl
    | none =>
      cases hF : lst (cfr C tk) c with
      | none => dsimp only; rw [eS]; rfl
      | some f => rfl
end XR3
