def oI : Option Nat → Int32
  | none => -1
  | some t => nI t
/-- the least number below n that has p -/
def lst (p : Nat → Bool) : Nat → Option Nat
  | 0 => none
  | n + 1 => match lst p n with
    | some j => some j
    | none => if p n then some n else none
theorem lst_some {p : Nat → Bool} {n j : Nat} (h : lst p n = some j) : lst p (n + 1) = some j := by simp [lst, h]
theorem lst_hit {p : Nat → Bool} {n : Nat} (h : lst p n = none) (hp : p n = true) : lst p (n + 1) = some n := by simp [lst, h, hp]
theorem lst_miss {p : Nat → Bool} {n : Nat} (hp : p n = false) : lst p (n + 1) = lst p n := by
  cases h : lst p n with
  | none => simp [lst, h, hp]
  | some j => simp [lst, h]
theorem lst_lt {p : Nat → Bool} {n j : Nat} (h : lst p n = some j) : j < n ∧ p j = true := by
  induction n with
  | zero => cases h
  | succ n ih =>
    cases hx : lst p n with
    | some k =>
      rw [lst_some hx] at h
      cases h
      exact ⟨Nat.lt_succ_of_lt (ih hx).1, (ih hx).2⟩
    | none =>
      cases hp : p n with
      | true => rw [lst_hit hx hp] at h; cases h; exact ⟨Nat.lt_succ_self _, hp⟩
      | false => rw [lst_miss hp, hx] at h; cases h
theorem lst_none {p : Nat → Bool} {n : Nat} (h : ∀ t, t < n → p t = false) : lst p n = none := by
  cases hx : lst p n with
  | none => rfl
  | some j => have := (lst_lt hx).2; rw [h j (lst_lt hx).1] at this; cases this
theorem dng_le (S : Nat → Nat → Int32) (t : Int32) : ∀ n, dng S t n ≤ n
  | 0 => Nat.le_refl 0
  | n + 1 => by
    have := dng_le S t n
    unfold dng
    split <;> omega
/-- task t, from fm on, is neither done nor being done, and can be read -/
def frs (S : Nat → Nat → Int32) (fm t : Nat) : Bool := decide (fm ≤ t ∧ S 8 t = 0 ∧ rdbl S t ∧ dng S (nI t) 4 = 0)
def frh (S : Nat → Nat → Int32) (fm w t : Nat) : Bool := frs S fm t && decide (t % 4 = w ∨ (t + 1) % 4 = w)
def btr (S : Nat → Nat → Int32) (o : Option Nat) (t : Nat) : Bool := match o with
  | none => true
  | some s => decide (lfo S (nI s) < lfo S (nI t))
/-- the task for a second time, among those below n -/
def sec (S : Nat → Nat → Int32) (fm : Nat) : Nat → Option Nat
  | 0 => none
  | n + 1 => if fm ≤ n ∧ S 8 n = 0 ∧ rdbl S n ∧ dng S (nI n) 4 = 1 ∧ btr S (sec S fm n) n = true then some n else sec S fm n
theorem sec_lt {S : Nat → Nat → Int32} {fm n j : Nat} (h : sec S fm n = some j) : j < n ∧ fm ≤ j := by
  induction n with
  | zero => cases h
  | succ n ih =>
    unfold sec at h
    split at h
    · rename_i q; cases h; exact ⟨Nat.lt_succ_self _, q.1⟩
    · exact ⟨Nat.lt_succ_of_lt (ih h).1, (ih h).2⟩
theorem sec_none {S : Nat → Nat → Int32} {fm n : Nat} (h : n ≤ fm) : sec S fm n = none := by
  cases hx : sec S fm n with
  | none => rfl
  | some j => have := sec_lt hx; omega
abbrev gL (y w fm to : Nat) (red : Int32) (i : Nat) (f hh s : Int32) : List (Nat × Value) := [(8, .int (nI i)), (7, .int s), (6, .int hh), (5, .int f), (4, .int (nI to)), (3, .int (nI fm)), (2, .int red), (0, .ref y), (1, .int (nI w))]
section XM3
variable {l : Launch} {G : xG} {h0 : xH} {y : Nat} {S : Nat → Nat → Int32}
theorem gt_loop (hs : MSh h0 y) {w fm to : Nat} {red : Int32} (hw : w < 4) (hto : to ≤ 11) {Q : xR → xH → Prop}
    (fin : xV l G 3 65 m_M_get 167 (gL y w fm to red to (oI (lst (frs S fm) to)) (oI (lst (frh S fm w) to)) (oI (sec S fm to))) [] (mset y S h0) Q) :
    ∀ m i : Nat, i + m = to → fm ≤ i → xV l G 3 65 m_M_get 48 (gL y w fm to red i (oI (lst (frs S fm) i)) (oI (lst (frh S fm w) i)) (oI (sec S fm i))) [] (mset y S h0) Q := by
  intro m
  induction m with
  | zero =>
    intro i him hfi
    obtain rfl : i = to := by omega
    refine x_iload d_M_get_48 rfl ?_
    refine x_iload d_M_get_50 rfl ?_
    refine x_icmp_ge_t (tgt := 167) d_M_get_52 (by decide) ((nI_le (by omega) (by omega))) ?_
    exact fin
  | succ m ih =>
    intro i him hfi
    have hi8 : i < mlen 8 := by show i < 11; omega
    have nx := ih (i + 1) (by omega) (by omega)
    have d4 := dng_le S (nI i) 4
    have skip : (S 8 i = 0 → rdbl S i → False) → xV l G 3 65 m_M_get 48 (gL y w fm to red (i + 1) (oI (lst (frs S fm) i)) (oI (lst (frh S fm w) i)) (oI (sec S fm i))) [] (mset y S h0) Q := by
      intro hn
      have e1 : frs S fm i = false := decide_eq_false (fun q => hn q.2.1 q.2.2.1)
      have e2 : frh S fm w i = false := by unfold frh; rw [e1]; rfl
      have e3 : sec S fm (i + 1) = sec S fm i := if_neg (fun q => hn q.2.1 q.2.2.1)
      rw [lst_miss e1, lst_miss e2, e3] at nx
      exact nx
    have sC : S 8 i = 0 → rdbl S i → xV l G 3 65 m_M_get 131 ((9, .int (nI (dng S (nI i) 4))) :: gL y w fm to red i (oI (lst (frs S fm) (i + 1))) (oI (lst (frh S fm w) (i + 1))) (oI (sec S fm i))) [] (mset y S h0) Q := by
      intro a1 a2
      refine x_iload d_M_get_131 rfl ?_
      refine x_iconst (v := nI 1) d_M_get_133 (by decide) ?_
      refine x_icmp_ne (tgt := 161) d_M_get_134 (by decide) (fun d1 => ?_) (fun d1 => ?_)
      · have e3 : sec S fm (i + 1) = sec S fm i := if_neg (fun q => d1 (by rw [q.2.2.2.1]))
        rw [e3] at nx
        first | refine x_incN d_M_get_161 rfl (by decide) ?_ | refine x_inc d_M_get_161 rfl (by decide) ?_
        refine x_goto (tgt := 48) d_M_get_164 (by decide) ?_
        refine xV.loc (nx) (by repeat (first | exact trivial | refine ⟨rfl, ?_⟩))
      · have d1' : dng S (nI i) 4 = 1 := (nI_eq (by omega) (by omega)).mp d1
        refine x_iload d_M_get_137 rfl ?_
        cases hS : sec S fm i with
        | none =>
          have e3 : sec S fm (i + 1) = some i := if_pos ⟨hfi, a1, a2, d1', by rw [hS]; rfl⟩
          rw [e3] at nx
          refine x_if_lt_t (tgt := 157) d_M_get_139 (by decide) ((by decide)) ?_
          refine x_iload d_M_get_157 rfl ?_
          refine x_istore d_M_get_159 (by decide) ?_
          first | refine x_incN d_M_get_161 rfl (by decide) ?_ | refine x_inc d_M_get_161 rfl (by decide) ?_
          refine x_goto (tgt := 48) d_M_get_164 (by decide) ?_
          refine xV.loc (nx) (by repeat (first | exact trivial | refine ⟨rfl, ?_⟩))
        | some s =>
          have hs2 := sec_lt hS
          refine x_if_lt_f 157 d_M_get_139 (by decide) ((nI_pos (by omega))) ?_
          refine x_aload_n d_M_get_142 rfl ?_
          refine x_iload d_M_get_143 rfl ?_
          refine x_callV (M' := m_M_leftOf) (As := [_]) (fr' := 0) (wd' := 0) d_M_get_145 hs.1 rfl pl_M_leftOf rfl (Nat.le_of_ble_eq_true rfl) (by decide) (by decide) wc_M_leftOf wi_M wl_M_151 wm_M_leftOf we_M_leftOf (by decide) np_M_leftOf (Nat.le_of_ble_eq_true rfl) (fun q hq => by cases hq) (c_M_leftOf hs _) (fun k a h1 q => by cases q.1) (fun v h1 q => ?_)
          obtain ⟨q1, rfl⟩ := q
          cases q1
          refine x_aload_n d_M_get_148 rfl ?_
          refine x_iload d_M_get_149 rfl ?_
          refine x_callV (M' := m_M_leftOf) (As := [_]) (fr' := 0) (wd' := 0) d_M_get_151 hs.1 rfl pl_M_leftOf rfl (Nat.le_of_ble_eq_true rfl) (by decide) (by decide) wc_M_leftOf wi_M wl_M_151 wm_M_leftOf we_M_leftOf (by decide) np_M_leftOf (Nat.le_of_ble_eq_true rfl) (fun q hq => by cases hq) (c_M_leftOf hs _) (fun k a h1 q => by cases q.1) (fun v h1 q => ?_)
          obtain ⟨q1, rfl⟩ := q
          cases q1
          refine x_icmp_le (tgt := 161) d_M_get_154 (by decide) (fun d2 => ?_) (fun d2 => ?_)
          · have e3 : sec S fm (i + 1) = sec S fm i := if_neg (fun q => by
              have := q.2.2.2.2
              rw [hS] at this
              exact absurd (of_decide_eq_true this) (Int32.not_lt.mpr d2))
            rw [e3, hS] at nx
            first | refine x_incN d_M_get_161 rfl (by decide) ?_ | refine x_inc d_M_get_161 rfl (by decide) ?_
            refine x_goto (tgt := 48) d_M_get_164 (by decide) ?_
            refine xV.loc (nx) (by repeat (first | exact trivial | refine ⟨rfl, ?_⟩))
          · have e3 : sec S fm (i + 1) = some i := if_pos ⟨hfi, a1, a2, d1', by rw [hS]; exact decide_eq_true (Int32.not_le.mp d2)⟩
            rw [e3] at nx
            refine x_iload d_M_get_157 rfl ?_
            refine x_istore d_M_get_159 (by decide) ?_
            first | refine x_incN d_M_get_161 rfl (by decide) ?_ | refine x_inc d_M_get_161 rfl (by decide) ?_
            refine x_goto (tgt := 48) d_M_get_164 (by decide) ?_
            refine xV.loc (nx) (by repeat (first | exact trivial | refine ⟨rfl, ?_⟩))
    have sB : S 8 i = 0 → rdbl S i → xV l G 3 65 m_M_get 99 ((9, .int (nI (dng S (nI i) 4))) :: gL y w fm to red i (oI (lst (frs S fm) (i + 1))) (oI (lst (frh S fm w) i)) (oI (sec S fm i))) [] (mset y S h0) Q := by
      intro a1 a2
      have sC := sC a1 a2
      refine x_iload d_M_get_99 rfl ?_
      refine x_if_ne (tgt := 131) d_M_get_101 (by decide) (fun d1 => ?_) (fun d1 => ?_)
      · have e1 : frs S fm i = false := decide_eq_false (fun q => d1 (by rw [q.2.2.2]; rfl))
        have e2 : frh S fm w i = false := by unfold frh; rw [e1]; rfl
        rw [lst_miss e2] at sC
        exact sC
      · have d1' : dng S (nI i) 4 = 0 := (nI_eq (by omega) (by omega)).mp d1
        have e1 : frs S fm i = true := decide_eq_true ⟨hfi, a1, a2, d1'⟩
        refine x_iload d_M_get_104 rfl ?_
        cases hH : lst (frh S fm w) i with
        | some j =>
          have hj := lst_lt hH
          rw [lst_some hH] at sC
          refine x_if_ge_t (tgt := 131) d_M_get_106 (by decide) ((nI_pos' (by omega))) ?_
          exact sC
        | none =>
          refine x_if_ge_f 131 d_M_get_106 (by decide) ((by decide)) ?_
          refine x_iload d_M_get_109 rfl ?_
          refine x_iconst (v := nI 4) d_M_get_111 (by decide) ?_
          refine x_irem d_M_get_112 (by first | decide | assumption) ?_
          refine x_iload_n d_M_get_113 rfl ?_
          rw [nI_rem (by omega) (by omega)]
          refine x_icmp_eq (tgt := 127) d_M_get_114 (by decide) (fun d2 => ?_) (fun d2 => ?_)
          · have e2 : frh S fm w i = true := by unfold frh; rw [e1, decide_eq_true (Or.inl ((nI_eq (by omega) (by omega)).mp d2))]; rfl
            rw [lst_hit hH e2] at sC
            refine x_iload d_M_get_127 rfl ?_
            refine x_istore d_M_get_129 (by decide) ?_
            refine xV.loc (sC) (by repeat (first | exact trivial | refine ⟨rfl, ?_⟩))
          · refine x_iload d_M_get_117 rfl ?_
            refine x_iconst (v := nI 1) d_M_get_119 (by decide) ?_
            refine x_iadd d_M_get_120 ?_
            refine x_iconst (v := nI 4) d_M_get_121 (by decide) ?_
            refine x_irem d_M_get_122 (by first | decide | assumption) ?_
            refine x_iload_n d_M_get_123 rfl ?_
            rw [nI_add, nI_rem (by omega) (by omega)]
            refine x_icmp_ne (tgt := 131) d_M_get_124 (by decide) (fun d3 => ?_) (fun d3 => ?_)
            · have e2 : frh S fm w i = false := by
                unfold frh; rw [e1, decide_eq_false]; rfl
                rintro (q | q)
                · exact d2 (by rw [q])
                · exact d3 (by rw [q])
              rw [lst_miss e2, hH] at sC
              exact sC
            · have e2 : frh S fm w i = true := by unfold frh; rw [e1, decide_eq_true (Or.inr ((nI_eq (by omega) (by omega)).mp d3))]; rfl
              rw [lst_hit hH e2] at sC
              refine x_iload d_M_get_127 rfl ?_
              refine x_istore d_M_get_129 (by decide) ?_
              refine xV.loc (sC) (by repeat (first | exact trivial | refine ⟨rfl, ?_⟩))
    refine x_iload d_M_get_48 rfl ?_
    refine x_iload d_M_get_50 rfl ?_
    refine x_icmp_ge_f 167 d_M_get_52 (by decide) ((nI_ge (by omega) (by omega))) ?_
    refine x_aload_n d_M_get_55 rfl ?_
    refine xm_ref (k := 8) (j := 7) d_M_get_56 hs (by decide) rfl rfl (by decide) wf_M_32 rfl ?_
    refine x_iload d_M_get_59 rfl ?_
    refine xm_zld d_M_get_61 hs (by decide) rfl (by first | decide | assumption | omega) ?_
    refine x_if_ne (tgt := 161) d_M_get_62 (by decide) (fun c1 => ?_) (fun c1 => ?_)
    · first | refine x_incN d_M_get_161 rfl (by decide) ?_ | refine x_inc d_M_get_161 rfl (by decide) ?_
      refine x_goto (tgt := 48) d_M_get_164 (by decide) ?_
      refine xV.loc (skip (fun q => absurd q c1)) (by repeat (first | exact trivial | refine ⟨rfl, ?_⟩))
    · refine x_aload_n d_M_get_65 rfl ?_
      refine x_iload d_M_get_66 rfl ?_
      refine x_callV (M' := m_M_readable) (As := [_]) (fr' := 0) (wd' := 0) d_M_get_68 hs.1 rfl pl_M_readable rfl (Nat.le_of_ble_eq_true rfl) (by decide) (by decide) wc_M_readable wi_M wl_M_144 wm_M_readable we_M_readable (by decide) np_M_readable (Nat.le_of_ble_eq_true rfl) (fun q hq => by cases hq) (c_M_readable hs (by omega)) (fun k a h1 q => by cases q.1) (fun v h1 q => ?_)
      obtain ⟨q1, rfl⟩ := q
      cases q1
      refine x_if_ne (tgt := 77) d_M_get_71 (by decide) (fun c2 => ?_) (fun c2 => ?_)
      · have c2' : rdbl S i := Classical.byContradiction (fun q => c2 (bI_0.mpr q))
        have sB := sB c1 c2'
        refine x_aload_n d_M_get_77 rfl ?_
        refine x_iload d_M_get_78 rfl ?_
        refine x_callV (M' := m_M_doing) (As := [_]) (fr' := 0) (wd' := 0) d_M_get_80 hs.1 rfl pl_M_doing rfl (Nat.le_of_ble_eq_true rfl) (by decide) (by decide) wc_M_doing wi_M wl_M_148 wm_M_doing we_M_doing (by decide) np_M_doing (Nat.le_of_ble_eq_true rfl) (fun q hq => by cases hq) (c_M_doing hs _) (fun k a h1 q => by cases q.1) (fun v h1 q => ?_)
        obtain ⟨q1, rfl⟩ := q
        cases q1
        refine x_istore d_M_get_83 (by decide) ?_
        refine x_iload d_M_get_85 rfl ?_
        refine x_if_ne (tgt := 99) d_M_get_87 (by decide) (fun d1 => ?_) (fun d1 => ?_)
        · have e1 : frs S fm i = false := decide_eq_false (fun q => d1 (by rw [q.2.2.2]; rfl))
          rw [lst_miss e1] at sB
          refine xV.loc (sB) (by repeat (first | exact trivial | refine ⟨rfl, ?_⟩))
        · have d1' : dng S (nI i) 4 = 0 := (nI_eq (by omega) (by omega)).mp d1
          have e1 : frs S fm i = true := decide_eq_true ⟨hfi, c1, c2', d1'⟩
          refine x_iload d_M_get_90 rfl ?_
          cases hF : lst (frs S fm) i with
          | some j =>
            have hj := lst_lt hF
            rw [lst_some hF] at sB
            refine x_if_ge_t (tgt := 99) d_M_get_92 (by decide) ((nI_pos' (by omega))) ?_
            refine xV.loc (sB) (by repeat (first | exact trivial | refine ⟨rfl, ?_⟩))
          | none =>
            rw [lst_hit hF e1] at sB
            refine x_if_ge_f 99 d_M_get_92 (by decide) ((by decide)) ?_
            refine x_iload d_M_get_95 rfl ?_
            refine x_istore d_M_get_97 (by decide) ?_
            refine xV.loc (sB) (by repeat (first | exact trivial | refine ⟨rfl, ?_⟩))
      · refine x_goto (tgt := 161) d_M_get_74 (by decide) ?_
        first | refine x_incN d_M_get_161 rfl (by decide) ?_ | refine x_inc d_M_get_161 rfl (by decide) ?_
        refine x_goto (tgt := 48) d_M_get_164 (by decide) ?_
        refine xV.loc (skip (fun _ q => absurd q (bI_0.mp c2))) (by repeat (first | exact trivial | refine ⟨rfl, ?_⟩))
theorem xu_k {α : Type} (S : Nat → Nat → α) {k k' : Nat} (j : Nat) (v : α) (h : k' ≠ k) : xu S k j v k' = S k' := by
  funext i; exact if_neg (fun q => h q.1)
theorem pof_congr {S T : Nat → Nat → Int32} (h10 : S 10 = T 10) (h19 : S 0 19 = T 0 19) (p : Int32) : ∀ n, pof S p n = pof T p n
  | 0 => rfl
  | n + 1 => by unfold pof; rw [pof_congr h10 h19 p n, h10, h19]
theorem nds_congr {S T : Nat → Nat → Int32} (h1 : S 1 = T 1) (h12 : S 12 = T 12) (h10 : S 10 = T 10) (h20 : S 0 20 = T 0 20) (h19 : S 0 19 = T 0 19) (np t : Nat) : nds S np t = nds T np t := by
  unfold nds rns; rw [pof_congr h10 h19, h1, h12, h20]
def gch (md : Bool) (F H C : Option Nat) : Option Nat := match F with
  | none => C
  | some f => if md then some f else match H with
    | none => some f
    | some h => some h
def gput (S : Nat → Nat → Int32) (np w : Nat) (F : Option Nat) : Option Nat → (Nat → Nat → Int32)
  | none => S
  | some t => xu (xu (if F = none then xu S 0 23 (S 0 23 + nI 1) else S) 4 w (nI t)) 5 w (nds S np t)
abbrev tok (t : Nat) : Prop := t < 6 ∨ (8 ≤ t ∧ t < 11)
theorem gt_end (hs : MSh h0 y) {w fm to np : Nat} {md : Bool} (hw : w < 4) {F H C : Option Nat} (okF : ∀ j, F = some j → tok j) (okH : ∀ j, H = some j → tok j) (okC : ∀ j, C = some j → tok j) (hp : S 0 12 = nI np) (hnp : np ≤ 300) (hr : ¬ S 0 19 = 0) (hb : ¬ S 0 20 = 0) :
    xV l G 3 65 m_M_get 167 (gL y w fm to (bI (md = true)) to (oI F) (oI H) (oI C)) [] (mset y S h0) (fun r h' => r = .inl none ∧ h' = mset y (gput S np w F (gch md F H C)) h0) := by
  have hw4 : w < mlen 4 := hw
  have hw5 : w < mlen 5 := hw
  have tl : ∀ t, tok t → xV l G 3 65 m_M_get 201 (gL y w fm to (bI (md = true)) t (oI F) (oI H) (oI C)) [] (mset y S h0) (fun r h' => r = .inl none ∧ h' = mset y (gput S np w F (some t)) h0) := by
    intro t ht
    cases hF : F with
    | none =>
      refine x_iload d_M_get_201 rfl ?_
      refine x_if_ge_f 216 d_M_get_203 (by decide) ((by decide)) ?_
      refine x_aload_n d_M_get_206 rfl ?_
      refine x_dup d_M_get_207 rfl ?_
      refine xm_get (j := 23) d_M_get_208 hs rfl (by decide) wf_M_154 (fun _ _ => rfl) ?_
      refine x_iconst (v := nI 1) d_M_get_211 (by decide) ?_
      refine x_iadd d_M_get_212 ?_
      refine xm_put (j := 23) d_M_get_213 hs rfl (by decide) wf_M_154 (Or.inl rfl) (by first | rfl | assumption) rfl (fun _ _ => rfl) ?_
      refine x_aload_n d_M_get_216 rfl ?_
      refine xm_ref (k := 4) (j := 3) d_M_get_217 hs (by decide) rfl rfl (by decide) wf_M_19 rfl ?_
      refine x_iload_n d_M_get_220 rfl ?_
      refine x_iload d_M_get_221 rfl ?_
      refine xm_ast d_M_get_223 hs (by decide) rfl (by first | decide | assumption | omega) ?_
      refine x_aload_n d_M_get_224 rfl ?_
      refine xm_ref (k := 5) (j := 4) d_M_get_225 hs (by decide) rfl rfl (by decide) wf_M_22 rfl ?_
      refine x_iload_n d_M_get_228 rfl ?_
      refine x_aload_n d_M_get_229 rfl ?_
      refine x_iload d_M_get_230 rfl ?_
      refine x_callV (M' := m_M_needs) (As := [_]) (fr' := 2) (wd' := 44) d_M_get_232 hs.1 rfl pl_M_needs rfl (Nat.le_of_ble_eq_true rfl) (by decide) (by decide) wc_M_needs wi_M wl_M_157 wm_M_needs we_M_needs (by decide) np_M_needs (Nat.le_of_ble_eq_true rfl) (fun q hq => by cases hq) (c_M_needs hs ht ((if_neg (by omega)).trans ((if_neg (by omega)).trans hp)) hnp (by rw [xu_k _ _ _ (by decide), xu_j _ _ _ _ (by decide)]; exact hr) (by rw [xu_k _ _ _ (by decide), xu_j _ _ _ _ (by decide)]; exact hb)) (fun k a h1 q => by cases q.1) (fun v h1 q => ?_)
      obtain ⟨q1, rfl⟩ := q
      cases q1
      refine xm_ast d_M_get_235 hs (by decide) rfl (by first | decide | assumption | omega) ?_
      refine x_vret d_M_get_236 rfl ?_
      refine ⟨rfl, ?_⟩
      rw [nds_congr (T := S) (by rw [xu_k _ _ _ (by decide), xu_k _ _ _ (by decide)]) (by rw [xu_k _ _ _ (by decide), xu_k _ _ _ (by decide)]) (by rw [xu_k _ _ _ (by decide), xu_k _ _ _ (by decide)]) (by rw [xu_k _ _ _ (by decide), xu_j _ _ _ _ (by decide)]) (by rw [xu_k _ _ _ (by decide), xu_j _ _ _ _ (by decide)])]
      rfl
    | some f =>
      have := okF f hF
      refine x_iload d_M_get_201 rfl ?_
      refine x_if_ge_t (tgt := 216) d_M_get_203 (by decide) ((nI_pos' (by omega))) ?_
      refine x_aload_n d_M_get_216 rfl ?_
      refine xm_ref (k := 4) (j := 3) d_M_get_217 hs (by decide) rfl rfl (by decide) wf_M_19 rfl ?_
      refine x_iload_n d_M_get_220 rfl ?_
      refine x_iload d_M_get_221 rfl ?_
      refine xm_ast d_M_get_223 hs (by decide) rfl (by first | decide | assumption | omega) ?_
      refine x_aload_n d_M_get_224 rfl ?_
      refine xm_ref (k := 5) (j := 4) d_M_get_225 hs (by decide) rfl rfl (by decide) wf_M_22 rfl ?_
      refine x_iload_n d_M_get_228 rfl ?_
      refine x_aload_n d_M_get_229 rfl ?_
      refine x_iload d_M_get_230 rfl ?_
      refine x_callV (M' := m_M_needs) (As := [_]) (fr' := 2) (wd' := 44) d_M_get_232 hs.1 rfl pl_M_needs rfl (Nat.le_of_ble_eq_true rfl) (by decide) (by decide) wc_M_needs wi_M wl_M_157 wm_M_needs we_M_needs (by decide) np_M_needs (Nat.le_of_ble_eq_true rfl) (fun q hq => by cases hq) (c_M_needs hs ht ((if_neg (by omega)).trans hp) hnp (by rw [xu_k _ _ _ (by decide)]; exact hr) (by rw [xu_k _ _ _ (by decide)]; exact hb)) (fun k a h1 q => by cases q.1) (fun v h1 q => ?_)
      obtain ⟨q1, rfl⟩ := q
      cases q1
      refine xm_ast d_M_get_235 hs (by decide) rfl (by first | decide | assumption | omega) ?_
      refine x_vret d_M_get_236 rfl ?_
      refine ⟨rfl, ?_⟩
      rw [nds_congr (T := S) (by rw [xu_k _ _ _ (by decide)]) (by rw [xu_k _ _ _ (by decide)]) (by rw [xu_k _ _ _ (by decide)]) (by rw [xu_k _ _ _ (by decide)]) (by rw [xu_k _ _ _ (by decide)])]
      rfl
  have tl2 : ∀ o : Option Nat, (∀ j, o = some j → tok j) → xV l G 3 65 m_M_get 195 ((8, .int (oI o)) :: (gL y w fm to (bI (md = true)) 0 (oI F) (oI H) (oI C)).tail) [] (mset y S h0) (fun r h' => r = .inl none ∧ h' = mset y (gput S np w F o) h0) := by
    intro o ho
    cases o with
    | none =>
      refine x_iload d_M_get_195 rfl ?_
      refine x_if_ge_f 201 d_M_get_197 (by decide) ((by decide)) ?_
      refine x_vret d_M_get_200 rfl ?_
      exact ⟨rfl, rfl⟩
    | some t =>
      have ht := ho t rfl
      refine x_iload d_M_get_195 rfl ?_
      refine x_if_ge_t (tgt := 201) d_M_get_197 (by decide) ((nI_pos' (by omega))) ?_
      exact tl t ht
  cases F with
  | none =>
    have := tl2 C okC
    refine x_iload d_M_get_167 rfl ?_
    refine x_if_ge_f 177 d_M_get_169 (by decide) ((by decide)) ?_
    refine x_iload d_M_get_172 rfl ?_
    refine x_goto (tgt := 193) d_M_get_174 (by decide) ?_
    refine x_istore d_M_get_193 (by decide) ?_
    refine xV.loc (this) (by repeat (first | exact trivial | refine ⟨rfl, ?_⟩))
  | some f =>
    have := okF f rfl
    refine x_iload d_M_get_167 rfl ?_
    refine x_if_ge_t (tgt := 177) d_M_get_169 (by decide) ((nI_pos' (by omega))) ?_
    refine x_iload_n d_M_get_177 rfl ?_
    cases md with
    | true =>
      have := tl2 (some f) okF
      refine x_if_ne_t (tgt := 186) d_M_get_178 (by decide) ((by decide)) ?_
      refine x_iload d_M_get_186 rfl ?_
      refine x_goto (tgt := 193) d_M_get_188 (by decide) ?_
      refine x_istore d_M_get_193 (by decide) ?_
      refine xV.loc (this) (by repeat (first | exact trivial | refine ⟨rfl, ?_⟩))
    | false =>
      refine x_if_ne_f 186 d_M_get_178 (by decide) ((by decide)) ?_
      refine x_iload d_M_get_181 rfl ?_
      cases H with
      | none =>
        have := tl2 (some f) okF
        refine x_if_ge_f 191 d_M_get_183 (by decide) ((by decide)) ?_
        refine x_iload d_M_get_186 rfl ?_
        refine x_goto (tgt := 193) d_M_get_188 (by decide) ?_
        refine x_istore d_M_get_193 (by decide) ?_
        refine xV.loc (this) (by repeat (first | exact trivial | refine ⟨rfl, ?_⟩))
      | some hh =>
        have := okH hh rfl
        have := tl2 (some hh) okH
        refine x_if_ge_t (tgt := 191) d_M_get_183 (by decide) ((nI_pos' (by omega))) ?_
        refine x_iload d_M_get_191 rfl ?_
        refine x_istore d_M_get_193 (by decide) ?_
        refine xV.loc (this) (by repeat (first | exact trivial | refine ⟨rfl, ?_⟩))
def mdn (S : Nat → Nat → Int32) (c : Nat) : Bool := decide (∀ t, t < c → ¬ S 8 t = 0)
/-- get, for worker w -/
def gtS (S : Nat → Nat → Int32) (c r np w : Nat) : Nat → Nat → Int32 :=
  let md := mdn S c
  let fm := if md then 8 else 0
  let to := if md then 8 + r else c
  gput S np w (lst (frs S fm) to) (gch md (lst (frs S fm) to) (lst (frh S fm w) to) (sec S fm to))
theorem c_M_get (hs : MSh h0 y) {w c r np : Nat} (hw : w < 4) (hc : S 0 13 = nI c) (hc6 : c ≤ 6) (hr : S 0 19 = nI r) (hr1 : 1 ≤ r) (hr3 : r ≤ 3) (hp : S 0 12 = nI np) (hnp : np ≤ 300) (hb : ¬ S 0 20 = 0) :
    xVM l G 3 65 m_M_get [.ref y, .int (nI w)] (mset y S h0) (fun q h' => q = .inl none ∧ h' = mset y (gtS S c r np w) h0) := by
  have hr0 : ¬ S 0 19 = 0 := by rw [hr]; exact nI_ne0 hr1 (by omega)
  unfold xVM
  refine x_aload_n d_M_get_0 rfl ?_
  refine x_callV (M' := m_M_mapsDone) (As := []) (fr' := 0) (wd' := 0) d_M_get_1 hs.1 rfl pl_M_mapsDone rfl (Nat.le_of_ble_eq_true rfl) (by decide) (by decide) wc_M_mapsDone wi_M wl_M_140 wm_M_mapsDone we_M_mapsDone (by decide) np_M_mapsDone (Nat.le_of_ble_eq_true rfl) (fun q hq => by cases hq) (c_M_mapsDone hs hc hc6) (fun k a h1 q => by cases q.1) (fun v h1 q => ?_)
  obtain ⟨q1, rfl⟩ := q
  cases q1
  refine x_istore_n d_M_get_4 (by decide) ?_
  refine x_iload_n d_M_get_5 rfl ?_
  by_cases md : ∀ t, t < c → ¬ S 8 t = 0
  · have e1 : mdn S c = true := decide_eq_true md
    have e2 : gtS S c r np w = gput S np w (lst (frs S 8) (8 + r)) (gch true (lst (frs S 8) (8 + r)) (lst (frh S 8 w) (8 + r)) (sec S 8 (8 + r))) := by unfold gtS; rw [e1]; rfl
    rw [e2, bI_t md]
    refine x_if_eq_f 14 d_M_get_6 (by decide) ((by decide)) ?_
    refine x_bipush (v := nI 8) d_M_get_9 (by decide) ?_
    refine x_goto (tgt := 15) d_M_get_11 (by decide) ?_
    refine x_istore_n d_M_get_15 (by decide) ?_
    refine x_iload_n d_M_get_16 rfl ?_
    refine x_if_eq_f 30 d_M_get_17 (by decide) ((by decide)) ?_
    refine x_bipush (v := nI 8) d_M_get_20 (by decide) ?_
    refine x_aload_n d_M_get_22 rfl ?_
    refine xm_get (j := 19) d_M_get_23 hs rfl (by decide) wf_M_103 (fun _ _ => rfl) ?_
    refine x_iadd d_M_get_26 ?_
    refine x_goto (tgt := 34) d_M_get_27 (by decide) ?_
    refine x_istore d_M_get_34 (by decide) ?_
    refine x_iconst (v := (-1)) d_M_get_36 (by decide) ?_
    refine x_istore d_M_get_37 (by decide) ?_
    refine x_iconst (v := (-1)) d_M_get_39 (by decide) ?_
    refine x_istore d_M_get_40 (by decide) ?_
    refine x_iconst (v := (-1)) d_M_get_42 (by decide) ?_
    refine x_istore d_M_get_43 (by decide) ?_
    refine x_iload_n d_M_get_45 rfl ?_
    refine x_istore d_M_get_46 (by decide) ?_
    rw [hr, nI_add]
    have o1 : ∀ j, lst (frs S 8) (8 + r) = some j → tok j := fun j hj => by
      have h1 := lst_lt hj
      have h2 := of_decide_eq_true h1.2
      omega
    have o2 : ∀ j, lst (frh S 8 w) (8 + r) = some j → tok j := fun j hj => by
      have h1 := lst_lt hj
      have h2 := of_decide_eq_true (Bool.and_eq_true_iff.mp h1.2).1
      omega
    have o3 : ∀ j, sec S 8 (8 + r) = some j → tok j := fun j hj => by
      have h1 := sec_lt hj
      omega
    have lp := gt_loop (l := l) (G := G) hs hw (red := nI 1) (by omega) (gt_end hs (md := true) hw o1 o2 o3 hp hnp hr0 hb) r 8 (by omega) (Nat.le_refl 8)
    rw [lst_none (p := frs S 8) (fun t ht => decide_eq_false (fun q => by omega)), lst_none (p := frh S 8 w) (fun t ht => by unfold frh; rw [show frs S 8 t = false from decide_eq_false (fun q => by omega)]; rfl), sec_none (Nat.le_refl 8)] at lp
    refine xV.loc (lp) (by repeat (first | exact trivial | refine ⟨rfl, ?_⟩))
  · have e1 : mdn S c = false := decide_eq_false md
    have e2 : gtS S c r np w = gput S np w (lst (frs S 0) c) (gch false (lst (frs S 0) c) (lst (frh S 0 w) c) (sec S 0 c)) := by unfold gtS; rw [e1]; rfl
    rw [e2, bI_f md]
    refine x_if_eq_t (tgt := 14) d_M_get_6 (by decide) ((by decide)) ?_
    refine x_iconst (v := nI 0) d_M_get_14 (by decide) ?_
    refine x_istore_n d_M_get_15 (by decide) ?_
    refine x_iload_n d_M_get_16 rfl ?_
    refine x_if_eq_t (tgt := 30) d_M_get_17 (by decide) ((by decide)) ?_
    refine x_aload_n d_M_get_30 rfl ?_
    refine xm_get (j := 13) d_M_get_31 hs rfl (by decide) wf_M_79 (fun _ _ => rfl) ?_
    refine x_istore d_M_get_34 (by decide) ?_
    refine x_iconst (v := (-1)) d_M_get_36 (by decide) ?_
    refine x_istore d_M_get_37 (by decide) ?_
    refine x_iconst (v := (-1)) d_M_get_39 (by decide) ?_
    refine x_istore d_M_get_40 (by decide) ?_
    refine x_iconst (v := (-1)) d_M_get_42 (by decide) ?_
    refine x_istore d_M_get_43 (by decide) ?_
    refine x_iload_n d_M_get_45 rfl ?_
    refine x_istore d_M_get_46 (by decide) ?_
    rw [hc]
    have o1 : ∀ j, lst (frs S 0) c = some j → tok j := fun j hj => by
      have h1 := lst_lt hj
      omega
    have o2 : ∀ j, lst (frh S 0 w) c = some j → tok j := fun j hj => by
      have h1 := lst_lt hj
      omega
    have o3 : ∀ j, sec S 0 c = some j → tok j := fun j hj => by
      have h1 := sec_lt hj
      omega
    have lp := gt_loop (l := l) (G := G) hs hw (red := nI 0) (by omega) (gt_end hs (md := false) hw o1 o2 o3 hp hnp hr0 hb) c 0 (by omega) (Nat.le_refl 0)
    refine xV.loc (lp) (by repeat (first | exact trivial | refine ⟨rfl, ?_⟩))
end XM3
