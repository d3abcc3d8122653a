/-- the least worker that does task k, seen from the last one on -/
def ldr (S : Nat → Nat → Int32) (k : Int32) : Nat → Int32
  | 0 => -1
  | m + 1 => if S 4 (3 - m) = k then nI (3 - m) else ldr S k m
def w6 (m : Nat) : Int32 := if m < 4 then nI (3 - m) else -1
abbrev okt (mp t w : Int32) : Prop := rng t 0 (if mp = 0 then 2 else 5) ∧ rng w 0 3
def tsK (mp : Int32) (t : Nat) : Nat := if mp = 0 then t + 8 else t
def tsW (S : Nat → Nat → Int32) (k : Nat) : Int32 := if S 8 k = 0 then ldr S (nI k) 4 else S 9 k
def tsV (S : Nat → Nat → Int32) (c np : Nat) (mp : Int32) (t : Nat) (w : Int32) : Int32 :=
  if w = 0 then (if S 8 (tsK mp t) = 0 then (if tsW S (tsK mp t) < 0 then nI 0 else nI 1) else nI 2)
  else if w = nI 1 then (if mp = 0 ∧ ¬ (∀ t, t < c → ¬ S 8 t = 0) then nI 0 else nds S np (tsK mp t))
  else if w = nI 2 then (if mp = 0 then nI 0 else rns S t) else tsW S (tsK mp t)
def tsS (S : Nat → Nat → Int32) (c r np : Nat) (mp t w : Int32) : (Nat → Nat → Int32) × Int32 :=
  if okt mp t w then (if S 0 26 = 0 then (xu (xu S 0 14 (nI 0)) 0 14 (nI 3), nI 0) else if t < nI (if mp = 0 then r else c) then (xu S 0 14 (nI 0), tsV S c np mp t.toNatClampNeg w) else (xu (xu S 0 14 (nI 0)) 0 14 (nI 2), nI 0)) else (xu S 0 14 (nI 1), nI 0)
section XM14
variable {l : Launch} {G : xG} {h0 : xH} {y : Nat} {S : Nat → Nat → Int32}
theorem ts_bad (hs : MSh h0 y) {Q : xR → xH → Prop} {m r p : Int32} (q : Q (.inl (some (.int (nI 0)))) (mset y (xu S 0 14 (nI 1)) h0)) : xV l G 3 65 m_M_task 31 (lv_args 0 [.ref y, .int m, .int r, .int p]) [.ref y] (mset y S h0) Q := by
  refine x_iconst (v := nI 0) d_M_task_31 (by decide) ?_
  refine x_callV (M' := m_M_bad) (As := [_]) (fr' := 0) (wd' := 0) d_M_task_32 hs.1 rfl pl_M_bad rfl (Nat.le_of_ble_eq_true rfl) (by decide) (by decide) wc_M_bad wi_M wl_M_71 wm_M_bad we_M_bad (by decide) np_M_bad (Nat.le_of_ble_eq_true rfl) (fun q hq => by cases hq) (c_M_bad hs _) (fun k a h1 q => by cases q.1) (fun v h1 q => ?_)
  obtain ⟨q1, rfl⟩ := q
  cases q1
  rw [bI_t nI_0]
  refine x_if_eq_f 40 d_M_task_35 (by decide) ((by decide)) ?_
  refine x_iconst (v := nI 0) d_M_task_38 (by decide) ?_
  refine x_iret d_M_task_39 rfl (by first | rfl | assumption) ?_
  exact q
abbrev tsL (y k : Nat) (mp w : Int32) (t : Nat) (who : Int32) : List (Nat × Value) := [(5, .int who), (4, .int (nI k)), (0, .ref y), (1, .int mp), (2, .int (nI t)), (3, .int w)]
theorem ts_end (hs : MSh h0 y) {c r np t k : Nat} {mp w : Int32} (hT : TI S c r np) (hk : k = tsK mp t) (hkk : tok k) (htm : ¬ mp = 0 → t < 6) :
    xV l G 3 65 m_M_task 155 (tsL y k mp w t (tsW S k)) [] (mset y S h0) (fun q h' => q = .inl (some (.int (tsV S c np mp t w))) ∧ h' = mset y S h0) := by
  obtain ⟨hc, hc6, hr, hr1, hr3, hp, hnp, hb, htk, hgs⟩ := hT
  have hr0 : ¬ S 0 19 = 0 := by rw [hr]; exact nI_ne0 hr1 (by omega)
  have k8 : k < mlen 8 := by show k < 11; omega
  unfold tsV
  rw [← hk]
  by_cases w0 : w = 0
  · rw [if_pos w0]
    refine x_iload_n d_M_task_155 rfl ?_
    refine x_if_ne_f 184 d_M_task_156 (by decide) (w0) ?_
    refine x_aload_n d_M_task_159 rfl ?_
    refine xm_ref (k := 8) (j := 7) d_M_task_160 hs (by decide) rfl rfl (by decide) wf_M_32 rfl ?_
    refine x_iload d_M_task_163 rfl ?_
    refine xm_zld d_M_task_165 hs (by decide) rfl (by first | decide | assumption | omega) ?_
    by_cases d0 : S 8 k = 0
    · rw [if_pos d0]
      refine x_if_eq_t (tgt := 173) d_M_task_166 (by decide) (d0) ?_
      refine x_iload d_M_task_173 rfl ?_
      by_cases n0 : tsW S k < 0
      · rw [if_pos n0]
        refine x_if_lt_t (tgt := 182) d_M_task_175 (by decide) (n0) ?_
        refine x_iconst (v := nI 0) d_M_task_182 (by decide) ?_
        refine x_iret d_M_task_183 rfl (by first | rfl | assumption) ?_
        exact ⟨rfl, rfl⟩
      · rw [if_neg n0]
        refine x_if_lt_f 182 d_M_task_175 (by decide) (n0) ?_
        refine x_iconst (v := nI 1) d_M_task_178 (by decide) ?_
        refine x_goto (tgt := 183) d_M_task_179 (by decide) ?_
        refine x_iret d_M_task_183 rfl (by first | rfl | assumption) ?_
        exact ⟨rfl, rfl⟩
    · rw [if_neg d0]
      refine x_if_eq_f 173 d_M_task_166 (by decide) (d0) ?_
      refine x_iconst (v := nI 2) d_M_task_169 (by decide) ?_
      refine x_goto (tgt := 183) d_M_task_170 (by decide) ?_
      refine x_iret d_M_task_183 rfl (by first | rfl | assumption) ?_
      exact ⟨rfl, rfl⟩
  · rw [if_neg w0]
    refine x_iload_n d_M_task_155 rfl ?_
    refine x_if_ne_t (tgt := 184) d_M_task_156 (by decide) (w0) ?_
    refine x_iload_n d_M_task_184 rfl ?_
    refine x_iconst (v := nI 1) d_M_task_185 (by decide) ?_
    by_cases w1 : w = nI 1
    · rw [if_pos w1]
      refine x_icmp_ne_f 211 d_M_task_186 (by decide) (w1) ?_
      refine x_iload_n d_M_task_189 rfl ?_
      by_cases m0 : mp = 0
      · skip
        refine x_if_ne_f 200 d_M_task_190 (by decide) (m0) ?_
        refine x_aload_n d_M_task_193 rfl ?_
        refine x_callV (M' := m_M_mapsDone) (As := []) (fr' := 0) (wd' := 0) d_M_task_194 hs.1 rfl pl_M_mapsDone rfl (Nat.le_of_ble_eq_true rfl) (by decide) (by decide) wc_M_mapsDone wi_M wl_M_140 wm_M_mapsDone we_M_mapsDone (by decide) np_M_mapsDone (Nat.le_of_ble_eq_true rfl) (fun q hq => by cases hq) (c_M_mapsDone hs hc hc6) (fun k a h1 q => by cases q.1) (fun v h1 q => ?_)
        obtain ⟨q1, rfl⟩ := q
        cases q1
        by_cases md : ∀ t, t < c → ¬ S 8 t = 0
        · rw [bI_t md, if_neg (fun q => q.2 md)]
          refine x_if_eq_f 209 d_M_task_197 (by decide) ((by decide)) ?_
          refine x_aload_n d_M_task_200 rfl ?_
          refine x_iload d_M_task_201 rfl ?_
          refine x_callV (M' := m_M_needs) (As := [_]) (fr' := 2) (wd' := 44) d_M_task_203 hs.1 rfl pl_M_needs rfl (Nat.le_of_ble_eq_true rfl) (by decide) (by decide) wc_M_needs wi_M wl_M_157 wm_M_needs we_M_needs (by decide) np_M_needs (Nat.le_of_ble_eq_true rfl) (fun q hq => by cases hq) (c_M_needs hs hkk hp hnp hr0 hb) (fun k a h1 q => by cases q.1) (fun v h1 q => ?_)
          obtain ⟨q1, rfl⟩ := q
          cases q1
          refine x_goto (tgt := 210) d_M_task_206 (by decide) ?_
          refine x_iret d_M_task_210 rfl (by first | rfl | assumption) ?_
          exact ⟨rfl, rfl⟩
        · rw [bI_f md, if_pos ⟨m0, md⟩]
          refine x_if_eq_t (tgt := 209) d_M_task_197 (by decide) ((by decide)) ?_
          refine x_iconst (v := nI 0) d_M_task_209 (by decide) ?_
          refine x_iret d_M_task_210 rfl (by first | rfl | assumption) ?_
          exact ⟨rfl, rfl⟩
      · rw [if_neg (fun q => m0 q.1)]
        refine x_if_ne_t (tgt := 200) d_M_task_190 (by decide) (m0) ?_
        refine x_aload_n d_M_task_200 rfl ?_
        refine x_iload d_M_task_201 rfl ?_
        refine x_callV (M' := m_M_needs) (As := [_]) (fr' := 2) (wd' := 44) d_M_task_203 hs.1 rfl pl_M_needs rfl (Nat.le_of_ble_eq_true rfl) (by decide) (by decide) wc_M_needs wi_M wl_M_157 wm_M_needs we_M_needs (by decide) np_M_needs (Nat.le_of_ble_eq_true rfl) (fun q hq => by cases hq) (c_M_needs hs hkk hp hnp hr0 hb) (fun k a h1 q => by cases q.1) (fun v h1 q => ?_)
        obtain ⟨q1, rfl⟩ := q
        cases q1
        refine x_goto (tgt := 210) d_M_task_206 (by decide) ?_
        refine x_iret d_M_task_210 rfl (by first | rfl | assumption) ?_
        exact ⟨rfl, rfl⟩
    · rw [if_neg w1]
      refine x_icmp_ne_t (tgt := 211) d_M_task_186 (by decide) (w1) ?_
      refine x_iload_n d_M_task_211 rfl ?_
      refine x_iconst (v := nI 2) d_M_task_212 (by decide) ?_
      by_cases w2 : w = nI 2
      · rw [if_pos w2]
        refine x_icmp_ne_f 232 d_M_task_213 (by decide) (w2) ?_
        refine x_iload_n d_M_task_216 rfl ?_
        by_cases m0 : mp = 0
        · rw [if_pos m0]
          refine x_if_eq_t (tgt := 228) d_M_task_217 (by decide) (m0) ?_
          refine x_iconst (v := nI 0) d_M_task_228 (by decide) ?_
          refine x_goto (tgt := 234) d_M_task_229 (by decide) ?_
          refine x_iret d_M_task_234 rfl (by first | rfl | assumption) ?_
          exact ⟨rfl, rfl⟩
        · rw [if_neg m0]
          refine x_if_eq_f 228 d_M_task_217 (by decide) (m0) ?_
          refine x_aload_n d_M_task_220 rfl ?_
          refine x_iload_n d_M_task_221 rfl ?_
          refine x_callV (M' := m_M_runs) (As := [_]) (fr' := 0) (wd' := 0) d_M_task_222 hs.1 rfl pl_M_runs rfl (Nat.le_of_ble_eq_true rfl) (by decide) (by decide) wc_M_runs wi_M wl_M_134 wm_M_runs we_M_runs (by decide) np_M_runs (Nat.le_of_ble_eq_true rfl) (fun q hq => by cases hq) (c_M_runs hs (htm m0) hb) (fun k a h1 q => by cases q.1) (fun v h1 q => ?_)
          obtain ⟨q1, rfl⟩ := q
          cases q1
          refine x_goto (tgt := 234) d_M_task_225 (by decide) ?_
          refine x_iret d_M_task_234 rfl (by first | rfl | assumption) ?_
          exact ⟨rfl, rfl⟩
      · rw [if_neg w2]
        refine x_icmp_ne_t (tgt := 232) d_M_task_213 (by decide) (w2) ?_
        refine x_iload d_M_task_232 rfl ?_
        refine x_iret d_M_task_234 rfl (by first | rfl | assumption) ?_
        exact ⟨rfl, rfl⟩
theorem ts_mid (hs : MSh h0 y) {c r np t k : Nat} {mp w : Int32} (hT : TI S c r np) (hk : k = tsK mp t) (hkk : tok k) (htm : ¬ mp = 0 → t < 6) {who : Int32} :
    xV l G 3 65 m_M_task 92 [(4, .int (nI k)), (0, .ref y), (1, .int mp), (2, .int (nI t)), (3, .int w)] [] (mset y S h0) (fun q h' => q = .inl (some (.int (tsV S c np mp t w))) ∧ h' = mset y S h0) := by
  have fin := ts_end (l := l) (G := G) hs (w := w) hT hk hkk htm
  have k8 : k < mlen 8 := by show k < 11; omega
  have k9 : k < mlen 9 := by show k < 11; omega
  by_cases d0 : S 8 k = 0
  · rw [show tsW S k = ldr S (nI k) 4 from if_pos d0] at fin
    have lp : ∀ d m : Nat, m + d = 4 → xV l G 3 65 m_M_task 118 ((6, .int (w6 m)) :: tsL y k mp w t (ldr S (nI k) m)) [] (mset y S h0) (fun q h' => q = .inl (some (.int (tsV S c np mp t w))) ∧ h' = mset y S h0) := by
      intro d
      induction d with
      | zero =>
        intro m hm
        obtain rfl : m = 4 := by omega
        refine x_iload d_M_task_118 rfl ?_
        refine x_if_lt_t (tgt := 155) d_M_task_120 (by decide) ((by decide)) ?_
        refine xV.loc (fin) (by repeat (first | exact trivial | refine ⟨rfl, ?_⟩))
      | succ d ih =>
        intro m hm
        have nx := ih (m + 1) (by omega)
        have m4 : 3 - m < mlen 4 := by show 3 - m < 4; omega
        rw [show w6 m = nI (3 - m) from if_pos (by omega)]
        have dec : nI (3 - m) + Int32.ofInt (-1) = w6 (m + 1) := by
          obtain rfl | rfl | rfl | rfl : m = 0 ∨ m = 1 ∨ m = 2 ∨ m = 3 := by omega
          · rfl
          · rfl
          · rfl
          · rfl
        refine x_iload d_M_task_118 rfl ?_
        refine x_if_lt_f 155 d_M_task_120 (by decide) ((nI_pos (by omega))) ?_
        refine x_aload_n d_M_task_123 rfl ?_
        refine xm_ref (k := 8) (j := 7) d_M_task_124 hs (by decide) rfl rfl (by decide) wf_M_32 rfl ?_
        refine x_iload d_M_task_127 rfl ?_
        refine xm_zld d_M_task_129 hs (by decide) rfl (by first | decide | assumption | omega) ?_
        refine x_if_ne_f 155 d_M_task_130 (by decide) (d0) ?_
        refine x_aload_n d_M_task_133 rfl ?_
        refine xm_ref (k := 4) (j := 3) d_M_task_134 hs (by decide) rfl rfl (by decide) wf_M_19 rfl ?_
        refine x_iload d_M_task_137 rfl ?_
        refine xm_ald d_M_task_139 hs (by decide) rfl (by first | decide | assumption | omega) ?_
        refine x_iload d_M_task_140 rfl ?_
        refine x_icmp_ne (tgt := 149) d_M_task_142 (by decide) (fun c1 => ?_) (fun c1 => ?_)
        · rw [show ldr S (nI k) (m + 1) = ldr S (nI k) m from if_neg c1] at nx
          refine x_iinc d_M_task_149 rfl dec (by decide) ?_
          refine x_goto (tgt := 118) d_M_task_152 (by decide) ?_
          refine xV.loc (nx) (by repeat (first | exact trivial | refine ⟨rfl, ?_⟩))
        · rw [show ldr S (nI k) (m + 1) = nI (3 - m) from if_pos c1] at nx
          refine x_iload d_M_task_145 rfl ?_
          refine x_istore d_M_task_147 (by decide) ?_
          refine x_iinc d_M_task_149 rfl dec (by decide) ?_
          refine x_goto (tgt := 118) d_M_task_152 (by decide) ?_
          refine xV.loc (nx) (by repeat (first | exact trivial | refine ⟨rfl, ?_⟩))
    have this := lp 4 0 (by omega)
    refine x_aload_n d_M_task_92 rfl ?_
    refine xm_ref (k := 8) (j := 7) d_M_task_93 hs (by decide) rfl rfl (by decide) wf_M_32 rfl ?_
    refine x_iload d_M_task_96 rfl ?_
    refine xm_zld d_M_task_98 hs (by decide) rfl (by first | decide | assumption | omega) ?_
    refine x_if_eq_t (tgt := 112) d_M_task_99 (by decide) (d0) ?_
    refine x_iconst (v := (-1)) d_M_task_112 (by decide) ?_
    refine x_istore d_M_task_113 (by decide) ?_
    refine x_iconst (v := nI 3) d_M_task_115 (by decide) ?_
    refine x_istore d_M_task_116 (by decide) ?_
    refine xV.loc (this) (by repeat (first | exact trivial | refine ⟨rfl, ?_⟩))
  · rw [show tsW S k = S 9 k from if_neg d0] at fin
    refine x_aload_n d_M_task_92 rfl ?_
    refine xm_ref (k := 8) (j := 7) d_M_task_93 hs (by decide) rfl rfl (by decide) wf_M_32 rfl ?_
    refine x_iload d_M_task_96 rfl ?_
    refine xm_zld d_M_task_98 hs (by decide) rfl (by first | decide | assumption | omega) ?_
    refine x_if_eq_f 112 d_M_task_99 (by decide) (d0) ?_
    refine x_aload_n d_M_task_102 rfl ?_
    refine xm_ref (k := 9) (j := 8) d_M_task_103 hs (by decide) rfl rfl (by decide) wf_M_35 rfl ?_
    refine x_iload d_M_task_106 rfl ?_
    refine xm_ald d_M_task_108 hs (by decide) rfl (by first | decide | assumption | omega) ?_
    refine x_goto (tgt := 113) d_M_task_109 (by decide) ?_
    refine x_istore d_M_task_113 (by decide) ?_
    refine x_iconst (v := nI 3) d_M_task_115 (by decide) ?_
    refine x_istore d_M_task_116 (by decide) ?_
    refine x_iload d_M_task_118 rfl ?_
    refine x_if_lt_f 155 d_M_task_120 (by decide) ((by decide)) ?_
    refine x_aload_n d_M_task_123 rfl ?_
    refine xm_ref (k := 8) (j := 7) d_M_task_124 hs (by decide) rfl rfl (by decide) wf_M_32 rfl ?_
    refine x_iload d_M_task_127 rfl ?_
    refine xm_zld d_M_task_129 hs (by decide) rfl (by first | decide | assumption | omega) ?_
    refine x_if_ne_t (tgt := 155) d_M_task_130 (by decide) (d0) ?_
    refine xV.loc (fin) (by repeat (first | exact trivial | refine ⟨rfl, ?_⟩))
theorem c_M_task (hs : MSh h0 y) (mp t w : Int32) {c r np : Nat} (hT : ¬ S 0 26 = 0 → TI S c r np) : xVM l G 3 65 m_M_task [.ref y, .int mp, .int t, .int w] (mset y S h0) (fun q h' => q = .inl (some (.int (tsS S c r np mp t w).2)) ∧ h' = mset y (tsS S c r np mp t w).1 h0) := by
  have bad : ¬ okt mp t w → tsS S c r np mp t w = (xu S 0 14 (nI 1), nI 0) := fun q => if_neg q
  have main : okt mp t w → xV l G 3 65 m_M_task 27 (lv_args 0 [.ref y, .int mp, .int t, .int w]) [.ref y] (mset y S h0) (fun q h' => q = .inl (some (.int (tsS S c r np mp t w).2)) ∧ h' = mset y (tsS S c r np mp t w).1 h0) := by
    intro hok
    have e : tsS S c r np mp t w = if S 0 26 = 0 then (xu (xu S 0 14 (nI 0)) 0 14 (nI 3), nI 0) else if t < nI (if mp = 0 then r else c) then (xu S 0 14 (nI 0), tsV S c np mp t.toNatClampNeg w) else (xu (xu S 0 14 (nI 0)) 0 14 (nI 2), nI 0) := if_pos hok
    rw [e]
    refine x_iconst (v := nI 1) d_M_task_27 (by decide) ?_
    refine x_goto (tgt := 32) d_M_task_28 (by decide) ?_
    refine x_callV (M' := m_M_bad) (As := [_]) (fr' := 0) (wd' := 0) d_M_task_32 hs.1 rfl pl_M_bad rfl (Nat.le_of_ble_eq_true rfl) (by decide) (by decide) wc_M_bad wi_M wl_M_71 wm_M_bad we_M_bad (by decide) np_M_bad (Nat.le_of_ble_eq_true rfl) (fun q hq => by cases hq) (c_M_bad hs _) (fun k a h1 q => by cases q.1) (fun v h1 q => ?_)
    obtain ⟨q1, rfl⟩ := q
    cases q1
    rw [bI_f (by decide)]
    refine x_if_eq_t (tgt := 40) d_M_task_35 (by decide) ((by decide)) ?_
    refine x_aload_n d_M_task_40 rfl ?_
    refine xm_get (j := 26) d_M_task_41 hs rfl (by decide) wf_M_75 (fun _ _ => rfl) ?_
    rw [xu_j _ _ _ _ (by decide)]
    by_cases j0 : S 0 26 = 0
    · rw [if_pos j0]
      refine x_if_ne_f 53 d_M_task_44 (by decide) (j0) ?_
      refine x_aload_n d_M_task_47 rfl ?_
      refine x_iconst (v := nI 3) d_M_task_48 (by decide) ?_
      refine x_callV (M' := m_M_fail) (As := [_]) (fr' := 0) (wd' := 0) d_M_task_49 hs.1 rfl pl_M_fail rfl (Nat.le_of_ble_eq_true rfl) (by decide) (by decide) wc_M_fail wi_M wl_M_82 wm_M_fail we_M_fail (by decide) np_M_fail (Nat.le_of_ble_eq_true rfl) (fun q hq => by cases hq) (c_M_fail hs _) (fun k a h1 q => by cases q.1) (fun v h1 q => ?_)
      obtain ⟨q1, rfl⟩ := q
      cases q1
      refine x_iret d_M_task_52 rfl (by first | rfl | assumption) ?_
      exact ⟨rfl, rfl⟩
    · rw [if_neg j0]
      have hT1 : TI (xu S 0 14 (nI 0)) c r np := (hT j0).keep (xu_k _ _ _ (by decide)) (xu_j _ _ _ _ (by decide)) (xu_j _ _ _ _ (by decide)) (xu_j _ _ _ _ (by decide)) (xu_j _ _ _ _ (by decide)) (fun v _ => Or.inr (Or.inl (by rw [xu_k _ _ _ (by decide)])))
      have ev : ∀ T, tsV (xu S 0 14 (nI 0)) c np mp T w = tsV S c np mp T w := by
        intro T
        have e4 : ∀ k m, ldr (xu S 0 14 (nI 0)) k m = ldr S k m := by
          intro k m
          induction m with
          | zero => rfl
          | succ m ih => unfold ldr; rw [ih, xu_k _ _ _ (by decide)]
        have en : ∀ k, nds (xu S 0 14 (nI 0)) np k = nds S np k := fun k => nds_congr (xu_k _ _ _ (by decide)) (xu_k _ _ _ (by decide)) (xu_k _ _ _ (by decide)) (xu_j _ _ _ _ (by decide)) (xu_j _ _ _ _ (by decide)) np k
        have er : ∀ k, rns (xu S 0 14 (nI 0)) k = rns S k := by intro k; unfold rns; rw [xu_k _ _ _ (by decide), xu_j _ _ _ _ (by decide)]
        unfold tsV tsW
        rw [en, er, e4, xu_k _ _ _ (by decide), xu_k _ _ _ (by decide)]
      obtain ⟨T, rfl, -, hTb⟩ := rng_of (by decide) (by split <;> decide) hok.1
      obtain ⟨hc, hc6, hr, hr1, hr3, hp, hnp, hb, htk, hgs⟩ := hT j0
      have T5 : T ≤ 5 := by
        by_cases m0 : mp = 0
        · rw [if_pos m0] at hTb; omega
        · rw [if_neg m0] at hTb; omega
      rw [nI_clamp (by omega)]
      by_cases m0 : mp = 0
      · rw [if_pos m0]
        rw [if_pos m0] at hTb
        refine x_if_ne_t (tgt := 53) d_M_task_44 (by decide) (j0) ?_
        refine x_iload_n d_M_task_53 rfl ?_
        refine x_iload_n d_M_task_54 rfl ?_
        refine x_if_eq_t (tgt := 65) d_M_task_55 (by decide) (m0) ?_
        refine x_aload_n d_M_task_65 rfl ?_
        refine xm_get (j := 19) d_M_task_66 hs rfl (by decide) wf_M_103 (fun _ _ => rfl) ?_
        rw [xu_j _ _ _ _ (by decide), hr]
        by_cases lt : T < r
        · rw [if_pos (nI_lt lt (by omega)), ← ev]
          have mid := ts_mid (l := l) (G := G) hs (k := T + 8) (w := w) (who := 0) hT1 (mp := mp) (t := T) (by unfold tsK; rw [if_pos m0]) (by omega) (fun q => absurd m0 q)
          refine x_icmp_lt_t (tgt := 78) d_M_task_69 (by decide) ((nI_lt lt (by omega))) ?_
          refine x_iload_n d_M_task_78 rfl ?_
          refine x_if_eq_t (tgt := 86) d_M_task_79 (by decide) (m0) ?_
          refine x_iload_n d_M_task_86 rfl ?_
          refine x_bipush (v := nI 8) d_M_task_87 (by decide) ?_
          refine x_iadd d_M_task_89 ?_
          refine x_istore d_M_task_90 (by decide) ?_
          rw [nI_add]
          refine xV.loc (mid) (by repeat (first | exact trivial | refine ⟨rfl, ?_⟩))
        · rw [if_neg (nI_nlt (by omega) (by omega))]
          refine x_icmp_lt_f 78 d_M_task_69 (by decide) ((nI_nlt (by omega) (by omega))) ?_
          refine x_aload_n d_M_task_72 rfl ?_
          refine x_iconst (v := nI 2) d_M_task_73 (by decide) ?_
          refine x_callV (M' := m_M_fail) (As := [_]) (fr' := 0) (wd' := 0) d_M_task_74 hs.1 rfl pl_M_fail rfl (Nat.le_of_ble_eq_true rfl) (by decide) (by decide) wc_M_fail wi_M wl_M_82 wm_M_fail we_M_fail (by decide) np_M_fail (Nat.le_of_ble_eq_true rfl) (fun q hq => by cases hq) (c_M_fail hs _) (fun k a h1 q => by cases q.1) (fun v h1 q => ?_)
          obtain ⟨q1, rfl⟩ := q
          cases q1
          refine x_iret d_M_task_77 rfl (by first | rfl | assumption) ?_
          exact ⟨rfl, rfl⟩
      · rw [if_neg m0]
        refine x_if_ne_t (tgt := 53) d_M_task_44 (by decide) (j0) ?_
        refine x_iload_n d_M_task_53 rfl ?_
        refine x_iload_n d_M_task_54 rfl ?_
        refine x_if_eq_f 65 d_M_task_55 (by decide) (m0) ?_
        refine x_aload_n d_M_task_58 rfl ?_
        refine xm_get (j := 13) d_M_task_59 hs rfl (by decide) wf_M_79 (fun _ _ => rfl) ?_
        refine x_goto (tgt := 69) d_M_task_62 (by decide) ?_
        rw [xu_j _ _ _ _ (by decide), hc]
        by_cases lt : T < c
        · rw [if_pos (nI_lt lt (by omega)), ← ev]
          have mid := ts_mid (l := l) (G := G) hs (k := T) (w := w) (who := 0) hT1 (mp := mp) (t := T) (by unfold tsK; rw [if_neg m0]) (by omega) (fun q => by omega)
          refine x_icmp_lt_t (tgt := 78) d_M_task_69 (by decide) ((nI_lt lt (by omega))) ?_
          refine x_iload_n d_M_task_78 rfl ?_
          refine x_if_eq_f 86 d_M_task_79 (by decide) (m0) ?_
          refine x_iload_n d_M_task_82 rfl ?_
          refine x_goto (tgt := 90) d_M_task_83 (by decide) ?_
          refine x_istore d_M_task_90 (by decide) ?_
          refine xV.loc (mid) (by repeat (first | exact trivial | refine ⟨rfl, ?_⟩))
        · rw [if_neg (nI_nlt (by omega) (by omega))]
          refine x_icmp_lt_f 78 d_M_task_69 (by decide) ((nI_nlt (by omega) (by omega))) ?_
          refine x_aload_n d_M_task_72 rfl ?_
          refine x_iconst (v := nI 2) d_M_task_73 (by decide) ?_
          refine x_callV (M' := m_M_fail) (As := [_]) (fr' := 0) (wd' := 0) d_M_task_74 hs.1 rfl pl_M_fail rfl (Nat.le_of_ble_eq_true rfl) (by decide) (by decide) wc_M_fail wi_M wl_M_82 wm_M_fail we_M_fail (by decide) np_M_fail (Nat.le_of_ble_eq_true rfl) (fun q hq => by cases hq) (c_M_fail hs _) (fun k a h1 q => by cases q.1) (fun v h1 q => ?_)
          obtain ⟨q1, rfl⟩ := q
          cases q1
          refine x_iret d_M_task_77 rfl (by first | rfl | assumption) ?_
          exact ⟨rfl, rfl⟩
  have rest : ∀ b : Nat, b = (if mp = 0 then 2 else 5) → xV l G 3 65 m_M_task 12 (lv_args 0 [.ref y, .int mp, .int t, .int w]) [.int (nI b), .int (nI 0), .int t, .ref y] (mset y S h0) (fun q h' => q = .inl (some (.int (tsS S c r np mp t w).2)) ∧ h' = mset y (tsS S c r np mp t w).1 h0) := by
    intro b hb
    refine x_callS (M' := m_M_in) (As := [_, _, _]) (fr' := 0) (wd' := 0) d_M_task_12 pl_M_in rfl (Nat.le_of_ble_eq_true rfl) (by decide) (by decide) wc_M_in wi_M wl_M_67 ws_M_in (by decide) np_M_in (Nat.le_of_ble_eq_true rfl) (fun q hq => by cases hq) (c_M_in _ _ _) (fun k a h1 q => by cases q.1) (fun v h1 q => ?_)
    obtain ⟨q1, rfl⟩ := q
    cases q1
    by_cases h1 : rng t 0 b
    · rw [bI_t h1]
      refine x_if_eq_f 31 d_M_task_15 (by decide) ((by decide)) ?_
      refine x_iload_n d_M_task_18 rfl ?_
      refine x_iconst (v := nI 0) d_M_task_19 (by decide) ?_
      refine x_iconst (v := nI 3) d_M_task_20 (by decide) ?_
      refine x_callS (M' := m_M_in) (As := [_, _, _]) (fr' := 0) (wd' := 0) d_M_task_21 pl_M_in rfl (Nat.le_of_ble_eq_true rfl) (by decide) (by decide) wc_M_in wi_M wl_M_67 ws_M_in (by decide) np_M_in (Nat.le_of_ble_eq_true rfl) (fun q hq => by cases hq) (c_M_in _ _ _) (fun k a h1 q => by cases q.1) (fun v h1 q => ?_)
      obtain ⟨q1, rfl⟩ := q
      cases q1
      by_cases h2 : rng w 0 3
      · rw [bI_t h2]
        refine x_if_eq_f 31 d_M_task_24 (by decide) ((by decide)) ?_
        exact main ⟨by rw [← hb]; exact h1, h2⟩
      · rw [bad (fun q => h2 q.2), bI_f h2]
        refine x_if_eq_t (tgt := 31) d_M_task_24 (by decide) ((by decide)) ?_
        exact ts_bad hs ⟨rfl, rfl⟩
    · rw [bad (fun q => h1 (by rw [hb]; exact q.1)), bI_f h1]
      refine x_if_eq_t (tgt := 31) d_M_task_15 (by decide) ((by decide)) ?_
      exact ts_bad hs ⟨rfl, rfl⟩
  unfold xVM
  refine x_aload_n d_M_task_0 rfl ?_
  refine x_iload_n d_M_task_1 rfl ?_
  refine x_iconst (v := nI 0) d_M_task_2 (by decide) ?_
  refine x_iload_n d_M_task_3 rfl ?_
  by_cases m0 : mp = 0
  · skip
    refine x_if_eq_t (tgt := 11) d_M_task_4 (by decide) (m0) ?_
    refine x_iconst (v := nI 2) d_M_task_11 (by decide) ?_
    exact rest 2 (by rw [if_pos m0])
  · skip
    refine x_if_eq_f 11 d_M_task_4 (by decide) (m0) ?_
    refine x_iconst (v := nI 5) d_M_task_7 (by decide) ?_
    refine x_goto (tgt := 12) d_M_task_8 (by decide) ?_
    exact rest 5 (by rw [if_neg m0])
end XM14
