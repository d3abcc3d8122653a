section XM10
variable {l : Launch} {G : xG} {h0 : xH} {y : Nat} {S : Nat → Nat → Int32}
theorem tk_fin (hs : MSh h0 y) {o : (Nat → Nat → Int32) × Bool} {c r np : Nat} (hT : TI o.1 c r np) : xV l G 4 94 m_M_tick 140 [(1, .int (bI (o.2 = true))), (0, .ref y)] [] (mset y o.1 h0) (fun q h' => q = .inl none ∧ h' = mset y (tkE o c r np) h0) := by
  obtain ⟨hc, hc6, hr, hr1, hr3, hp, hnp, hb, htk, hgs⟩ := hT
  refine x_aload_n d_M_tick_140 rfl ?_
  refine xm_get (j := 14) d_M_tick_141 hs rfl (by decide) wf_M_64 (fun _ _ => rfl) ?_
  refine x_if_le (tgt := 148) d_M_tick_144 (by decide) (fun c1 => ?_) (fun c1 => ?_)
  · refine x_aload_n d_M_tick_148 rfl ?_
    refine x_callV (M' := m_M_mapsDone) (As := []) (fr' := 0) (wd' := 0) d_M_tick_149 hs.1 rfl pl_M_mapsDone rfl (Nat.le_of_ble_eq_true rfl) (by decide) (by decide) wc_M_mapsDone wi_M wl_M_140 wm_M_mapsDone we_M_mapsDone (by decide) np_M_mapsDone (Nat.le_of_ble_eq_true rfl) (fun q hq => by cases hq) (c_M_mapsDone hs hc hc6) (fun k a h1 q => by cases q.1) (fun v h1 q => ?_)
    obtain ⟨q1, rfl⟩ := q
    cases q1
    refine x_istore_n d_M_tick_152 (by decide) ?_
    refine x_iconst (v := nI 0) d_M_tick_153 (by decide) ?_
    refine x_istore_n d_M_tick_154 (by decide) ?_
    have e0 : ¬ ¬ o.1 0 14 ≤ 0 := fun q => q c1
    have lp : ∀ m i : Nat, i + m = r → xV l G 4 94 m_M_tick 155 [(3, .int (nI i)), (2, .int (bI ((∀ t, t < c → ¬ o.1 8 t = 0) ∧ (∀ q, q < i → ¬ o.1 8 (8 + q) = 0)))), (1, .int (bI (o.2 = true))), (0, .ref y)] [] (mset y o.1 h0) (fun q h' => q = .inl none ∧ h' = mset y (tkE o c r np) h0) := by
      intro m
      induction m with
      | zero =>
        intro i him
        obtain rfl : i = r := by omega
        refine x_iload_n d_M_tick_155 rfl ?_
        refine x_aload_n d_M_tick_156 rfl ?_
        refine xm_get (j := 19) d_M_tick_157 hs rfl (by decide) wf_M_103 (fun _ _ => rfl) ?_
        rw [hr]
        refine x_icmp_ge_t (tgt := 183) d_M_tick_160 (by decide) ((nI_le (by omega) (by omega))) ?_
        refine x_iload_n d_M_tick_183 rfl ?_
        by_cases al : (∀ t, t < c → ¬ o.1 8 t = 0) ∧ (∀ q, q < i → ¬ o.1 8 (8 + q) = 0)
        · rw [bI_t al]
          refine x_if_eq_f 192 d_M_tick_184 (by decide) ((by decide)) ?_
          refine x_aload_n d_M_tick_187 rfl ?_
          refine x_callV (M' := m_M_end) (As := []) (fr' := 2) (wd' := 50) d_M_tick_188 hs.1 rfl pl_M_end rfl (Nat.le_of_ble_eq_true rfl) (by decide) (by decide) wc_M_end wi_M wl_M_179 wm_M_end we_M_end (by decide) np_M_end (Nat.le_of_ble_eq_true rfl) (fun q hq => by cases hq) (c_M_end hs ⟨hc, hc6, hr, hr1, hr3, hp, hnp, hb, htk, hgs⟩) (fun k a h1 q => by cases q.1) (fun v h1 q => ?_)
          obtain ⟨q1, rfl⟩ := q
          cases q1
          refine x_vret d_M_tick_191 rfl ?_
          exact ⟨rfl, by unfold tkE; rw [if_neg e0, if_pos al]⟩
        · rw [bI_f al]
          have e1 : tkE o c i np = if o.2 = true ∨ idl o.1 4 = false then o.1 else xu o.1 0 14 (nI 2) := by unfold tkE; rw [if_neg e0, if_neg al]
          rw [e1]
          have lw : ∀ m2 v : Nat, v + m2 = 4 → xV l G 4 94 m_M_tick 194 [(3, .int (nI v)), (1, .int (bI (o.2 = true ∨ idl o.1 v = false))), (0, .ref y)] [] (mset y o.1 h0) (fun q h' => q = .inl none ∧ h' = mset y (if o.2 = true ∨ idl o.1 4 = false then o.1 else xu o.1 0 14 (nI 2)) h0) := by
            intro m2
            induction m2 with
            | zero =>
              intro v hv
              obtain rfl : v = 4 := by omega
              refine x_iload_n d_M_tick_194 rfl ?_
              refine x_iconst (v := nI 4) d_M_tick_195 (by decide) ?_
              refine x_icmp_ge_t (tgt := 216) d_M_tick_196 (by decide) ((nI_le (by omega) (by omega))) ?_
              refine x_iload_n d_M_tick_216 rfl ?_
              by_cases cc : o.2 = true ∨ idl o.1 4 = false
              · rw [bI_t cc, if_pos cc]
                refine x_if_ne_t (tgt := 225) d_M_tick_217 (by decide) ((by decide)) ?_
                refine x_vret d_M_tick_225 rfl ?_
                exact ⟨rfl, rfl⟩
              · rw [bI_f cc, if_neg cc]
                refine x_if_ne_f 225 d_M_tick_217 (by decide) ((by decide)) ?_
                refine x_aload_n d_M_tick_220 rfl ?_
                refine x_iconst (v := nI 2) d_M_tick_221 (by decide) ?_
                refine xm_put (j := 14) d_M_tick_222 hs rfl (by decide) wf_M_64 (Or.inl rfl) (by first | rfl | assumption) rfl (fun _ _ => rfl) ?_
                refine x_vret d_M_tick_225 rfl ?_
                exact ⟨rfl, rfl⟩
            | succ m2 ih2 =>
              intro v hv
              have hv4 : v < mlen 4 := by show v < 4; omega
              have nx := ih2 (v + 1) (by omega)
              refine x_iload_n d_M_tick_194 rfl ?_
              refine x_iconst (v := nI 4) d_M_tick_195 (by decide) ?_
              refine x_icmp_ge_f 216 d_M_tick_196 (by decide) ((nI_ge (by omega) (by omega))) ?_
              refine x_aload_n d_M_tick_199 rfl ?_
              refine xm_ref (k := 4) (j := 3) d_M_tick_200 hs (by decide) rfl rfl (by decide) wf_M_19 rfl ?_
              refine x_iload_n d_M_tick_203 rfl ?_
              refine xm_ald d_M_tick_204 hs (by decide) rfl (by first | decide | assumption | omega) ?_
              refine x_if_lt (tgt := 210) d_M_tick_205 (by decide) (fun c2 => ?_) (fun c2 => ?_)
              · have e2 : idl o.1 (v + 1) = idl o.1 v := by unfold idl; rw [decide_eq_true c2, Bool.and_true]; cases v <;> rfl
                rw [e2] at nx
                first | refine x_incN d_M_tick_210 rfl (by decide) ?_ | refine x_inc d_M_tick_210 rfl (by decide) ?_
                refine x_goto (tgt := 194) d_M_tick_213 (by decide) ?_
                refine xV.loc (nx) (by repeat (first | exact trivial | refine ⟨rfl, ?_⟩))
              · have e2 : idl o.1 (v + 1) = false := by rw [idl, decide_eq_false c2, Bool.and_false]
                rw [bI_t (Or.inr e2)] at nx
                refine x_iconst (v := nI 1) d_M_tick_208 (by decide) ?_
                refine x_istore_n d_M_tick_209 (by decide) ?_
                first | refine x_incN d_M_tick_210 rfl (by decide) ?_ | refine x_inc d_M_tick_210 rfl (by decide) ?_
                refine x_goto (tgt := 194) d_M_tick_213 (by decide) ?_
                refine xV.loc (nx) (by repeat (first | exact trivial | refine ⟨rfl, ?_⟩))
          refine x_if_eq_t (tgt := 192) d_M_tick_184 (by decide) ((by decide)) ?_
          refine x_iconst (v := nI 0) d_M_tick_192 (by decide) ?_
          refine x_istore_n d_M_tick_193 (by decide) ?_
          have := lw 4 0 (by omega)
          rw [show bI (o.2 = true ∨ idl o.1 0 = false) = bI (o.2 = true) by
            by_cases q : o.2 = true
            · rw [bI_t q, bI_t (Or.inl q)]
            · rw [bI_f q, bI_f (by rintro (z | z); exact q z; cases z)]] at this
          refine xV.loc (this) (by repeat (first | exact trivial | refine ⟨rfl, ?_⟩))
      | succ m ih =>
        intro i him
        have h8 : 8 + i < mlen 8 := by show 8 + i < 11; omega
        have nx := ih (i + 1) (by omega)
        refine x_iload_n d_M_tick_155 rfl ?_
        refine x_aload_n d_M_tick_156 rfl ?_
        refine xm_get (j := 19) d_M_tick_157 hs rfl (by decide) wf_M_103 (fun _ _ => rfl) ?_
        rw [hr]
        refine x_icmp_ge_f 183 d_M_tick_160 (by decide) ((nI_ge (by omega) (by omega))) ?_
        refine x_aload_n d_M_tick_163 rfl ?_
        refine xm_ref (k := 8) (j := 7) d_M_tick_164 hs (by decide) rfl rfl (by decide) wf_M_32 rfl ?_
        refine x_bipush (v := nI 8) d_M_tick_167 (by decide) ?_
        refine x_iload_n d_M_tick_169 rfl ?_
        refine x_iadd d_M_tick_170 ?_
        rw [nI_add]
        refine xm_zld d_M_tick_171 hs (by decide) rfl (by first | decide | assumption | omega) ?_
        refine x_if_ne (tgt := 177) d_M_tick_172 (by decide) (fun c2 => ?_) (fun c2 => ?_)
        · have e : bI ((∀ t, t < c → ¬ o.1 8 t = 0) ∧ (∀ q, q < i + 1 → ¬ o.1 8 (8 + q) = 0)) = bI ((∀ t, t < c → ¬ o.1 8 t = 0) ∧ (∀ q, q < i → ¬ o.1 8 (8 + q) = 0)) := by
            by_cases z : (∀ t, t < c → ¬ o.1 8 t = 0) ∧ (∀ q, q < i → ¬ o.1 8 (8 + q) = 0)
            · rw [bI_t z, bI_t ⟨z.1, fun q hq => by
                rcases Nat.lt_succ_iff_lt_or_eq.mp hq with h2 | h2
                · exact z.2 q h2
                · rw [h2]; exact c2⟩]
            · rw [bI_f z, bI_f (fun q => z ⟨q.1, fun j hj => q.2 j (by omega)⟩)]
          rw [e] at nx
          first | refine x_incN d_M_tick_177 rfl (by decide) ?_ | refine x_inc d_M_tick_177 rfl (by decide) ?_
          refine x_goto (tgt := 155) d_M_tick_180 (by decide) ?_
          refine xV.loc (nx) (by repeat (first | exact trivial | refine ⟨rfl, ?_⟩))
        · rw [bI_f (fun q => q.2 i (by omega) c2)] at nx
          refine x_iconst (v := nI 0) d_M_tick_175 (by decide) ?_
          refine x_istore_n d_M_tick_176 (by decide) ?_
          first | refine x_incN d_M_tick_177 rfl (by decide) ?_ | refine x_inc d_M_tick_177 rfl (by decide) ?_
          refine x_goto (tgt := 155) d_M_tick_180 (by decide) ?_
          refine xV.loc (nx) (by repeat (first | exact trivial | refine ⟨rfl, ?_⟩))
    have ez : ∀ i, i = 0 → bI ((∀ t, t < c → ¬ o.1 8 t = 0) ∧ (∀ q, q < i → ¬ o.1 8 (8 + q) = 0)) = bI (∀ t, t < c → ¬ o.1 8 t = 0) := by
      intro i hi
      by_cases z : ∀ t, t < c → ¬ o.1 8 t = 0
      · rw [bI_t z, bI_t ⟨z, fun q hq => by omega⟩]
      · rw [bI_f z, bI_f (fun q => z q.1)]
    have := lp r 0 (by omega)
    rw [ez 0 rfl] at this
    refine xV.loc (this) (by repeat (first | exact trivial | refine ⟨rfl, ?_⟩))
  · skip
    refine x_vret d_M_tick_147 rfl ?_
    exact ⟨rfl, by unfold tkE; rw [if_pos c1]⟩
theorem c_M_tick (hs : MSh h0 y) {c r np : Nat} (hT : TI S c r np) : xVM l G 4 94 m_M_tick [.ref y] (mset y S h0) (fun q h' => q = .inl none ∧ h' = mset y (tkS S c r np) h0) := by
  have lp : ∀ m w : Nat, w + m = 4 → xV l G 4 94 m_M_tick 14 [(2, .int (nI w)), (1, .int (bI ((tkL S c r np w).2 = true))), (0, .ref y)] [] (mset y (tkL S c r np w).1 h0) (fun q h' => q = .inl none ∧ h' = mset y (tkS S c r np) h0) := by
    intro m
    induction m with
    | zero =>
      intro w hw
      obtain rfl : w = 4 := by omega
      have fin := tk_fin (l := l) (G := G) hs (TI.keepL hT 4)
      rw [← show tkS S c r np = tkE (tkL S c r np 4) c r np from rfl] at fin
      refine x_iload_n d_M_tick_14 rfl ?_
      refine x_iconst (v := nI 4) d_M_tick_15 (by decide) ?_
      refine x_icmp_ge_t (tgt := 140) d_M_tick_16 (by decide) ((nI_le (by omega) (by omega))) ?_
      refine xV.loc (fin) (by repeat (first | exact trivial | refine ⟨rfl, ?_⟩))
    | succ m ih =>
      intro w hw
      have nx := ih (w + 1) (by omega)
      have hTw := TI.keepL hT w
      refine x_iload_n d_M_tick_14 rfl ?_
      refine x_iconst (v := nI 4) d_M_tick_15 (by decide) ?_
      refine x_icmp_ge_f 140 d_M_tick_16 (by decide) ((nI_ge (by omega) (by omega))) ?_
      refine x_aload_n d_M_tick_19 rfl ?_
      refine xm_get (j := 14) d_M_tick_20 hs rfl (by decide) wf_M_64 (fun _ _ => rfl) ?_
      refine x_if_ne (tgt := 140) d_M_tick_23 (by decide) (fun c1 => ?_) (fun c1 => ?_)
      · have fin := tk_fin (l := l) (G := G) hs (TI.keepL hT 4)
        have e := tkL_stop c1 (m + 1)
        rw [hw] at e
        rw [e] at fin
        rw [show tkS S c r np = tkE (tkL S c r np w) c r np by unfold tkS; rw [e]]
        refine xV.loc (fin) (by repeat (first | exact trivial | refine ⟨rfl, ?_⟩))
      · rw [tkL, if_neg (fun q => q c1)] at nx
        generalize hN : tkL S c r np w = o at nx hTw c1 ⊢
        obtain ⟨T, sm⟩ := o
        simp only at nx hTw c1 ⊢
        have w3 : w < mlen 3 := by show w < 4; omega
        have w4 : w < mlen 4 := by show w < 4; omega
        have w5 : w < mlen 5 := by show w < 4; omega
        have w6 : w < mlen 6 := by show w < 4; omega
        have w7 : w < mlen 7 := by show w < 4; omega
        have seg : ∀ U : Nat → Nat → Int32, TI U c r np → wk1 T c r np w sm = wk2 U np w sm → xV l G 4 94 m_M_tick 52 [(2, .int (nI w)), (1, .int (bI (sm = true))), (0, .ref y)] [] (mset y U h0) (fun q h' => q = .inl none ∧ h' = mset y (tkS S c r np) h0) := by
          intro U hU hw1
          rw [hw1] at nx
          by_cases u0 : U 4 w < 0
          · rw [show wk2 U np w sm = (U, sm) from if_pos u0] at nx
            dsimp only at nx
            refine x_aload_n d_M_tick_52 rfl ?_
            refine xm_ref (k := 4) (j := 3) d_M_tick_53 hs (by decide) rfl rfl (by decide) wf_M_19 rfl ?_
            refine x_iload_n d_M_tick_56 rfl ?_
            refine xm_ald d_M_tick_57 hs (by decide) rfl (by first | decide | assumption | omega) ?_
            refine x_if_ge_f 64 d_M_tick_58 (by decide) ((Int32.not_le.mpr u0)) ?_
            refine x_goto (tgt := 134) d_M_tick_61 (by decide) ?_
            first | refine x_incN d_M_tick_134 rfl (by decide) ?_ | refine x_inc d_M_tick_134 rfl (by decide) ?_
            refine x_goto (tgt := 14) d_M_tick_137 (by decide) ?_
            refine xV.loc (nx) (by repeat (first | exact trivial | refine ⟨rfl, ?_⟩))
          · have s94 : xV l G 4 94 m_M_tick 94 [(2, .int (nI w)), (1, .int (bI (sm = true))), (0, .ref y)] [.int (wkN U w)] (mset y U h0) (fun q h' => q = .inl none ∧ h' = mset y (tkS S c r np) h0) := by
              refine x_istore_n d_M_tick_94 (by decide) ?_
              refine x_aload_n d_M_tick_95 rfl ?_
              refine xm_ref (k := 5) (j := 4) d_M_tick_96 hs (by decide) rfl rfl (by decide) wf_M_22 rfl ?_
              refine x_iload_n d_M_tick_99 rfl ?_
              refine x_dup2 d_M_tick_100 rfl rfl ?_
              refine xm_ald d_M_tick_101 hs (by decide) rfl (by first | decide | assumption | omega) ?_
              refine x_iload_n d_M_tick_102 rfl ?_
              refine x_isub d_M_tick_103 ?_
              refine xm_ast d_M_tick_104 hs (by decide) rfl (by first | decide | assumption | omega) ?_
              refine x_aload_n d_M_tick_105 rfl ?_
              refine xm_ref (k := 6) (j := 5) d_M_tick_106 hs (by decide) rfl rfl (by decide) wf_M_25 rfl ?_
              refine x_iload_n d_M_tick_109 rfl ?_
              refine x_dup2 d_M_tick_110 rfl rfl ?_
              refine xm_ald d_M_tick_111 hs (by decide) rfl (by first | decide | assumption | omega) ?_
              rw [show xu U 5 w (U 5 w - wkN U w) 6 w = U 6 w by rw [xu_k _ _ _ (by decide)]]
              refine x_iload_n d_M_tick_112 rfl ?_
              refine x_iadd d_M_tick_113 ?_
              refine xm_ast d_M_tick_114 hs (by decide) rfl (by first | decide | assumption | omega) ?_
              rw [show xu (xu U 5 w (U 5 w - wkN U w)) 6 w (U 6 w + wkN U w) = wkU U w from rfl]
              refine x_aload_n d_M_tick_115 rfl ?_
              refine xm_ref (k := 5) (j := 4) d_M_tick_116 hs (by decide) rfl rfl (by decide) wf_M_22 rfl ?_
              refine x_iload_n d_M_tick_119 rfl ?_
              refine xm_ald d_M_tick_120 hs (by decide) rfl (by first | decide | assumption | omega) ?_
              rw [show wkU U w 5 w = U 5 w - wkN U w by unfold wkU; rw [xu_k _ _ _ (by decide), xu_s]]
              by_cases p0 : 0 < U 5 w - wkN U w
              · rw [show wk2 U np w sm = (wkU U w, sm) by unfold wk2; rw [if_neg u0, if_pos p0]] at nx
                dsimp only at nx
                refine x_if_le_f 127 d_M_tick_121 (by decide) ((Int32.not_le.mpr p0)) ?_
                refine x_goto (tgt := 134) d_M_tick_124 (by decide) ?_
                first | refine x_incN d_M_tick_134 rfl (by decide) ?_ | refine x_inc d_M_tick_134 rfl (by decide) ?_
                refine x_goto (tgt := 14) d_M_tick_137 (by decide) ?_
                refine xV.loc (nx) (by repeat (first | exact trivial | refine ⟨rfl, ?_⟩))
              · rw [show wk2 U np w sm = (fnS (wkU U w) np w (U 4 w).toNatClampNeg, true) by unfold wk2; rw [if_neg u0, if_neg p0]] at nx
                dsimp only at nx
                rw [bI_t rfl] at nx
                obtain ⟨hc, hc6, hr, hr1, hr3, hp, hnp, hb, htk, hgs⟩ := hU
                have hu4 : ∃ t, U 4 w = nI t ∧ (t < c ∨ (8 ≤ t ∧ t < 8 + r)) := by
                  rcases htk w (by omega) with q | q
                  · rw [q] at u0; exact absurd (by decide) u0
                  · exact q
                obtain ⟨t, ht, htr⟩ := hu4
                have hcl : (U 4 w).toNatClampNeg = t := by rw [ht]; exact nI_clamp (by omega)
                rw [hcl] at nx
                refine x_if_le_t (tgt := 127) d_M_tick_121 (by decide) ((Int32.not_lt.mp p0)) ?_
                refine x_iconst (v := nI 1) d_M_tick_127 (by decide) ?_
                refine x_istore_n d_M_tick_128 (by decide) ?_
                refine x_aload_n d_M_tick_129 rfl ?_
                refine x_iload_n d_M_tick_130 rfl ?_
                refine x_callV (M' := m_M_finish) (As := [_]) (fr' := 2) (wd' := 50) d_M_tick_131 hs.1 rfl pl_M_finish rfl (Nat.le_of_ble_eq_true rfl) (by decide) (by decide) wc_M_finish wi_M wl_M_176 wm_M_finish we_M_finish (by decide) np_M_finish (Nat.le_of_ble_eq_true rfl) (fun q hq => by cases hq) (c_M_finish hs (by omega) (by rw [wkU_k (by decide) (by decide)]; exact ht) (by omega) (by rw [wkU_k (by decide) (by decide)]; exact hp) hnp (by rw [wkU_k (by decide) (by decide)]; exact hr) hr1 hr3) (fun k a h1 q => by cases q.1) (fun v h1 q => ?_)
                obtain ⟨q1, rfl⟩ := q
                cases q1
                first | refine x_incN d_M_tick_134 rfl (by decide) ?_ | refine x_inc d_M_tick_134 rfl (by decide) ?_
                refine x_goto (tgt := 14) d_M_tick_137 (by decide) ?_
                refine xV.loc (nx) (by repeat (first | exact trivial | refine ⟨rfl, ?_⟩))
            refine x_aload_n d_M_tick_52 rfl ?_
            refine xm_ref (k := 4) (j := 3) d_M_tick_53 hs (by decide) rfl rfl (by decide) wf_M_19 rfl ?_
            refine x_iload_n d_M_tick_56 rfl ?_
            refine xm_ald d_M_tick_57 hs (by decide) rfl (by first | decide | assumption | omega) ?_
            refine x_if_ge_t (tgt := 64) d_M_tick_58 (by decide) ((Int32.not_lt.mp u0)) ?_
            refine x_aload_n d_M_tick_64 rfl ?_
            refine xm_ref (k := 3) (j := 2) d_M_tick_65 hs (by decide) rfl rfl (by decide) wf_M_16 rfl ?_
            refine x_iload_n d_M_tick_68 rfl ?_
            refine xm_ald d_M_tick_69 hs (by decide) rfl (by first | decide | assumption | omega) ?_
            refine x_aload_n d_M_tick_70 rfl ?_
            refine xm_ref (k := 5) (j := 4) d_M_tick_71 hs (by decide) rfl rfl (by decide) wf_M_22 rfl ?_
            refine x_iload_n d_M_tick_74 rfl ?_
            refine xm_ald d_M_tick_75 hs (by decide) rfl (by first | decide | assumption | omega) ?_
            refine x_icmp_ge (tgt := 88) d_M_tick_76 (by decide) (fun c5 => ?_) (fun c5 => ?_)
            · rw [show wkN U w = U 5 w from if_pos c5] at s94
              refine x_aload_n d_M_tick_88 rfl ?_
              refine xm_ref (k := 5) (j := 4) d_M_tick_89 hs (by decide) rfl rfl (by decide) wf_M_22 rfl ?_
              refine x_iload_n d_M_tick_92 rfl ?_
              refine xm_ald d_M_tick_93 hs (by decide) rfl (by first | decide | assumption | omega) ?_
              refine xV.loc (s94) (by repeat (first | exact trivial | refine ⟨rfl, ?_⟩))
            · rw [show wkN U w = U 3 w from if_neg c5] at s94
              refine x_aload_n d_M_tick_79 rfl ?_
              refine xm_ref (k := 3) (j := 2) d_M_tick_80 hs (by decide) rfl rfl (by decide) wf_M_16 rfl ?_
              refine x_iload_n d_M_tick_83 rfl ?_
              refine xm_ald d_M_tick_84 hs (by decide) rfl (by first | decide | assumption | omega) ?_
              refine x_goto (tgt := 94) d_M_tick_85 (by decide) ?_
              refine xV.loc (s94) (by repeat (first | exact trivial | refine ⟨rfl, ?_⟩))
        refine x_aload_n d_M_tick_26 rfl ?_
        refine xm_ref (k := 7) (j := 6) d_M_tick_27 hs (by decide) rfl rfl (by decide) wf_M_28 rfl ?_
        refine x_iload_n d_M_tick_30 rfl ?_
        refine xm_zld d_M_tick_31 hs (by decide) rfl (by first | decide | assumption | omega) ?_
        refine x_if_ne (tgt := 38) d_M_tick_32 (by decide) (fun c2 => ?_) (fun c2 => ?_)
        · refine x_aload_n d_M_tick_38 rfl ?_
          refine xm_ref (k := 4) (j := 3) d_M_tick_39 hs (by decide) rfl rfl (by decide) wf_M_19 rfl ?_
          refine x_iload_n d_M_tick_42 rfl ?_
          refine xm_ald d_M_tick_43 hs (by decide) rfl (by first | decide | assumption | omega) ?_
          refine x_if_ge (tgt := 52) d_M_tick_44 (by decide) (fun c3 => ?_) (fun c3 => ?_)
          · have sg := seg T hTw (by unfold wk1; rw [if_neg c2, if_neg (Int32.not_lt.mpr c3)])
            refine xV.loc (sg) (by repeat (first | exact trivial | refine ⟨rfl, ?_⟩))
          · have sg := seg (gtS T c r np w) hTw.get (by unfold wk1; rw [if_neg c2, if_pos (Int32.not_le.mp c3)])
            obtain ⟨hc, hc6, hr, hr1, hr3, hp, hnp, hb, htk, hgs⟩ := hTw
            refine x_aload_n d_M_tick_47 rfl ?_
            refine x_iload_n d_M_tick_48 rfl ?_
            refine x_callV (M' := m_M_get) (As := [_]) (fr' := 3) (wd' := 65) d_M_tick_49 hs.1 rfl pl_M_get rfl (Nat.le_of_ble_eq_true rfl) (by decide) (by decide) wc_M_get wi_M wl_M_173 wm_M_get we_M_get (by decide) np_M_get (Nat.le_of_ble_eq_true rfl) (fun q hq => by cases hq) (c_M_get hs (by omega) hc hc6 hr hr1 hr3 hp hnp hb) (fun k a h1 q => by cases q.1) (fun v h1 q => ?_)
            obtain ⟨q1, rfl⟩ := q
            cases q1
            refine xV.loc (sg) (by repeat (first | exact trivial | refine ⟨rfl, ?_⟩))
        · rw [show wk1 T c r np w sm = (T, sm) from if_pos c2] at nx
          dsimp only at nx
          refine x_goto (tgt := 134) d_M_tick_35 (by decide) ?_
          first | refine x_incN d_M_tick_134 rfl (by decide) ?_ | refine x_inc d_M_tick_134 rfl (by decide) ?_
          refine x_goto (tgt := 14) d_M_tick_137 (by decide) ?_
          refine xV.loc (nx) (by repeat (first | exact trivial | refine ⟨rfl, ?_⟩))
  unfold xVM
  refine x_iconst (v := nI 0) d_M_tick_0 (by decide) ?_
  refine x_istore_n d_M_tick_1 (by decide) ?_
  refine x_aload_n d_M_tick_2 rfl ?_
  refine x_dup d_M_tick_3 rfl ?_
  refine xm_get (j := 21) d_M_tick_4 hs rfl (by decide) wf_M_170 (fun _ _ => rfl) ?_
  refine x_iconst (v := nI 1) d_M_tick_7 (by decide) ?_
  refine x_iadd d_M_tick_8 ?_
  refine xm_put (j := 21) d_M_tick_9 hs rfl (by decide) wf_M_170 (Or.inl rfl) (by first | rfl | assumption) rfl (fun _ _ => rfl) ?_
  refine x_iconst (v := nI 0) d_M_tick_12 (by decide) ?_
  refine x_istore_n d_M_tick_13 (by decide) ?_
  have := lp 4 0 (by omega)
  rw [show tkL S c r np 0 = (xu S 0 21 (S 0 21 + nI 1), false) from rfl, bI_f (fun q => Bool.false_ne_true q)] at this
  dsimp only at this
  refine xV.loc (this) (by repeat (first | exact trivial | refine ⟨rfl, ?_⟩))
/-- the ticks of a run -/
def rnL (S : Nat → Nat → Int32) (c r np : Nat) : Nat → (Nat → Nat → Int32) × Nat
  | 0 => (S, 0)
  | n + 1 => if (rnL S c r np n).1 0 26 = 0 ∨ ¬ (rnL S c r np n).1 0 14 = 0 then rnL S c r np n else (tkS (rnL S c r np n).1 c r np, (rnL S c r np n).2 + 1)
theorem TI.run {S : Nat → Nat → Int32} {c r np : Nat} (h : TI S c r np) : ∀ n, TI (rnL S c r np n).1 c r np
  | 0 => h
  | n + 1 => by
    have ih := TI.run h n
    rw [rnL]
    split
    · exact ih
    · dsimp only
      exact ih.tick
theorem rnL_stop {S : Nat → Nat → Int32} {c r np n : Nat} (h : (rnL S c r np n).1 0 26 = 0 ∨ ¬ (rnL S c r np n).1 0 14 = 0) : ∀ m, rnL S c r np (n + m) = rnL S c r np n
  | 0 => rfl
  | m + 1 => by
    have ih := rnL_stop h m
    rw [show n + (m + 1) = (n + m) + 1 from rfl, rnL, ih, if_pos h]
end XM10
