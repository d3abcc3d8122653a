abbrev lwL (G : xG) (z i : Nat) : List (Nat × Value) := [(4, .int (nI i)), (0, .ref (xGb G)), (1, .ref z), (2, .ref (z + 75)), (3, .ref (z + 91))]
theorem inc5 {i : Nat} : nI i + Int32.ofInt 5 = nI (i + 5) := by rw [show Int32.ofInt 5 = nI 5 from rfl, nI_add]
section XX2
variable {l : Launch} {G : xG} {z : Nat}
theorem cdb_chunk : ∀ k, 1 ≤ cd_chunk k ∧ cd_chunk k ≤ 3 := fun k => by unfold cd_chunk; split <;> omega
theorem cdb_worker : ∀ k, 1 ≤ cd_worker k ∧ cd_worker k ≤ 3 := fun k => by unfold cd_worker; omega
theorem cdb_speed : ∀ k, 1 ≤ cd_speed k ∧ cd_speed k ≤ 3 := fun k => by unfold cd_speed; omega
theorem cdb_begin : ∀ k, 1 ≤ cd_begin k ∧ cd_begin k ≤ 3 := fun k => by unfold cd_begin; split <;> omega
theorem cdb_run : ∀ k, 1 ≤ cd_run k ∧ cd_run k ≤ 3 := fun k => by unfold cd_run; split <;> (first | omega | (split <;> omega))
theorem cdb_stop : ∀ k, 1 ≤ cd_stop k ∧ cd_stop k ≤ 3 := fun k => by unfold cd_stop; omega
theorem cdb_output : ∀ k, 1 ≤ cd_output k ∧ cd_output k ≤ 3 := fun k => by unfold cd_output; split <;> omega
theorem cdb_find : ∀ k, 1 ≤ cd_find k ∧ cd_find k ≤ 3 := fun k => by unfold cd_find; omega
theorem cdb_task : ∀ k, 1 ≤ cd_task k ∧ cd_task k ≤ 3 := fun k => by unfold cd_task; split <;> (first | omega | (split <;> omega))
theorem cdb_ofWorker : ∀ k, 1 ≤ cd_ofWorker k ∧ cd_ofWorker k ≤ 3 := fun k => by unfold cd_ofWorker; omega
theorem k_chunk (hnt : l.stackTraces = false) (hL : xGL G ≤ 2560) {i n : Nat} (hi : i + 5 ≤ xGL G) {H : xH} {P : xR → xH → Prop} (hS : LX z n H) (nx : ∀ H', LX z (n + 1) H' → xV l G 11 388 m_L_law 23 (lwL G z (i + 5)) [] H' P) : xV l G 11 388 m_L_law 100 (lwL G z i) [] H P := by
  obtain ⟨C, b, tk, c, sz, S, h0, rfl, hB, hR, hz⟩ := hS
  have hs : CSh (mset (z + 75) S h0) z := hB.1
  first | refine x_aload_n d_L_law_100 rfl ?_ | refine x_aloadq_n d_L_law_100 rfl ?_
  first | refine x_aload_n d_L_law_101 rfl ?_ | refine x_aloadq_n d_L_law_101 rfl ?_
  refine x_iload d_L_law_102 rfl ?_
  refine x_iconst (v := nI 1) d_L_law_104 (by decide) ?_
  refine x_iadd d_L_law_105 ?_
  first | refine x_sldA d_L_law_106 (by omega) hL ?_ | refine x_sld0 d_L_law_106 (by omega) hL ?_
  refine x_i2l d_L_law_107 ?_
  refine x_bipush (v := nI 32) d_L_law_108 (by decide) ?_
  refine x_lshl d_L_law_110 ?_
  first | refine x_aload_n d_L_law_111 rfl ?_ | refine x_aloadq_n d_L_law_111 rfl ?_
  refine x_iload d_L_law_112 rfl ?_
  refine x_iconst (v := nI 2) d_L_law_114 (by decide) ?_
  refine x_iadd d_L_law_115 ?_
  first | refine x_sldA d_L_law_116 (by omega) hL ?_ | refine x_sld0 d_L_law_116 (by omega) hL ?_
  refine x_i2l d_L_law_117 ?_
  refine x_ldc2 (v := (4294967295)) d_L_law_118 wv_L_59 ?_
  refine x_land d_L_law_121 ?_
  refine x_lor d_L_law_122 ?_
  first | refine x_aload_n d_L_law_123 rfl ?_ | refine x_aloadq_n d_L_law_123 rfl ?_
  refine x_iload d_L_law_124 rfl ?_
  refine x_iconst (v := nI 3) d_L_law_126 (by decide) ?_
  refine x_iadd d_L_law_127 ?_
  first | refine x_sldA d_L_law_128 (by omega) hL ?_ | refine x_sld0 d_L_law_128 (by omega) hL ?_
  first | refine x_aload_n d_L_law_129 rfl ?_ | refine x_aloadq_n d_L_law_129 rfl ?_
  refine x_iload d_L_law_130 rfl ?_
  refine x_iconst (v := nI 4) d_L_law_132 (by decide) ?_
  refine x_iadd d_L_law_133 ?_
  first | refine x_sldA d_L_law_134 (by omega) hL ?_ | refine x_sld0 d_L_law_134 (by omega) hL ?_
  first | refine x_aload_n d_L_law_135 rfl ?_ | refine x_aloadq_n d_L_law_135 rfl ?_
  refine x_callSH (M' := m_L_chunk) (As := [_, _, _, _, _]) (fr' := 9) (wd' := 148) d_L_law_136 pl_L_chunk (Nat.le_of_ble_eq_true rfl) (by decide) (by decide) wc_L_chunk wi_L wl_L_61 ws_L_chunk (by decide) np_L_chunk (Nat.le_of_ble_eq_true rfl) (w_chunk (a := z + 91) hs.A (e_chunk hnt hs hR hz _ _ _) (fun v h1 q => XQ_I hB q) (fun k p h1 q => XQ_K q)) (fun k e h1 q => wP_no q) (fun v h1 q => ?_)
  obtain ⟨j, e, g1⟩ := wPX hB cdb_chunk q
  cases e
  obtain ⟨C2, b2, tk2, c2, sz2, h2, rfl, hB2, hR2, hz2, e14, j3, hJ⟩ := g1
  rw [← mc_swap (Nat.le_refl _) S C2 b2 tk2 h2]
  have hm : MSh (cset z C2 b2 tk2 h2) (z + 75) := hB2.2.1.cset (Nat.le_refl _) C2 b2 tk2
  refine x_istore d_L_law_139 (by decide) ?_
  first | refine x_aload_n d_L_law_141 rfl ?_ | refine x_aloadq_n d_L_law_141 rfl ?_
  first | refine x_aload_n d_L_law_142 rfl ?_ | refine x_aloadq_n d_L_law_142 rfl ?_
  refine x_iload d_L_law_143 rfl ?_
  refine x_iconst (v := nI 1) d_L_law_145 (by decide) ?_
  refine x_iadd d_L_law_146 ?_
  first | refine x_sldA d_L_law_147 (by omega) hL ?_ | refine x_sld0 d_L_law_147 (by omega) hL ?_
  refine x_i2l d_L_law_148 ?_
  refine x_bipush (v := nI 32) d_L_law_149 (by decide) ?_
  refine x_lshl d_L_law_151 ?_
  first | refine x_aload_n d_L_law_152 rfl ?_ | refine x_aloadq_n d_L_law_152 rfl ?_
  refine x_iload d_L_law_153 rfl ?_
  refine x_iconst (v := nI 2) d_L_law_155 (by decide) ?_
  refine x_iadd d_L_law_156 ?_
  first | refine x_sldA d_L_law_157 (by omega) hL ?_ | refine x_sld0 d_L_law_157 (by omega) hL ?_
  refine x_i2l d_L_law_158 ?_
  refine x_ldc2 (v := (4294967295)) d_L_law_159 wv_L_59 ?_
  refine x_land d_L_law_162 ?_
  refine x_lor d_L_law_163 ?_
  first | refine x_aload_n d_L_law_164 rfl ?_ | refine x_aloadq_n d_L_law_164 rfl ?_
  refine x_iload d_L_law_165 rfl ?_
  refine x_iconst (v := nI 3) d_L_law_167 (by decide) ?_
  refine x_iadd d_L_law_168 ?_
  first | refine x_sldA d_L_law_169 (by omega) hL ?_ | refine x_sld0 d_L_law_169 (by omega) hL ?_
  first | refine x_aload_n d_L_law_170 rfl ?_ | refine x_aloadq_n d_L_law_170 rfl ?_
  refine x_iload d_L_law_171 rfl ?_
  refine x_iconst (v := nI 4) d_L_law_173 (by decide) ?_
  refine x_iadd d_L_law_174 ?_
  first | refine x_sldA d_L_law_175 (by omega) hL ?_ | refine x_sld0 d_L_law_175 (by omega) hL ?_
  refine x_callV (M' := m_M_chunk) (As := [_, _, _]) (fr' := 1) (wd' := 22) d_L_law_176 hm.1 rfl pl_M_chunk rfl (Nat.le_of_ble_eq_true rfl) (by decide) (by decide) wc_M_chunk wi_M wl_L_66 wm_M_chunk we_M_chunk (by decide) np_M_chunk (Nat.le_of_ble_eq_true rfl) (fun q hq => by cases hq) (c_M_chunk hm _ _ _ hR.1.1 hR.1.2.1) (fun k a h1 q => by cases q.1) (fun v h1 q => ?_)
  obtain ⟨q1, rfl⟩ := q
  cases q1
  refine x_istore d_L_law_179 (by decide) ?_
  refine x_goto (tgt := 643) d_L_law_181 (by decide) ?_
  refine x_iinc (v := nI (i + 5)) d_L_law_643 rfl inc5 (by decide) ?_
  refine x_goto (tgt := 23) d_L_law_646 (by decide) ?_
  rw [mc_swap (Nat.le_refl _)]
  refine xV.loc (nx _ (LX.mk hB2 hR2 hz2)) (by repeat (first | exact trivial | refine ⟨rfl, ?_⟩))
theorem k_worker (hnt : l.stackTraces = false) (hL : xGL G ≤ 2560) {i n : Nat} (hi : i + 5 ≤ xGL G) {H : xH} {P : xR → xH → Prop} (hS : LX z n H) (nx : ∀ H', LX z (n + 1) H' → xV l G 11 388 m_L_law 23 (lwL G z (i + 5)) [] H' P) : xV l G 11 388 m_L_law 184 (lwL G z i) [] H P := by
  obtain ⟨C, b, tk, c, sz, S, h0, rfl, hB, hR, hz⟩ := hS
  have hs : CSh (mset (z + 75) S h0) z := hB.1
  by_cases hf : xGx G (i + 2) = 0
  · skip
    first | refine x_aload_n d_L_law_184 rfl ?_ | refine x_aloadq_n d_L_law_184 rfl ?_
    first | refine x_aload_n d_L_law_185 rfl ?_ | refine x_aloadq_n d_L_law_185 rfl ?_
    refine x_iload d_L_law_186 rfl ?_
    refine x_iconst (v := nI 1) d_L_law_188 (by decide) ?_
    refine x_iadd d_L_law_189 ?_
    first | refine x_sldA d_L_law_190 (by omega) hL ?_ | refine x_sld0 d_L_law_190 (by omega) hL ?_
    first | refine x_aload_n d_L_law_191 rfl ?_ | refine x_aloadq_n d_L_law_191 rfl ?_
    refine x_iload d_L_law_192 rfl ?_
    refine x_iconst (v := nI 2) d_L_law_194 (by decide) ?_
    refine x_iadd d_L_law_195 ?_
    first | refine x_sldA d_L_law_196 (by omega) hL ?_ | refine x_sld0 d_L_law_196 (by omega) hL ?_
    refine x_if_eq_t (tgt := 204) d_L_law_197 (by decide) (hf) ?_
    refine x_iconst (v := nI 0) d_L_law_204 (by decide) ?_
    refine x_callSH (M' := m_L_worker) (As := [_, _, _]) (fr' := 9) (wd' := 146) d_L_law_205 pl_L_worker (Nat.le_of_ble_eq_true rfl) (by decide) (by decide) wc_L_worker wi_L wl_L_67 ws_L_worker (by decide) np_L_worker (Nat.le_of_ble_eq_true rfl) (w_worker hs.A (e_worker hnt hs hR hz _ (Or.inl rfl)) (fun v h1 q => (XQ_h q).1) (fun k p h1 q => XQ_K1 q)) (fun k e h1 q => wV_no q) (fun v h1 q => ?_)
    obtain ⟨j, e, g1⟩ := wVX hB cdb_worker q
    cases e
    obtain ⟨C2, b2, tk2, c2, sz2, h2, rfl, hB2, hR2, hz2, e14, j3⟩ := g1
    rw [← mc_swap (Nat.le_refl _) S C2 b2 tk2 h2]
    have hm : MSh (cset z C2 b2 tk2 h2) (z + 75) := hB2.2.1.cset (Nat.le_refl _) C2 b2 tk2
    refine x_istore d_L_law_208 (by decide) ?_
    first | refine x_aload_n d_L_law_210 rfl ?_ | refine x_aloadq_n d_L_law_210 rfl ?_
    first | refine x_aload_n d_L_law_211 rfl ?_ | refine x_aloadq_n d_L_law_211 rfl ?_
    refine x_iload d_L_law_212 rfl ?_
    refine x_iconst (v := nI 1) d_L_law_214 (by decide) ?_
    refine x_iadd d_L_law_215 ?_
    first | refine x_sldA d_L_law_216 (by omega) hL ?_ | refine x_sld0 d_L_law_216 (by omega) hL ?_
    first | refine x_aload_n d_L_law_217 rfl ?_ | refine x_aloadq_n d_L_law_217 rfl ?_
    refine x_iload d_L_law_218 rfl ?_
    refine x_iconst (v := nI 2) d_L_law_220 (by decide) ?_
    refine x_iadd d_L_law_221 ?_
    first | refine x_sldA d_L_law_222 (by omega) hL ?_ | refine x_sld0 d_L_law_222 (by omega) hL ?_
    refine x_if_eq_t (tgt := 230) d_L_law_223 (by decide) (hf) ?_
    refine x_iconst (v := nI 0) d_L_law_230 (by decide) ?_
    refine x_callV (M' := m_M_worker) (As := [_, _]) (fr' := 1) (wd' := 22) d_L_law_231 hm.1 rfl pl_M_worker rfl (Nat.le_of_ble_eq_true rfl) (by decide) (by decide) wc_M_worker wi_M wl_L_70 wm_M_worker we_M_worker (by decide) np_M_worker (Nat.le_of_ble_eq_true rfl) (fun q hq => by cases hq) (c_M_worker hm _ _ hR.1.1 hR.1.2.1 rfl) (fun k a h1 q => by cases q.1) (fun v h1 q => ?_)
    obtain ⟨q1, rfl⟩ := q
    cases q1
    refine x_goto (tgt := 643) d_L_law_234 (by decide) ?_
    refine x_iinc (v := nI (i + 5)) d_L_law_643 rfl inc5 (by decide) ?_
    refine x_goto (tgt := 23) d_L_law_646 (by decide) ?_
    rw [mc_swap (Nat.le_refl _)]
    refine xV.loc (nx _ (LX.mk hB2 hR2 hz2)) (by repeat (first | exact trivial | refine ⟨rfl, ?_⟩))
  · skip
    first | refine x_aload_n d_L_law_184 rfl ?_ | refine x_aloadq_n d_L_law_184 rfl ?_
    first | refine x_aload_n d_L_law_185 rfl ?_ | refine x_aloadq_n d_L_law_185 rfl ?_
    refine x_iload d_L_law_186 rfl ?_
    refine x_iconst (v := nI 1) d_L_law_188 (by decide) ?_
    refine x_iadd d_L_law_189 ?_
    first | refine x_sldA d_L_law_190 (by omega) hL ?_ | refine x_sld0 d_L_law_190 (by omega) hL ?_
    first | refine x_aload_n d_L_law_191 rfl ?_ | refine x_aloadq_n d_L_law_191 rfl ?_
    refine x_iload d_L_law_192 rfl ?_
    refine x_iconst (v := nI 2) d_L_law_194 (by decide) ?_
    refine x_iadd d_L_law_195 ?_
    first | refine x_sldA d_L_law_196 (by omega) hL ?_ | refine x_sld0 d_L_law_196 (by omega) hL ?_
    refine x_if_eq_f 204 d_L_law_197 (by decide) (hf) ?_
    refine x_iconst (v := nI 1) d_L_law_200 (by decide) ?_
    refine x_goto (tgt := 205) d_L_law_201 (by decide) ?_
    refine x_callSH (M' := m_L_worker) (As := [_, _, _]) (fr' := 9) (wd' := 146) d_L_law_205 pl_L_worker (Nat.le_of_ble_eq_true rfl) (by decide) (by decide) wc_L_worker wi_L wl_L_67 ws_L_worker (by decide) np_L_worker (Nat.le_of_ble_eq_true rfl) (w_worker hs.A (e_worker hnt hs hR hz _ (Or.inr rfl)) (fun v h1 q => (XQ_h q).1) (fun k p h1 q => XQ_K1 q)) (fun k e h1 q => wV_no q) (fun v h1 q => ?_)
    obtain ⟨j, e, g1⟩ := wVX hB cdb_worker q
    cases e
    obtain ⟨C2, b2, tk2, c2, sz2, h2, rfl, hB2, hR2, hz2, e14, j3⟩ := g1
    rw [← mc_swap (Nat.le_refl _) S C2 b2 tk2 h2]
    have hm : MSh (cset z C2 b2 tk2 h2) (z + 75) := hB2.2.1.cset (Nat.le_refl _) C2 b2 tk2
    refine x_istore d_L_law_208 (by decide) ?_
    first | refine x_aload_n d_L_law_210 rfl ?_ | refine x_aloadq_n d_L_law_210 rfl ?_
    first | refine x_aload_n d_L_law_211 rfl ?_ | refine x_aloadq_n d_L_law_211 rfl ?_
    refine x_iload d_L_law_212 rfl ?_
    refine x_iconst (v := nI 1) d_L_law_214 (by decide) ?_
    refine x_iadd d_L_law_215 ?_
    first | refine x_sldA d_L_law_216 (by omega) hL ?_ | refine x_sld0 d_L_law_216 (by omega) hL ?_
    first | refine x_aload_n d_L_law_217 rfl ?_ | refine x_aloadq_n d_L_law_217 rfl ?_
    refine x_iload d_L_law_218 rfl ?_
    refine x_iconst (v := nI 2) d_L_law_220 (by decide) ?_
    refine x_iadd d_L_law_221 ?_
    first | refine x_sldA d_L_law_222 (by omega) hL ?_ | refine x_sld0 d_L_law_222 (by omega) hL ?_
    refine x_if_eq_f 230 d_L_law_223 (by decide) (hf) ?_
    refine x_iconst (v := nI 1) d_L_law_226 (by decide) ?_
    refine x_goto (tgt := 231) d_L_law_227 (by decide) ?_
    refine x_callV (M' := m_M_worker) (As := [_, _]) (fr' := 1) (wd' := 22) d_L_law_231 hm.1 rfl pl_M_worker rfl (Nat.le_of_ble_eq_true rfl) (by decide) (by decide) wc_M_worker wi_M wl_L_70 wm_M_worker we_M_worker (by decide) np_M_worker (Nat.le_of_ble_eq_true rfl) (fun q hq => by cases hq) (c_M_worker hm _ _ hR.1.1 hR.1.2.1 rfl) (fun k a h1 q => by cases q.1) (fun v h1 q => ?_)
    obtain ⟨q1, rfl⟩ := q
    cases q1
    refine x_goto (tgt := 643) d_L_law_234 (by decide) ?_
    refine x_iinc (v := nI (i + 5)) d_L_law_643 rfl inc5 (by decide) ?_
    refine x_goto (tgt := 23) d_L_law_646 (by decide) ?_
    rw [mc_swap (Nat.le_refl _)]
    refine xV.loc (nx _ (LX.mk hB2 hR2 hz2)) (by repeat (first | exact trivial | refine ⟨rfl, ?_⟩))
theorem k_speed (hnt : l.stackTraces = false) (hL : xGL G ≤ 2560) {i n : Nat} (hi : i + 5 ≤ xGL G) {H : xH} {P : xR → xH → Prop} (hS : LX z n H) (nx : ∀ H', LX z (n + 1) H' → xV l G 11 388 m_L_law 23 (lwL G z (i + 5)) [] H' P) : xV l G 11 388 m_L_law 237 (lwL G z i) [] H P := by
  obtain ⟨C, b, tk, c, sz, S, h0, rfl, hB, hR, hz⟩ := hS
  have hs : CSh (mset (z + 75) S h0) z := hB.1
  first | refine x_aload_n d_L_law_237 rfl ?_ | refine x_aloadq_n d_L_law_237 rfl ?_
  first | refine x_aload_n d_L_law_238 rfl ?_ | refine x_aloadq_n d_L_law_238 rfl ?_
  refine x_iload d_L_law_239 rfl ?_
  refine x_iconst (v := nI 1) d_L_law_241 (by decide) ?_
  refine x_iadd d_L_law_242 ?_
  first | refine x_sldA d_L_law_243 (by omega) hL ?_ | refine x_sld0 d_L_law_243 (by omega) hL ?_
  first | refine x_aload_n d_L_law_244 rfl ?_ | refine x_aloadq_n d_L_law_244 rfl ?_
  refine x_iload d_L_law_245 rfl ?_
  refine x_iconst (v := nI 2) d_L_law_247 (by decide) ?_
  refine x_iadd d_L_law_248 ?_
  first | refine x_sldA d_L_law_249 (by omega) hL ?_ | refine x_sld0 d_L_law_249 (by omega) hL ?_
  refine x_callSH (M' := m_L_speed) (As := [_, _, _]) (fr' := 9) (wd' := 146) d_L_law_250 pl_L_speed (Nat.le_of_ble_eq_true rfl) (by decide) (by decide) wc_L_speed wi_L wl_L_71 ws_L_speed (by decide) np_L_speed (Nat.le_of_ble_eq_true rfl) (w_speed hs.A (e_speed hnt hs hR hz _ _) (fun v h1 q => (XQ_h q).1) (fun k p h1 q => XQ_K1 q)) (fun k e h1 q => wV_no q) (fun v h1 q => ?_)
  obtain ⟨j, e, g1⟩ := wVX hB cdb_speed q
  cases e
  obtain ⟨C2, b2, tk2, c2, sz2, h2, rfl, hB2, hR2, hz2, e14, j3⟩ := g1
  rw [← mc_swap (Nat.le_refl _) S C2 b2 tk2 h2]
  have hm : MSh (cset z C2 b2 tk2 h2) (z + 75) := hB2.2.1.cset (Nat.le_refl _) C2 b2 tk2
  refine x_istore d_L_law_253 (by decide) ?_
  first | refine x_aload_n d_L_law_255 rfl ?_ | refine x_aloadq_n d_L_law_255 rfl ?_
  first | refine x_aload_n d_L_law_256 rfl ?_ | refine x_aloadq_n d_L_law_256 rfl ?_
  refine x_iload d_L_law_257 rfl ?_
  refine x_iconst (v := nI 1) d_L_law_259 (by decide) ?_
  refine x_iadd d_L_law_260 ?_
  first | refine x_sldA d_L_law_261 (by omega) hL ?_ | refine x_sld0 d_L_law_261 (by omega) hL ?_
  first | refine x_aload_n d_L_law_262 rfl ?_ | refine x_aloadq_n d_L_law_262 rfl ?_
  refine x_iload d_L_law_263 rfl ?_
  refine x_iconst (v := nI 2) d_L_law_265 (by decide) ?_
  refine x_iadd d_L_law_266 ?_
  first | refine x_sldA d_L_law_267 (by omega) hL ?_ | refine x_sld0 d_L_law_267 (by omega) hL ?_
  refine x_callV (M' := m_M_speed) (As := [_, _]) (fr' := 1) (wd' := 22) d_L_law_268 hm.1 rfl pl_M_speed rfl (Nat.le_of_ble_eq_true rfl) (by decide) (by decide) wc_M_speed wi_M wl_L_74 wm_M_speed we_M_speed (by decide) np_M_speed (Nat.le_of_ble_eq_true rfl) (fun q hq => by cases hq) (c_M_speed hm _ _) (fun k a h1 q => by cases q.1) (fun v h1 q => ?_)
  obtain ⟨q1, rfl⟩ := q
  cases q1
  refine x_goto (tgt := 643) d_L_law_271 (by decide) ?_
  refine x_iinc (v := nI (i + 5)) d_L_law_643 rfl inc5 (by decide) ?_
  refine x_goto (tgt := 23) d_L_law_646 (by decide) ?_
  rw [mc_swap (Nat.le_refl _)]
  refine xV.loc (nx _ (LX.mk hB2 hR2 hz2)) (by repeat (first | exact trivial | refine ⟨rfl, ?_⟩))
theorem k_filter (hnt : l.stackTraces = false) (hL : xGL G ≤ 2560) {i n : Nat} (hi : i + 5 ≤ xGL G) {H : xH} {P : xR → xH → Prop} (hS : LX z n H) (nx : ∀ H', LX z (n + 1) H' → xV l G 11 388 m_L_law 23 (lwL G z (i + 5)) [] H' P) : xV l G 11 388 m_L_law 274 (lwL G z i) [] H P := by
  obtain ⟨C, b, tk, c, sz, S, h0, rfl, hB, hR, hz⟩ := hS
  have hs : CSh (mset (z + 75) S h0) z := hB.1
  first | refine x_aload_n d_L_law_274 rfl ?_ | refine x_aloadq_n d_L_law_274 rfl ?_
  first | refine x_aload_n d_L_law_275 rfl ?_ | refine x_aloadq_n d_L_law_275 rfl ?_
  refine x_iload d_L_law_276 rfl ?_
  refine x_iconst (v := nI 1) d_L_law_278 (by decide) ?_
  refine x_iadd d_L_law_279 ?_
  first | refine x_sldA d_L_law_280 (by omega) hL ?_ | refine x_sld0 d_L_law_280 (by omega) hL ?_
  refine x_callV (M' := m_A_filter) (As := [_]) (fr' := 0) (wd' := 0) d_L_law_281 hs.A rfl pl_A_filter rfl (Nat.le_of_ble_eq_true rfl) (by decide) (by decide) wc_A_filter wi_A wl_L_75 wm_A_filter we_A_filter (by decide) np_A_filter (Nat.le_of_ble_eq_true rfl) (fun q hq => by cases hq) (e_filter hs hR hz _) (fun k e h1 q => (XQ_K q).elim) (fun v h1 q => ?_)
  obtain ⟨e, g1⟩ := XQ_f hB q
  subst e
  obtain ⟨C2, b2, tk2, c2, sz2, h2, rfl, hB2, hR2, hz2, e14, j3⟩ := g1
  rw [← mc_swap (Nat.le_refl _) S C2 b2 tk2 h2]
  have hm : MSh (cset z C2 b2 tk2 h2) (z + 75) := hB2.2.1.cset (Nat.le_refl _) C2 b2 tk2
  first | refine x_aload_n d_L_law_284 rfl ?_ | refine x_aloadq_n d_L_law_284 rfl ?_
  first | refine x_aload_n d_L_law_285 rfl ?_ | refine x_aloadq_n d_L_law_285 rfl ?_
  refine x_iload d_L_law_286 rfl ?_
  refine x_iconst (v := nI 1) d_L_law_288 (by decide) ?_
  refine x_iadd d_L_law_289 ?_
  first | refine x_sldA d_L_law_290 (by omega) hL ?_ | refine x_sld0 d_L_law_290 (by omega) hL ?_
  refine x_callV (M' := m_M_filter) (As := [_]) (fr' := 0) (wd' := 0) d_L_law_291 hm.1 rfl pl_M_filter rfl (Nat.le_of_ble_eq_true rfl) (by decide) (by decide) wc_M_filter wi_M wl_L_79 wm_M_filter we_M_filter (by decide) np_M_filter (Nat.le_of_ble_eq_true rfl) (fun q hq => by cases hq) (c_M_filter hm _) (fun k a h1 q => by cases q.1) (fun v h1 q => ?_)
  obtain ⟨q1, rfl⟩ := q
  cases q1
  refine x_goto (tgt := 643) d_L_law_294 (by decide) ?_
  refine x_iinc (v := nI (i + 5)) d_L_law_643 rfl inc5 (by decide) ?_
  refine x_goto (tgt := 23) d_L_law_646 (by decide) ?_
  rw [mc_swap (Nat.le_refl _)]
  refine xV.loc (nx _ (LX.mk hB2 hR2 hz2)) (by repeat (first | exact trivial | refine ⟨rfl, ?_⟩))
theorem k_begin (hnt : l.stackTraces = false) (hL : xGL G ≤ 2560) {i n : Nat} (hi : i + 5 ≤ xGL G) {H : xH} {P : xR → xH → Prop} (hS : LX z n H) (nx : ∀ H', LX z (n + 1) H' → xV l G 11 388 m_L_law 23 (lwL G z (i + 5)) [] H' P) : xV l G 11 388 m_L_law 297 (lwL G z i) [] H P := by
  obtain ⟨C, b, tk, c, sz, S, h0, rfl, hB, hR, hz⟩ := hS
  have hs : CSh (mset (z + 75) S h0) z := hB.1
  first | refine x_aload_n d_L_law_297 rfl ?_ | refine x_aloadq_n d_L_law_297 rfl ?_
  first | refine x_aload_n d_L_law_298 rfl ?_ | refine x_aloadq_n d_L_law_298 rfl ?_
  refine x_iload d_L_law_299 rfl ?_
  refine x_iconst (v := nI 1) d_L_law_301 (by decide) ?_
  refine x_iadd d_L_law_302 ?_
  first | refine x_sldA d_L_law_303 (by omega) hL ?_ | refine x_sld0 d_L_law_303 (by omega) hL ?_
  first | refine x_aload_n d_L_law_304 rfl ?_ | refine x_aloadq_n d_L_law_304 rfl ?_
  refine x_iload d_L_law_305 rfl ?_
  refine x_iconst (v := nI 2) d_L_law_307 (by decide) ?_
  refine x_iadd d_L_law_308 ?_
  first | refine x_sldA d_L_law_309 (by omega) hL ?_ | refine x_sld0 d_L_law_309 (by omega) hL ?_
  first | refine x_aload_n d_L_law_310 rfl ?_ | refine x_aloadq_n d_L_law_310 rfl ?_
  refine x_iload d_L_law_311 rfl ?_
  refine x_iconst (v := nI 3) d_L_law_313 (by decide) ?_
  refine x_iadd d_L_law_314 ?_
  first | refine x_sldA d_L_law_315 (by omega) hL ?_ | refine x_sld0 d_L_law_315 (by omega) hL ?_
  first | refine x_aload_n d_L_law_316 rfl ?_ | refine x_aloadq_n d_L_law_316 rfl ?_
  refine x_iload d_L_law_317 rfl ?_
  refine x_iconst (v := nI 4) d_L_law_319 (by decide) ?_
  refine x_iadd d_L_law_320 ?_
  first | refine x_sldA d_L_law_321 (by omega) hL ?_ | refine x_sld0 d_L_law_321 (by omega) hL ?_
  first | refine x_aload_n d_L_law_322 rfl ?_ | refine x_aloadq_n d_L_law_322 rfl ?_
  refine x_callSH (M' := m_L_begin) (As := [_, _, _, _, _, _]) (fr' := 9) (wd' := 149) d_L_law_323 pl_L_begin (Nat.le_of_ble_eq_true rfl) (by decide) (by decide) wc_L_begin wi_L wl_L_80 ws_L_begin (by decide) np_L_begin (Nat.le_of_ble_eq_true rfl) (w_begin (a := z + 91) hs.A (e_begin hnt hs hR hz _ _ _ _) (fun v h1 q => XQ_I hB q) (fun k p h1 q => XQ_K q)) (fun k e h1 q => wP_no q) (fun v h1 q => ?_)
  obtain ⟨j, e, g1⟩ := wPX hB cdb_begin q
  cases e
  obtain ⟨C2, b2, tk2, c2, sz2, h2, rfl, hB2, hR2, hz2, e14, j3, hJ⟩ := g1
  rw [← mc_swap (Nat.le_refl _) S C2 b2 tk2 h2]
  have hm : MSh (cset z C2 b2 tk2 h2) (z + 75) := hB2.2.1.cset (Nat.le_refl _) C2 b2 tk2
  refine x_istore d_L_law_326 (by decide) ?_
  first | refine x_aload_n d_L_law_328 rfl ?_ | refine x_aloadq_n d_L_law_328 rfl ?_
  first | refine x_aload_n d_L_law_329 rfl ?_ | refine x_aloadq_n d_L_law_329 rfl ?_
  refine x_iload d_L_law_330 rfl ?_
  refine x_iconst (v := nI 1) d_L_law_332 (by decide) ?_
  refine x_iadd d_L_law_333 ?_
  first | refine x_sldA d_L_law_334 (by omega) hL ?_ | refine x_sld0 d_L_law_334 (by omega) hL ?_
  first | refine x_aload_n d_L_law_335 rfl ?_ | refine x_aloadq_n d_L_law_335 rfl ?_
  refine x_iload d_L_law_336 rfl ?_
  refine x_iconst (v := nI 2) d_L_law_338 (by decide) ?_
  refine x_iadd d_L_law_339 ?_
  first | refine x_sldA d_L_law_340 (by omega) hL ?_ | refine x_sld0 d_L_law_340 (by omega) hL ?_
  first | refine x_aload_n d_L_law_341 rfl ?_ | refine x_aloadq_n d_L_law_341 rfl ?_
  refine x_iload d_L_law_342 rfl ?_
  refine x_iconst (v := nI 3) d_L_law_344 (by decide) ?_
  refine x_iadd d_L_law_345 ?_
  first | refine x_sldA d_L_law_346 (by omega) hL ?_ | refine x_sld0 d_L_law_346 (by omega) hL ?_
  first | refine x_aload_n d_L_law_347 rfl ?_ | refine x_aloadq_n d_L_law_347 rfl ?_
  refine x_iload d_L_law_348 rfl ?_
  refine x_iconst (v := nI 4) d_L_law_350 (by decide) ?_
  refine x_iadd d_L_law_351 ?_
  first | refine x_sldA d_L_law_352 (by omega) hL ?_ | refine x_sld0 d_L_law_352 (by omega) hL ?_
  refine x_callV (M' := m_M_begin) (As := [_, _, _, _]) (fr' := 3) (wd' := 68) d_L_law_353 hm.1 rfl pl_M_begin rfl (Nat.le_of_ble_eq_true rfl) (by decide) (by decide) wc_M_begin wi_M wl_L_83 wm_M_begin we_M_begin (by decide) np_M_begin (Nat.le_of_ble_eq_true rfl) (fun q hq => by cases hq) (c_M_begin hm _ _ _ _ hR.1.1 hR.1.2.1 hR.1.2.2.1 hR.1.2.2.2.1) (fun k a h1 q => by cases q.1) (fun v h1 q => ?_)
  obtain ⟨q1, rfl⟩ := q
  cases q1
  refine x_istore d_L_law_356 (by decide) ?_
  refine x_goto (tgt := 643) d_L_law_358 (by decide) ?_
  refine x_iinc (v := nI (i + 5)) d_L_law_643 rfl inc5 (by decide) ?_
  refine x_goto (tgt := 23) d_L_law_646 (by decide) ?_
  rw [mc_swap (Nat.le_refl _)]
  refine xV.loc (nx _ (LX.mk hB2 hR2 hz2)) (by repeat (first | exact trivial | refine ⟨rfl, ?_⟩))
theorem k_run (hnt : l.stackTraces = false) (hL : xGL G ≤ 2560) {i n : Nat} (hi : i + 5 ≤ xGL G) {H : xH} {P : xR → xH → Prop} (hS : LX z n H) (nx : ∀ H', LX z (n + 1) H' → xV l G 11 388 m_L_law 23 (lwL G z (i + 5)) [] H' P) : xV l G 11 388 m_L_law 361 (lwL G z i) [] H P := by
  obtain ⟨C, b, tk, c, sz, S, h0, rfl, hB, hR, hz⟩ := hS
  have hs : CSh (mset (z + 75) S h0) z := hB.1
  obtain ⟨r, np, hT, hq⟩ := e_run (l := l) (G := G) hnt hs hR hz (xGx G (i + 1))
  first | refine x_aload_n d_L_law_361 rfl ?_ | refine x_aloadq_n d_L_law_361 rfl ?_
  first | refine x_aload_n d_L_law_362 rfl ?_ | refine x_aloadq_n d_L_law_362 rfl ?_
  refine x_iload d_L_law_363 rfl ?_
  refine x_iconst (v := nI 1) d_L_law_365 (by decide) ?_
  refine x_iadd d_L_law_366 ?_
  first | refine x_sldA d_L_law_367 (by omega) hL ?_ | refine x_sld0 d_L_law_367 (by omega) hL ?_
  first | refine x_aload_n d_L_law_368 rfl ?_ | refine x_aloadq_n d_L_law_368 rfl ?_
  refine x_callSH (M' := m_L_run) (As := [_, _, _]) (fr' := 9) (wd' := 147) d_L_law_369 pl_L_run (Nat.le_of_ble_eq_true rfl) (by decide) (by decide) wc_L_run wi_L wl_L_84 ws_L_run (by decide) np_L_run (Nat.le_of_ble_eq_true rfl) (w_run (a := z + 91) hs.A (hq) (fun v h1 q => XQ_I hB q) (fun k p h1 q => XQ_K q)) (fun k e h1 q => wP_no q) (fun v h1 q => ?_)
  obtain ⟨j, e, g1⟩ := wPX hB cdb_run q
  cases e
  obtain ⟨C2, b2, tk2, c2, sz2, h2, rfl, hB2, hR2, hz2, e14, j3, hJ⟩ := g1
  rw [← mc_swap (Nat.le_refl _) S C2 b2 tk2 h2]
  have hm : MSh (cset z C2 b2 tk2 h2) (z + 75) := hB2.2.1.cset (Nat.le_refl _) C2 b2 tk2
  refine x_istore d_L_law_372 (by decide) ?_
  first | refine x_aload_n d_L_law_374 rfl ?_ | refine x_aloadq_n d_L_law_374 rfl ?_
  first | refine x_aload_n d_L_law_375 rfl ?_ | refine x_aloadq_n d_L_law_375 rfl ?_
  refine x_iload d_L_law_376 rfl ?_
  refine x_iconst (v := nI 1) d_L_law_378 (by decide) ?_
  refine x_iadd d_L_law_379 ?_
  first | refine x_sldA d_L_law_380 (by omega) hL ?_ | refine x_sld0 d_L_law_380 (by omega) hL ?_
  refine x_callV (M' := m_M_run) (As := [_]) (fr' := 5) (wd' := 117) d_L_law_381 hm.1 rfl pl_M_run rfl (Nat.le_of_ble_eq_true rfl) (by decide) (by decide) wc_M_run wi_M wl_L_87 wm_M_run we_M_run (by decide) np_M_run (Nat.le_of_ble_eq_true rfl) (fun q hq => by cases hq) (c_M_run hm _ hT) (fun k a h1 q => by cases q.1) (fun v h1 q => ?_)
  obtain ⟨q1, rfl⟩ := q
  cases q1
  refine x_istore d_L_law_384 (by decide) ?_
  refine x_goto (tgt := 643) d_L_law_386 (by decide) ?_
  refine x_iinc (v := nI (i + 5)) d_L_law_643 rfl inc5 (by decide) ?_
  refine x_goto (tgt := 23) d_L_law_646 (by decide) ?_
  rw [mc_swap (Nat.le_refl _)]
  refine xV.loc (nx _ (LX.mk hB2 hR2 hz2)) (by repeat (first | exact trivial | refine ⟨rfl, ?_⟩))
theorem k_stop (hnt : l.stackTraces = false) (hL : xGL G ≤ 2560) {i n : Nat} (hi : i + 5 ≤ xGL G) {H : xH} {P : xR → xH → Prop} (hS : LX z n H) (nx : ∀ H', LX z (n + 1) H' → xV l G 11 388 m_L_law 23 (lwL G z (i + 5)) [] H' P) : xV l G 11 388 m_L_law 389 (lwL G z i) [] H P := by
  obtain ⟨C, b, tk, c, sz, S, h0, rfl, hB, hR, hz⟩ := hS
  have hs : CSh (mset (z + 75) S h0) z := hB.1
  first | refine x_aload_n d_L_law_389 rfl ?_ | refine x_aloadq_n d_L_law_389 rfl ?_
  refine x_callSH (M' := m_L_stop) (As := [_]) (fr' := 9) (wd' := 142) d_L_law_390 pl_L_stop (Nat.le_of_ble_eq_true rfl) (by decide) (by decide) wc_L_stop wi_L wl_L_88 ws_L_stop (by decide) np_L_stop (Nat.le_of_ble_eq_true rfl) (w_stop hs.A (e_stop hnt hs hR hz) (fun v h1 q => (XQ_h q).1) (fun k p h1 q => XQ_K1 q)) (fun k e h1 q => wV_no q) (fun v h1 q => ?_)
  obtain ⟨j, e, g1⟩ := wVX hB cdb_stop q
  cases e
  obtain ⟨C2, b2, tk2, c2, sz2, h2, rfl, hB2, hR2, hz2, e14, j3⟩ := g1
  rw [← mc_swap (Nat.le_refl _) S C2 b2 tk2 h2]
  have hm : MSh (cset z C2 b2 tk2 h2) (z + 75) := hB2.2.1.cset (Nat.le_refl _) C2 b2 tk2
  refine x_istore d_L_law_393 (by decide) ?_
  first | refine x_aload_n d_L_law_395 rfl ?_ | refine x_aloadq_n d_L_law_395 rfl ?_
  refine x_callV (M' := m_M_stop) (As := []) (fr' := 1) (wd' := 22) d_L_law_396 hm.1 rfl pl_M_stop rfl (Nat.le_of_ble_eq_true rfl) (by decide) (by decide) wc_M_stop wi_M wl_L_91 wm_M_stop we_M_stop (by decide) np_M_stop (Nat.le_of_ble_eq_true rfl) (fun q hq => by cases hq) (c_M_stop hm) (fun k a h1 q => by cases q.1) (fun v h1 q => ?_)
  obtain ⟨q1, rfl⟩ := q
  cases q1
  refine x_goto (tgt := 643) d_L_law_399 (by decide) ?_
  refine x_iinc (v := nI (i + 5)) d_L_law_643 rfl inc5 (by decide) ?_
  refine x_goto (tgt := 23) d_L_law_646 (by decide) ?_
  rw [mc_swap (Nat.le_refl _)]
  refine xV.loc (nx _ (LX.mk hB2 hR2 hz2)) (by repeat (first | exact trivial | refine ⟨rfl, ?_⟩))
theorem k_output (hnt : l.stackTraces = false) (hL : xGL G ≤ 2560) {i n : Nat} (hi : i + 5 ≤ xGL G) {H : xH} {P : xR → xH → Prop} (hS : LX z n H) (nx : ∀ H', LX z (n + 1) H' → xV l G 11 388 m_L_law 23 (lwL G z (i + 5)) [] H' P) : xV l G 11 388 m_L_law 402 (lwL G z i) [] H P := by
  obtain ⟨C, b, tk, c, sz, S, h0, rfl, hB, hR, hz⟩ := hS
  have hs : CSh (mset (z + 75) S h0) z := hB.1
  first | refine x_aload_n d_L_law_402 rfl ?_ | refine x_aloadq_n d_L_law_402 rfl ?_
  first | refine x_aload_n d_L_law_403 rfl ?_ | refine x_aloadq_n d_L_law_403 rfl ?_
  refine x_iload d_L_law_404 rfl ?_
  refine x_iconst (v := nI 1) d_L_law_406 (by decide) ?_
  refine x_iadd d_L_law_407 ?_
  first | refine x_sldA d_L_law_408 (by omega) hL ?_ | refine x_sld0 d_L_law_408 (by omega) hL ?_
  first | refine x_aload_n d_L_law_409 rfl ?_ | refine x_aloadq_n d_L_law_409 rfl ?_
  refine x_iload d_L_law_410 rfl ?_
  refine x_iconst (v := nI 2) d_L_law_412 (by decide) ?_
  refine x_iadd d_L_law_413 ?_
  first | refine x_sldA d_L_law_414 (by omega) hL ?_ | refine x_sld0 d_L_law_414 (by omega) hL ?_
  first | refine x_aload_n d_L_law_415 rfl ?_ | refine x_aloadq_n d_L_law_415 rfl ?_
  refine x_iload d_L_law_416 rfl ?_
  refine x_iconst (v := nI 3) d_L_law_418 (by decide) ?_
  refine x_iadd d_L_law_419 ?_
  first | refine x_sldA d_L_law_420 (by omega) hL ?_ | refine x_sld0 d_L_law_420 (by omega) hL ?_
  first | refine x_aload_n d_L_law_421 rfl ?_ | refine x_aloadq_n d_L_law_421 rfl ?_
  refine x_callSH (M' := m_L_output) (As := [_, _, _, _, _]) (fr' := 9) (wd' := 148) d_L_law_422 pl_L_output (Nat.le_of_ble_eq_true rfl) (by decide) (by decide) wc_L_output wi_L wl_L_92 ws_L_output (by decide) np_L_output (Nat.le_of_ble_eq_true rfl) (w_output (a := z + 91) hs.A (u_output hnt hs hR hz _ _ _) (fun v h1 q => XS_I hB q) (fun k p h1 q => XS_K q)) (fun k e h1 q => wP_no q) (fun v h1 q => ?_)
  obtain ⟨j, e, g1⟩ := wPS hB q
  cases e
  obtain ⟨C2, b2, tk2, c2, sz2, h2, rfl, hB2, hR2, hz2⟩ := g1
  rw [← mc_swap (Nat.le_refl _) S C2 b2 tk2 h2]
  have hm : MSh (cset z C2 b2 tk2 h2) (z + 75) := hB2.2.1.cset (Nat.le_refl _) C2 b2 tk2
  refine x_istore d_L_law_425 (by decide) ?_
  first | refine x_aload_n d_L_law_427 rfl ?_ | refine x_aloadq_n d_L_law_427 rfl ?_
  first | refine x_aload_n d_L_law_428 rfl ?_ | refine x_aloadq_n d_L_law_428 rfl ?_
  refine x_iload d_L_law_429 rfl ?_
  refine x_iconst (v := nI 1) d_L_law_431 (by decide) ?_
  refine x_iadd d_L_law_432 ?_
  first | refine x_sldA d_L_law_433 (by omega) hL ?_ | refine x_sld0 d_L_law_433 (by omega) hL ?_
  first | refine x_aload_n d_L_law_434 rfl ?_ | refine x_aloadq_n d_L_law_434 rfl ?_
  refine x_iload d_L_law_435 rfl ?_
  refine x_iconst (v := nI 2) d_L_law_437 (by decide) ?_
  refine x_iadd d_L_law_438 ?_
  first | refine x_sldA d_L_law_439 (by omega) hL ?_ | refine x_sld0 d_L_law_439 (by omega) hL ?_
  first | refine x_aload_n d_L_law_440 rfl ?_ | refine x_aloadq_n d_L_law_440 rfl ?_
  refine x_iload d_L_law_441 rfl ?_
  refine x_iconst (v := nI 3) d_L_law_443 (by decide) ?_
  refine x_iadd d_L_law_444 ?_
  first | refine x_sldA d_L_law_445 (by omega) hL ?_ | refine x_sld0 d_L_law_445 (by omega) hL ?_
  refine x_callV (M' := m_M_output) (As := [_, _, _]) (fr' := 1) (wd' := 22) d_L_law_446 hm.1 rfl pl_M_output rfl (Nat.le_of_ble_eq_true rfl) (by decide) (by decide) wc_M_output wi_M wl_L_95 wm_M_output we_M_output (by decide) np_M_output (Nat.le_of_ble_eq_true rfl) (fun q hq => by cases hq) (c_M_output hm _ _ _ hR.1.2.2.2.2.2.2.2.2) (fun k a h1 q => by cases q.1) (fun v h1 q => ?_)
  obtain ⟨q1, rfl⟩ := q
  cases q1
  refine x_istore d_L_law_449 (by decide) ?_
  refine x_goto (tgt := 643) d_L_law_451 (by decide) ?_
  refine x_iinc (v := nI (i + 5)) d_L_law_643 rfl inc5 (by decide) ?_
  refine x_goto (tgt := 23) d_L_law_646 (by decide) ?_
  rw [mc_swap (Nat.le_refl _)]
  refine xV.loc (nx _ (LX.mk hB2 (hR2.ou _ _ _) hz2)) (by repeat (first | exact trivial | refine ⟨rfl, ?_⟩))
theorem k_find (hnt : l.stackTraces = false) (hL : xGL G ≤ 2560) {i n : Nat} (hi : i + 5 ≤ xGL G) {H : xH} {P : xR → xH → Prop} (hS : LX z n H) (nx : ∀ H', LX z (n + 1) H' → xV l G 11 388 m_L_law 23 (lwL G z (i + 5)) [] H' P) : xV l G 11 388 m_L_law 454 (lwL G z i) [] H P := by
  obtain ⟨C, b, tk, c, sz, S, h0, rfl, hB, hR, hz⟩ := hS
  have hs : CSh (mset (z + 75) S h0) z := hB.1
  obtain ⟨q0, oc, o1, o2, o3⟩ := hR.1.outs
  first | refine x_aload_n d_L_law_454 rfl ?_ | refine x_aloadq_n d_L_law_454 rfl ?_
  first | refine x_aload_n d_L_law_455 rfl ?_ | refine x_aloadq_n d_L_law_455 rfl ?_
  refine x_iload d_L_law_456 rfl ?_
  refine x_iconst (v := nI 1) d_L_law_458 (by decide) ?_
  refine x_iadd d_L_law_459 ?_
  first | refine x_sldA d_L_law_460 (by omega) hL ?_ | refine x_sld0 d_L_law_460 (by omega) hL ?_
  first | refine x_aload_n d_L_law_461 rfl ?_ | refine x_aloadq_n d_L_law_461 rfl ?_
  refine x_callSH (M' := m_L_find) (As := [_, _, _]) (fr' := 8) (wd' := 125) d_L_law_462 pl_L_find (Nat.le_of_ble_eq_true rfl) (by decide) (by decide) wc_L_find wi_L wl_L_96 ws_L_find (by decide) np_L_find (Nat.le_of_ble_eq_true rfl) (w_find (a := z + 91) hs.A (u_find hnt hs hR hz _) (fun v h1 q => XS_I hB q) (fun k p h1 q => XS_K1 q)) (fun k e h1 q => wP_no q) (fun v h1 q => ?_)
  obtain ⟨j, e, g1⟩ := wPS hB q
  cases e
  obtain ⟨C2, b2, tk2, c2, sz2, h2, rfl, hB2, hR2, hz2⟩ := g1
  rw [← mc_swap (Nat.le_refl _) S C2 b2 tk2 h2]
  have hm : MSh (cset z C2 b2 tk2 h2) (z + 75) := hB2.2.1.cset (Nat.le_refl _) C2 b2 tk2
  refine x_istore d_L_law_465 (by decide) ?_
  first | refine x_aload_n d_L_law_467 rfl ?_ | refine x_aloadq_n d_L_law_467 rfl ?_
  first | refine x_aload_n d_L_law_468 rfl ?_ | refine x_aloadq_n d_L_law_468 rfl ?_
  refine x_iload d_L_law_469 rfl ?_
  refine x_iconst (v := nI 1) d_L_law_471 (by decide) ?_
  refine x_iadd d_L_law_472 ?_
  first | refine x_sldA d_L_law_473 (by omega) hL ?_ | refine x_sld0 d_L_law_473 (by omega) hL ?_
  refine x_callV (M' := m_M_find) (As := [_]) (fr' := 1) (wd' := 21) d_L_law_474 hm.1 rfl pl_M_find rfl (Nat.le_of_ble_eq_true rfl) (by decide) (by decide) wc_M_find wi_M wl_L_98 wm_M_find we_M_find (by decide) np_M_find (Nat.le_of_ble_eq_true rfl) (fun q hq => by cases hq) (c_M_find hm _ o1 o2 o3) (fun k a h1 q => by cases q.1) (fun v h1 q => ?_)
  obtain ⟨q1, rfl⟩ := q
  cases q1
  refine x_istore d_L_law_477 (by decide) ?_
  refine x_goto (tgt := 643) d_L_law_479 (by decide) ?_
  refine x_iinc (v := nI (i + 5)) d_L_law_643 rfl inc5 (by decide) ?_
  refine x_goto (tgt := 23) d_L_law_646 (by decide) ?_
  rw [mc_swap (Nat.le_refl _)]
  refine xV.loc (nx _ (LX.mk hB2 (hR2.fd _ _ _) hz2)) (by repeat (first | exact trivial | refine ⟨rfl, ?_⟩))
theorem k_task (hnt : l.stackTraces = false) (hL : xGL G ≤ 2560) {i n : Nat} (hi : i + 5 ≤ xGL G) {H : xH} {P : xR → xH → Prop} (hS : LX z n H) (nx : ∀ H', LX z (n + 1) H' → xV l G 11 388 m_L_law 23 (lwL G z (i + 5)) [] H' P) : xV l G 11 388 m_L_law 482 (lwL G z i) [] H P := by
  obtain ⟨C, b, tk, c, sz, S, h0, rfl, hB, hR, hz⟩ := hS
  have hs : CSh (mset (z + 75) S h0) z := hB.1
  by_cases hf : xGx G (i + 1) = 0
  · skip
    obtain ⟨r, np, hT, hq⟩ := e_task (l := l) (G := G) hnt hs hR hz (nI 0) (xGx G (i + 2)) (xGx G (i + 3))
    first | refine x_aload_n d_L_law_482 rfl ?_ | refine x_aloadq_n d_L_law_482 rfl ?_
    first | refine x_aload_n d_L_law_483 rfl ?_ | refine x_aloadq_n d_L_law_483 rfl ?_
    refine x_iload d_L_law_484 rfl ?_
    refine x_iconst (v := nI 1) d_L_law_486 (by decide) ?_
    refine x_iadd d_L_law_487 ?_
    first | refine x_sldA d_L_law_488 (by omega) hL ?_ | refine x_sld0 d_L_law_488 (by omega) hL ?_
    refine x_if_eq_t (tgt := 496) d_L_law_489 (by decide) (hf) ?_
    refine x_iconst (v := nI 0) d_L_law_496 (by decide) ?_
    first | refine x_aload_n d_L_law_497 rfl ?_ | refine x_aloadq_n d_L_law_497 rfl ?_
    refine x_iload d_L_law_498 rfl ?_
    refine x_iconst (v := nI 2) d_L_law_500 (by decide) ?_
    refine x_iadd d_L_law_501 ?_
    first | refine x_sldA d_L_law_502 (by omega) hL ?_ | refine x_sld0 d_L_law_502 (by omega) hL ?_
    first | refine x_aload_n d_L_law_503 rfl ?_ | refine x_aloadq_n d_L_law_503 rfl ?_
    refine x_iload d_L_law_504 rfl ?_
    refine x_iconst (v := nI 3) d_L_law_506 (by decide) ?_
    refine x_iadd d_L_law_507 ?_
    first | refine x_sldA d_L_law_508 (by omega) hL ?_ | refine x_sld0 d_L_law_508 (by omega) hL ?_
    first | refine x_aload_n d_L_law_509 rfl ?_ | refine x_aloadq_n d_L_law_509 rfl ?_
    refine x_callSH (M' := m_L_task) (As := [_, _, _, _, _]) (fr' := 9) (wd' := 148) d_L_law_510 pl_L_task (Nat.le_of_ble_eq_true rfl) (by decide) (by decide) wc_L_task wi_L wl_L_99 ws_L_task (by decide) np_L_task (Nat.le_of_ble_eq_true rfl) (w_task (a := z + 91) hs.A (hq) (fun v h1 q => XQ_I hB q) (fun k p h1 q => XQ_K q)) (fun k e h1 q => wP_no q) (fun v h1 q => ?_)
    obtain ⟨j, e, g1⟩ := wPX hB cdb_task q
    cases e
    obtain ⟨C2, b2, tk2, c2, sz2, h2, rfl, hB2, hR2, hz2, e14, j3, hJ⟩ := g1
    rw [← mc_swap (Nat.le_refl _) S C2 b2 tk2 h2]
    have hm : MSh (cset z C2 b2 tk2 h2) (z + 75) := hB2.2.1.cset (Nat.le_refl _) C2 b2 tk2
    refine x_istore d_L_law_513 (by decide) ?_
    first | refine x_aload_n d_L_law_515 rfl ?_ | refine x_aloadq_n d_L_law_515 rfl ?_
    first | refine x_aload_n d_L_law_516 rfl ?_ | refine x_aloadq_n d_L_law_516 rfl ?_
    refine x_iload d_L_law_517 rfl ?_
    refine x_iconst (v := nI 1) d_L_law_519 (by decide) ?_
    refine x_iadd d_L_law_520 ?_
    first | refine x_sldA d_L_law_521 (by omega) hL ?_ | refine x_sld0 d_L_law_521 (by omega) hL ?_
    refine x_if_eq_t (tgt := 529) d_L_law_522 (by decide) (hf) ?_
    refine x_iconst (v := nI 0) d_L_law_529 (by decide) ?_
    first | refine x_aload_n d_L_law_530 rfl ?_ | refine x_aloadq_n d_L_law_530 rfl ?_
    refine x_iload d_L_law_531 rfl ?_
    refine x_iconst (v := nI 2) d_L_law_533 (by decide) ?_
    refine x_iadd d_L_law_534 ?_
    first | refine x_sldA d_L_law_535 (by omega) hL ?_ | refine x_sld0 d_L_law_535 (by omega) hL ?_
    first | refine x_aload_n d_L_law_536 rfl ?_ | refine x_aloadq_n d_L_law_536 rfl ?_
    refine x_iload d_L_law_537 rfl ?_
    refine x_iconst (v := nI 3) d_L_law_539 (by decide) ?_
    refine x_iadd d_L_law_540 ?_
    first | refine x_sldA d_L_law_541 (by omega) hL ?_ | refine x_sld0 d_L_law_541 (by omega) hL ?_
    refine x_callV (M' := m_M_task) (As := [_, _, _]) (fr' := 3) (wd' := 65) d_L_law_542 hm.1 rfl pl_M_task rfl (Nat.le_of_ble_eq_true rfl) (by decide) (by decide) wc_M_task wi_M wl_L_102 wm_M_task we_M_task (by decide) np_M_task (Nat.le_of_ble_eq_true rfl) (fun q hq => by cases hq) (c_M_task hm _ _ _ hT) (fun k a h1 q => by cases q.1) (fun v h1 q => ?_)
    obtain ⟨q1, rfl⟩ := q
    cases q1
    refine x_istore d_L_law_545 (by decide) ?_
    first | refine x_aload_n d_L_law_547 rfl ?_ | refine x_aloadq_n d_L_law_547 rfl ?_
    refine x_callV (M' := m_M_thrown) (As := []) (fr' := 0) (wd' := 0) d_L_law_548 hm.1 rfl pl_M_thrown rfl (Nat.le_of_ble_eq_true rfl) (by decide) (by decide) wc_M_thrown wi_M wl_L_103 wm_M_thrown we_M_thrown (by decide) np_M_thrown (Nat.le_of_ble_eq_true rfl) (fun q hq => by cases hq) (c_M_thrown hm) (fun k a h1 q => by cases q.1) (fun v h1 q => ?_)
    obtain ⟨q1, rfl⟩ := q
    cases q1
    refine x_iload d_L_law_551 rfl ?_
    refine x_icmp_eq_t (tgt := 558) d_L_law_553 (by decide) (e14) ?_
    refine x_iload d_L_law_558 rfl ?_
    by_cases j0 : j = 0
    · rw [j0]
      refine x_if_ne_f 575 d_L_law_560 (by decide) (rfl) ?_
      first | refine x_aload_n d_L_law_563 rfl ?_ | refine x_aloadq_n d_L_law_563 rfl ?_
      refine x_iconst (v := nI 0) d_L_law_564 (by decide) ?_
      refine x_lald0 d_L_law_565 hB2.2.2.1 hB2.2.2.2.1 (hJ j0) ?_
      refine x_iload d_L_law_566 rfl ?_
      refine x_i2l d_L_law_568 ?_
      refine x_lcmp d_L_law_569 ?_
      refine x_if_eq_t (tgt := 575) d_L_law_570 (by decide) ((lg_self _)) ?_
      refine x_goto (tgt := 643) d_L_law_575 (by decide) ?_
      refine x_iinc (v := nI (i + 5)) d_L_law_643 rfl inc5 (by decide) ?_
      refine x_goto (tgt := 23) d_L_law_646 (by decide) ?_
      rw [mc_swap (Nat.le_refl _)]
      refine xV.loc (nx _ (LX.mk hB2 hR2 hz2)) (by repeat (first | exact trivial | refine ⟨rfl, ?_⟩))
    · skip
      refine x_if_ne_t (tgt := 575) d_L_law_560 (by decide) ((nI_ne0 (by omega) (by omega))) ?_
      refine x_goto (tgt := 643) d_L_law_575 (by decide) ?_
      refine x_iinc (v := nI (i + 5)) d_L_law_643 rfl inc5 (by decide) ?_
      refine x_goto (tgt := 23) d_L_law_646 (by decide) ?_
      rw [mc_swap (Nat.le_refl _)]
      refine xV.loc (nx _ (LX.mk hB2 hR2 hz2)) (by repeat (first | exact trivial | refine ⟨rfl, ?_⟩))
  · skip
    obtain ⟨r, np, hT, hq⟩ := e_task (l := l) (G := G) hnt hs hR hz (nI 1) (xGx G (i + 2)) (xGx G (i + 3))
    first | refine x_aload_n d_L_law_482 rfl ?_ | refine x_aloadq_n d_L_law_482 rfl ?_
    first | refine x_aload_n d_L_law_483 rfl ?_ | refine x_aloadq_n d_L_law_483 rfl ?_
    refine x_iload d_L_law_484 rfl ?_
    refine x_iconst (v := nI 1) d_L_law_486 (by decide) ?_
    refine x_iadd d_L_law_487 ?_
    first | refine x_sldA d_L_law_488 (by omega) hL ?_ | refine x_sld0 d_L_law_488 (by omega) hL ?_
    refine x_if_eq_f 496 d_L_law_489 (by decide) (hf) ?_
    refine x_iconst (v := nI 1) d_L_law_492 (by decide) ?_
    refine x_goto (tgt := 497) d_L_law_493 (by decide) ?_
    first | refine x_aload_n d_L_law_497 rfl ?_ | refine x_aloadq_n d_L_law_497 rfl ?_
    refine x_iload d_L_law_498 rfl ?_
    refine x_iconst (v := nI 2) d_L_law_500 (by decide) ?_
    refine x_iadd d_L_law_501 ?_
    first | refine x_sldA d_L_law_502 (by omega) hL ?_ | refine x_sld0 d_L_law_502 (by omega) hL ?_
    first | refine x_aload_n d_L_law_503 rfl ?_ | refine x_aloadq_n d_L_law_503 rfl ?_
    refine x_iload d_L_law_504 rfl ?_
    refine x_iconst (v := nI 3) d_L_law_506 (by decide) ?_
    refine x_iadd d_L_law_507 ?_
    first | refine x_sldA d_L_law_508 (by omega) hL ?_ | refine x_sld0 d_L_law_508 (by omega) hL ?_
    first | refine x_aload_n d_L_law_509 rfl ?_ | refine x_aloadq_n d_L_law_509 rfl ?_
    refine x_callSH (M' := m_L_task) (As := [_, _, _, _, _]) (fr' := 9) (wd' := 148) d_L_law_510 pl_L_task (Nat.le_of_ble_eq_true rfl) (by decide) (by decide) wc_L_task wi_L wl_L_99 ws_L_task (by decide) np_L_task (Nat.le_of_ble_eq_true rfl) (w_task (a := z + 91) hs.A (hq) (fun v h1 q => XQ_I hB q) (fun k p h1 q => XQ_K q)) (fun k e h1 q => wP_no q) (fun v h1 q => ?_)
    obtain ⟨j, e, g1⟩ := wPX hB cdb_task q
    cases e
    obtain ⟨C2, b2, tk2, c2, sz2, h2, rfl, hB2, hR2, hz2, e14, j3, hJ⟩ := g1
    rw [← mc_swap (Nat.le_refl _) S C2 b2 tk2 h2]
    have hm : MSh (cset z C2 b2 tk2 h2) (z + 75) := hB2.2.1.cset (Nat.le_refl _) C2 b2 tk2
    refine x_istore d_L_law_513 (by decide) ?_
    first | refine x_aload_n d_L_law_515 rfl ?_ | refine x_aloadq_n d_L_law_515 rfl ?_
    first | refine x_aload_n d_L_law_516 rfl ?_ | refine x_aloadq_n d_L_law_516 rfl ?_
    refine x_iload d_L_law_517 rfl ?_
    refine x_iconst (v := nI 1) d_L_law_519 (by decide) ?_
    refine x_iadd d_L_law_520 ?_
    first | refine x_sldA d_L_law_521 (by omega) hL ?_ | refine x_sld0 d_L_law_521 (by omega) hL ?_
    refine x_if_eq_f 529 d_L_law_522 (by decide) (hf) ?_
    refine x_iconst (v := nI 1) d_L_law_525 (by decide) ?_
    refine x_goto (tgt := 530) d_L_law_526 (by decide) ?_
    first | refine x_aload_n d_L_law_530 rfl ?_ | refine x_aloadq_n d_L_law_530 rfl ?_
    refine x_iload d_L_law_531 rfl ?_
    refine x_iconst (v := nI 2) d_L_law_533 (by decide) ?_
    refine x_iadd d_L_law_534 ?_
    first | refine x_sldA d_L_law_535 (by omega) hL ?_ | refine x_sld0 d_L_law_535 (by omega) hL ?_
    first | refine x_aload_n d_L_law_536 rfl ?_ | refine x_aloadq_n d_L_law_536 rfl ?_
    refine x_iload d_L_law_537 rfl ?_
    refine x_iconst (v := nI 3) d_L_law_539 (by decide) ?_
    refine x_iadd d_L_law_540 ?_
    first | refine x_sldA d_L_law_541 (by omega) hL ?_ | refine x_sld0 d_L_law_541 (by omega) hL ?_
    refine x_callV (M' := m_M_task) (As := [_, _, _]) (fr' := 3) (wd' := 65) d_L_law_542 hm.1 rfl pl_M_task rfl (Nat.le_of_ble_eq_true rfl) (by decide) (by decide) wc_M_task wi_M wl_L_102 wm_M_task we_M_task (by decide) np_M_task (Nat.le_of_ble_eq_true rfl) (fun q hq => by cases hq) (c_M_task hm _ _ _ hT) (fun k a h1 q => by cases q.1) (fun v h1 q => ?_)
    obtain ⟨q1, rfl⟩ := q
    cases q1
    refine x_istore d_L_law_545 (by decide) ?_
    first | refine x_aload_n d_L_law_547 rfl ?_ | refine x_aloadq_n d_L_law_547 rfl ?_
    refine x_callV (M' := m_M_thrown) (As := []) (fr' := 0) (wd' := 0) d_L_law_548 hm.1 rfl pl_M_thrown rfl (Nat.le_of_ble_eq_true rfl) (by decide) (by decide) wc_M_thrown wi_M wl_L_103 wm_M_thrown we_M_thrown (by decide) np_M_thrown (Nat.le_of_ble_eq_true rfl) (fun q hq => by cases hq) (c_M_thrown hm) (fun k a h1 q => by cases q.1) (fun v h1 q => ?_)
    obtain ⟨q1, rfl⟩ := q
    cases q1
    refine x_iload d_L_law_551 rfl ?_
    refine x_icmp_eq_t (tgt := 558) d_L_law_553 (by decide) (e14) ?_
    refine x_iload d_L_law_558 rfl ?_
    by_cases j0 : j = 0
    · rw [j0]
      refine x_if_ne_f 575 d_L_law_560 (by decide) (rfl) ?_
      first | refine x_aload_n d_L_law_563 rfl ?_ | refine x_aloadq_n d_L_law_563 rfl ?_
      refine x_iconst (v := nI 0) d_L_law_564 (by decide) ?_
      refine x_lald0 d_L_law_565 hB2.2.2.1 hB2.2.2.2.1 (hJ j0) ?_
      refine x_iload d_L_law_566 rfl ?_
      refine x_i2l d_L_law_568 ?_
      refine x_lcmp d_L_law_569 ?_
      refine x_if_eq_t (tgt := 575) d_L_law_570 (by decide) ((lg_self _)) ?_
      refine x_goto (tgt := 643) d_L_law_575 (by decide) ?_
      refine x_iinc (v := nI (i + 5)) d_L_law_643 rfl inc5 (by decide) ?_
      refine x_goto (tgt := 23) d_L_law_646 (by decide) ?_
      rw [mc_swap (Nat.le_refl _)]
      refine xV.loc (nx _ (LX.mk hB2 hR2 hz2)) (by repeat (first | exact trivial | refine ⟨rfl, ?_⟩))
    · skip
      refine x_if_ne_t (tgt := 575) d_L_law_560 (by decide) ((nI_ne0 (by omega) (by omega))) ?_
      refine x_goto (tgt := 643) d_L_law_575 (by decide) ?_
      refine x_iinc (v := nI (i + 5)) d_L_law_643 rfl inc5 (by decide) ?_
      refine x_goto (tgt := 23) d_L_law_646 (by decide) ?_
      rw [mc_swap (Nat.le_refl _)]
      refine xV.loc (nx _ (LX.mk hB2 hR2 hz2)) (by repeat (first | exact trivial | refine ⟨rfl, ?_⟩))
theorem k_ofWorker (hnt : l.stackTraces = false) (hL : xGL G ≤ 2560) {i n : Nat} (hi : i + 5 ≤ xGL G) {H : xH} {P : xR → xH → Prop} (hS : LX z n H) (nx : ∀ H', LX z (n + 1) H' → xV l G 11 388 m_L_law 23 (lwL G z (i + 5)) [] H' P) : xV l G 11 388 m_L_law 578 (lwL G z i) [] H P := by
  obtain ⟨C, b, tk, c, sz, S, h0, rfl, hB, hR, hz⟩ := hS
  have hs : CSh (mset (z + 75) S h0) z := hB.1
  first | refine x_aload_n d_L_law_578 rfl ?_ | refine x_aloadq_n d_L_law_578 rfl ?_
  first | refine x_aload_n d_L_law_579 rfl ?_ | refine x_aloadq_n d_L_law_579 rfl ?_
  refine x_iload d_L_law_580 rfl ?_
  refine x_iconst (v := nI 1) d_L_law_582 (by decide) ?_
  refine x_iadd d_L_law_583 ?_
  first | refine x_sldA d_L_law_584 (by omega) hL ?_ | refine x_sld0 d_L_law_584 (by omega) hL ?_
  first | refine x_aload_n d_L_law_585 rfl ?_ | refine x_aloadq_n d_L_law_585 rfl ?_
  refine x_iload d_L_law_586 rfl ?_
  refine x_iconst (v := nI 2) d_L_law_588 (by decide) ?_
  refine x_iadd d_L_law_589 ?_
  first | refine x_sldA d_L_law_590 (by omega) hL ?_ | refine x_sld0 d_L_law_590 (by omega) hL ?_
  first | refine x_aload_n d_L_law_591 rfl ?_ | refine x_aloadq_n d_L_law_591 rfl ?_
  refine x_callSH (M' := m_L_ofWorker) (As := [_, _, _, _]) (fr' := 9) (wd' := 146) d_L_law_592 pl_L_ofWorker (Nat.le_of_ble_eq_true rfl) (by decide) (by decide) wc_L_ofWorker wi_L wl_L_107 ws_L_ofWorker (by decide) np_L_ofWorker (Nat.le_of_ble_eq_true rfl) (w_ofWorker (a := z + 91) hs.A (e_ofWorker hnt hs hR hz _ _) (fun v h1 q => XQ_I hB q) (fun k p h1 q => XQ_K1 q)) (fun k e h1 q => wP_no q) (fun v h1 q => ?_)
  obtain ⟨j, e, g1⟩ := wPX hB cdb_ofWorker q
  cases e
  obtain ⟨C2, b2, tk2, c2, sz2, h2, rfl, hB2, hR2, hz2, e14, j3, hJ⟩ := g1
  rw [← mc_swap (Nat.le_refl _) S C2 b2 tk2 h2]
  have hm : MSh (cset z C2 b2 tk2 h2) (z + 75) := hB2.2.1.cset (Nat.le_refl _) C2 b2 tk2
  refine x_istore d_L_law_595 (by decide) ?_
  first | refine x_aload_n d_L_law_597 rfl ?_ | refine x_aloadq_n d_L_law_597 rfl ?_
  first | refine x_aload_n d_L_law_598 rfl ?_ | refine x_aloadq_n d_L_law_598 rfl ?_
  refine x_iload d_L_law_599 rfl ?_
  refine x_iconst (v := nI 1) d_L_law_601 (by decide) ?_
  refine x_iadd d_L_law_602 ?_
  first | refine x_sldA d_L_law_603 (by omega) hL ?_ | refine x_sld0 d_L_law_603 (by omega) hL ?_
  first | refine x_aload_n d_L_law_604 rfl ?_ | refine x_aloadq_n d_L_law_604 rfl ?_
  refine x_iload d_L_law_605 rfl ?_
  refine x_iconst (v := nI 2) d_L_law_607 (by decide) ?_
  refine x_iadd d_L_law_608 ?_
  first | refine x_sldA d_L_law_609 (by omega) hL ?_ | refine x_sld0 d_L_law_609 (by omega) hL ?_
  refine x_callV (M' := m_M_ofWorker) (As := [_, _]) (fr' := 1) (wd' := 22) d_L_law_610 hm.1 rfl pl_M_ofWorker rfl (Nat.le_of_ble_eq_true rfl) (by decide) (by decide) wc_M_ofWorker wi_M wl_L_110 wm_M_ofWorker we_M_ofWorker (by decide) np_M_ofWorker (Nat.le_of_ble_eq_true rfl) (fun q hq => by cases hq) (c_M_ofWorker hm _ _) (fun k a h1 q => by cases q.1) (fun v h1 q => ?_)
  obtain ⟨q1, rfl⟩ := q
  cases q1
  refine x_istore d_L_law_613 (by decide) ?_
  refine x_goto (tgt := 643) d_L_law_615 (by decide) ?_
  refine x_iinc (v := nI (i + 5)) d_L_law_643 rfl inc5 (by decide) ?_
  refine x_goto (tgt := 23) d_L_law_646 (by decide) ?_
  rw [mc_swap (Nat.le_refl _)]
  refine xV.loc (nx _ (LX.mk hB2 hR2 hz2)) (by repeat (first | exact trivial | refine ⟨rfl, ?_⟩))
theorem k_count (hnt : l.stackTraces = false) (hL : xGL G ≤ 2560) {i n : Nat} (hi : i + 5 ≤ xGL G) {H : xH} {P : xR → xH → Prop} (hS : LX z n H) (nx : ∀ H', LX z (n + 1) H' → xV l G 11 388 m_L_law 23 (lwL G z (i + 5)) [] H' P) : xV l G 11 388 m_L_law 618 (lwL G z i) [] H P := by
  obtain ⟨C, b, tk, c, sz, S, h0, rfl, hB, hR, hz⟩ := hS
  have hs : CSh (mset (z + 75) S h0) z := hB.1
  first | refine x_aload_n d_L_law_618 rfl ?_ | refine x_aloadq_n d_L_law_618 rfl ?_
  first | refine x_aload_n d_L_law_619 rfl ?_ | refine x_aloadq_n d_L_law_619 rfl ?_
  refine x_iload d_L_law_620 rfl ?_
  refine x_iconst (v := nI 1) d_L_law_622 (by decide) ?_
  refine x_iadd d_L_law_623 ?_
  first | refine x_sldA d_L_law_624 (by omega) hL ?_ | refine x_sld0 d_L_law_624 (by omega) hL ?_
  refine x_callV (M' := m_A_count) (As := [_]) (fr' := 4) (wd' := 91) d_L_law_625 hs.A rfl pl_A_count rfl (Nat.le_of_ble_eq_true rfl) (by decide) (by decide) wc_A_count wi_A wl_L_111 wm_A_count we_A_count (by decide) np_A_count (Nat.le_of_ble_eq_true rfl) (fun q hq => by cases hq) (u_count hs hR hz _) (fun k e h1 q => (XS_K q).elim) (fun v h1 q => ?_)
  obtain ⟨j, rfl, -⟩ := XS_I hB q
  have g1 := XS_0 hB q
  obtain ⟨C2, b2, tk2, c2, sz2, h2, rfl, hB2, hR2, hz2⟩ := g1
  rw [← mc_swap (Nat.le_refl _) S C2 b2 tk2 h2]
  have hm : MSh (cset z C2 b2 tk2 h2) (z + 75) := hB2.2.1.cset (Nat.le_refl _) C2 b2 tk2
  refine x_pop d_L_law_628 rfl ?_
  first | refine x_aload_n d_L_law_629 rfl ?_ | refine x_aloadq_n d_L_law_629 rfl ?_
  first | refine x_aload_n d_L_law_630 rfl ?_ | refine x_aloadq_n d_L_law_630 rfl ?_
  refine x_iload d_L_law_631 rfl ?_
  refine x_iconst (v := nI 1) d_L_law_633 (by decide) ?_
  refine x_iadd d_L_law_634 ?_
  first | refine x_sldA d_L_law_635 (by omega) hL ?_ | refine x_sld0 d_L_law_635 (by omega) hL ?_
  refine x_callV (M' := m_M_count) (As := [_]) (fr' := 0) (wd' := 0) d_L_law_636 hm.1 rfl pl_M_count rfl (Nat.le_of_ble_eq_true rfl) (by decide) (by decide) wc_M_count wi_M wl_L_114 wm_M_count we_M_count (by decide) np_M_count (Nat.le_of_ble_eq_true rfl) (fun q hq => by cases hq) (c_M_count hm _) (fun k a h1 q => by cases q.1) (fun v h1 q => ?_)
  obtain ⟨q1, rfl⟩ := q
  cases q1
  refine x_pop d_L_law_639 rfl ?_
  refine x_goto (tgt := 643) d_L_law_640 (by decide) ?_
  refine x_iinc (v := nI (i + 5)) d_L_law_643 rfl inc5 (by decide) ?_
  refine x_goto (tgt := 23) d_L_law_646 (by decide) ?_
  rw [mc_swap (Nat.le_refl _)]
  refine xV.loc (nx _ (LX.mk hB2 (hR2.thr _) hz2)) (by repeat (first | exact trivial | refine ⟨rfl, ?_⟩))
theorem sub5_lt {a k : Nat} (ha : a ≤ 2560) (hk : k ≤ 2560) (h : a < k + 5) : nI a - nI 5 < nI k := by
  rw [Int32.lt_iff_toInt_lt, Int32.toInt_sub, nI_toInt (by omega), nI_toInt (by omega), nI_toInt (by omega), Int.bmod_eq_of_le_mul_two (by omega) (by omega)]
  omega
theorem law_loop (hnt : l.stackTraces = false) (hL : xGL G ≤ 2560) (hz : z = xGz G) : ∀ (m n : Nat) (H : xH), LX z n H → xGL G ≤ 5 * n + m → n ≤ 512 → xV l G 11 388 m_L_law 23 (lwL G z (5 * n)) [] H (fun r h' => r = .inl (some (.int 1)) ∧ xnx h' ≤ xGz G + 601024 ∧ xsl h' ≤ 7293034) := by
  have fin : ∀ (n : Nat) (H : xH), LX z n H → xGL G < 5 * n + 5 → n ≤ 512 → xV l G 11 388 m_L_law 23 (lwL G z (5 * n)) [] H (fun r h' => r = .inl (some (.int 1)) ∧ xnx h' ≤ xGz G + 601024 ∧ xsl h' ≤ 7293034) := by
    intro n H hS hl hn
    obtain ⟨C, b, tk, c, sz, S, h0, rfl, hB, hR, hz9⟩ := hS
    have e : (xGL G).toInt32 - nI 5 < nI (5 * n) := sub5_lt hL (by omega) hl
    refine x_iload d_L_law_23 rfl ?_
    first | refine x_aload_n d_L_law_25 rfl ?_ | refine x_aloadq_n d_L_law_25 rfl ?_
    refine x_slen d_L_law_26 ?_
    refine x_iconst (v := nI 5) d_L_law_27 (by decide) ?_
    refine x_isub d_L_law_28 ?_
    refine x_icmp_gt_t (tgt := 649) d_L_law_29 (by decide) (e) ?_
    refine x_iconst (v := nI 1) d_L_law_649 (by decide) ?_
    refine x_iret d_L_law_650 rfl (by first | rfl | assumption) ?_
    refine ⟨rfl, ?_, ?_⟩
    · show xnx h0 ≤ _; have := hB.2.2.2.2.2.1; omega
    · show xsl h0 ≤ _; have := hB.2.2.2.2.2.2; omega
  intro m
  induction m with
  | zero => exact fun n H hS hl hn => fin n H hS (by omega) hn
  | succ m ih =>
    intro n H hS hl hn
    by_cases hi : 5 * n + 5 ≤ xGL G
    · have nx : ∀ H', LX z (n + 1) H' → xV l G 11 388 m_L_law 23 (lwL G z (5 * n + 5)) [] H' (fun r h' => r = .inl (some (.int 1)) ∧ xnx h' ≤ xGz G + 601024 ∧ xsl h' ≤ 7293034) := fun H' h' => by
        have := ih (n + 1) H' h' (by omega) (by omega)
        rw [Nat.mul_succ] at this
        exact this
      have ng : ¬ (xGL G).toInt32 - nI 5 < nI (5 * n) := by
        show ¬ nI (xGL G) - nI 5 < nI (5 * n)
        rw [nI_sub (by omega)]
        exact nI_nlt (by omega) (by omega)
      refine x_iload d_L_law_23 rfl ?_
      first | refine x_aload_n d_L_law_25 rfl ?_ | refine x_aloadq_n d_L_law_25 rfl ?_
      refine x_slen d_L_law_26 ?_
      refine x_iconst (v := nI 5) d_L_law_27 (by decide) ?_
      refine x_isub d_L_law_28 ?_
      refine x_icmp_gt_f 649 d_L_law_29 (by decide) (ng) ?_
      first | refine x_aload_n d_L_law_32 rfl ?_ | refine x_aloadq_n d_L_law_32 rfl ?_
      refine x_iload d_L_law_33 rfl ?_
      refine x_sld0 d_L_law_35 (by omega) hL ?_
      refine x_bipush (v := nI 15) d_L_law_36 (by decide) ?_
      refine x_iand d_L_law_38 ?_
      by_cases m0 : xGx G (5 * n) &&& nI 15 = nI 0
      · rw [m0]
        refine x_swIn (tgt := 100) d_L_law_39 (by decide) (by decide) rfl (by decide) ?_
        refine xV.loc (k_chunk hnt hL hi hS nx) (by repeat (first | exact trivial | refine ⟨rfl, ?_⟩))
      by_cases m1 : xGx G (5 * n) &&& nI 15 = nI 1
      · rw [m1]
        refine x_swIn (tgt := 184) d_L_law_39 (by decide) (by decide) rfl (by decide) ?_
        refine xV.loc (k_worker hnt hL hi hS nx) (by repeat (first | exact trivial | refine ⟨rfl, ?_⟩))
      by_cases m2 : xGx G (5 * n) &&& nI 15 = nI 2
      · rw [m2]
        refine x_swIn (tgt := 237) d_L_law_39 (by decide) (by decide) rfl (by decide) ?_
        refine xV.loc (k_speed hnt hL hi hS nx) (by repeat (first | exact trivial | refine ⟨rfl, ?_⟩))
      by_cases m3 : xGx G (5 * n) &&& nI 15 = nI 3
      · rw [m3]
        refine x_swIn (tgt := 274) d_L_law_39 (by decide) (by decide) rfl (by decide) ?_
        refine xV.loc (k_filter hnt hL hi hS nx) (by repeat (first | exact trivial | refine ⟨rfl, ?_⟩))
      by_cases m4 : xGx G (5 * n) &&& nI 15 = nI 4
      · rw [m4]
        refine x_swIn (tgt := 297) d_L_law_39 (by decide) (by decide) rfl (by decide) ?_
        refine xV.loc (k_begin hnt hL hi hS nx) (by repeat (first | exact trivial | refine ⟨rfl, ?_⟩))
      by_cases m5 : xGx G (5 * n) &&& nI 15 = nI 5
      · rw [m5]
        refine x_swIn (tgt := 361) d_L_law_39 (by decide) (by decide) rfl (by decide) ?_
        refine xV.loc (k_run hnt hL hi hS nx) (by repeat (first | exact trivial | refine ⟨rfl, ?_⟩))
      by_cases m6 : xGx G (5 * n) &&& nI 15 = nI 6
      · rw [m6]
        refine x_swIn (tgt := 389) d_L_law_39 (by decide) (by decide) rfl (by decide) ?_
        refine xV.loc (k_stop hnt hL hi hS nx) (by repeat (first | exact trivial | refine ⟨rfl, ?_⟩))
      by_cases m7 : xGx G (5 * n) &&& nI 15 = nI 7
      · rw [m7]
        refine x_swIn (tgt := 402) d_L_law_39 (by decide) (by decide) rfl (by decide) ?_
        refine xV.loc (k_output hnt hL hi hS nx) (by repeat (first | exact trivial | refine ⟨rfl, ?_⟩))
      by_cases m8 : xGx G (5 * n) &&& nI 15 = nI 8
      · rw [m8]
        refine x_swIn (tgt := 454) d_L_law_39 (by decide) (by decide) rfl (by decide) ?_
        refine xV.loc (k_find hnt hL hi hS nx) (by repeat (first | exact trivial | refine ⟨rfl, ?_⟩))
      by_cases m9 : xGx G (5 * n) &&& nI 15 = nI 9
      · rw [m9]
        refine x_swIn (tgt := 482) d_L_law_39 (by decide) (by decide) rfl (by decide) ?_
        refine xV.loc (k_task hnt hL hi hS nx) (by repeat (first | exact trivial | refine ⟨rfl, ?_⟩))
      by_cases m10 : xGx G (5 * n) &&& nI 15 = nI 10
      · rw [m10]
        refine x_swIn (tgt := 578) d_L_law_39 (by decide) (by decide) rfl (by decide) ?_
        refine xV.loc (k_ofWorker hnt hL hi hS nx) (by repeat (first | exact trivial | refine ⟨rfl, ?_⟩))
      by_cases m11 : xGx G (5 * n) &&& nI 15 = nI 11
      · rw [m11]
        refine x_swIn (tgt := 618) d_L_law_39 (by decide) (by decide) rfl (by decide) ?_
        refine xV.loc (k_count hnt hL hi hS nx) (by repeat (first | exact trivial | refine ⟨rfl, ?_⟩))
      obtain ⟨C, b, tk, c, sz, S, h0, rfl, hB, hR, hz9⟩ := hS
      have t0 := toInt_ne (by omega) m0
      have t1 := toInt_ne (by omega) m1
      have t2 := toInt_ne (by omega) m2
      have t3 := toInt_ne (by omega) m3
      have t4 := toInt_ne (by omega) m4
      have t5 := toInt_ne (by omega) m5
      have t6 := toInt_ne (by omega) m6
      have t7 := toInt_ne (by omega) m7
      have t8 := toInt_ne (by omega) m8
      have t9 := toInt_ne (by omega) m9
      have t10 := toInt_ne (by omega) m10
      have t11 := toInt_ne (by omega) m11
      refine x_swOut (tgt := 643) d_L_law_39 (by omega) (by decide) ?_
      refine x_iinc (v := nI (5 * n + 5)) d_L_law_643 rfl inc5 (by decide) ?_
      refine x_goto (tgt := 23) d_L_law_646 (by decide) ?_
      refine xV.loc (nx _ (LX.mk hB.next hR hz9)) (by repeat (first | exact trivial | refine ⟨rfl, ?_⟩))
    · exact fin n H hS (by omega) hn
theorem xlaw_all : ∀ l : Launch, l.stackTraces = false → xLaw l := by
  intro l hnt G hL
  have hm0 : xnx (xh0 G) = xGz G := rfl
  refine x_new (k := 0) d_L_law_0 rfl wk_L_8 wo_A wi_A (fun j hj => xdfA j (dfA j hj)) ?_
  refine x_dup d_L_law_3 rfl ?_
  refine x_callI (M' := m_A_init) (As := []) (fr' := 3) (wd' := 62) d_L_law_4 pl_A_init rfl (Nat.le_of_ble_eq_true rfl) rfl rfl (by decide) (by decide) wc_A_init wi_A wl_L_55 wm_A_init (by decide) np_A_init (Nat.le_of_ble_eq_true rfl) (fun q hq => by cases hq) (c_A_init (CB.begin hm0)) (fun k a h1 q => by cases q.1) (fun v h1 q => ?_)
  obtain ⟨q1, b⟩ := q
  cases q1
  obtain ⟨g1, hg1⟩ : ∃ g, g = h1 := ⟨h1, rfl⟩
  subst hg1
  have n1 : xnx g1 = xGz G + 75 := b.1.trans (by rw [show sR3.1 = 75 by decide +kernel]; rfl)
  first | refine x_astore_n d_L_law_7 (by decide) ?_ | refine x_astoreq_n d_L_law_7 (by decide) ?_ | refine x_astore_nN d_L_law_7 (by decide) ?_
  refine x_new (k := 6) d_L_law_8 rfl wk_L_56 wo_M wi_M (fun j hj => xdfA j (dfM j hj)) ?_
  refine x_dup d_L_law_11 rfl ?_
  rw [show Value.ref (xnx g1) = .ref (xGz G + 75) by rw [n1]]
  refine x_callI (M' := m_M_init) (As := []) (fr' := 1) (wd' := 20) d_L_law_12 pl_M_init rfl (Nat.le_of_ble_eq_true rfl) rfl rfl (by decide) (by decide) wc_M_init wi_M wl_L_58 wm_M_init (by decide) np_M_init (Nat.le_of_ble_eq_true rfl) (fun q hq => by cases hq) (c_M_init (y := xGz G + 75) (by show xnx g1 + 1 = _; rw [n1]) (by rw [← n1]; exact xr_s _ _ _) (fun j => by rw [← n1]; show xr (xI g1) (xnx g1) (fun _ => 0) (xnx g1) j = 0; rw [xr_s])) (fun k a h1 q => by cases q.1) (fun v h1 q => ?_)
  obtain ⟨q1, mb⟩ := q
  cases q1
  have n2 : xnx h1 = xGz G + 91 := mb.1
  first | refine x_astore_n d_L_law_15 (by decide) ?_ | refine x_astoreq_n d_L_law_15 (by decide) ?_ | refine x_astore_nN d_L_law_15 (by decide) ?_
  refine x_iconst (v := nI 1) d_L_law_16 (by decide) ?_
  refine x_newa (t := 102) (ty := .long) (N := 1) d_L_law_17 (by decide) rfl rfl (fun _ _ => rfl) wa_long (by decide) (by decide) (by decide) lwJ ?_
  first | refine x_astore_n d_L_law_19 (by decide) ?_ | refine x_astoreq_n d_L_law_19 (by decide) ?_ | refine x_astore_nN d_L_law_19 (by decide) ?_
  refine x_iconst (v := nI 0) d_L_law_20 (by decide) ?_
  refine x_istore d_L_law_21 (by decide) ?_
  rw [show Value.ref (xnx h1) = .ref (xGz G + 91) by rw [n2]]
  obtain ⟨hS0, hB0⟩ := law_start0 (g := xh0 G) rfl b mb
  have hS : LX (xGz G) 0 (xnw h1 102 1 1) := ⟨_, _, _, _, _, _, _, hS0, hB0, RA.start.1, RA.start.2⟩
  refine xV.loc (law_loop hnt hL rfl (xGL G) 0 _ hS (by omega) (by omega)) (by repeat (first | exact trivial | refine ⟨rfl, ?_⟩))
end XX2
