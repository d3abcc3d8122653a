/-- one value more -/
def cmb (red x : Int32) (n : Nat) (v : Int32) : Int32 :=
  if red = nI 0 then x + v else if red = nI 1 then nI n + nI 1 else if red = nI 2 then (if n = 0 ∨ x < v then v else x) else if red = nI 3 then x * nI 31 + v else if red = nI 4 then (if n = 0 then v else x / v) else x
/-- the values of key k from place j on: what they are reduced to, how many, whether the reducer fails -/
def rd (S : Nat → Nat → Int32) (k : Int32) : Nat → Nat → Int32 → Nat → Int32 × Nat × Bool
  | 0, _, x, n => (x, n, false)
  | m + 1, j, x, n => if S 10 j = k then (if S 11 j < S 0 16 then rd S k m (j + 1) x n else if S 0 18 = nI 4 ∧ 0 < n ∧ S 11 j = 0 then (x, n + 1, true) else rd S k m (j + 1) (cmb (S 0 18) x n (S 11 j)) (n + 1)) else (x, n, false)
theorem rd_congr {S T : Nat → Nat → Int32} (h10 : S 10 = T 10) (h11 : S 11 = T 11) (h16 : S 0 16 = T 0 16) (h18 : S 0 18 = T 0 18) (k : Int32) : ∀ m j x n, rd S k m j x n = rd T k m j x n
  | 0, _, _, _ => rfl
  | m + 1, j, x, n => by
    unfold rd
    rw [h10, h11, h16, h18, rd_congr h10 h11 h16 h18 k m, rd_congr h10 h11 h16 h18 k m]
def rdT (S : Nat → Nat → Int32) (o : Int32 × Nat × Bool) : Nat → Nat → Int32 := xu (if o.2.2 = true then xu S 0 14 (nI 3) else S) 0 27 (bI (0 < o.2.1))
section XM6
variable {l : Launch} {G : xG} {h0 : xH} {y : Nat} {S : Nat → Nat → Int32}
theorem rd_fin (hs : MSh h0 y) {T : Nat → Nat → Int32} {x : Int32} {n : Nat} (hn : n < 2 ^ 31) : xV l G 0 0 m_M_reduced 181 [(3, .int (nI n)), (2, .int x), (0, .ref y)] [] (mset y T h0) (fun r h' => r = .inl (some (.int x)) ∧ h' = mset y (xu T 0 27 (bI (0 < n))) h0) := by
  by_cases h : 0 < n
  · refine x_aload_n d_M_reduced_181 rfl ?_
    refine x_iload_n d_M_reduced_182 rfl ?_
    refine x_if_le_f 190 d_M_reduced_183 (by decide) ((nI_nle h hn)) ?_
    refine x_iconst (v := nI 1) d_M_reduced_186 (by decide) ?_
    refine x_goto (tgt := 191) d_M_reduced_187 (by decide) ?_
    refine xm_put (j := 27) d_M_reduced_191 hs rfl (by decide) wf_M_112 (Or.inl rfl) (by first | rfl | assumption) rfl (fun _ _ => rfl) ?_
    refine x_iload_n d_M_reduced_194 rfl ?_
    refine x_iret d_M_reduced_195 rfl (by first | rfl | assumption) ?_
    exact ⟨rfl, by rw [bI_t h]⟩
  · refine x_aload_n d_M_reduced_181 rfl ?_
    refine x_iload_n d_M_reduced_182 rfl ?_
    refine x_if_le_t (tgt := 190) d_M_reduced_183 (by decide) ((by rw [show n = 0 by omega]; decide)) ?_
    refine x_iconst (v := nI 0) d_M_reduced_190 (by decide) ?_
    refine xm_put (j := 27) d_M_reduced_191 hs rfl (by decide) wf_M_112 (Or.inl rfl) (by first | rfl | assumption) rfl (fun _ _ => rfl) ?_
    refine x_iload_n d_M_reduced_194 rfl ?_
    refine x_iret d_M_reduced_195 rfl (by first | rfl | assumption) ?_
    exact ⟨rfl, by rw [bI_f h]⟩
theorem rd_loop (hs : MSh h0 y) {np fm : Nat} (hp : S 0 12 = nI np) (hnp : np ≤ 300) (ht : S 0 14 = 0) (hfm : fm < np) :
    ∀ (m j : Nat) (x : Int32) (n : Nat), j + m = np → n ≤ j → xV l G 0 0 m_M_reduced 7 [(4, .int (nI j)), (3, .int (nI n)), (2, .int x), (0, .ref y), (1, .int (nI fm))] [] (mset y S h0) (fun r h' => r = .inl (some (.int (rd S (S 10 fm) m j x n).1)) ∧ h' = mset y (rdT S (rd S (S 10 fm) m j x n)) h0) := by
  have f10 : fm < mlen 10 := by show fm < 300; omega
  intro m
  induction m with
  | zero =>
    intro j x n hj hn
    have fin := rd_fin (l := l) (G := G) hs (T := S) (x := x) (n := n) (by omega)
    refine x_iload d_M_reduced_7 rfl ?_
    refine x_aload_n d_M_reduced_9 rfl ?_
    refine xm_get (j := 12) d_M_reduced_10 hs rfl (by decide) wf_M_86 (fun _ _ => rfl) ?_
    rw [hp]
    refine x_icmp_ge_t (tgt := 181) d_M_reduced_13 (by decide) ((nI_le (by omega) (by omega))) ?_
    refine xV.loc (fin) (by repeat (first | exact trivial | refine ⟨rfl, ?_⟩))
  | succ m ih =>
    intro j x n hj hn
    have hj10 : j < mlen 10 := by show j < 300; omega
    have hj11 : j < mlen 11 := by show j < 300; omega
    have hj10' : j + 1 < np → j + 1 < mlen 10 := by intro q; show j + 1 < 300; omega
    refine x_iload d_M_reduced_7 rfl ?_
    refine x_aload_n d_M_reduced_9 rfl ?_
    refine xm_get (j := 12) d_M_reduced_10 hs rfl (by decide) wf_M_86 (fun _ _ => rfl) ?_
    rw [hp]
    refine x_icmp_ge_f 181 d_M_reduced_13 (by decide) ((nI_ge (by omega) (by omega))) ?_
    refine x_aload_n d_M_reduced_16 rfl ?_
    refine xm_ref (k := 10) (j := 9) d_M_reduced_17 hs (by decide) rfl rfl (by decide) wf_M_38 rfl ?_
    refine x_iload d_M_reduced_20 rfl ?_
    refine xm_ald d_M_reduced_22 hs (by decide) rfl (by first | decide | assumption | omega) ?_
    refine x_aload_n d_M_reduced_23 rfl ?_
    refine xm_ref (k := 10) (j := 9) d_M_reduced_24 hs (by decide) rfl rfl (by decide) wf_M_38 rfl ?_
    refine x_iload_n d_M_reduced_27 rfl ?_
    refine xm_ald d_M_reduced_28 hs (by decide) rfl (by first | decide | assumption | omega) ?_
    refine x_icmp_ne (tgt := 181) d_M_reduced_29 (by decide) (fun c1 => ?_) (fun c1 => ?_)
    · have fin := rd_fin (l := l) (G := G) hs (T := S) (x := x) (n := n) (by omega)
      rw [show rd S (S 10 fm) (m + 1) j x n = (x, n, false) from if_neg c1]
      refine xV.loc (fin) (by repeat (first | exact trivial | refine ⟨rfl, ?_⟩))
    · refine x_aload_n d_M_reduced_32 rfl ?_
      refine xm_get (j := 14) d_M_reduced_33 hs rfl (by decide) wf_M_64 (fun _ _ => rfl) ?_
      refine x_if_ne_f 181 d_M_reduced_36 (by decide) (ht) ?_
      refine x_aload_n d_M_reduced_39 rfl ?_
      refine xm_ref (k := 11) (j := 10) d_M_reduced_40 hs (by decide) rfl rfl (by decide) wf_M_41 rfl ?_
      refine x_iload d_M_reduced_43 rfl ?_
      refine xm_ald d_M_reduced_45 hs (by decide) rfl (by first | decide | assumption | omega) ?_
      refine x_istore d_M_reduced_46 (by decide) ?_
      refine x_iload d_M_reduced_48 rfl ?_
      refine x_aload_n d_M_reduced_50 rfl ?_
      refine xm_get (j := 16) d_M_reduced_51 hs rfl (by decide) wf_M_106 (fun _ _ => rfl) ?_
      refine x_icmp_ge (tgt := 60) d_M_reduced_54 (by decide) (fun c2 => ?_) (fun c2 => ?_)
      · have c2' : ¬ S 11 j < S 0 16 := Int32.not_lt.mpr c2
        have e1 : rd S (S 10 fm) (m + 1) j x n = if S 0 18 = nI 4 ∧ 0 < n ∧ S 11 j = 0 then (x, n + 1, true) else rd S (S 10 fm) m (j + 1) (cmb (S 0 18) x n (S 11 j)) (n + 1) := by
          rw [rd, if_pos c1, if_neg c2']
        rw [e1]
        have go : ∀ x', x' = cmb (S 0 18) x n (S 11 j) → ¬ (S 0 18 = nI 4 ∧ 0 < n ∧ S 11 j = 0) → xV l G 0 0 m_M_reduced 172 [(5, .int (S 11 j)), (4, .int (nI j)), (3, .int (nI n)), (2, .int x'), (0, .ref y), (1, .int (nI fm))] [] (mset y S h0) (fun r h' => r = .inl (some (.int (if S 0 18 = nI 4 ∧ 0 < n ∧ S 11 j = 0 then (x, n + 1, true) else rd S (S 10 fm) m (j + 1) (cmb (S 0 18) x n (S 11 j)) (n + 1)).1)) ∧ h' = mset y (rdT S (if S 0 18 = nI 4 ∧ 0 < n ∧ S 11 j = 0 then (x, n + 1, true) else rd S (S 10 fm) m (j + 1) (cmb (S 0 18) x n (S 11 j)) (n + 1))) h0) := by
          intro x' hx' hf
          rw [if_neg hf, ← hx']
          have nx := ih (j + 1) x' (n + 1) (by omega) (by omega)
          first | refine x_incN d_M_reduced_172 rfl (by decide) ?_ | refine x_inc d_M_reduced_172 rfl (by decide) ?_
          first | refine x_incN d_M_reduced_175 rfl (by decide) ?_ | refine x_inc d_M_reduced_175 rfl (by decide) ?_
          refine x_goto (tgt := 7) d_M_reduced_178 (by decide) ?_
          refine xV.loc (nx) (by repeat (first | exact trivial | refine ⟨rfl, ?_⟩))
        refine x_aload_n d_M_reduced_60 rfl ?_
        refine xm_get (j := 18) d_M_reduced_61 hs rfl (by decide) wf_M_109 (fun _ _ => rfl) ?_
        by_cases r0 : S 0 18 = nI 0
        · have go := go (x + S 11 j) (by unfold cmb; rw [if_pos r0]) (fun q => by rw [r0] at q; exact absurd q.1 (by decide))
          refine x_if_ne_f 72 d_M_reduced_64 (by decide) ((r0)) ?_
          refine x_iload_n d_M_reduced_67 rfl ?_
          refine x_iload d_M_reduced_68 rfl ?_
          refine x_iadd d_M_reduced_70 ?_
          refine x_istore_n d_M_reduced_71 (by decide) ?_
          refine x_aload_n d_M_reduced_72 rfl ?_
          refine xm_get (j := 18) d_M_reduced_73 hs rfl (by decide) wf_M_109 (fun _ _ => rfl) ?_
          refine x_iconst (v := nI 1) d_M_reduced_76 (by decide) ?_
          refine x_icmp_ne_t (tgt := 84) d_M_reduced_77 (by decide) ((by rw [r0]; decide)) ?_
          refine x_aload_n d_M_reduced_84 rfl ?_
          refine xm_get (j := 18) d_M_reduced_85 hs rfl (by decide) wf_M_109 (fun _ _ => rfl) ?_
          refine x_iconst (v := nI 2) d_M_reduced_88 (by decide) ?_
          refine x_icmp_ne_t (tgt := 109) d_M_reduced_89 (by decide) ((by rw [r0]; decide)) ?_
          refine x_aload_n d_M_reduced_109 rfl ?_
          refine xm_get (j := 18) d_M_reduced_110 hs rfl (by decide) wf_M_109 (fun _ _ => rfl) ?_
          refine x_iconst (v := nI 3) d_M_reduced_113 (by decide) ?_
          refine x_icmp_ne_t (tgt := 125) d_M_reduced_114 (by decide) ((by rw [r0]; decide)) ?_
          refine x_aload_n d_M_reduced_125 rfl ?_
          refine xm_get (j := 18) d_M_reduced_126 hs rfl (by decide) wf_M_109 (fun _ _ => rfl) ?_
          refine x_iconst (v := nI 4) d_M_reduced_129 (by decide) ?_
          refine x_icmp_ne_t (tgt := 150) d_M_reduced_130 (by decide) ((by rw [r0]; decide)) ?_
          refine x_aload_n d_M_reduced_150 rfl ?_
          refine xm_get (j := 18) d_M_reduced_151 hs rfl (by decide) wf_M_109 (fun _ _ => rfl) ?_
          refine x_iconst (v := nI 4) d_M_reduced_154 (by decide) ?_
          refine x_icmp_ne_t (tgt := 172) d_M_reduced_155 (by decide) ((by rw [r0]; decide)) ?_
          refine xV.loc (go) (by repeat (first | exact trivial | refine ⟨rfl, ?_⟩))
        by_cases r1 : S 0 18 = nI 1
        · have go := go (nI n + nI 1) (by unfold cmb; rw [if_neg r0, if_pos r1]) (fun q => by rw [r1] at q; exact absurd q.1 (by decide))
          refine x_if_ne_t (tgt := 72) d_M_reduced_64 (by decide) ((r0)) ?_
          refine x_aload_n d_M_reduced_72 rfl ?_
          refine xm_get (j := 18) d_M_reduced_73 hs rfl (by decide) wf_M_109 (fun _ _ => rfl) ?_
          refine x_iconst (v := nI 1) d_M_reduced_76 (by decide) ?_
          refine x_icmp_ne_f 84 d_M_reduced_77 (by decide) ((r1)) ?_
          refine x_iload_n d_M_reduced_80 rfl ?_
          refine x_iconst (v := nI 1) d_M_reduced_81 (by decide) ?_
          refine x_iadd d_M_reduced_82 ?_
          refine x_istore_n d_M_reduced_83 (by decide) ?_
          refine x_aload_n d_M_reduced_84 rfl ?_
          refine xm_get (j := 18) d_M_reduced_85 hs rfl (by decide) wf_M_109 (fun _ _ => rfl) ?_
          refine x_iconst (v := nI 2) d_M_reduced_88 (by decide) ?_
          refine x_icmp_ne_t (tgt := 109) d_M_reduced_89 (by decide) ((by rw [r1]; decide)) ?_
          refine x_aload_n d_M_reduced_109 rfl ?_
          refine xm_get (j := 18) d_M_reduced_110 hs rfl (by decide) wf_M_109 (fun _ _ => rfl) ?_
          refine x_iconst (v := nI 3) d_M_reduced_113 (by decide) ?_
          refine x_icmp_ne_t (tgt := 125) d_M_reduced_114 (by decide) ((by rw [r1]; decide)) ?_
          refine x_aload_n d_M_reduced_125 rfl ?_
          refine xm_get (j := 18) d_M_reduced_126 hs rfl (by decide) wf_M_109 (fun _ _ => rfl) ?_
          refine x_iconst (v := nI 4) d_M_reduced_129 (by decide) ?_
          refine x_icmp_ne_t (tgt := 150) d_M_reduced_130 (by decide) ((by rw [r1]; decide)) ?_
          refine x_aload_n d_M_reduced_150 rfl ?_
          refine xm_get (j := 18) d_M_reduced_151 hs rfl (by decide) wf_M_109 (fun _ _ => rfl) ?_
          refine x_iconst (v := nI 4) d_M_reduced_154 (by decide) ?_
          refine x_icmp_ne_t (tgt := 172) d_M_reduced_155 (by decide) ((by rw [r1]; decide)) ?_
          refine xV.loc (go) (by repeat (first | exact trivial | refine ⟨rfl, ?_⟩))
        by_cases r2 : S 0 18 = nI 2
        · have go2 := go (if n = 0 ∨ x < S 11 j then S 11 j else x) (by unfold cmb; rw [if_neg r0, if_neg r1, if_pos r2]) (fun q => by rw [r2] at q; exact absurd q.1 (by decide))
          refine x_if_ne_t (tgt := 72) d_M_reduced_64 (by decide) ((r0)) ?_
          refine x_aload_n d_M_reduced_72 rfl ?_
          refine xm_get (j := 18) d_M_reduced_73 hs rfl (by decide) wf_M_109 (fun _ _ => rfl) ?_
          refine x_iconst (v := nI 1) d_M_reduced_76 (by decide) ?_
          refine x_icmp_ne_t (tgt := 84) d_M_reduced_77 (by decide) ((r1)) ?_
          refine x_aload_n d_M_reduced_84 rfl ?_
          refine xm_get (j := 18) d_M_reduced_85 hs rfl (by decide) wf_M_109 (fun _ _ => rfl) ?_
          refine x_iconst (v := nI 2) d_M_reduced_88 (by decide) ?_
          refine x_icmp_ne_f 109 d_M_reduced_89 (by decide) ((r2)) ?_
          refine x_iload_n d_M_reduced_92 rfl ?_
          by_cases n0 : n = 0
          · rw [if_pos (Or.inl n0)] at go2
            refine x_if_eq_t (tgt := 102) d_M_reduced_93 (by decide) ((by rw [n0]; rfl)) ?_
            refine x_iload d_M_reduced_102 rfl ?_
            refine x_goto (tgt := 108) d_M_reduced_104 (by decide) ?_
            refine x_istore_n d_M_reduced_108 (by decide) ?_
            refine x_aload_n d_M_reduced_109 rfl ?_
            refine xm_get (j := 18) d_M_reduced_110 hs rfl (by decide) wf_M_109 (fun _ _ => rfl) ?_
            refine x_iconst (v := nI 3) d_M_reduced_113 (by decide) ?_
            refine x_icmp_ne_t (tgt := 125) d_M_reduced_114 (by decide) ((by rw [r2]; decide)) ?_
            refine x_aload_n d_M_reduced_125 rfl ?_
            refine xm_get (j := 18) d_M_reduced_126 hs rfl (by decide) wf_M_109 (fun _ _ => rfl) ?_
            refine x_iconst (v := nI 4) d_M_reduced_129 (by decide) ?_
            refine x_icmp_ne_t (tgt := 150) d_M_reduced_130 (by decide) ((by rw [r2]; decide)) ?_
            refine x_aload_n d_M_reduced_150 rfl ?_
            refine xm_get (j := 18) d_M_reduced_151 hs rfl (by decide) wf_M_109 (fun _ _ => rfl) ?_
            refine x_iconst (v := nI 4) d_M_reduced_154 (by decide) ?_
            refine x_icmp_ne_t (tgt := 172) d_M_reduced_155 (by decide) ((by rw [r2]; decide)) ?_
            refine xV.loc (go2) (by repeat (first | exact trivial | refine ⟨rfl, ?_⟩))
          · skip
            refine x_if_eq_f 102 d_M_reduced_93 (by decide) ((nI_ne0 (by omega) (by omega))) ?_
            refine x_iload d_M_reduced_96 rfl ?_
            refine x_iload_n d_M_reduced_98 rfl ?_
            refine x_icmp_le (tgt := 107) d_M_reduced_99 (by decide) (fun c3 => ?_) (fun c3 => ?_)
            · rw [if_neg (by rintro (q | q); exact n0 q; exact absurd q (Int32.not_lt.mpr c3))] at go2
              refine x_iload_n d_M_reduced_107 rfl ?_
              refine x_istore_n d_M_reduced_108 (by decide) ?_
              refine x_aload_n d_M_reduced_109 rfl ?_
              refine xm_get (j := 18) d_M_reduced_110 hs rfl (by decide) wf_M_109 (fun _ _ => rfl) ?_
              refine x_iconst (v := nI 3) d_M_reduced_113 (by decide) ?_
              refine x_icmp_ne_t (tgt := 125) d_M_reduced_114 (by decide) ((by rw [r2]; decide)) ?_
              refine x_aload_n d_M_reduced_125 rfl ?_
              refine xm_get (j := 18) d_M_reduced_126 hs rfl (by decide) wf_M_109 (fun _ _ => rfl) ?_
              refine x_iconst (v := nI 4) d_M_reduced_129 (by decide) ?_
              refine x_icmp_ne_t (tgt := 150) d_M_reduced_130 (by decide) ((by rw [r2]; decide)) ?_
              refine x_aload_n d_M_reduced_150 rfl ?_
              refine xm_get (j := 18) d_M_reduced_151 hs rfl (by decide) wf_M_109 (fun _ _ => rfl) ?_
              refine x_iconst (v := nI 4) d_M_reduced_154 (by decide) ?_
              refine x_icmp_ne_t (tgt := 172) d_M_reduced_155 (by decide) ((by rw [r2]; decide)) ?_
              refine xV.loc (go2) (by repeat (first | exact trivial | refine ⟨rfl, ?_⟩))
            · rw [if_pos (Or.inr (Int32.not_le.mp c3))] at go2
              refine x_iload d_M_reduced_102 rfl ?_
              refine x_goto (tgt := 108) d_M_reduced_104 (by decide) ?_
              refine x_istore_n d_M_reduced_108 (by decide) ?_
              refine x_aload_n d_M_reduced_109 rfl ?_
              refine xm_get (j := 18) d_M_reduced_110 hs rfl (by decide) wf_M_109 (fun _ _ => rfl) ?_
              refine x_iconst (v := nI 3) d_M_reduced_113 (by decide) ?_
              refine x_icmp_ne_t (tgt := 125) d_M_reduced_114 (by decide) ((by rw [r2]; decide)) ?_
              refine x_aload_n d_M_reduced_125 rfl ?_
              refine xm_get (j := 18) d_M_reduced_126 hs rfl (by decide) wf_M_109 (fun _ _ => rfl) ?_
              refine x_iconst (v := nI 4) d_M_reduced_129 (by decide) ?_
              refine x_icmp_ne_t (tgt := 150) d_M_reduced_130 (by decide) ((by rw [r2]; decide)) ?_
              refine x_aload_n d_M_reduced_150 rfl ?_
              refine xm_get (j := 18) d_M_reduced_151 hs rfl (by decide) wf_M_109 (fun _ _ => rfl) ?_
              refine x_iconst (v := nI 4) d_M_reduced_154 (by decide) ?_
              refine x_icmp_ne_t (tgt := 172) d_M_reduced_155 (by decide) ((by rw [r2]; decide)) ?_
              refine xV.loc (go2) (by repeat (first | exact trivial | refine ⟨rfl, ?_⟩))
        by_cases r3 : S 0 18 = nI 3
        · have go2 := go (x * nI 31 + S 11 j) (by unfold cmb; rw [if_neg r0, if_neg r1, if_neg r2, if_pos r3]) (fun q => by rw [r3] at q; exact absurd q.1 (by decide))
          refine x_if_ne_t (tgt := 72) d_M_reduced_64 (by decide) ((r0)) ?_
          refine x_aload_n d_M_reduced_72 rfl ?_
          refine xm_get (j := 18) d_M_reduced_73 hs rfl (by decide) wf_M_109 (fun _ _ => rfl) ?_
          refine x_iconst (v := nI 1) d_M_reduced_76 (by decide) ?_
          refine x_icmp_ne_t (tgt := 84) d_M_reduced_77 (by decide) ((r1)) ?_
          refine x_aload_n d_M_reduced_84 rfl ?_
          refine xm_get (j := 18) d_M_reduced_85 hs rfl (by decide) wf_M_109 (fun _ _ => rfl) ?_
          refine x_iconst (v := nI 2) d_M_reduced_88 (by decide) ?_
          refine x_icmp_ne_t (tgt := 109) d_M_reduced_89 (by decide) ((r2)) ?_
          refine x_aload_n d_M_reduced_109 rfl ?_
          refine xm_get (j := 18) d_M_reduced_110 hs rfl (by decide) wf_M_109 (fun _ _ => rfl) ?_
          refine x_iconst (v := nI 3) d_M_reduced_113 (by decide) ?_
          refine x_icmp_ne_f 125 d_M_reduced_114 (by decide) ((r3)) ?_
          refine x_iload_n d_M_reduced_117 rfl ?_
          refine x_bipush (v := nI 31) d_M_reduced_118 (by decide) ?_
          refine x_imul d_M_reduced_120 ?_
          refine x_iload d_M_reduced_121 rfl ?_
          refine x_iadd d_M_reduced_123 ?_
          refine x_istore_n d_M_reduced_124 (by decide) ?_
          refine x_aload_n d_M_reduced_125 rfl ?_
          refine xm_get (j := 18) d_M_reduced_126 hs rfl (by decide) wf_M_109 (fun _ _ => rfl) ?_
          refine x_iconst (v := nI 4) d_M_reduced_129 (by decide) ?_
          refine x_icmp_ne_t (tgt := 150) d_M_reduced_130 (by decide) ((by rw [r3]; decide)) ?_
          refine x_aload_n d_M_reduced_150 rfl ?_
          refine xm_get (j := 18) d_M_reduced_151 hs rfl (by decide) wf_M_109 (fun _ _ => rfl) ?_
          refine x_iconst (v := nI 4) d_M_reduced_154 (by decide) ?_
          refine x_icmp_ne_t (tgt := 172) d_M_reduced_155 (by decide) ((by rw [r3]; decide)) ?_
          refine xV.loc (go2) (by repeat (first | exact trivial | refine ⟨rfl, ?_⟩))
        by_cases r4 : S 0 18 = nI 4
        · skip
          refine x_if_ne_t (tgt := 72) d_M_reduced_64 (by decide) ((r0)) ?_
          refine x_aload_n d_M_reduced_72 rfl ?_
          refine xm_get (j := 18) d_M_reduced_73 hs rfl (by decide) wf_M_109 (fun _ _ => rfl) ?_
          refine x_iconst (v := nI 1) d_M_reduced_76 (by decide) ?_
          refine x_icmp_ne_t (tgt := 84) d_M_reduced_77 (by decide) ((r1)) ?_
          refine x_aload_n d_M_reduced_84 rfl ?_
          refine xm_get (j := 18) d_M_reduced_85 hs rfl (by decide) wf_M_109 (fun _ _ => rfl) ?_
          refine x_iconst (v := nI 2) d_M_reduced_88 (by decide) ?_
          refine x_icmp_ne_t (tgt := 109) d_M_reduced_89 (by decide) ((r2)) ?_
          refine x_aload_n d_M_reduced_109 rfl ?_
          refine xm_get (j := 18) d_M_reduced_110 hs rfl (by decide) wf_M_109 (fun _ _ => rfl) ?_
          refine x_iconst (v := nI 3) d_M_reduced_113 (by decide) ?_
          refine x_icmp_ne_t (tgt := 125) d_M_reduced_114 (by decide) ((r3)) ?_
          refine x_aload_n d_M_reduced_125 rfl ?_
          refine xm_get (j := 18) d_M_reduced_126 hs rfl (by decide) wf_M_109 (fun _ _ => rfl) ?_
          refine x_iconst (v := nI 4) d_M_reduced_129 (by decide) ?_
          refine x_icmp_ne_f 150 d_M_reduced_130 (by decide) ((r4)) ?_
          refine x_iload_n d_M_reduced_133 rfl ?_
          by_cases n0 : n = 0
          · have go2 := go (S 11 j) (by unfold cmb; rw [if_neg r0, if_neg r1, if_neg r2, if_neg r3, if_pos r4, if_pos n0]) (fun q => by omega)
            refine x_if_le_t (tgt := 150) d_M_reduced_134 (by decide) ((by rw [n0]; decide)) ?_
            refine x_aload_n d_M_reduced_150 rfl ?_
            refine xm_get (j := 18) d_M_reduced_151 hs rfl (by decide) wf_M_109 (fun _ _ => rfl) ?_
            refine x_iconst (v := nI 4) d_M_reduced_154 (by decide) ?_
            refine x_icmp_ne_f 172 d_M_reduced_155 (by decide) ((r4)) ?_
            refine x_iload_n d_M_reduced_158 rfl ?_
            refine x_if_ne_f 167 d_M_reduced_159 (by decide) ((by rw [n0]; rfl)) ?_
            refine x_iload d_M_reduced_162 rfl ?_
            refine x_goto (tgt := 171) d_M_reduced_164 (by decide) ?_
            refine x_istore_n d_M_reduced_171 (by decide) ?_
            refine xV.loc (go2) (by repeat (first | exact trivial | refine ⟨rfl, ?_⟩))
          · skip
            refine x_if_le_f 150 d_M_reduced_134 (by decide) ((nI_nle (by omega) (by omega))) ?_
            refine x_iload d_M_reduced_137 rfl ?_
            refine x_if_ne (tgt := 150) d_M_reduced_139 (by decide) (fun c3 => ?_) (fun c3 => ?_)
            · have go2 := go (x / S 11 j) (by unfold cmb; rw [if_neg r0, if_neg r1, if_neg r2, if_neg r3, if_pos r4, if_neg n0]) (fun q => c3 q.2.2)
              refine x_aload_n d_M_reduced_150 rfl ?_
              refine xm_get (j := 18) d_M_reduced_151 hs rfl (by decide) wf_M_109 (fun _ _ => rfl) ?_
              refine x_iconst (v := nI 4) d_M_reduced_154 (by decide) ?_
              refine x_icmp_ne_f 172 d_M_reduced_155 (by decide) ((r4)) ?_
              refine x_iload_n d_M_reduced_158 rfl ?_
              refine x_if_ne_t (tgt := 167) d_M_reduced_159 (by decide) ((nI_ne0 (by omega) (by omega))) ?_
              refine x_iload_n d_M_reduced_167 rfl ?_
              refine x_iload d_M_reduced_168 rfl ?_
              refine x_idiv d_M_reduced_170 (by first | decide | assumption) ?_
              refine x_istore_n d_M_reduced_171 (by decide) ?_
              refine xV.loc (go2) (by repeat (first | exact trivial | refine ⟨rfl, ?_⟩))
            · rw [if_pos ⟨r4, by omega, c3⟩]
              have fin := rd_fin (l := l) (G := G) hs (T := xu S 0 14 (nI 3)) (x := x) (n := n + 1) (by omega)
              refine x_aload_n d_M_reduced_142 rfl ?_
              refine x_iconst (v := nI 3) d_M_reduced_143 (by decide) ?_
              refine xm_put (j := 14) d_M_reduced_144 hs rfl (by decide) wf_M_64 (Or.inl rfl) (by first | rfl | assumption) rfl (fun _ _ => rfl) ?_
              refine x_goto (tgt := 172) d_M_reduced_147 (by decide) ?_
              first | refine x_incN d_M_reduced_172 rfl (by decide) ?_ | refine x_inc d_M_reduced_172 rfl (by decide) ?_
              first | refine x_incN d_M_reduced_175 rfl (by decide) ?_ | refine x_inc d_M_reduced_175 rfl (by decide) ?_
              refine x_goto (tgt := 7) d_M_reduced_178 (by decide) ?_
              have e12 : xu S 0 14 (nI 3) 0 12 = nI np := (xu_j _ _ _ _ (by decide)).trans hp
              refine x_iload d_M_reduced_7 rfl ?_
              refine x_aload_n d_M_reduced_9 rfl ?_
              refine xm_get (j := 12) d_M_reduced_10 hs rfl (by decide) wf_M_86 (fun _ _ => rfl) ?_
              rw [e12]
              by_cases hl : j + 1 < np
              · have := hj10' hl
                refine x_icmp_ge_f 181 d_M_reduced_13 (by decide) ((nI_ge (by omega) (by omega))) ?_
                refine x_aload_n d_M_reduced_16 rfl ?_
                refine xm_ref (k := 10) (j := 9) d_M_reduced_17 hs (by decide) rfl rfl (by decide) wf_M_38 rfl ?_
                refine x_iload d_M_reduced_20 rfl ?_
                refine xm_ald d_M_reduced_22 hs (by decide) rfl (by first | decide | assumption | omega) ?_
                refine x_aload_n d_M_reduced_23 rfl ?_
                refine xm_ref (k := 10) (j := 9) d_M_reduced_24 hs (by decide) rfl rfl (by decide) wf_M_38 rfl ?_
                refine x_iload_n d_M_reduced_27 rfl ?_
                refine xm_ald d_M_reduced_28 hs (by decide) rfl (by first | decide | assumption | omega) ?_
                refine x_icmp_ne (tgt := 181) d_M_reduced_29 (by decide) (fun c4 => ?_) (fun c4 => ?_)
                · skip
                  refine xV.loc (fin) (by repeat (first | exact trivial | refine ⟨rfl, ?_⟩))
                · refine x_aload_n d_M_reduced_32 rfl ?_
                  refine xm_get (j := 14) d_M_reduced_33 hs rfl (by decide) wf_M_64 (fun _ _ => rfl) ?_
                  rw [xu_s]
                  refine x_if_ne_t (tgt := 181) d_M_reduced_36 (by decide) ((by decide)) ?_
                  refine xV.loc (fin) (by repeat (first | exact trivial | refine ⟨rfl, ?_⟩))
              · skip
                refine x_icmp_ge_t (tgt := 181) d_M_reduced_13 (by decide) ((nI_le (by omega) (by omega))) ?_
                refine xV.loc (fin) (by repeat (first | exact trivial | refine ⟨rfl, ?_⟩))
        · have go2 := go x (by unfold cmb; rw [if_neg r0, if_neg r1, if_neg r2, if_neg r3, if_neg r4]) (fun q => r4 q.1)
          refine x_if_ne_t (tgt := 72) d_M_reduced_64 (by decide) ((r0)) ?_
          refine x_aload_n d_M_reduced_72 rfl ?_
          refine xm_get (j := 18) d_M_reduced_73 hs rfl (by decide) wf_M_109 (fun _ _ => rfl) ?_
          refine x_iconst (v := nI 1) d_M_reduced_76 (by decide) ?_
          refine x_icmp_ne_t (tgt := 84) d_M_reduced_77 (by decide) ((r1)) ?_
          refine x_aload_n d_M_reduced_84 rfl ?_
          refine xm_get (j := 18) d_M_reduced_85 hs rfl (by decide) wf_M_109 (fun _ _ => rfl) ?_
          refine x_iconst (v := nI 2) d_M_reduced_88 (by decide) ?_
          refine x_icmp_ne_t (tgt := 109) d_M_reduced_89 (by decide) ((r2)) ?_
          refine x_aload_n d_M_reduced_109 rfl ?_
          refine xm_get (j := 18) d_M_reduced_110 hs rfl (by decide) wf_M_109 (fun _ _ => rfl) ?_
          refine x_iconst (v := nI 3) d_M_reduced_113 (by decide) ?_
          refine x_icmp_ne_t (tgt := 125) d_M_reduced_114 (by decide) ((r3)) ?_
          refine x_aload_n d_M_reduced_125 rfl ?_
          refine xm_get (j := 18) d_M_reduced_126 hs rfl (by decide) wf_M_109 (fun _ _ => rfl) ?_
          refine x_iconst (v := nI 4) d_M_reduced_129 (by decide) ?_
          refine x_icmp_ne_t (tgt := 150) d_M_reduced_130 (by decide) ((r4)) ?_
          refine x_aload_n d_M_reduced_150 rfl ?_
          refine xm_get (j := 18) d_M_reduced_151 hs rfl (by decide) wf_M_109 (fun _ _ => rfl) ?_
          refine x_iconst (v := nI 4) d_M_reduced_154 (by decide) ?_
          refine x_icmp_ne_t (tgt := 172) d_M_reduced_155 (by decide) ((r4)) ?_
          refine xV.loc (go2) (by repeat (first | exact trivial | refine ⟨rfl, ?_⟩))
      · have c2' : S 11 j < S 0 16 := Int32.not_le.mp c2
        have nx := ih (j + 1) x n (by omega) (by omega)
        rw [show rd S (S 10 fm) (m + 1) j x n = rd S (S 10 fm) m (j + 1) x n by rw [rd, if_pos c1, if_pos c2']]
        refine x_goto (tgt := 175) d_M_reduced_57 (by decide) ?_
        first | refine x_incN d_M_reduced_175 rfl (by decide) ?_ | refine x_inc d_M_reduced_175 rfl (by decide) ?_
        refine x_goto (tgt := 7) d_M_reduced_178 (by decide) ?_
        refine xV.loc (nx) (by repeat (first | exact trivial | refine ⟨rfl, ?_⟩))
theorem c_M_reduced (hs : MSh h0 y) {np fm : Nat} (hp : S 0 12 = nI np) (hnp : np ≤ 300) (ht : S 0 14 = 0) (hfm : fm < np) :
    xVM l G 0 0 m_M_reduced [.ref y, .int (nI fm)] (mset y S h0) (fun r h' => r = .inl (some (.int (rd S (S 10 fm) (np - fm) fm (nI 0) 0).1)) ∧ h' = mset y (rdT S (rd S (S 10 fm) (np - fm) fm (nI 0) 0)) h0) := by
  have := rd_loop (l := l) (G := G) hs hp hnp ht hfm (np - fm) fm (nI 0) 0 (by omega) (by omega)
  unfold xVM
  refine x_iconst (v := nI 0) d_M_reduced_0 (by decide) ?_
  refine x_istore_n d_M_reduced_1 (by decide) ?_
  refine x_iconst (v := nI 0) d_M_reduced_2 (by decide) ?_
  refine x_istore_n d_M_reduced_3 (by decide) ?_
  refine x_iload_n d_M_reduced_4 rfl ?_
  refine x_istore d_M_reduced_5 (by decide) ?_
  refine xV.loc (this) (by repeat (first | exact trivial | refine ⟨rfl, ?_⟩))
end XM6
