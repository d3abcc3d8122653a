theorem xdfI {h : xH} {t N sl : Nat} (j : Nat) : defaultValue .int = xsv .int (xnw h t N sl) (xnx h) j := by
  show Value.int 0 = Value.int (xr (xI h) (xnx h) (fun _ => (0 : Int32)) (xnx h) j); rw [xr_s]
theorem xdfZ {h : xH} {t N sl : Nat} (j : Nat) : defaultValue .boolean = xsv .boolean (xnw h t N sl) (xnx h) j := by
  show Value.int 0 = Value.int (xr (xI h) (xnx h) (fun _ => (0 : Int32)) (xnx h) j); rw [xr_s]
def mini (k j : Nat) : Int32 := if j < 4 then (if k = 3 then nI 1 else if k = 4 then -1 else if k = 7 then nI 1 else 0) else 0
def msum : Nat → Nat
  | 0 => 0
  | n + 1 => msum n + mlen (n + 1)
/-- the first n arrays of the reference are made; g: the heap before -/
def MB (g h : xH) (y n : Nat) (sc : Nat → Int32) : Prop := xnx h = y + 1 + n ∧ xsl h = xsl g + msum n ∧ xT h y = 6 + 1 ∧ (∀ k, 1 ≤ k → k ≤ n → xT h (y + k) = mkd k ∧ xN h (y + k) = mlen k ∧ xP h y (mfi k) = some (y + k) ∧ ∀ j, xI h (y + k) j = mini k j) ∧ (∀ j, xI h y j = sc j) ∧ ∀ a, a < y → xT h a = xT g a ∧ xN h a = xN g a ∧ xI h a = xI g a ∧ xP h a = xP g a ∧ xJ h a = xJ g a
theorem MB.T {g h : xH} {y n : Nat} {sc : Nat → Int32} (b : MB g h y n sc) : xT h y = 6 + 1 := b.2.2.1
theorem MB.ne {g h : xH} {y n : Nat} {sc : Nat → Int32} (b : MB g h y n sc) : y ≠ xnx h := by rw [b.1]; omega
theorem MB.T2 {g h : xH} {y n t N sl : Nat} {sc : Nat → Int32} (b : MB g h y n sc) : xT (xnw h t N sl) y = 6 + 1 := (xr_n _ _ b.ne).trans b.T
theorem MB.step {g h hx : xH} {y n j : Nat} {sc : Nat → Int32} (b : MB g h y n sc) (hn : n + 1 < 16) (hj : j = mfi (n + 1)) (e1 : hx.1 = (xnx h + 1, xsl h + mlen (n + 1))) (eT : xT hx = xr (xT h) (xnx h) (mkd (n + 1))) (eN : xN hx = xr (xN h) (xnx h) (mlen (n + 1)))
    (eI : ∀ a, a ≠ xnx h → xI hx a = xI h a) (eI2 : ∀ i, xI hx (xnx h) i = mini (n + 1) i) (eP : ∀ a, a ≠ xnx h → xP hx a = xP h a) (eJ : ∀ a, a ≠ xnx h → xJ hx a = xJ h a) : MB g (xwP hx y j (some (xnx h))) y (n + 1) sc := by
  obtain ⟨b1, b2, b3, b4, b5, b6⟩ := b
  refine ⟨?_, ?_, ?_, ?_, ?_, ?_⟩
  · show hx.1.1 = _; rw [e1]; show xnx h + 1 = _; omega
  · show hx.1.2 = _; rw [e1]; show xsl h + mlen (n + 1) = xsl g + (msum n + mlen (n + 1)); omega
  · show xT hx y = _; rw [eT, xr_n _ _ (by omega)]; exact b3
  · intro k hk1 hk2
    by_cases hk : k = n + 1
    · subst hk
      have ea : y + (n + 1) = xnx h := by omega
      refine ⟨?_, ?_, ?_, ?_⟩
      · show xT hx _ = _; rw [eT, ea, xr_s]
      · show xN hx _ = _; rw [eN, ea, xr_s]
      · show xu _ y j _ y _ = _; rw [← hj, xu_s, ea]
      · intro i; show xI hx _ i = _; rw [ea]; exact eI2 i
    · obtain ⟨c1, c2, c3, c4⟩ := b4 k hk1 (by omega)
      refine ⟨?_, ?_, ?_, ?_⟩
      · show xT hx _ = _; rw [eT, xr_n _ _ (by omega)]; exact c1
      · show xN hx _ = _; rw [eN, xr_n _ _ (by omega)]; exact c2
      · exact (xu_j _ _ _ _ (by rw [hj]; unfold mfi; split <;> split <;> omega)).trans ((congrFun (eP y (by omega)) _).trans c3)
      · intro i; show xI hx _ i = _; rw [eI _ (by omega)]; exact c4 i
  · intro i; show xI hx y i = _; rw [eI _ (by omega)]; exact b5 i
  · intro a ha
    obtain ⟨c1, c2, c3, c4, c5⟩ := b6 a ha
    refine ⟨?_, ?_, ?_, ?_, ?_⟩
    · show xT hx a = _; rw [eT, xr_n _ _ (by omega)]; exact c1
    · show xN hx a = _; rw [eN, xr_n _ _ (by omega)]; exact c2
    · show xI hx a = _; rw [eI _ (by omega)]; exact c3
    · funext i; exact (xu_a _ _ _ _ (by omega)).trans (congrFun ((eP a (by omega)).trans c4) i)
    · show xJ hx a = _; rw [eJ _ (by omega)]; exact c5
theorem MB.new {g h : xH} {y n j : Nat} {sc : Nat → Int32} (b : MB g h y n sc) (hn : n + 1 < 16) (hj : j = mfi (n + 1)) (hz : ∀ i, mini (n + 1) i = 0) : MB g (xwP (xnw h (mkd (n + 1)) (mlen (n + 1)) (mlen (n + 1))) y j (some (xnx h))) y (n + 1) sc :=
  b.step hn hj rfl rfl rfl (fun a ha => xr_n _ _ ha) (fun i => by rw [hz]; exact congrFun (xr_s _ _ _) i) (fun a ha => xr_n _ _ ha) (fun a ha => xr_n _ _ ha)
theorem MB.new4 {g h : xH} {y n j : Nat} {sc : Nat → Int32} {v : Int32} (b : MB g h y n sc) (hn : n + 1 < 16) (hj : j = mfi (n + 1)) (hz : ∀ i, mini (n + 1) i = if i < 4 then v else 0) :
    MB g (xwP (xwI (xwI (xwI (xwI (xnw h (mkd (n + 1)) (mlen (n + 1)) (mlen (n + 1))) (xnx h) 0 v) (xnx h) 1 v) (xnx h) 2 v) (xnx h) 3 v) y j (some (xnx h))) y (n + 1) sc :=
  b.step hn hj rfl rfl rfl (fun a ha => by funext i; show xu (xu (xu (xu (xr (xI h) (xnx h) (fun _ => 0)) (xnx h) 0 v) (xnx h) 1 v) (xnx h) 2 v) (xnx h) 3 v a i = _; rw [xu_a _ _ _ _ ha, xu_a _ _ _ _ ha, xu_a _ _ _ _ ha, xu_a _ _ _ _ ha]; exact congrFun (xr_n _ _ ha) i)
    (fun i => by
      rw [hz]
      show xu (xu (xu (xu (xr (xI h) (xnx h) (fun _ => 0)) (xnx h) 0 v) (xnx h) 1 v) (xnx h) 2 v) (xnx h) 3 v (xnx h) i = _
      obtain rfl | rfl | rfl | rfl | h4 : i = 0 ∨ i = 1 ∨ i = 2 ∨ i = 3 ∨ 4 ≤ i := by omega
      · rw [xu_j _ _ _ _ (by decide), xu_j _ _ _ _ (by decide), xu_j _ _ _ _ (by decide), xu_s]; rfl
      · rw [xu_j _ _ _ _ (by decide), xu_j _ _ _ _ (by decide), xu_s]; rfl
      · rw [xu_j _ _ _ _ (by decide), xu_s]; rfl
      · rw [xu_s]; rfl
      · rw [if_neg (by omega), xu_j _ _ _ _ (by omega), xu_j _ _ _ _ (by omega), xu_j _ _ _ _ (by omega), xu_j _ _ _ _ (by omega)]; exact congrFun (xr_s _ _ _) i)
    (fun a ha => xr_n _ _ ha) (fun a ha => xr_n _ _ ha)
theorem MB.sc {g h : xH} {y n j : Nat} {sc : Nat → Int32} {v : Int32} (b : MB g h y n sc) : MB g (xwI h y j v) y n (fun i => if i = j then v else sc i) := by
  obtain ⟨b1, b2, b3, b4, b5, b6⟩ := b
  refine ⟨b1, b2, b3, ?_, ?_, ?_⟩
  · intro k hk1 hk2
    obtain ⟨c1, c2, c3, c4⟩ := b4 k hk1 hk2
    exact ⟨c1, c2, c3, fun i => (xu_a _ _ _ _ (by omega)).trans (c4 i)⟩
  · intro i
    show xu (xI h) y j v y i = if i = j then v else sc i
    by_cases hi : i = j
    · rw [hi, xu_s, if_pos rfl]
    · rw [xu_j _ _ _ _ hi, if_neg hi]; exact b5 i
  · intro a ha
    obtain ⟨c1, c2, c3, c4, c5⟩ := b6 a ha
    exact ⟨c1, c2, by funext i; show xu (xI h) y j v a i = _; rw [xu_a _ _ _ _ (by omega), c3], c4, c5⟩
theorem xabs {P : xH → Prop} {l : Launch} {G : xG} {fr wd : Nat} {M : xM} {pc : Nat} {L : List (Nat × Value)} {st : List Value} {H : xH} {Q : xR → xH → Prop} (p : P H) (k : ∀ h, P h → xV l G fr wd M pc L st h Q) : xV l G fr wd M pc L st H Q := k H p
def sc0 : Nat → Int32 := fun i => if i = 17 then -1 else if i = 15 then -2147483648 else 0
section XM15
variable {l : Launch} {G : xG} {y : Nat}
theorem x_zastN {h : xH} {fr wd : Nat} {M : xM} {pc : Nat} {L : List (Nat × Value)} {st : List Value} {Q : xR → xH → Prop} {a i cap : Nat} {v : Int32} (hd : decode (xMc M) pc = .ok (.bastore, 1)) (hT : xT h a = 101) (hn : xN h a = cap) (hi : i < cap) (hc : cap < 2 ^ 31) (hx0 : narrow .boolean (.int v) = .int v)
    (kq : xV l G fr wd M (pc + 1) L st (xwI h a i v) Q) : xV l G fr wd M pc L (.int v :: .int (nI i) :: .ref a :: st) h Q := by
  refine x_zast (t := 101) hd hT (by decide) rfl (by rw [hn]; exact vp_in_nI hi hc) hx0 ?_
  rw [nI_clamp (Nat.lt_trans hi hc)]
  exact kq
theorem c_M_init {g : xH} (hnx : xnx g = y + 1) (hT : xT g y = 6 + 1) (hI : ∀ j, xI g y j = 0) : xVM l G 1 20 m_M_init [.ref y] g (fun r h' => r = .inl none ∧ MB g h' y 15 sc0) := by
  have b0 : MB g g y 0 (fun _ => 0) := ⟨by omega, rfl, hT, fun k h1 h2 => by omega, hI, fun a _ => ⟨rfl, rfl, rfl, rfl, rfl⟩⟩
  unfold xVM

  refine x_aload_n d_M_init_0 rfl ?_
  refine x_objInit d_M_init_1 wl_M_1 wm_O_init wc_O_init (by decide) (by decide) (by decide) ?_
  refine x_aload_n d_M_init_4 rfl ?_
  refine x_bipush (v := nI 6) d_M_init_5 (by decide) ?_
  refine x_newa (t := 100) (ty := .int) (N := 6) d_M_init_7 (by decide) rfl rfl (fun _ _ => rfl) wa_int (by decide) (by decide) (by decide) xdfI ?_
  refine x_putP (x := some _) (k := 6) (j := 0) d_M_init_9 (MB.T2 b0) rfl (by decide) wf_M_7 (Or.inr ⟨rfl, rfl, rfl⟩) rfl rfl rfl ?_
  refine xabs (P := fun h => MB g h y 1 (fun _ => 0)) (MB.new b0 (by decide) rfl (fun i => ite_self _)) (fun h1 b1 => ?_)
  refine x_aload_n d_M_init_12 rfl ?_
  refine x_bipush (v := nI 36) d_M_init_13 (by decide) ?_
  refine x_newa (t := 100) (ty := .int) (N := 36) d_M_init_15 (by decide) rfl rfl (fun _ _ => rfl) wa_int (by decide) (by decide) (by decide) xdfI ?_
  refine x_putP (x := some _) (k := 6) (j := 1) d_M_init_17 (MB.T2 b1) rfl (by decide) wf_M_13 (Or.inr ⟨rfl, rfl, rfl⟩) rfl rfl rfl ?_
  refine xabs (P := fun h => MB g h y 2 (fun _ => 0)) (MB.new b1 (by decide) rfl (fun i => ite_self _)) (fun h2 b2 => ?_)
  refine x_aload_n d_M_init_20 rfl ?_
  refine x_iconst (v := nI 4) d_M_init_21 (by decide) ?_
  refine x_newa (t := 100) (ty := .int) (N := 4) d_M_init_22 (by decide) rfl rfl (fun _ _ => rfl) wa_int (by decide) (by decide) (by decide) xdfI ?_
  refine x_dup d_M_init_24 rfl ?_
  refine x_iconst (v := nI 0) d_M_init_25 (by decide) ?_
  refine x_iconst (v := nI 1) d_M_init_26 (by decide) ?_
  refine x_iastN (cap := 4) d_M_init_27 (xr_s _ _ _) (xr_s _ _ _) (by decide) (by decide) ?_
  refine x_dup d_M_init_28 rfl ?_
  refine x_iconst (v := nI 1) d_M_init_29 (by decide) ?_
  refine x_iconst (v := nI 1) d_M_init_30 (by decide) ?_
  refine x_iastN (cap := 4) d_M_init_31 (xr_s _ _ _) (xr_s _ _ _) (by decide) (by decide) ?_
  refine x_dup d_M_init_32 rfl ?_
  refine x_iconst (v := nI 2) d_M_init_33 (by decide) ?_
  refine x_iconst (v := nI 1) d_M_init_34 (by decide) ?_
  refine x_iastN (cap := 4) d_M_init_35 (xr_s _ _ _) (xr_s _ _ _) (by decide) (by decide) ?_
  refine x_dup d_M_init_36 rfl ?_
  refine x_iconst (v := nI 3) d_M_init_37 (by decide) ?_
  refine x_iconst (v := nI 1) d_M_init_38 (by decide) ?_
  refine x_iastN (cap := 4) d_M_init_39 (xr_s _ _ _) (xr_s _ _ _) (by decide) (by decide) ?_
  refine x_putP (x := some _) (k := 6) (j := 2) d_M_init_40 (MB.T2 (sl := 4) b2) rfl (by decide) wf_M_16 (Or.inr ⟨rfl, rfl, rfl⟩) rfl rfl rfl ?_
  refine xabs (P := fun h => MB g h y 3 (fun _ => 0)) (MB.new4 b2 (by decide) rfl (fun i => rfl)) (fun h3 b3 => ?_)
  refine x_aload_n d_M_init_43 rfl ?_
  refine x_iconst (v := nI 4) d_M_init_44 (by decide) ?_
  refine x_newa (t := 100) (ty := .int) (N := 4) d_M_init_45 (by decide) rfl rfl (fun _ _ => rfl) wa_int (by decide) (by decide) (by decide) xdfI ?_
  refine x_dup d_M_init_47 rfl ?_
  refine x_iconst (v := nI 0) d_M_init_48 (by decide) ?_
  refine x_iconst (v := (-1)) d_M_init_49 (by decide) ?_
  refine x_iastN (cap := 4) d_M_init_50 (xr_s _ _ _) (xr_s _ _ _) (by decide) (by decide) ?_
  refine x_dup d_M_init_51 rfl ?_
  refine x_iconst (v := nI 1) d_M_init_52 (by decide) ?_
  refine x_iconst (v := (-1)) d_M_init_53 (by decide) ?_
  refine x_iastN (cap := 4) d_M_init_54 (xr_s _ _ _) (xr_s _ _ _) (by decide) (by decide) ?_
  refine x_dup d_M_init_55 rfl ?_
  refine x_iconst (v := nI 2) d_M_init_56 (by decide) ?_
  refine x_iconst (v := (-1)) d_M_init_57 (by decide) ?_
  refine x_iastN (cap := 4) d_M_init_58 (xr_s _ _ _) (xr_s _ _ _) (by decide) (by decide) ?_
  refine x_dup d_M_init_59 rfl ?_
  refine x_iconst (v := nI 3) d_M_init_60 (by decide) ?_
  refine x_iconst (v := (-1)) d_M_init_61 (by decide) ?_
  refine x_iastN (cap := 4) d_M_init_62 (xr_s _ _ _) (xr_s _ _ _) (by decide) (by decide) ?_
  refine x_putP (x := some _) (k := 6) (j := 3) d_M_init_63 (MB.T2 (sl := 4) b3) rfl (by decide) wf_M_19 (Or.inr ⟨rfl, rfl, rfl⟩) rfl rfl rfl ?_
  refine xabs (P := fun h => MB g h y 4 (fun _ => 0)) (MB.new4 b3 (by decide) rfl (fun i => rfl)) (fun h4 b4 => ?_)
  refine x_aload_n d_M_init_66 rfl ?_
  refine x_iconst (v := nI 4) d_M_init_67 (by decide) ?_
  refine x_newa (t := 100) (ty := .int) (N := 4) d_M_init_68 (by decide) rfl rfl (fun _ _ => rfl) wa_int (by decide) (by decide) (by decide) xdfI ?_
  refine x_putP (x := some _) (k := 6) (j := 4) d_M_init_70 (MB.T2 b4) rfl (by decide) wf_M_22 (Or.inr ⟨rfl, rfl, rfl⟩) rfl rfl rfl ?_
  refine xabs (P := fun h => MB g h y 5 (fun _ => 0)) (MB.new b4 (by decide) rfl (fun i => ite_self _)) (fun h5 b5 => ?_)
  refine x_aload_n d_M_init_73 rfl ?_
  refine x_iconst (v := nI 4) d_M_init_74 (by decide) ?_
  refine x_newa (t := 100) (ty := .int) (N := 4) d_M_init_75 (by decide) rfl rfl (fun _ _ => rfl) wa_int (by decide) (by decide) (by decide) xdfI ?_
  refine x_putP (x := some _) (k := 6) (j := 5) d_M_init_77 (MB.T2 b5) rfl (by decide) wf_M_25 (Or.inr ⟨rfl, rfl, rfl⟩) rfl rfl rfl ?_
  refine xabs (P := fun h => MB g h y 6 (fun _ => 0)) (MB.new b5 (by decide) rfl (fun i => ite_self _)) (fun h6 b6 => ?_)
  refine x_aload_n d_M_init_80 rfl ?_
  refine x_iconst (v := nI 4) d_M_init_81 (by decide) ?_
  refine x_newa (t := 101) (ty := .boolean) (N := 4) d_M_init_82 (by decide) rfl rfl (fun _ _ => rfl) wa_boolean (by decide) (by decide) (by decide) xdfZ ?_
  refine x_dup d_M_init_84 rfl ?_
  refine x_iconst (v := nI 0) d_M_init_85 (by decide) ?_
  refine x_iconst (v := nI 1) d_M_init_86 (by decide) ?_
  refine x_zastN (cap := 4) d_M_init_87 (xr_s _ _ _) (xr_s _ _ _) (by decide) (by decide) rfl ?_
  refine x_dup d_M_init_88 rfl ?_
  refine x_iconst (v := nI 1) d_M_init_89 (by decide) ?_
  refine x_iconst (v := nI 1) d_M_init_90 (by decide) ?_
  refine x_zastN (cap := 4) d_M_init_91 (xr_s _ _ _) (xr_s _ _ _) (by decide) (by decide) rfl ?_
  refine x_dup d_M_init_92 rfl ?_
  refine x_iconst (v := nI 2) d_M_init_93 (by decide) ?_
  refine x_iconst (v := nI 1) d_M_init_94 (by decide) ?_
  refine x_zastN (cap := 4) d_M_init_95 (xr_s _ _ _) (xr_s _ _ _) (by decide) (by decide) rfl ?_
  refine x_dup d_M_init_96 rfl ?_
  refine x_iconst (v := nI 3) d_M_init_97 (by decide) ?_
  refine x_iconst (v := nI 1) d_M_init_98 (by decide) ?_
  refine x_zastN (cap := 4) d_M_init_99 (xr_s _ _ _) (xr_s _ _ _) (by decide) (by decide) rfl ?_
  refine x_putP (x := some _) (k := 6) (j := 6) d_M_init_100 (MB.T2 (sl := 4) b6) rfl (by decide) wf_M_28 (Or.inr ⟨rfl, rfl, rfl⟩) rfl rfl rfl ?_
  refine xabs (P := fun h => MB g h y 7 (fun _ => 0)) (MB.new4 b6 (by decide) rfl (fun i => rfl)) (fun h7 b7 => ?_)
  refine x_aload_n d_M_init_103 rfl ?_
  refine x_bipush (v := nI 11) d_M_init_104 (by decide) ?_
  refine x_newa (t := 101) (ty := .boolean) (N := 11) d_M_init_106 (by decide) rfl rfl (fun _ _ => rfl) wa_boolean (by decide) (by decide) (by decide) xdfZ ?_
  refine x_putP (x := some _) (k := 6) (j := 7) d_M_init_108 (MB.T2 b7) rfl (by decide) wf_M_32 (Or.inr ⟨rfl, rfl, rfl⟩) rfl rfl rfl ?_
  refine xabs (P := fun h => MB g h y 8 (fun _ => 0)) (MB.new b7 (by decide) rfl (fun i => ite_self _)) (fun h8 b8 => ?_)
  refine x_aload_n d_M_init_111 rfl ?_
  refine x_bipush (v := nI 11) d_M_init_112 (by decide) ?_
  refine x_newa (t := 100) (ty := .int) (N := 11) d_M_init_114 (by decide) rfl rfl (fun _ _ => rfl) wa_int (by decide) (by decide) (by decide) xdfI ?_
  refine x_putP (x := some _) (k := 6) (j := 8) d_M_init_116 (MB.T2 b8) rfl (by decide) wf_M_35 (Or.inr ⟨rfl, rfl, rfl⟩) rfl rfl rfl ?_
  refine xabs (P := fun h => MB g h y 9 (fun _ => 0)) (MB.new b8 (by decide) rfl (fun i => ite_self _)) (fun h9 b9 => ?_)
  refine x_aload_n d_M_init_119 rfl ?_
  refine x_sipush (v := nI 300) d_M_init_120 (by decide) ?_
  refine x_newa (t := 100) (ty := .int) (N := 300) d_M_init_123 (by decide) rfl rfl (fun _ _ => rfl) wa_int (by decide) (by decide) (by decide) xdfI ?_
  refine x_putP (x := some _) (k := 6) (j := 9) d_M_init_125 (MB.T2 b9) rfl (by decide) wf_M_38 (Or.inr ⟨rfl, rfl, rfl⟩) rfl rfl rfl ?_
  refine xabs (P := fun h => MB g h y 10 (fun _ => 0)) (MB.new b9 (by decide) rfl (fun i => ite_self _)) (fun h10 b10 => ?_)
  refine x_aload_n d_M_init_128 rfl ?_
  refine x_sipush (v := nI 300) d_M_init_129 (by decide) ?_
  refine x_newa (t := 100) (ty := .int) (N := 300) d_M_init_132 (by decide) rfl rfl (fun _ _ => rfl) wa_int (by decide) (by decide) (by decide) xdfI ?_
  refine x_putP (x := some _) (k := 6) (j := 10) d_M_init_134 (MB.T2 b10) rfl (by decide) wf_M_41 (Or.inr ⟨rfl, rfl, rfl⟩) rfl rfl rfl ?_
  refine xabs (P := fun h => MB g h y 11 (fun _ => 0)) (MB.new b10 (by decide) rfl (fun i => ite_self _)) (fun h11 b11 => ?_)
  refine x_aload_n d_M_init_137 rfl ?_
  refine x_bipush (v := nI 6) d_M_init_138 (by decide) ?_
  refine x_newa (t := 100) (ty := .int) (N := 6) d_M_init_140 (by decide) rfl rfl (fun _ _ => rfl) wa_int (by decide) (by decide) (by decide) xdfI ?_
  refine x_putP (x := some _) (k := 6) (j := 11) d_M_init_142 (MB.T2 b11) rfl (by decide) wf_M_44 (Or.inr ⟨rfl, rfl, rfl⟩) rfl rfl rfl ?_
  refine xabs (P := fun h => MB g h y 12 (fun _ => 0)) (MB.new b11 (by decide) rfl (fun i => ite_self _)) (fun h12 b12 => ?_)
  refine x_aload_n d_M_init_145 rfl ?_
  refine x_ldc (v := (-2147483648)) d_M_init_146 wv_M_47 ?_
  refine x_putI (k := 6) (j := 15) d_M_init_148 (MB.T b12) rfl (by decide) wf_M_48 (Or.inl rfl) rfl rfl rfl ?_
  refine x_aload_n d_M_init_151 rfl ?_
  refine x_iconst (v := (-1)) d_M_init_152 (by decide) ?_
  refine x_putI (k := 6) (j := 17) d_M_init_153 (b12.2.2.1) rfl (by decide) wf_M_52 (Or.inl rfl) rfl rfl rfl ?_
  refine xabs (P := fun h => MB g h y 12 sc0) (by have := (b12.sc (j := 15) (v := -2147483648)).sc (j := 17) (v := -1); exact this) (fun h12b b12b => ?_)
  clear b12
  have b12 := b12b
  refine x_aload_n d_M_init_156 rfl ?_
  refine x_sipush (v := nI 300) d_M_init_157 (by decide) ?_
  refine x_newa (t := 100) (ty := .int) (N := 300) d_M_init_160 (by decide) rfl rfl (fun _ _ => rfl) wa_int (by decide) (by decide) (by decide) xdfI ?_
  refine x_putP (x := some _) (k := 6) (j := 28) d_M_init_162 (MB.T2 b12) rfl (by decide) wf_M_55 (Or.inr ⟨rfl, rfl, rfl⟩) rfl rfl rfl ?_
  refine xabs (P := fun h => MB g h y 13 sc0) (MB.new b12 (by decide) rfl (fun i => ite_self _)) (fun h13 b13 => ?_)
  refine x_aload_n d_M_init_165 rfl ?_
  refine x_sipush (v := nI 300) d_M_init_166 (by decide) ?_
  refine x_newa (t := 100) (ty := .int) (N := 300) d_M_init_169 (by decide) rfl rfl (fun _ _ => rfl) wa_int (by decide) (by decide) (by decide) xdfI ?_
  refine x_putP (x := some _) (k := 6) (j := 29) d_M_init_171 (MB.T2 b13) rfl (by decide) wf_M_58 (Or.inr ⟨rfl, rfl, rfl⟩) rfl rfl rfl ?_
  refine xabs (P := fun h => MB g h y 14 sc0) (MB.new b13 (by decide) rfl (fun i => ite_self _)) (fun h14 b14 => ?_)
  refine x_aload_n d_M_init_174 rfl ?_
  refine x_iconst (v := nI 3) d_M_init_175 (by decide) ?_
  refine x_newa (t := 100) (ty := .int) (N := 3) d_M_init_176 (by decide) rfl rfl (fun _ _ => rfl) wa_int (by decide) (by decide) (by decide) xdfI ?_
  refine x_putP (x := some _) (k := 6) (j := 30) d_M_init_178 (MB.T2 b14) rfl (by decide) wf_M_61 (Or.inr ⟨rfl, rfl, rfl⟩) rfl rfl rfl ?_
  refine xabs (P := fun h => MB g h y 15 sc0) (MB.new b14 (by decide) rfl (fun i => ite_self _)) (fun h15 b15 => ?_)
  refine x_vret d_M_init_181 rfl ?_
  exact ⟨rfl, b15⟩
end XM15
