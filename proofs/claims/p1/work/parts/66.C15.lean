theorem dfP : ∀ j, j < 3 → xft 3 j = .int ∨ xft 3 j = .boolean ∨ (∃ q, xft 3 j = .object q) ∨ ∃ q, xft 3 j = .array q := fun j hj => by
  rcases (by omega : j = 0 ∨ j = 1 ∨ j = 2) with rfl | rfl | rfl <;> first | exact Or.inl rfl | exact Or.inr (Or.inl rfl) | exact Or.inr (Or.inr (Or.inl ⟨_, rfl⟩)) | exact Or.inr (Or.inr (Or.inr ⟨_, rfl⟩))
theorem dfC : ∀ j, j < 2 → xft 1 j = .int ∨ xft 1 j = .boolean ∨ (∃ q, xft 1 j = .object q) ∨ ∃ q, xft 1 j = .array q := fun j hj => by
  rcases (by omega : j = 0 ∨ j = 1) with rfl | rfl <;> first | exact Or.inl rfl | exact Or.inr (Or.inl rfl) | exact Or.inr (Or.inr (Or.inl ⟨_, rfl⟩)) | exact Or.inr (Or.inr (Or.inr ⟨_, rfl⟩))
theorem dfJ : ∀ j, j < 5 → xft 2 j = .int ∨ xft 2 j = .boolean ∨ (∃ q, xft 2 j = .object q) ∨ ∃ q, xft 2 j = .array q := fun j hj => by
  rcases (by omega : j = 0 ∨ j = 1 ∨ j = 2 ∨ j = 3 ∨ j = 4) with rfl | rfl | rfl | rfl | rfl <;> first | exact Or.inl rfl | exact Or.inr (Or.inl rfl) | exact Or.inr (Or.inr (Or.inl ⟨_, rfl⟩)) | exact Or.inr (Or.inr (Or.inr ⟨_, rfl⟩))
theorem dfT : ∀ j, j < 5 → xft 4 j = .int ∨ xft 4 j = .boolean ∨ (∃ q, xft 4 j = .object q) ∨ ∃ q, xft 4 j = .array q := fun j hj => by
  rcases (by omega : j = 0 ∨ j = 1 ∨ j = 2 ∨ j = 3 ∨ j = 4) with rfl | rfl | rfl | rfl | rfl <;> first | exact Or.inl rfl | exact Or.inr (Or.inl rfl) | exact Or.inr (Or.inr (Or.inl ⟨_, rfl⟩)) | exact Or.inr (Or.inr (Or.inr ⟨_, rfl⟩))
theorem dfK : ∀ j, j < 5 → xft 5 j = .int ∨ xft 5 j = .boolean ∨ (∃ q, xft 5 j = .object q) ∨ ∃ q, xft 5 j = .array q := fun j hj => by
  rcases (by omega : j = 0 ∨ j = 1 ∨ j = 2 ∨ j = 3 ∨ j = 4) with rfl | rfl | rfl | rfl | rfl <;> first | exact Or.inl rfl | exact Or.inr (Or.inl rfl) | exact Or.inr (Or.inr (Or.inl ⟨_, rfl⟩)) | exact Or.inr (Or.inr (Or.inr ⟨_, rfl⟩))
abbrev j0 (s : SG) (k : Nat) : SG := sI (sI (sI (sP (sNew (sP (sNew s 113 3) k 0 (some s.1)) 113 3) k 1 (some (s.1 + 1))) k 2 (nI 0)) k 3 (nI 0)) k 4 (-2147483648)
abbrev jT (s : SG) (k a i : Nat) : SG := sP (pI (sNew s (3 + 1) 0) k 216) a i (some k)
abbrev jR (s : SG) (k a i : Nat) : SG := sP (pI (sNew s (3 + 1) 0) k 36) a i (some k)
def sA0 : SG := (1, fun _ => 1, fun _ => 0, fun _ _ => none, fun _ _ => 0)
def sA1 : SG := sP (sNew sA0 110 4) 0 0 (some 1)
def sA2 : SG := sP (sNew sA1 111 6) 0 1 (some 2)
def sA3 : SG := sP (sNew sA2 112 6) 0 2 (some 3)
def sA4 : SG := sP (sNew sA3 112 3) 0 3 (some 4)
def sA5 : SG := sP (pI (sNew sA4 (3 + 1) 0) 5 6) 0 4 (some 5)
def sJ8 : SG := sNew sA5 (2 + 1) 0
def u8_0 : SG := j0 sJ8 8
def u8_1 : SG := jT u8_0 11 9 0
def u8_2 : SG := jR u8_1 14 10 0
def u8_3 : SG := jT u8_2 17 9 1
def u8_4 : SG := jR u8_3 20 10 1
def u8_5 : SG := jT u8_4 23 9 2
def u8_6 : SG := jR u8_5 26 10 2
def sA6 : SG := sP u8_6 0 5 (some 8)
def sJ29 : SG := sNew sA6 (2 + 1) 0
def u29_0 : SG := j0 sJ29 29
def u29_1 : SG := jT u29_0 32 30 0
def u29_2 : SG := jR u29_1 35 31 0
def u29_3 : SG := jT u29_2 38 30 1
def u29_4 : SG := jR u29_3 41 31 1
def u29_5 : SG := jT u29_4 44 30 2
def u29_6 : SG := jR u29_5 47 31 2
def sA7 : SG := sP u29_6 0 6 (some 29)
def sA8 : SG := sI (sI (sI (sI (sI (sI (sI (sI sA7 0 7 (nI 0)) 0 8 (nI 0)) 0 9 (-1)) 0 10 (-2147483648)) 0 11 (nI 0)) 0 12 (nI 0)) 0 13 (nI 0)) 0 14 (nI 0)
def sW0 : SG := sA8
def sW1 : SG := sP (kI (sNew sW0 (5 + 1) 0) 50) 1 0 (some 50)
def sW2 : SG := sP (kI (sNew sW1 (5 + 1) 0) 51) 1 1 (some 51)
def sW3 : SG := sP (kI (sNew sW2 (5 + 1) 0) 52) 1 2 (some 52)
def sW4 : SG := sP (kI (sNew sW3 (5 + 1) 0) 53) 1 3 (some 53)
def sC0 : SG := sW4
def sD0 : SG := sP (cI (sNew sC0 (1 + 1) 0) 54) 2 0 (some 54)
def sC1 : SG := sP (tI (sNew sD0 (4 + 1) 0) 56 (nI 1) (nI 0)) 3 0 (some 56)
def sD1 : SG := sP (cI (sNew sC1 (1 + 1) 0) 57) 2 1 (some 57)
def sC2 : SG := sP (tI (sNew sD1 (4 + 1) 0) 59 (nI 1) (nI 1)) 3 1 (some 59)
def sD2 : SG := sP (cI (sNew sC2 (1 + 1) 0) 60) 2 2 (some 60)
def sC3 : SG := sP (tI (sNew sD2 (4 + 1) 0) 62 (nI 1) (nI 2)) 3 2 (some 62)
def sD3 : SG := sP (cI (sNew sC3 (1 + 1) 0) 63) 2 3 (some 63)
def sC4 : SG := sP (tI (sNew sD3 (4 + 1) 0) 65 (nI 1) (nI 3)) 3 3 (some 65)
def sD4 : SG := sP (cI (sNew sC4 (1 + 1) 0) 66) 2 4 (some 66)
def sC5 : SG := sP (tI (sNew sD4 (4 + 1) 0) 68 (nI 1) (nI 4)) 3 4 (some 68)
def sD5 : SG := sP (cI (sNew sC5 (1 + 1) 0) 69) 2 5 (some 69)
def sC6 : SG := sP (tI (sNew sD5 (4 + 1) 0) 71 (nI 1) (nI 5)) 3 5 (some 71)
def sR0 : SG := sC6
def sR1 : SG := sP (tI (sNew sR0 (4 + 1) 0) 72 (nI 0) (nI 0)) 4 0 (some 72)
def sR2 : SG := sP (tI (sNew sR1 (4 + 1) 0) 73 (nI 0) (nI 1)) 4 1 (some 73)
def sR3 : SG := sP (tI (sNew sR2 (4 + 1) 0) 74 (nI 0) (nI 2)) 4 2 (some 74)
section XC15
variable {l : Launch} {G : xG} {g h : xH} {z : Nat}
theorem c_J_init8 (b : CB g h z sJ8 54) : xVM l G 2 41 m_J_init [.ref (z + 8)] h (fun r h' => r = .inl none ∧ CB g h' z u8_6 1590) := by
  unfold xVM
  first | refine x_aload_n d_J_init_0 rfl ?_ | refine x_aloadq_n d_J_init_0 rfl ?_
  refine x_objInit d_J_init_1 wl_J_3 wm_O_init wc_O_init (by decide) (by decide) (by decide) ?_
  first | refine x_aload_n d_J_init_4 rfl ?_ | refine x_aloadq_n d_J_init_4 rfl ?_
  refine x_iconst (v := nI 3) d_J_init_5 (by decide) ?_
  refine b_anew (t := 113) (N := 3) b d_J_init_6 (by decide) rfl wk_J_9 wq_P (by decide) (fun h1 b1 => ?_)
  refine b_putP (kc := 2) (j := 0) b1 (by decide +kernel) (by decide +kernel) d_J_init_9 rfl (by decide) wf_J_11 (Or.inr ⟨rfl, rfl, rfl⟩) (fun _ => rfl) (fun _ => rfl) (fun _ _ => rfl) (fun h2 b2 => ?_)
  first | refine x_aload_n d_J_init_12 rfl ?_ | refine x_aloadq_n d_J_init_12 rfl ?_
  refine x_iconst (v := nI 3) d_J_init_13 (by decide) ?_
  refine b_anew (t := 113) (N := 3) b2 d_J_init_14 (by decide) rfl wk_J_9 wq_P (by decide) (fun h3 b3 => ?_)
  refine b_putP (kc := 2) (j := 1) b3 (by decide +kernel) (by decide +kernel) d_J_init_17 rfl (by decide) wf_J_17 (Or.inr ⟨rfl, rfl, rfl⟩) (fun _ => rfl) (fun _ => rfl) (fun _ _ => rfl) (fun h4 b4 => ?_)
  first | refine x_aload_n d_J_init_20 rfl ?_ | refine x_aloadq_n d_J_init_20 rfl ?_
  refine x_iconst (v := nI 0) d_J_init_21 (by decide) ?_
  refine b_putI (kc := 2) (j := 2) b4 (by decide +kernel) (by decide +kernel) d_J_init_22 rfl (by decide) wf_J_20 (Or.inl rfl) rfl rfl (fun _ _ => rfl) (fun h5 b5 => ?_)
  first | refine x_aload_n d_J_init_25 rfl ?_ | refine x_aloadq_n d_J_init_25 rfl ?_
  refine x_iconst (v := nI 0) d_J_init_26 (by decide) ?_
  refine b_putI (kc := 2) (j := 3) b5 (by decide +kernel) (by decide +kernel) d_J_init_27 rfl (by decide) wf_J_24 (Or.inl rfl) rfl rfl (fun _ _ => rfl) (fun h6 b6 => ?_)
  first | refine x_aload_n d_J_init_30 rfl ?_ | refine x_aloadq_n d_J_init_30 rfl ?_
  refine x_ldc (v := (-2147483648)) d_J_init_31 wv_J_27 ?_
  refine b_putI (kc := 2) (j := 4) b6 (by decide +kernel) (by decide +kernel) d_J_init_33 rfl (by decide) wf_J_28 (Or.inl rfl) rfl rfl (fun _ _ => rfl) (fun h7 b7 => ?_)
  refine x_iconst (v := nI 0) d_J_init_36 (by decide) ?_
  refine x_istore_n d_J_init_37 (by decide) ?_
  have c0 : CB g h7 z u8_0 60 := b7
  refine x_iload_n d_J_init_38 rfl ?_
  refine x_iconst (v := nI 3) d_J_init_39 (by decide) ?_
  refine x_icmp_ge_f 80 d_J_init_40 (by decide) ((by decide)) ?_
  first | refine x_aload_n d_J_init_43 rfl ?_ | refine x_aloadq_n d_J_init_43 rfl ?_
  refine b_getR (kc := 2) (j := 0) (m := 9) c0 (by decide +kernel) (by decide +kernel) (by decide +kernel) d_J_init_44 rfl (by decide) wf_J_11 (fun _ _ => rfl) ?_
  refine x_iload_n d_J_init_47 rfl ?_
  refine b_newm (kc := 3) (n := 3) (m := 11) c0 (by decide +kernel) d_J_init_48 rfl wk_J_9 wo_P wi_P rfl dfP (fun h8 b8 => ?_)
  refine x_dup d_J_init_51 rfl ?_
  refine x_sipush (v := nI 216) d_J_init_52 (by decide) ?_
  refine x_callI (M' := m_P_init) (As := [_]) (fr' := 1) (wd' := 20) d_J_init_55 pl_P_init rfl (Nat.le_of_ble_eq_true rfl) rfl rfl (by decide) (by decide) wc_P_init wi_P wl_J_31 wm_P_init (by decide) np_P_init (Nat.le_of_ble_eq_true rfl) (fun q hq => by cases hq) (c_P_init (cap := 216) b8 (by decide +kernel) (by decide +kernel) (by decide)) (fun k a h1 q => by cases q.1) (fun v h1 q => ?_)
  obtain ⟨q1, b9⟩ := q
  cases q1
  refine b_aast (t := 113) (N := 3) (kc := 3) b9 (by decide +kernel) (by decide +kernel) (by decide +kernel) (by decide +kernel) (by decide +kernel) d_J_init_58 (by decide) rfl rfl (by decide) (by decide) (fun h10 b10 => ?_)
  have c1 : CB g h10 z u8_1 495 := b10
  first | refine x_aload_n d_J_init_59 rfl ?_ | refine x_aloadq_n d_J_init_59 rfl ?_
  refine b_getR (kc := 2) (j := 1) (m := 10) c1 (by decide +kernel) (by decide +kernel) (by decide +kernel) d_J_init_60 rfl (by decide) wf_J_17 (fun _ _ => rfl) ?_
  refine x_iload_n d_J_init_63 rfl ?_
  refine b_newm (kc := 3) (n := 3) (m := 14) c1 (by decide +kernel) d_J_init_64 rfl wk_J_9 wo_P wi_P rfl dfP (fun h11 b11 => ?_)
  refine x_dup d_J_init_67 rfl ?_
  refine x_bipush (v := nI 36) d_J_init_68 (by decide) ?_
  refine x_callI (M' := m_P_init) (As := [_]) (fr' := 1) (wd' := 20) d_J_init_70 pl_P_init rfl (Nat.le_of_ble_eq_true rfl) rfl rfl (by decide) (by decide) wc_P_init wi_P wl_J_31 wm_P_init (by decide) np_P_init (Nat.le_of_ble_eq_true rfl) (fun q hq => by cases hq) (c_P_init (cap := 36) b11 (by decide +kernel) (by decide +kernel) (by decide)) (fun k a h1 q => by cases q.1) (fun v h1 q => ?_)
  obtain ⟨q1, b12⟩ := q
  cases q1
  refine b_aast (t := 113) (N := 3) (kc := 3) b12 (by decide +kernel) (by decide +kernel) (by decide +kernel) (by decide +kernel) (by decide +kernel) d_J_init_73 (by decide) rfl rfl (by decide) (by decide) (fun h13 b13 => ?_)
  have c2 : CB g h13 z u8_2 570 := b13
  first | refine x_incN d_J_init_74 rfl (by decide) ?_ | refine x_inc d_J_init_74 rfl (by decide) ?_
  refine x_goto (tgt := 38) d_J_init_77 (by decide) ?_
  rw [show nI (0 + 1) = nI 1 from rfl]
  refine x_iload_n d_J_init_38 rfl ?_
  refine x_iconst (v := nI 3) d_J_init_39 (by decide) ?_
  refine x_icmp_ge_f 80 d_J_init_40 (by decide) ((by decide)) ?_
  first | refine x_aload_n d_J_init_43 rfl ?_ | refine x_aloadq_n d_J_init_43 rfl ?_
  refine b_getR (kc := 2) (j := 0) (m := 9) c2 (by decide +kernel) (by decide +kernel) (by decide +kernel) d_J_init_44 rfl (by decide) wf_J_11 (fun _ _ => rfl) ?_
  refine x_iload_n d_J_init_47 rfl ?_
  refine b_newm (kc := 3) (n := 3) (m := 17) c2 (by decide +kernel) d_J_init_48 rfl wk_J_9 wo_P wi_P rfl dfP (fun h8 b8 => ?_)
  refine x_dup d_J_init_51 rfl ?_
  refine x_sipush (v := nI 216) d_J_init_52 (by decide) ?_
  refine x_callI (M' := m_P_init) (As := [_]) (fr' := 1) (wd' := 20) d_J_init_55 pl_P_init rfl (Nat.le_of_ble_eq_true rfl) rfl rfl (by decide) (by decide) wc_P_init wi_P wl_J_31 wm_P_init (by decide) np_P_init (Nat.le_of_ble_eq_true rfl) (fun q hq => by cases hq) (c_P_init (cap := 216) b8 (by decide +kernel) (by decide +kernel) (by decide)) (fun k a h1 q => by cases q.1) (fun v h1 q => ?_)
  obtain ⟨q1, b9⟩ := q
  cases q1
  refine b_aast (t := 113) (N := 3) (kc := 3) b9 (by decide +kernel) (by decide +kernel) (by decide +kernel) (by decide +kernel) (by decide +kernel) d_J_init_58 (by decide) rfl rfl (by decide) (by decide) (fun h10 b10 => ?_)
  have c3 : CB g h10 z u8_3 1005 := b10
  first | refine x_aload_n d_J_init_59 rfl ?_ | refine x_aloadq_n d_J_init_59 rfl ?_
  refine b_getR (kc := 2) (j := 1) (m := 10) c3 (by decide +kernel) (by decide +kernel) (by decide +kernel) d_J_init_60 rfl (by decide) wf_J_17 (fun _ _ => rfl) ?_
  refine x_iload_n d_J_init_63 rfl ?_
  refine b_newm (kc := 3) (n := 3) (m := 20) c3 (by decide +kernel) d_J_init_64 rfl wk_J_9 wo_P wi_P rfl dfP (fun h11 b11 => ?_)
  refine x_dup d_J_init_67 rfl ?_
  refine x_bipush (v := nI 36) d_J_init_68 (by decide) ?_
  refine x_callI (M' := m_P_init) (As := [_]) (fr' := 1) (wd' := 20) d_J_init_70 pl_P_init rfl (Nat.le_of_ble_eq_true rfl) rfl rfl (by decide) (by decide) wc_P_init wi_P wl_J_31 wm_P_init (by decide) np_P_init (Nat.le_of_ble_eq_true rfl) (fun q hq => by cases hq) (c_P_init (cap := 36) b11 (by decide +kernel) (by decide +kernel) (by decide)) (fun k a h1 q => by cases q.1) (fun v h1 q => ?_)
  obtain ⟨q1, b12⟩ := q
  cases q1
  refine b_aast (t := 113) (N := 3) (kc := 3) b12 (by decide +kernel) (by decide +kernel) (by decide +kernel) (by decide +kernel) (by decide +kernel) d_J_init_73 (by decide) rfl rfl (by decide) (by decide) (fun h13 b13 => ?_)
  have c4 : CB g h13 z u8_4 1080 := b13
  first | refine x_incN d_J_init_74 rfl (by decide) ?_ | refine x_inc d_J_init_74 rfl (by decide) ?_
  refine x_goto (tgt := 38) d_J_init_77 (by decide) ?_
  rw [show nI (1 + 1) = nI 2 from rfl]
  refine x_iload_n d_J_init_38 rfl ?_
  refine x_iconst (v := nI 3) d_J_init_39 (by decide) ?_
  refine x_icmp_ge_f 80 d_J_init_40 (by decide) ((by decide)) ?_
  first | refine x_aload_n d_J_init_43 rfl ?_ | refine x_aloadq_n d_J_init_43 rfl ?_
  refine b_getR (kc := 2) (j := 0) (m := 9) c4 (by decide +kernel) (by decide +kernel) (by decide +kernel) d_J_init_44 rfl (by decide) wf_J_11 (fun _ _ => rfl) ?_
  refine x_iload_n d_J_init_47 rfl ?_
  refine b_newm (kc := 3) (n := 3) (m := 23) c4 (by decide +kernel) d_J_init_48 rfl wk_J_9 wo_P wi_P rfl dfP (fun h8 b8 => ?_)
  refine x_dup d_J_init_51 rfl ?_
  refine x_sipush (v := nI 216) d_J_init_52 (by decide) ?_
  refine x_callI (M' := m_P_init) (As := [_]) (fr' := 1) (wd' := 20) d_J_init_55 pl_P_init rfl (Nat.le_of_ble_eq_true rfl) rfl rfl (by decide) (by decide) wc_P_init wi_P wl_J_31 wm_P_init (by decide) np_P_init (Nat.le_of_ble_eq_true rfl) (fun q hq => by cases hq) (c_P_init (cap := 216) b8 (by decide +kernel) (by decide +kernel) (by decide)) (fun k a h1 q => by cases q.1) (fun v h1 q => ?_)
  obtain ⟨q1, b9⟩ := q
  cases q1
  refine b_aast (t := 113) (N := 3) (kc := 3) b9 (by decide +kernel) (by decide +kernel) (by decide +kernel) (by decide +kernel) (by decide +kernel) d_J_init_58 (by decide) rfl rfl (by decide) (by decide) (fun h10 b10 => ?_)
  have c5 : CB g h10 z u8_5 1515 := b10
  first | refine x_aload_n d_J_init_59 rfl ?_ | refine x_aloadq_n d_J_init_59 rfl ?_
  refine b_getR (kc := 2) (j := 1) (m := 10) c5 (by decide +kernel) (by decide +kernel) (by decide +kernel) d_J_init_60 rfl (by decide) wf_J_17 (fun _ _ => rfl) ?_
  refine x_iload_n d_J_init_63 rfl ?_
  refine b_newm (kc := 3) (n := 3) (m := 26) c5 (by decide +kernel) d_J_init_64 rfl wk_J_9 wo_P wi_P rfl dfP (fun h11 b11 => ?_)
  refine x_dup d_J_init_67 rfl ?_
  refine x_bipush (v := nI 36) d_J_init_68 (by decide) ?_
  refine x_callI (M' := m_P_init) (As := [_]) (fr' := 1) (wd' := 20) d_J_init_70 pl_P_init rfl (Nat.le_of_ble_eq_true rfl) rfl rfl (by decide) (by decide) wc_P_init wi_P wl_J_31 wm_P_init (by decide) np_P_init (Nat.le_of_ble_eq_true rfl) (fun q hq => by cases hq) (c_P_init (cap := 36) b11 (by decide +kernel) (by decide +kernel) (by decide)) (fun k a h1 q => by cases q.1) (fun v h1 q => ?_)
  obtain ⟨q1, b12⟩ := q
  cases q1
  refine b_aast (t := 113) (N := 3) (kc := 3) b12 (by decide +kernel) (by decide +kernel) (by decide +kernel) (by decide +kernel) (by decide +kernel) d_J_init_73 (by decide) rfl rfl (by decide) (by decide) (fun h13 b13 => ?_)
  have c6 : CB g h13 z u8_6 1590 := b13
  first | refine x_incN d_J_init_74 rfl (by decide) ?_ | refine x_inc d_J_init_74 rfl (by decide) ?_
  refine x_goto (tgt := 38) d_J_init_77 (by decide) ?_
  rw [show nI (2 + 1) = nI 3 from rfl]
  refine x_iload_n d_J_init_38 rfl ?_
  refine x_iconst (v := nI 3) d_J_init_39 (by decide) ?_
  refine x_icmp_ge_t (tgt := 80) d_J_init_40 (by decide) ((by decide)) ?_
  refine x_vret d_J_init_80 rfl ?_
  exact ⟨rfl, c6⟩
theorem c_J_init29 (b : CB g h z sJ29 1595) : xVM l G 2 41 m_J_init [.ref (z + 29)] h (fun r h' => r = .inl none ∧ CB g h' z u29_6 3131) := by
  unfold xVM
  first | refine x_aload_n d_J_init_0 rfl ?_ | refine x_aloadq_n d_J_init_0 rfl ?_
  refine x_objInit d_J_init_1 wl_J_3 wm_O_init wc_O_init (by decide) (by decide) (by decide) ?_
  first | refine x_aload_n d_J_init_4 rfl ?_ | refine x_aloadq_n d_J_init_4 rfl ?_
  refine x_iconst (v := nI 3) d_J_init_5 (by decide) ?_
  refine b_anew (t := 113) (N := 3) b d_J_init_6 (by decide) rfl wk_J_9 wq_P (by decide) (fun h1 b1 => ?_)
  refine b_putP (kc := 2) (j := 0) b1 (by decide +kernel) (by decide +kernel) d_J_init_9 rfl (by decide) wf_J_11 (Or.inr ⟨rfl, rfl, rfl⟩) (fun _ => rfl) (fun _ => rfl) (fun _ _ => rfl) (fun h2 b2 => ?_)
  first | refine x_aload_n d_J_init_12 rfl ?_ | refine x_aloadq_n d_J_init_12 rfl ?_
  refine x_iconst (v := nI 3) d_J_init_13 (by decide) ?_
  refine b_anew (t := 113) (N := 3) b2 d_J_init_14 (by decide) rfl wk_J_9 wq_P (by decide) (fun h3 b3 => ?_)
  refine b_putP (kc := 2) (j := 1) b3 (by decide +kernel) (by decide +kernel) d_J_init_17 rfl (by decide) wf_J_17 (Or.inr ⟨rfl, rfl, rfl⟩) (fun _ => rfl) (fun _ => rfl) (fun _ _ => rfl) (fun h4 b4 => ?_)
  first | refine x_aload_n d_J_init_20 rfl ?_ | refine x_aloadq_n d_J_init_20 rfl ?_
  refine x_iconst (v := nI 0) d_J_init_21 (by decide) ?_
  refine b_putI (kc := 2) (j := 2) b4 (by decide +kernel) (by decide +kernel) d_J_init_22 rfl (by decide) wf_J_20 (Or.inl rfl) rfl rfl (fun _ _ => rfl) (fun h5 b5 => ?_)
  first | refine x_aload_n d_J_init_25 rfl ?_ | refine x_aloadq_n d_J_init_25 rfl ?_
  refine x_iconst (v := nI 0) d_J_init_26 (by decide) ?_
  refine b_putI (kc := 2) (j := 3) b5 (by decide +kernel) (by decide +kernel) d_J_init_27 rfl (by decide) wf_J_24 (Or.inl rfl) rfl rfl (fun _ _ => rfl) (fun h6 b6 => ?_)
  first | refine x_aload_n d_J_init_30 rfl ?_ | refine x_aloadq_n d_J_init_30 rfl ?_
  refine x_ldc (v := (-2147483648)) d_J_init_31 wv_J_27 ?_
  refine b_putI (kc := 2) (j := 4) b6 (by decide +kernel) (by decide +kernel) d_J_init_33 rfl (by decide) wf_J_28 (Or.inl rfl) rfl rfl (fun _ _ => rfl) (fun h7 b7 => ?_)
  refine x_iconst (v := nI 0) d_J_init_36 (by decide) ?_
  refine x_istore_n d_J_init_37 (by decide) ?_
  have c0 : CB g h7 z u29_0 1601 := b7
  refine x_iload_n d_J_init_38 rfl ?_
  refine x_iconst (v := nI 3) d_J_init_39 (by decide) ?_
  refine x_icmp_ge_f 80 d_J_init_40 (by decide) ((by decide)) ?_
  first | refine x_aload_n d_J_init_43 rfl ?_ | refine x_aloadq_n d_J_init_43 rfl ?_
  refine b_getR (kc := 2) (j := 0) (m := 30) c0 (by decide +kernel) (by decide +kernel) (by decide +kernel) d_J_init_44 rfl (by decide) wf_J_11 (fun _ _ => rfl) ?_
  refine x_iload_n d_J_init_47 rfl ?_
  refine b_newm (kc := 3) (n := 3) (m := 32) c0 (by decide +kernel) d_J_init_48 rfl wk_J_9 wo_P wi_P rfl dfP (fun h8 b8 => ?_)
  refine x_dup d_J_init_51 rfl ?_
  refine x_sipush (v := nI 216) d_J_init_52 (by decide) ?_
  refine x_callI (M' := m_P_init) (As := [_]) (fr' := 1) (wd' := 20) d_J_init_55 pl_P_init rfl (Nat.le_of_ble_eq_true rfl) rfl rfl (by decide) (by decide) wc_P_init wi_P wl_J_31 wm_P_init (by decide) np_P_init (Nat.le_of_ble_eq_true rfl) (fun q hq => by cases hq) (c_P_init (cap := 216) b8 (by decide +kernel) (by decide +kernel) (by decide)) (fun k a h1 q => by cases q.1) (fun v h1 q => ?_)
  obtain ⟨q1, b9⟩ := q
  cases q1
  refine b_aast (t := 113) (N := 3) (kc := 3) b9 (by decide +kernel) (by decide +kernel) (by decide +kernel) (by decide +kernel) (by decide +kernel) d_J_init_58 (by decide) rfl rfl (by decide) (by decide) (fun h10 b10 => ?_)
  have c1 : CB g h10 z u29_1 2036 := b10
  first | refine x_aload_n d_J_init_59 rfl ?_ | refine x_aloadq_n d_J_init_59 rfl ?_
  refine b_getR (kc := 2) (j := 1) (m := 31) c1 (by decide +kernel) (by decide +kernel) (by decide +kernel) d_J_init_60 rfl (by decide) wf_J_17 (fun _ _ => rfl) ?_
  refine x_iload_n d_J_init_63 rfl ?_
  refine b_newm (kc := 3) (n := 3) (m := 35) c1 (by decide +kernel) d_J_init_64 rfl wk_J_9 wo_P wi_P rfl dfP (fun h11 b11 => ?_)
  refine x_dup d_J_init_67 rfl ?_
  refine x_bipush (v := nI 36) d_J_init_68 (by decide) ?_
  refine x_callI (M' := m_P_init) (As := [_]) (fr' := 1) (wd' := 20) d_J_init_70 pl_P_init rfl (Nat.le_of_ble_eq_true rfl) rfl rfl (by decide) (by decide) wc_P_init wi_P wl_J_31 wm_P_init (by decide) np_P_init (Nat.le_of_ble_eq_true rfl) (fun q hq => by cases hq) (c_P_init (cap := 36) b11 (by decide +kernel) (by decide +kernel) (by decide)) (fun k a h1 q => by cases q.1) (fun v h1 q => ?_)
  obtain ⟨q1, b12⟩ := q
  cases q1
  refine b_aast (t := 113) (N := 3) (kc := 3) b12 (by decide +kernel) (by decide +kernel) (by decide +kernel) (by decide +kernel) (by decide +kernel) d_J_init_73 (by decide) rfl rfl (by decide) (by decide) (fun h13 b13 => ?_)
  have c2 : CB g h13 z u29_2 2111 := b13
  first | refine x_incN d_J_init_74 rfl (by decide) ?_ | refine x_inc d_J_init_74 rfl (by decide) ?_
  refine x_goto (tgt := 38) d_J_init_77 (by decide) ?_
  rw [show nI (0 + 1) = nI 1 from rfl]
  refine x_iload_n d_J_init_38 rfl ?_
  refine x_iconst (v := nI 3) d_J_init_39 (by decide) ?_
  refine x_icmp_ge_f 80 d_J_init_40 (by decide) ((by decide)) ?_
  first | refine x_aload_n d_J_init_43 rfl ?_ | refine x_aloadq_n d_J_init_43 rfl ?_
  refine b_getR (kc := 2) (j := 0) (m := 30) c2 (by decide +kernel) (by decide +kernel) (by decide +kernel) d_J_init_44 rfl (by decide) wf_J_11 (fun _ _ => rfl) ?_
  refine x_iload_n d_J_init_47 rfl ?_
  refine b_newm (kc := 3) (n := 3) (m := 38) c2 (by decide +kernel) d_J_init_48 rfl wk_J_9 wo_P wi_P rfl dfP (fun h8 b8 => ?_)
  refine x_dup d_J_init_51 rfl ?_
  refine x_sipush (v := nI 216) d_J_init_52 (by decide) ?_
  refine x_callI (M' := m_P_init) (As := [_]) (fr' := 1) (wd' := 20) d_J_init_55 pl_P_init rfl (Nat.le_of_ble_eq_true rfl) rfl rfl (by decide) (by decide) wc_P_init wi_P wl_J_31 wm_P_init (by decide) np_P_init (Nat.le_of_ble_eq_true rfl) (fun q hq => by cases hq) (c_P_init (cap := 216) b8 (by decide +kernel) (by decide +kernel) (by decide)) (fun k a h1 q => by cases q.1) (fun v h1 q => ?_)
  obtain ⟨q1, b9⟩ := q
  cases q1
  refine b_aast (t := 113) (N := 3) (kc := 3) b9 (by decide +kernel) (by decide +kernel) (by decide +kernel) (by decide +kernel) (by decide +kernel) d_J_init_58 (by decide) rfl rfl (by decide) (by decide) (fun h10 b10 => ?_)
  have c3 : CB g h10 z u29_3 2546 := b10
  first | refine x_aload_n d_J_init_59 rfl ?_ | refine x_aloadq_n d_J_init_59 rfl ?_
  refine b_getR (kc := 2) (j := 1) (m := 31) c3 (by decide +kernel) (by decide +kernel) (by decide +kernel) d_J_init_60 rfl (by decide) wf_J_17 (fun _ _ => rfl) ?_
  refine x_iload_n d_J_init_63 rfl ?_
  refine b_newm (kc := 3) (n := 3) (m := 41) c3 (by decide +kernel) d_J_init_64 rfl wk_J_9 wo_P wi_P rfl dfP (fun h11 b11 => ?_)
  refine x_dup d_J_init_67 rfl ?_
  refine x_bipush (v := nI 36) d_J_init_68 (by decide) ?_
  refine x_callI (M' := m_P_init) (As := [_]) (fr' := 1) (wd' := 20) d_J_init_70 pl_P_init rfl (Nat.le_of_ble_eq_true rfl) rfl rfl (by decide) (by decide) wc_P_init wi_P wl_J_31 wm_P_init (by decide) np_P_init (Nat.le_of_ble_eq_true rfl) (fun q hq => by cases hq) (c_P_init (cap := 36) b11 (by decide +kernel) (by decide +kernel) (by decide)) (fun k a h1 q => by cases q.1) (fun v h1 q => ?_)
  obtain ⟨q1, b12⟩ := q
  cases q1
  refine b_aast (t := 113) (N := 3) (kc := 3) b12 (by decide +kernel) (by decide +kernel) (by decide +kernel) (by decide +kernel) (by decide +kernel) d_J_init_73 (by decide) rfl rfl (by decide) (by decide) (fun h13 b13 => ?_)
  have c4 : CB g h13 z u29_4 2621 := b13
  first | refine x_incN d_J_init_74 rfl (by decide) ?_ | refine x_inc d_J_init_74 rfl (by decide) ?_
  refine x_goto (tgt := 38) d_J_init_77 (by decide) ?_
  rw [show nI (1 + 1) = nI 2 from rfl]
  refine x_iload_n d_J_init_38 rfl ?_
  refine x_iconst (v := nI 3) d_J_init_39 (by decide) ?_
  refine x_icmp_ge_f 80 d_J_init_40 (by decide) ((by decide)) ?_
  first | refine x_aload_n d_J_init_43 rfl ?_ | refine x_aloadq_n d_J_init_43 rfl ?_
  refine b_getR (kc := 2) (j := 0) (m := 30) c4 (by decide +kernel) (by decide +kernel) (by decide +kernel) d_J_init_44 rfl (by decide) wf_J_11 (fun _ _ => rfl) ?_
  refine x_iload_n d_J_init_47 rfl ?_
  refine b_newm (kc := 3) (n := 3) (m := 44) c4 (by decide +kernel) d_J_init_48 rfl wk_J_9 wo_P wi_P rfl dfP (fun h8 b8 => ?_)
  refine x_dup d_J_init_51 rfl ?_
  refine x_sipush (v := nI 216) d_J_init_52 (by decide) ?_
  refine x_callI (M' := m_P_init) (As := [_]) (fr' := 1) (wd' := 20) d_J_init_55 pl_P_init rfl (Nat.le_of_ble_eq_true rfl) rfl rfl (by decide) (by decide) wc_P_init wi_P wl_J_31 wm_P_init (by decide) np_P_init (Nat.le_of_ble_eq_true rfl) (fun q hq => by cases hq) (c_P_init (cap := 216) b8 (by decide +kernel) (by decide +kernel) (by decide)) (fun k a h1 q => by cases q.1) (fun v h1 q => ?_)
  obtain ⟨q1, b9⟩ := q
  cases q1
  refine b_aast (t := 113) (N := 3) (kc := 3) b9 (by decide +kernel) (by decide +kernel) (by decide +kernel) (by decide +kernel) (by decide +kernel) d_J_init_58 (by decide) rfl rfl (by decide) (by decide) (fun h10 b10 => ?_)
  have c5 : CB g h10 z u29_5 3056 := b10
  first | refine x_aload_n d_J_init_59 rfl ?_ | refine x_aloadq_n d_J_init_59 rfl ?_
  refine b_getR (kc := 2) (j := 1) (m := 31) c5 (by decide +kernel) (by decide +kernel) (by decide +kernel) d_J_init_60 rfl (by decide) wf_J_17 (fun _ _ => rfl) ?_
  refine x_iload_n d_J_init_63 rfl ?_
  refine b_newm (kc := 3) (n := 3) (m := 47) c5 (by decide +kernel) d_J_init_64 rfl wk_J_9 wo_P wi_P rfl dfP (fun h11 b11 => ?_)
  refine x_dup d_J_init_67 rfl ?_
  refine x_bipush (v := nI 36) d_J_init_68 (by decide) ?_
  refine x_callI (M' := m_P_init) (As := [_]) (fr' := 1) (wd' := 20) d_J_init_70 pl_P_init rfl (Nat.le_of_ble_eq_true rfl) rfl rfl (by decide) (by decide) wc_P_init wi_P wl_J_31 wm_P_init (by decide) np_P_init (Nat.le_of_ble_eq_true rfl) (fun q hq => by cases hq) (c_P_init (cap := 36) b11 (by decide +kernel) (by decide +kernel) (by decide)) (fun k a h1 q => by cases q.1) (fun v h1 q => ?_)
  obtain ⟨q1, b12⟩ := q
  cases q1
  refine b_aast (t := 113) (N := 3) (kc := 3) b12 (by decide +kernel) (by decide +kernel) (by decide +kernel) (by decide +kernel) (by decide +kernel) d_J_init_73 (by decide) rfl rfl (by decide) (by decide) (fun h13 b13 => ?_)
  have c6 : CB g h13 z u29_6 3131 := b13
  first | refine x_incN d_J_init_74 rfl (by decide) ?_ | refine x_inc d_J_init_74 rfl (by decide) ?_
  refine x_goto (tgt := 38) d_J_init_77 (by decide) ?_
  rw [show nI (2 + 1) = nI 3 from rfl]
  refine x_iload_n d_J_init_38 rfl ?_
  refine x_iconst (v := nI 3) d_J_init_39 (by decide) ?_
  refine x_icmp_ge_t (tgt := 80) d_J_init_40 (by decide) ((by decide)) ?_
  refine x_vret d_J_init_80 rfl ?_
  exact ⟨rfl, c6⟩
theorem ai_r2 (b : CB g h z sR2 3239) : xV l G 3 62 m_A_init 184 [(1, .int (nI 2)), (0, .ref z)] [] h (fun r h' => r = .inl none ∧ CB g h' z sR3 3244) := by
  refine x_iload_n d_A_init_184 rfl ?_
  refine x_iconst (v := nI 3) d_A_init_185 (by decide) ?_
  refine x_icmp_ge_f 210 d_A_init_186 (by decide) ((by decide)) ?_
  first | refine x_aload_n d_A_init_189 rfl ?_ | refine x_aloadq_n d_A_init_189 rfl ?_
  refine b_getR (k := 0) (kc := 0) (j := 3) (m := 4) b (by decide +kernel) (by decide +kernel) (by decide +kernel) d_A_init_190 rfl (by decide) wf_A_27 (fun _ _ => rfl) ?_
  refine x_iload_n d_A_init_193 rfl ?_
  refine b_newm (kc := 4) (n := 5) (m := 74) b (by decide +kernel) d_A_init_194 rfl wk_A_21 wo_T wi_T rfl dfT (fun h4 b4 => ?_)
  refine x_dup d_A_init_197 rfl ?_
  refine x_iconst (v := nI 0) d_A_init_198 (by decide) ?_
  refine x_iload_n d_A_init_199 rfl ?_
  refine x_callI (M' := m_T_init) (As := [_, _]) (fr' := 1) (wd' := 20) d_A_init_200 pl_T_init rfl (Nat.le_of_ble_eq_true rfl) rfl rfl (by decide) (by decide) wc_T_init wi_T wl_A_78 wm_T_init (by decide) np_T_init (Nat.le_of_ble_eq_true rfl) (fun q hq => by cases hq) (c_T_init b4 (by decide +kernel) (by decide +kernel) rfl rfl) (fun k a h1 q => by cases q.1) (fun v h1 q => ?_)
  obtain ⟨q1, b5⟩ := q
  cases q1
  refine b_aast (t := 112) (N := 3) (kc := 4) b5 (by decide +kernel) (by decide +kernel) (by decide +kernel) (by decide +kernel) (by decide +kernel) d_A_init_203 (by decide) rfl rfl (by decide) (by decide) (fun h6 b6 => ?_)
  have nb : CB g h6 z sR3 3244 := b6
  first | refine x_incN d_A_init_204 rfl (by decide) ?_ | refine x_inc d_A_init_204 rfl (by decide) ?_
  refine x_goto (tgt := 184) d_A_init_207 (by decide) ?_
  rw [show nI (2 + 1) = nI 3 from rfl]
  refine x_iload_n d_A_init_184 rfl ?_
  refine x_iconst (v := nI 3) d_A_init_185 (by decide) ?_
  refine x_icmp_ge_t (tgt := 210) d_A_init_186 (by decide) ((by decide)) ?_
  refine x_vret d_A_init_210 rfl ?_
  exact ⟨rfl, nb⟩
theorem ai_r1 (b : CB g h z sR1 3234) : xV l G 3 62 m_A_init 184 [(1, .int (nI 1)), (0, .ref z)] [] h (fun r h' => r = .inl none ∧ CB g h' z sR3 3244) := by
  refine x_iload_n d_A_init_184 rfl ?_
  refine x_iconst (v := nI 3) d_A_init_185 (by decide) ?_
  refine x_icmp_ge_f 210 d_A_init_186 (by decide) ((by decide)) ?_
  first | refine x_aload_n d_A_init_189 rfl ?_ | refine x_aloadq_n d_A_init_189 rfl ?_
  refine b_getR (k := 0) (kc := 0) (j := 3) (m := 4) b (by decide +kernel) (by decide +kernel) (by decide +kernel) d_A_init_190 rfl (by decide) wf_A_27 (fun _ _ => rfl) ?_
  refine x_iload_n d_A_init_193 rfl ?_
  refine b_newm (kc := 4) (n := 5) (m := 73) b (by decide +kernel) d_A_init_194 rfl wk_A_21 wo_T wi_T rfl dfT (fun h4 b4 => ?_)
  refine x_dup d_A_init_197 rfl ?_
  refine x_iconst (v := nI 0) d_A_init_198 (by decide) ?_
  refine x_iload_n d_A_init_199 rfl ?_
  refine x_callI (M' := m_T_init) (As := [_, _]) (fr' := 1) (wd' := 20) d_A_init_200 pl_T_init rfl (Nat.le_of_ble_eq_true rfl) rfl rfl (by decide) (by decide) wc_T_init wi_T wl_A_78 wm_T_init (by decide) np_T_init (Nat.le_of_ble_eq_true rfl) (fun q hq => by cases hq) (c_T_init b4 (by decide +kernel) (by decide +kernel) rfl rfl) (fun k a h1 q => by cases q.1) (fun v h1 q => ?_)
  obtain ⟨q1, b5⟩ := q
  cases q1
  refine b_aast (t := 112) (N := 3) (kc := 4) b5 (by decide +kernel) (by decide +kernel) (by decide +kernel) (by decide +kernel) (by decide +kernel) d_A_init_203 (by decide) rfl rfl (by decide) (by decide) (fun h6 b6 => ?_)
  have nb : CB g h6 z sR2 3239 := b6
  first | refine x_incN d_A_init_204 rfl (by decide) ?_ | refine x_inc d_A_init_204 rfl (by decide) ?_
  refine x_goto (tgt := 184) d_A_init_207 (by decide) ?_
  rw [show nI (1 + 1) = nI 2 from rfl]
  refine xV.loc (ai_r2 nb) (by repeat (first | exact trivial | refine ⟨rfl, ?_⟩))
theorem ai_r0 (b : CB g h z sR0 3229) : xV l G 3 62 m_A_init 184 [(1, .int (nI 0)), (0, .ref z)] [] h (fun r h' => r = .inl none ∧ CB g h' z sR3 3244) := by
  refine x_iload_n d_A_init_184 rfl ?_
  refine x_iconst (v := nI 3) d_A_init_185 (by decide) ?_
  refine x_icmp_ge_f 210 d_A_init_186 (by decide) ((by decide)) ?_
  first | refine x_aload_n d_A_init_189 rfl ?_ | refine x_aloadq_n d_A_init_189 rfl ?_
  refine b_getR (k := 0) (kc := 0) (j := 3) (m := 4) b (by decide +kernel) (by decide +kernel) (by decide +kernel) d_A_init_190 rfl (by decide) wf_A_27 (fun _ _ => rfl) ?_
  refine x_iload_n d_A_init_193 rfl ?_
  refine b_newm (kc := 4) (n := 5) (m := 72) b (by decide +kernel) d_A_init_194 rfl wk_A_21 wo_T wi_T rfl dfT (fun h4 b4 => ?_)
  refine x_dup d_A_init_197 rfl ?_
  refine x_iconst (v := nI 0) d_A_init_198 (by decide) ?_
  refine x_iload_n d_A_init_199 rfl ?_
  refine x_callI (M' := m_T_init) (As := [_, _]) (fr' := 1) (wd' := 20) d_A_init_200 pl_T_init rfl (Nat.le_of_ble_eq_true rfl) rfl rfl (by decide) (by decide) wc_T_init wi_T wl_A_78 wm_T_init (by decide) np_T_init (Nat.le_of_ble_eq_true rfl) (fun q hq => by cases hq) (c_T_init b4 (by decide +kernel) (by decide +kernel) rfl rfl) (fun k a h1 q => by cases q.1) (fun v h1 q => ?_)
  obtain ⟨q1, b5⟩ := q
  cases q1
  refine b_aast (t := 112) (N := 3) (kc := 4) b5 (by decide +kernel) (by decide +kernel) (by decide +kernel) (by decide +kernel) (by decide +kernel) d_A_init_203 (by decide) rfl rfl (by decide) (by decide) (fun h6 b6 => ?_)
  have nb : CB g h6 z sR1 3234 := b6
  first | refine x_incN d_A_init_204 rfl (by decide) ?_ | refine x_inc d_A_init_204 rfl (by decide) ?_
  refine x_goto (tgt := 184) d_A_init_207 (by decide) ?_
  rw [show nI (0 + 1) = nI 1 from rfl]
  refine xV.loc (ai_r1 nb) (by repeat (first | exact trivial | refine ⟨rfl, ?_⟩))
theorem ai_c5 (b : CB g h z sC5 3216) : xV l G 3 62 m_A_init 142 [(1, .int (nI 5)), (0, .ref z)] [] h (fun r h' => r = .inl none ∧ CB g h' z sR3 3244) := by
  refine x_iload_n d_A_init_142 rfl ?_
  refine x_bipush (v := nI 6) d_A_init_143 (by decide) ?_
  refine x_icmp_ge_f 182 d_A_init_145 (by decide) ((by decide)) ?_
  first | refine x_aload_n d_A_init_148 rfl ?_ | refine x_aloadq_n d_A_init_148 rfl ?_
  refine b_getR (k := 0) (kc := 0) (j := 1) (m := 2) b (by decide +kernel) (by decide +kernel) (by decide +kernel) d_A_init_149 rfl (by decide) wf_A_17 (fun _ _ => rfl) ?_
  refine x_iload_n d_A_init_152 rfl ?_
  refine b_newm (kc := 1) (n := 2) (m := 69) b (by decide +kernel) d_A_init_153 rfl wk_A_15 wo_C wi_C rfl dfC (fun h1 b1 => ?_)
  refine x_dup d_A_init_156 rfl ?_
  refine x_callIN (M' := m_C_init) (As := []) (fr' := 1) (wd' := 20) d_A_init_157 pl_C_init rfl (Nat.le_of_ble_eq_true rfl) (by decide) (by decide) rfl rfl wc_C_init wi_C wn_A_77 wm_C_init (by decide) np_C_init (Nat.le_of_ble_eq_true rfl) (fun q hq => by cases hq) (c_C_init b1 (by decide +kernel) (by decide +kernel)) (fun k a h1 q => by cases q.1) (fun v h1 q => ?_)
  obtain ⟨q1, b2⟩ := q
  cases q1
  refine b_aast (t := 111) (N := 6) (kc := 1) b2 (by decide +kernel) (by decide +kernel) (by decide +kernel) (by decide +kernel) (by decide +kernel) d_A_init_160 (by decide) rfl rfl (by decide) (by decide) (fun h3 b3 => ?_)
  have eb : CB g h3 z sD5 3224 := b3
  first | refine x_aload_n d_A_init_161 rfl ?_ | refine x_aloadq_n d_A_init_161 rfl ?_
  refine b_getR (k := 0) (kc := 0) (j := 2) (m := 3) eb (by decide +kernel) (by decide +kernel) (by decide +kernel) d_A_init_162 rfl (by decide) wf_A_23 (fun _ _ => rfl) ?_
  refine x_iload_n d_A_init_165 rfl ?_
  refine b_newm (kc := 4) (n := 5) (m := 71) eb (by decide +kernel) d_A_init_166 rfl wk_A_21 wo_T wi_T rfl dfT (fun h4 b4 => ?_)
  refine x_dup d_A_init_169 rfl ?_
  refine x_iconst (v := nI 1) d_A_init_170 (by decide) ?_
  refine x_iload_n d_A_init_171 rfl ?_
  refine x_callI (M' := m_T_init) (As := [_, _]) (fr' := 1) (wd' := 20) d_A_init_172 pl_T_init rfl (Nat.le_of_ble_eq_true rfl) rfl rfl (by decide) (by decide) wc_T_init wi_T wl_A_78 wm_T_init (by decide) np_T_init (Nat.le_of_ble_eq_true rfl) (fun q hq => by cases hq) (c_T_init b4 (by decide +kernel) (by decide +kernel) rfl rfl) (fun k a h1 q => by cases q.1) (fun v h1 q => ?_)
  obtain ⟨q1, b5⟩ := q
  cases q1
  refine b_aast (t := 112) (N := 6) (kc := 4) b5 (by decide +kernel) (by decide +kernel) (by decide +kernel) (by decide +kernel) (by decide +kernel) d_A_init_175 (by decide) rfl rfl (by decide) (by decide) (fun h6 b6 => ?_)
  have nb : CB g h6 z sC6 3229 := b6
  first | refine x_incN d_A_init_176 rfl (by decide) ?_ | refine x_inc d_A_init_176 rfl (by decide) ?_
  refine x_goto (tgt := 142) d_A_init_179 (by decide) ?_
  rw [show nI (5 + 1) = nI 6 from rfl]
  refine x_iload_n d_A_init_142 rfl ?_
  refine x_bipush (v := nI 6) d_A_init_143 (by decide) ?_
  refine x_icmp_ge_t (tgt := 182) d_A_init_145 (by decide) ((by decide)) ?_
  refine x_iconst (v := nI 0) d_A_init_182 (by decide) ?_
  refine x_istore_n d_A_init_183 (by decide) ?_
  have nc : CB g h6 z sR0 3229 := nb
  refine xV.loc (ai_r0 nc) (by repeat (first | exact trivial | refine ⟨rfl, ?_⟩))
theorem ai_c4 (b : CB g h z sC4 3203) : xV l G 3 62 m_A_init 142 [(1, .int (nI 4)), (0, .ref z)] [] h (fun r h' => r = .inl none ∧ CB g h' z sR3 3244) := by
  refine x_iload_n d_A_init_142 rfl ?_
  refine x_bipush (v := nI 6) d_A_init_143 (by decide) ?_
  refine x_icmp_ge_f 182 d_A_init_145 (by decide) ((by decide)) ?_
  first | refine x_aload_n d_A_init_148 rfl ?_ | refine x_aloadq_n d_A_init_148 rfl ?_
  refine b_getR (k := 0) (kc := 0) (j := 1) (m := 2) b (by decide +kernel) (by decide +kernel) (by decide +kernel) d_A_init_149 rfl (by decide) wf_A_17 (fun _ _ => rfl) ?_
  refine x_iload_n d_A_init_152 rfl ?_
  refine b_newm (kc := 1) (n := 2) (m := 66) b (by decide +kernel) d_A_init_153 rfl wk_A_15 wo_C wi_C rfl dfC (fun h1 b1 => ?_)
  refine x_dup d_A_init_156 rfl ?_
  refine x_callIN (M' := m_C_init) (As := []) (fr' := 1) (wd' := 20) d_A_init_157 pl_C_init rfl (Nat.le_of_ble_eq_true rfl) (by decide) (by decide) rfl rfl wc_C_init wi_C wn_A_77 wm_C_init (by decide) np_C_init (Nat.le_of_ble_eq_true rfl) (fun q hq => by cases hq) (c_C_init b1 (by decide +kernel) (by decide +kernel)) (fun k a h1 q => by cases q.1) (fun v h1 q => ?_)
  obtain ⟨q1, b2⟩ := q
  cases q1
  refine b_aast (t := 111) (N := 6) (kc := 1) b2 (by decide +kernel) (by decide +kernel) (by decide +kernel) (by decide +kernel) (by decide +kernel) d_A_init_160 (by decide) rfl rfl (by decide) (by decide) (fun h3 b3 => ?_)
  have eb : CB g h3 z sD4 3211 := b3
  first | refine x_aload_n d_A_init_161 rfl ?_ | refine x_aloadq_n d_A_init_161 rfl ?_
  refine b_getR (k := 0) (kc := 0) (j := 2) (m := 3) eb (by decide +kernel) (by decide +kernel) (by decide +kernel) d_A_init_162 rfl (by decide) wf_A_23 (fun _ _ => rfl) ?_
  refine x_iload_n d_A_init_165 rfl ?_
  refine b_newm (kc := 4) (n := 5) (m := 68) eb (by decide +kernel) d_A_init_166 rfl wk_A_21 wo_T wi_T rfl dfT (fun h4 b4 => ?_)
  refine x_dup d_A_init_169 rfl ?_
  refine x_iconst (v := nI 1) d_A_init_170 (by decide) ?_
  refine x_iload_n d_A_init_171 rfl ?_
  refine x_callI (M' := m_T_init) (As := [_, _]) (fr' := 1) (wd' := 20) d_A_init_172 pl_T_init rfl (Nat.le_of_ble_eq_true rfl) rfl rfl (by decide) (by decide) wc_T_init wi_T wl_A_78 wm_T_init (by decide) np_T_init (Nat.le_of_ble_eq_true rfl) (fun q hq => by cases hq) (c_T_init b4 (by decide +kernel) (by decide +kernel) rfl rfl) (fun k a h1 q => by cases q.1) (fun v h1 q => ?_)
  obtain ⟨q1, b5⟩ := q
  cases q1
  refine b_aast (t := 112) (N := 6) (kc := 4) b5 (by decide +kernel) (by decide +kernel) (by decide +kernel) (by decide +kernel) (by decide +kernel) d_A_init_175 (by decide) rfl rfl (by decide) (by decide) (fun h6 b6 => ?_)
  have nb : CB g h6 z sC5 3216 := b6
  first | refine x_incN d_A_init_176 rfl (by decide) ?_ | refine x_inc d_A_init_176 rfl (by decide) ?_
  refine x_goto (tgt := 142) d_A_init_179 (by decide) ?_
  rw [show nI (4 + 1) = nI 5 from rfl]
  refine xV.loc (ai_c5 nb) (by repeat (first | exact trivial | refine ⟨rfl, ?_⟩))
theorem ai_c3 (b : CB g h z sC3 3190) : xV l G 3 62 m_A_init 142 [(1, .int (nI 3)), (0, .ref z)] [] h (fun r h' => r = .inl none ∧ CB g h' z sR3 3244) := by
  refine x_iload_n d_A_init_142 rfl ?_
  refine x_bipush (v := nI 6) d_A_init_143 (by decide) ?_
  refine x_icmp_ge_f 182 d_A_init_145 (by decide) ((by decide)) ?_
  first | refine x_aload_n d_A_init_148 rfl ?_ | refine x_aloadq_n d_A_init_148 rfl ?_
  refine b_getR (k := 0) (kc := 0) (j := 1) (m := 2) b (by decide +kernel) (by decide +kernel) (by decide +kernel) d_A_init_149 rfl (by decide) wf_A_17 (fun _ _ => rfl) ?_
  refine x_iload_n d_A_init_152 rfl ?_
  refine b_newm (kc := 1) (n := 2) (m := 63) b (by decide +kernel) d_A_init_153 rfl wk_A_15 wo_C wi_C rfl dfC (fun h1 b1 => ?_)
  refine x_dup d_A_init_156 rfl ?_
  refine x_callIN (M' := m_C_init) (As := []) (fr' := 1) (wd' := 20) d_A_init_157 pl_C_init rfl (Nat.le_of_ble_eq_true rfl) (by decide) (by decide) rfl rfl wc_C_init wi_C wn_A_77 wm_C_init (by decide) np_C_init (Nat.le_of_ble_eq_true rfl) (fun q hq => by cases hq) (c_C_init b1 (by decide +kernel) (by decide +kernel)) (fun k a h1 q => by cases q.1) (fun v h1 q => ?_)
  obtain ⟨q1, b2⟩ := q
  cases q1
  refine b_aast (t := 111) (N := 6) (kc := 1) b2 (by decide +kernel) (by decide +kernel) (by decide +kernel) (by decide +kernel) (by decide +kernel) d_A_init_160 (by decide) rfl rfl (by decide) (by decide) (fun h3 b3 => ?_)
  have eb : CB g h3 z sD3 3198 := b3
  first | refine x_aload_n d_A_init_161 rfl ?_ | refine x_aloadq_n d_A_init_161 rfl ?_
  refine b_getR (k := 0) (kc := 0) (j := 2) (m := 3) eb (by decide +kernel) (by decide +kernel) (by decide +kernel) d_A_init_162 rfl (by decide) wf_A_23 (fun _ _ => rfl) ?_
  refine x_iload_n d_A_init_165 rfl ?_
  refine b_newm (kc := 4) (n := 5) (m := 65) eb (by decide +kernel) d_A_init_166 rfl wk_A_21 wo_T wi_T rfl dfT (fun h4 b4 => ?_)
  refine x_dup d_A_init_169 rfl ?_
  refine x_iconst (v := nI 1) d_A_init_170 (by decide) ?_
  refine x_iload_n d_A_init_171 rfl ?_
  refine x_callI (M' := m_T_init) (As := [_, _]) (fr' := 1) (wd' := 20) d_A_init_172 pl_T_init rfl (Nat.le_of_ble_eq_true rfl) rfl rfl (by decide) (by decide) wc_T_init wi_T wl_A_78 wm_T_init (by decide) np_T_init (Nat.le_of_ble_eq_true rfl) (fun q hq => by cases hq) (c_T_init b4 (by decide +kernel) (by decide +kernel) rfl rfl) (fun k a h1 q => by cases q.1) (fun v h1 q => ?_)
  obtain ⟨q1, b5⟩ := q
  cases q1
  refine b_aast (t := 112) (N := 6) (kc := 4) b5 (by decide +kernel) (by decide +kernel) (by decide +kernel) (by decide +kernel) (by decide +kernel) d_A_init_175 (by decide) rfl rfl (by decide) (by decide) (fun h6 b6 => ?_)
  have nb : CB g h6 z sC4 3203 := b6
  first | refine x_incN d_A_init_176 rfl (by decide) ?_ | refine x_inc d_A_init_176 rfl (by decide) ?_
  refine x_goto (tgt := 142) d_A_init_179 (by decide) ?_
  rw [show nI (3 + 1) = nI 4 from rfl]
  refine xV.loc (ai_c4 nb) (by repeat (first | exact trivial | refine ⟨rfl, ?_⟩))
theorem ai_c2 (b : CB g h z sC2 3177) : xV l G 3 62 m_A_init 142 [(1, .int (nI 2)), (0, .ref z)] [] h (fun r h' => r = .inl none ∧ CB g h' z sR3 3244) := by
  refine x_iload_n d_A_init_142 rfl ?_
  refine x_bipush (v := nI 6) d_A_init_143 (by decide) ?_
  refine x_icmp_ge_f 182 d_A_init_145 (by decide) ((by decide)) ?_
  first | refine x_aload_n d_A_init_148 rfl ?_ | refine x_aloadq_n d_A_init_148 rfl ?_
  refine b_getR (k := 0) (kc := 0) (j := 1) (m := 2) b (by decide +kernel) (by decide +kernel) (by decide +kernel) d_A_init_149 rfl (by decide) wf_A_17 (fun _ _ => rfl) ?_
  refine x_iload_n d_A_init_152 rfl ?_
  refine b_newm (kc := 1) (n := 2) (m := 60) b (by decide +kernel) d_A_init_153 rfl wk_A_15 wo_C wi_C rfl dfC (fun h1 b1 => ?_)
  refine x_dup d_A_init_156 rfl ?_
  refine x_callIN (M' := m_C_init) (As := []) (fr' := 1) (wd' := 20) d_A_init_157 pl_C_init rfl (Nat.le_of_ble_eq_true rfl) (by decide) (by decide) rfl rfl wc_C_init wi_C wn_A_77 wm_C_init (by decide) np_C_init (Nat.le_of_ble_eq_true rfl) (fun q hq => by cases hq) (c_C_init b1 (by decide +kernel) (by decide +kernel)) (fun k a h1 q => by cases q.1) (fun v h1 q => ?_)
  obtain ⟨q1, b2⟩ := q
  cases q1
  refine b_aast (t := 111) (N := 6) (kc := 1) b2 (by decide +kernel) (by decide +kernel) (by decide +kernel) (by decide +kernel) (by decide +kernel) d_A_init_160 (by decide) rfl rfl (by decide) (by decide) (fun h3 b3 => ?_)
  have eb : CB g h3 z sD2 3185 := b3
  first | refine x_aload_n d_A_init_161 rfl ?_ | refine x_aloadq_n d_A_init_161 rfl ?_
  refine b_getR (k := 0) (kc := 0) (j := 2) (m := 3) eb (by decide +kernel) (by decide +kernel) (by decide +kernel) d_A_init_162 rfl (by decide) wf_A_23 (fun _ _ => rfl) ?_
  refine x_iload_n d_A_init_165 rfl ?_
  refine b_newm (kc := 4) (n := 5) (m := 62) eb (by decide +kernel) d_A_init_166 rfl wk_A_21 wo_T wi_T rfl dfT (fun h4 b4 => ?_)
  refine x_dup d_A_init_169 rfl ?_
  refine x_iconst (v := nI 1) d_A_init_170 (by decide) ?_
  refine x_iload_n d_A_init_171 rfl ?_
  refine x_callI (M' := m_T_init) (As := [_, _]) (fr' := 1) (wd' := 20) d_A_init_172 pl_T_init rfl (Nat.le_of_ble_eq_true rfl) rfl rfl (by decide) (by decide) wc_T_init wi_T wl_A_78 wm_T_init (by decide) np_T_init (Nat.le_of_ble_eq_true rfl) (fun q hq => by cases hq) (c_T_init b4 (by decide +kernel) (by decide +kernel) rfl rfl) (fun k a h1 q => by cases q.1) (fun v h1 q => ?_)
  obtain ⟨q1, b5⟩ := q
  cases q1
  refine b_aast (t := 112) (N := 6) (kc := 4) b5 (by decide +kernel) (by decide +kernel) (by decide +kernel) (by decide +kernel) (by decide +kernel) d_A_init_175 (by decide) rfl rfl (by decide) (by decide) (fun h6 b6 => ?_)
  have nb : CB g h6 z sC3 3190 := b6
  first | refine x_incN d_A_init_176 rfl (by decide) ?_ | refine x_inc d_A_init_176 rfl (by decide) ?_
  refine x_goto (tgt := 142) d_A_init_179 (by decide) ?_
  rw [show nI (2 + 1) = nI 3 from rfl]
  refine xV.loc (ai_c3 nb) (by repeat (first | exact trivial | refine ⟨rfl, ?_⟩))
theorem ai_c1 (b : CB g h z sC1 3164) : xV l G 3 62 m_A_init 142 [(1, .int (nI 1)), (0, .ref z)] [] h (fun r h' => r = .inl none ∧ CB g h' z sR3 3244) := by
  refine x_iload_n d_A_init_142 rfl ?_
  refine x_bipush (v := nI 6) d_A_init_143 (by decide) ?_
  refine x_icmp_ge_f 182 d_A_init_145 (by decide) ((by decide)) ?_
  first | refine x_aload_n d_A_init_148 rfl ?_ | refine x_aloadq_n d_A_init_148 rfl ?_
  refine b_getR (k := 0) (kc := 0) (j := 1) (m := 2) b (by decide +kernel) (by decide +kernel) (by decide +kernel) d_A_init_149 rfl (by decide) wf_A_17 (fun _ _ => rfl) ?_
  refine x_iload_n d_A_init_152 rfl ?_
  refine b_newm (kc := 1) (n := 2) (m := 57) b (by decide +kernel) d_A_init_153 rfl wk_A_15 wo_C wi_C rfl dfC (fun h1 b1 => ?_)
  refine x_dup d_A_init_156 rfl ?_
  refine x_callIN (M' := m_C_init) (As := []) (fr' := 1) (wd' := 20) d_A_init_157 pl_C_init rfl (Nat.le_of_ble_eq_true rfl) (by decide) (by decide) rfl rfl wc_C_init wi_C wn_A_77 wm_C_init (by decide) np_C_init (Nat.le_of_ble_eq_true rfl) (fun q hq => by cases hq) (c_C_init b1 (by decide +kernel) (by decide +kernel)) (fun k a h1 q => by cases q.1) (fun v h1 q => ?_)
  obtain ⟨q1, b2⟩ := q
  cases q1
  refine b_aast (t := 111) (N := 6) (kc := 1) b2 (by decide +kernel) (by decide +kernel) (by decide +kernel) (by decide +kernel) (by decide +kernel) d_A_init_160 (by decide) rfl rfl (by decide) (by decide) (fun h3 b3 => ?_)
  have eb : CB g h3 z sD1 3172 := b3
  first | refine x_aload_n d_A_init_161 rfl ?_ | refine x_aloadq_n d_A_init_161 rfl ?_
  refine b_getR (k := 0) (kc := 0) (j := 2) (m := 3) eb (by decide +kernel) (by decide +kernel) (by decide +kernel) d_A_init_162 rfl (by decide) wf_A_23 (fun _ _ => rfl) ?_
  refine x_iload_n d_A_init_165 rfl ?_
  refine b_newm (kc := 4) (n := 5) (m := 59) eb (by decide +kernel) d_A_init_166 rfl wk_A_21 wo_T wi_T rfl dfT (fun h4 b4 => ?_)
  refine x_dup d_A_init_169 rfl ?_
  refine x_iconst (v := nI 1) d_A_init_170 (by decide) ?_
  refine x_iload_n d_A_init_171 rfl ?_
  refine x_callI (M' := m_T_init) (As := [_, _]) (fr' := 1) (wd' := 20) d_A_init_172 pl_T_init rfl (Nat.le_of_ble_eq_true rfl) rfl rfl (by decide) (by decide) wc_T_init wi_T wl_A_78 wm_T_init (by decide) np_T_init (Nat.le_of_ble_eq_true rfl) (fun q hq => by cases hq) (c_T_init b4 (by decide +kernel) (by decide +kernel) rfl rfl) (fun k a h1 q => by cases q.1) (fun v h1 q => ?_)
  obtain ⟨q1, b5⟩ := q
  cases q1
  refine b_aast (t := 112) (N := 6) (kc := 4) b5 (by decide +kernel) (by decide +kernel) (by decide +kernel) (by decide +kernel) (by decide +kernel) d_A_init_175 (by decide) rfl rfl (by decide) (by decide) (fun h6 b6 => ?_)
  have nb : CB g h6 z sC2 3177 := b6
  first | refine x_incN d_A_init_176 rfl (by decide) ?_ | refine x_inc d_A_init_176 rfl (by decide) ?_
  refine x_goto (tgt := 142) d_A_init_179 (by decide) ?_
  rw [show nI (1 + 1) = nI 2 from rfl]
  refine xV.loc (ai_c2 nb) (by repeat (first | exact trivial | refine ⟨rfl, ?_⟩))
theorem ai_c0 (b : CB g h z sC0 3151) : xV l G 3 62 m_A_init 142 [(1, .int (nI 0)), (0, .ref z)] [] h (fun r h' => r = .inl none ∧ CB g h' z sR3 3244) := by
  refine x_iload_n d_A_init_142 rfl ?_
  refine x_bipush (v := nI 6) d_A_init_143 (by decide) ?_
  refine x_icmp_ge_f 182 d_A_init_145 (by decide) ((by decide)) ?_
  first | refine x_aload_n d_A_init_148 rfl ?_ | refine x_aloadq_n d_A_init_148 rfl ?_
  refine b_getR (k := 0) (kc := 0) (j := 1) (m := 2) b (by decide +kernel) (by decide +kernel) (by decide +kernel) d_A_init_149 rfl (by decide) wf_A_17 (fun _ _ => rfl) ?_
  refine x_iload_n d_A_init_152 rfl ?_
  refine b_newm (kc := 1) (n := 2) (m := 54) b (by decide +kernel) d_A_init_153 rfl wk_A_15 wo_C wi_C rfl dfC (fun h1 b1 => ?_)
  refine x_dup d_A_init_156 rfl ?_
  refine x_callIN (M' := m_C_init) (As := []) (fr' := 1) (wd' := 20) d_A_init_157 pl_C_init rfl (Nat.le_of_ble_eq_true rfl) (by decide) (by decide) rfl rfl wc_C_init wi_C wn_A_77 wm_C_init (by decide) np_C_init (Nat.le_of_ble_eq_true rfl) (fun q hq => by cases hq) (c_C_init b1 (by decide +kernel) (by decide +kernel)) (fun k a h1 q => by cases q.1) (fun v h1 q => ?_)
  obtain ⟨q1, b2⟩ := q
  cases q1
  refine b_aast (t := 111) (N := 6) (kc := 1) b2 (by decide +kernel) (by decide +kernel) (by decide +kernel) (by decide +kernel) (by decide +kernel) d_A_init_160 (by decide) rfl rfl (by decide) (by decide) (fun h3 b3 => ?_)
  have eb : CB g h3 z sD0 3159 := b3
  first | refine x_aload_n d_A_init_161 rfl ?_ | refine x_aloadq_n d_A_init_161 rfl ?_
  refine b_getR (k := 0) (kc := 0) (j := 2) (m := 3) eb (by decide +kernel) (by decide +kernel) (by decide +kernel) d_A_init_162 rfl (by decide) wf_A_23 (fun _ _ => rfl) ?_
  refine x_iload_n d_A_init_165 rfl ?_
  refine b_newm (kc := 4) (n := 5) (m := 56) eb (by decide +kernel) d_A_init_166 rfl wk_A_21 wo_T wi_T rfl dfT (fun h4 b4 => ?_)
  refine x_dup d_A_init_169 rfl ?_
  refine x_iconst (v := nI 1) d_A_init_170 (by decide) ?_
  refine x_iload_n d_A_init_171 rfl ?_
  refine x_callI (M' := m_T_init) (As := [_, _]) (fr' := 1) (wd' := 20) d_A_init_172 pl_T_init rfl (Nat.le_of_ble_eq_true rfl) rfl rfl (by decide) (by decide) wc_T_init wi_T wl_A_78 wm_T_init (by decide) np_T_init (Nat.le_of_ble_eq_true rfl) (fun q hq => by cases hq) (c_T_init b4 (by decide +kernel) (by decide +kernel) rfl rfl) (fun k a h1 q => by cases q.1) (fun v h1 q => ?_)
  obtain ⟨q1, b5⟩ := q
  cases q1
  refine b_aast (t := 112) (N := 6) (kc := 4) b5 (by decide +kernel) (by decide +kernel) (by decide +kernel) (by decide +kernel) (by decide +kernel) d_A_init_175 (by decide) rfl rfl (by decide) (by decide) (fun h6 b6 => ?_)
  have nb : CB g h6 z sC1 3164 := b6
  first | refine x_incN d_A_init_176 rfl (by decide) ?_ | refine x_inc d_A_init_176 rfl (by decide) ?_
  refine x_goto (tgt := 142) d_A_init_179 (by decide) ?_
  rw [show nI (0 + 1) = nI 1 from rfl]
  refine xV.loc (ai_c1 nb) (by repeat (first | exact trivial | refine ⟨rfl, ?_⟩))
theorem ai_w3 (b : CB g h z sW3 3146) : xV l G 3 62 m_A_init 116 [(1, .int (nI 3)), (0, .ref z)] [] h (fun r h' => r = .inl none ∧ CB g h' z sR3 3244) := by
  refine x_iload_n d_A_init_116 rfl ?_
  refine x_iconst (v := nI 4) d_A_init_117 (by decide) ?_
  refine x_icmp_ge_f 140 d_A_init_118 (by decide) ((by decide)) ?_
  first | refine x_aload_n d_A_init_121 rfl ?_ | refine x_aloadq_n d_A_init_121 rfl ?_
  refine b_getR (k := 0) (kc := 0) (j := 0) (m := 1) b (by decide +kernel) (by decide +kernel) (by decide +kernel) d_A_init_122 rfl (by decide) wf_A_11 (fun _ _ => rfl) ?_
  refine x_iload_n d_A_init_125 rfl ?_
  refine b_newm (kc := 5) (n := 5) (m := 53) b (by decide +kernel) d_A_init_126 rfl wk_A_9 wo_K wi_K rfl dfK (fun h1 b1 => ?_)
  refine x_dup d_A_init_129 rfl ?_
  refine x_callIN (M' := m_K_init) (As := []) (fr' := 1) (wd' := 20) d_A_init_130 pl_K_init rfl (Nat.le_of_ble_eq_true rfl) (by decide) (by decide) rfl rfl wc_K_init wi_K wn_A_76 wm_K_init (by decide) np_K_init (Nat.le_of_ble_eq_true rfl) (fun q hq => by cases hq) (c_K_init b1 (by decide +kernel) (by decide +kernel)) (fun k a h1 q => by cases q.1) (fun v h1 q => ?_)
  obtain ⟨q1, b2⟩ := q
  cases q1
  refine b_aast (t := 110) (N := 4) (kc := 5) b2 (by decide +kernel) (by decide +kernel) (by decide +kernel) (by decide +kernel) (by decide +kernel) d_A_init_133 (by decide) rfl rfl (by decide) (by decide) (fun h3 b3 => ?_)
  have nb : CB g h3 z sW4 3151 := b3
  first | refine x_incN d_A_init_134 rfl (by decide) ?_ | refine x_inc d_A_init_134 rfl (by decide) ?_
  refine x_goto (tgt := 116) d_A_init_137 (by decide) ?_
  rw [show nI (3 + 1) = nI 4 from rfl]
  refine x_iload_n d_A_init_116 rfl ?_
  refine x_iconst (v := nI 4) d_A_init_117 (by decide) ?_
  refine x_icmp_ge_t (tgt := 140) d_A_init_118 (by decide) ((by decide)) ?_
  refine x_iconst (v := nI 0) d_A_init_140 (by decide) ?_
  refine x_istore_n d_A_init_141 (by decide) ?_
  have nc : CB g h3 z sC0 3151 := nb
  refine xV.loc (ai_c0 nc) (by repeat (first | exact trivial | refine ⟨rfl, ?_⟩))
theorem ai_w2 (b : CB g h z sW2 3141) : xV l G 3 62 m_A_init 116 [(1, .int (nI 2)), (0, .ref z)] [] h (fun r h' => r = .inl none ∧ CB g h' z sR3 3244) := by
  refine x_iload_n d_A_init_116 rfl ?_
  refine x_iconst (v := nI 4) d_A_init_117 (by decide) ?_
  refine x_icmp_ge_f 140 d_A_init_118 (by decide) ((by decide)) ?_
  first | refine x_aload_n d_A_init_121 rfl ?_ | refine x_aloadq_n d_A_init_121 rfl ?_
  refine b_getR (k := 0) (kc := 0) (j := 0) (m := 1) b (by decide +kernel) (by decide +kernel) (by decide +kernel) d_A_init_122 rfl (by decide) wf_A_11 (fun _ _ => rfl) ?_
  refine x_iload_n d_A_init_125 rfl ?_
  refine b_newm (kc := 5) (n := 5) (m := 52) b (by decide +kernel) d_A_init_126 rfl wk_A_9 wo_K wi_K rfl dfK (fun h1 b1 => ?_)
  refine x_dup d_A_init_129 rfl ?_
  refine x_callIN (M' := m_K_init) (As := []) (fr' := 1) (wd' := 20) d_A_init_130 pl_K_init rfl (Nat.le_of_ble_eq_true rfl) (by decide) (by decide) rfl rfl wc_K_init wi_K wn_A_76 wm_K_init (by decide) np_K_init (Nat.le_of_ble_eq_true rfl) (fun q hq => by cases hq) (c_K_init b1 (by decide +kernel) (by decide +kernel)) (fun k a h1 q => by cases q.1) (fun v h1 q => ?_)
  obtain ⟨q1, b2⟩ := q
  cases q1
  refine b_aast (t := 110) (N := 4) (kc := 5) b2 (by decide +kernel) (by decide +kernel) (by decide +kernel) (by decide +kernel) (by decide +kernel) d_A_init_133 (by decide) rfl rfl (by decide) (by decide) (fun h3 b3 => ?_)
  have nb : CB g h3 z sW3 3146 := b3
  first | refine x_incN d_A_init_134 rfl (by decide) ?_ | refine x_inc d_A_init_134 rfl (by decide) ?_
  refine x_goto (tgt := 116) d_A_init_137 (by decide) ?_
  rw [show nI (2 + 1) = nI 3 from rfl]
  refine xV.loc (ai_w3 nb) (by repeat (first | exact trivial | refine ⟨rfl, ?_⟩))
theorem ai_w1 (b : CB g h z sW1 3136) : xV l G 3 62 m_A_init 116 [(1, .int (nI 1)), (0, .ref z)] [] h (fun r h' => r = .inl none ∧ CB g h' z sR3 3244) := by
  refine x_iload_n d_A_init_116 rfl ?_
  refine x_iconst (v := nI 4) d_A_init_117 (by decide) ?_
  refine x_icmp_ge_f 140 d_A_init_118 (by decide) ((by decide)) ?_
  first | refine x_aload_n d_A_init_121 rfl ?_ | refine x_aloadq_n d_A_init_121 rfl ?_
  refine b_getR (k := 0) (kc := 0) (j := 0) (m := 1) b (by decide +kernel) (by decide +kernel) (by decide +kernel) d_A_init_122 rfl (by decide) wf_A_11 (fun _ _ => rfl) ?_
  refine x_iload_n d_A_init_125 rfl ?_
  refine b_newm (kc := 5) (n := 5) (m := 51) b (by decide +kernel) d_A_init_126 rfl wk_A_9 wo_K wi_K rfl dfK (fun h1 b1 => ?_)
  refine x_dup d_A_init_129 rfl ?_
  refine x_callIN (M' := m_K_init) (As := []) (fr' := 1) (wd' := 20) d_A_init_130 pl_K_init rfl (Nat.le_of_ble_eq_true rfl) (by decide) (by decide) rfl rfl wc_K_init wi_K wn_A_76 wm_K_init (by decide) np_K_init (Nat.le_of_ble_eq_true rfl) (fun q hq => by cases hq) (c_K_init b1 (by decide +kernel) (by decide +kernel)) (fun k a h1 q => by cases q.1) (fun v h1 q => ?_)
  obtain ⟨q1, b2⟩ := q
  cases q1
  refine b_aast (t := 110) (N := 4) (kc := 5) b2 (by decide +kernel) (by decide +kernel) (by decide +kernel) (by decide +kernel) (by decide +kernel) d_A_init_133 (by decide) rfl rfl (by decide) (by decide) (fun h3 b3 => ?_)
  have nb : CB g h3 z sW2 3141 := b3
  first | refine x_incN d_A_init_134 rfl (by decide) ?_ | refine x_inc d_A_init_134 rfl (by decide) ?_
  refine x_goto (tgt := 116) d_A_init_137 (by decide) ?_
  rw [show nI (1 + 1) = nI 2 from rfl]
  refine xV.loc (ai_w2 nb) (by repeat (first | exact trivial | refine ⟨rfl, ?_⟩))
theorem ai_w0 (b : CB g h z sW0 3131) : xV l G 3 62 m_A_init 116 [(1, .int (nI 0)), (0, .ref z)] [] h (fun r h' => r = .inl none ∧ CB g h' z sR3 3244) := by
  refine x_iload_n d_A_init_116 rfl ?_
  refine x_iconst (v := nI 4) d_A_init_117 (by decide) ?_
  refine x_icmp_ge_f 140 d_A_init_118 (by decide) ((by decide)) ?_
  first | refine x_aload_n d_A_init_121 rfl ?_ | refine x_aloadq_n d_A_init_121 rfl ?_
  refine b_getR (k := 0) (kc := 0) (j := 0) (m := 1) b (by decide +kernel) (by decide +kernel) (by decide +kernel) d_A_init_122 rfl (by decide) wf_A_11 (fun _ _ => rfl) ?_
  refine x_iload_n d_A_init_125 rfl ?_
  refine b_newm (kc := 5) (n := 5) (m := 50) b (by decide +kernel) d_A_init_126 rfl wk_A_9 wo_K wi_K rfl dfK (fun h1 b1 => ?_)
  refine x_dup d_A_init_129 rfl ?_
  refine x_callIN (M' := m_K_init) (As := []) (fr' := 1) (wd' := 20) d_A_init_130 pl_K_init rfl (Nat.le_of_ble_eq_true rfl) (by decide) (by decide) rfl rfl wc_K_init wi_K wn_A_76 wm_K_init (by decide) np_K_init (Nat.le_of_ble_eq_true rfl) (fun q hq => by cases hq) (c_K_init b1 (by decide +kernel) (by decide +kernel)) (fun k a h1 q => by cases q.1) (fun v h1 q => ?_)
  obtain ⟨q1, b2⟩ := q
  cases q1
  refine b_aast (t := 110) (N := 4) (kc := 5) b2 (by decide +kernel) (by decide +kernel) (by decide +kernel) (by decide +kernel) (by decide +kernel) d_A_init_133 (by decide) rfl rfl (by decide) (by decide) (fun h3 b3 => ?_)
  have nb : CB g h3 z sW1 3136 := b3
  first | refine x_incN d_A_init_134 rfl (by decide) ?_ | refine x_inc d_A_init_134 rfl (by decide) ?_
  refine x_goto (tgt := 116) d_A_init_137 (by decide) ?_
  rw [show nI (0 + 1) = nI 1 from rfl]
  refine xV.loc (ai_w1 nb) (by repeat (first | exact trivial | refine ⟨rfl, ?_⟩))
theorem c_A_init (b : CB g h z sA0 15) : xVM l G 3 62 m_A_init [.ref z] h (fun r h' => r = .inl none ∧ CB g h' z sR3 3244) := by
  unfold xVM
  first | refine x_aload_n d_A_init_0 rfl ?_ | refine x_aloadq_n d_A_init_0 rfl ?_
  refine x_objInit d_A_init_1 wl_A_3 wm_O_init wc_O_init (by decide) (by decide) (by decide) ?_
  first | refine x_aload_n d_A_init_4 rfl ?_ | refine x_aloadq_n d_A_init_4 rfl ?_
  refine x_iconst (v := nI 4) d_A_init_5 (by decide) ?_
  refine b_anew (t := 110) (N := 4) b d_A_init_6 (by decide) rfl wk_A_9 wq_K (by decide) (fun h1 b1 => ?_)
  refine b_putP (k := 0) (kc := 0) (j := 0) b1 (by decide +kernel) (by decide +kernel) d_A_init_9 rfl (by decide) wf_A_11 (Or.inr ⟨rfl, rfl, rfl⟩) (fun _ => rfl) (fun _ => rfl) (fun _ _ => rfl) (fun h2 b2 => ?_)
  have a1 : CB g h2 z sA1 19 := b2
  first | refine x_aload_n d_A_init_12 rfl ?_ | refine x_aloadq_n d_A_init_12 rfl ?_
  refine x_bipush (v := nI 6) d_A_init_13 (by decide) ?_
  refine b_anew (t := 111) (N := 6) a1 d_A_init_15 (by decide) rfl wk_A_15 wq_C (by decide) (fun h1 b1 => ?_)
  refine b_putP (k := 0) (kc := 0) (j := 1) b1 (by decide +kernel) (by decide +kernel) d_A_init_18 rfl (by decide) wf_A_17 (Or.inr ⟨rfl, rfl, rfl⟩) (fun _ => rfl) (fun _ => rfl) (fun _ _ => rfl) (fun h2 b2 => ?_)
  have a2 : CB g h2 z sA2 25 := b2
  first | refine x_aload_n d_A_init_21 rfl ?_ | refine x_aloadq_n d_A_init_21 rfl ?_
  refine x_bipush (v := nI 6) d_A_init_22 (by decide) ?_
  refine b_anew (t := 112) (N := 6) a2 d_A_init_24 (by decide) rfl wk_A_21 wq_T (by decide) (fun h1 b1 => ?_)
  refine b_putP (k := 0) (kc := 0) (j := 2) b1 (by decide +kernel) (by decide +kernel) d_A_init_27 rfl (by decide) wf_A_23 (Or.inr ⟨rfl, rfl, rfl⟩) (fun _ => rfl) (fun _ => rfl) (fun _ _ => rfl) (fun h2 b2 => ?_)
  have a3 : CB g h2 z sA3 31 := b2
  first | refine x_aload_n d_A_init_30 rfl ?_ | refine x_aloadq_n d_A_init_30 rfl ?_
  refine x_iconst (v := nI 3) d_A_init_31 (by decide) ?_
  refine b_anew (t := 112) (N := 3) a3 d_A_init_32 (by decide) rfl wk_A_21 wq_T (by decide) (fun h1 b1 => ?_)
  refine b_putP (k := 0) (kc := 0) (j := 3) b1 (by decide +kernel) (by decide +kernel) d_A_init_35 rfl (by decide) wf_A_27 (Or.inr ⟨rfl, rfl, rfl⟩) (fun _ => rfl) (fun _ => rfl) (fun _ _ => rfl) (fun h2 b2 => ?_)
  have a4 : CB g h2 z sA4 34 := b2
  first | refine x_aload_n d_A_init_38 rfl ?_ | refine x_aloadq_n d_A_init_38 rfl ?_
  refine b_newm (kc := 3) (n := 3) (m := 5) a4 (by decide +kernel) d_A_init_39 rfl wk_A_30 wo_P wi_P rfl dfP (fun h1 b1 => ?_)
  refine x_dup d_A_init_42 rfl ?_
  refine x_bipush (v := nI 6) d_A_init_43 (by decide) ?_
  refine x_callI (M' := m_P_init) (As := [_]) (fr' := 1) (wd' := 20) d_A_init_45 pl_P_init rfl (Nat.le_of_ble_eq_true rfl) rfl rfl (by decide) (by decide) wc_P_init wi_P wl_A_32 wm_P_init (by decide) np_P_init (Nat.le_of_ble_eq_true rfl) (fun q hq => by cases hq) (c_P_init (cap := 6) b1 (by decide +kernel) (by decide +kernel) (by decide)) (fun k a h1 q => by cases q.1) (fun v h1 q => ?_)
  obtain ⟨q1, b2⟩ := q
  cases q1
  refine b_putP (k := 0) (kc := 0) (j := 4) b2 (by decide +kernel) (by decide +kernel) d_A_init_48 rfl (by decide) wf_A_35 (Or.inr ⟨rfl, rfl, rfl⟩) (fun _ => rfl) (fun _ => rfl) (fun _ _ => rfl) (fun h3 b3 => ?_)
  have a5 : CB g h3 z sA5 49 := b3
  first | refine x_aload_n d_A_init_51 rfl ?_ | refine x_aloadq_n d_A_init_51 rfl ?_
  refine b_newm (kc := 2) (n := 5) (m := 8) a5 (by decide +kernel) d_A_init_52 rfl wk_A_39 wo_J wi_J rfl dfJ (fun h1 b1 => ?_)
  refine x_dup d_A_init_55 rfl ?_
  have b1j : CB g h1 z sJ8 54 := b1
  refine x_callI (M' := m_J_init) (As := []) (fr' := 2) (wd' := 41) d_A_init_56 pl_J_init rfl (Nat.le_of_ble_eq_true rfl) rfl rfl (by decide) (by decide) wc_J_init wi_J wl_A_41 wm_J_init (by decide) np_J_init (Nat.le_of_ble_eq_true rfl) (fun q hq => by cases hq) (c_J_init8 b1j) (fun k a h1 q => by cases q.1) (fun v h1 q => ?_)
  obtain ⟨q1, b2⟩ := q
  cases q1
  refine b_putP (k := 0) (kc := 0) (j := 5) b2 (by decide +kernel) (by decide +kernel) d_A_init_59 rfl (by decide) wf_A_42 (Or.inl rfl) (fun _ => rfl) (fun _ => rfl) (fun _ _ => rfl) (fun h3 b3 => ?_)
  have a6 : CB g h3 z sA6 1590 := b3
  first | refine x_aload_n d_A_init_62 rfl ?_ | refine x_aloadq_n d_A_init_62 rfl ?_
  refine b_newm (kc := 2) (n := 5) (m := 29) a6 (by decide +kernel) d_A_init_63 rfl wk_A_39 wo_J wi_J rfl dfJ (fun h1 b1 => ?_)
  refine x_dup d_A_init_66 rfl ?_
  have b1j : CB g h1 z sJ29 1595 := b1
  refine x_callI (M' := m_J_init) (As := []) (fr' := 2) (wd' := 41) d_A_init_67 pl_J_init rfl (Nat.le_of_ble_eq_true rfl) rfl rfl (by decide) (by decide) wc_J_init wi_J wl_A_41 wm_J_init (by decide) np_J_init (Nat.le_of_ble_eq_true rfl) (fun q hq => by cases hq) (c_J_init29 b1j) (fun k a h1 q => by cases q.1) (fun v h1 q => ?_)
  obtain ⟨q1, b2⟩ := q
  cases q1
  refine b_putP (k := 0) (kc := 0) (j := 6) b2 (by decide +kernel) (by decide +kernel) d_A_init_70 rfl (by decide) wf_A_46 (Or.inl rfl) (fun _ => rfl) (fun _ => rfl) (fun _ _ => rfl) (fun h3 b3 => ?_)
  have a7 : CB g h3 z sA7 3131 := b3
  first | refine x_aload_n d_A_init_73 rfl ?_ | refine x_aloadq_n d_A_init_73 rfl ?_
  refine x_iconst (v := nI 0) d_A_init_74 (by decide) ?_
  refine b_putI (k := 0) (kc := 0) (j := 7) a7 (by decide +kernel) (by decide +kernel) d_A_init_75 rfl (by decide) wf_A_49 (Or.inl rfl) rfl rfl (fun _ _ => rfl) (fun g0 d0 => ?_)
  first | refine x_aload_n d_A_init_78 rfl ?_ | refine x_aloadq_n d_A_init_78 rfl ?_
  refine x_iconst (v := nI 0) d_A_init_79 (by decide) ?_
  refine b_putI (k := 0) (kc := 0) (j := 8) d0 (by decide +kernel) (by decide +kernel) d_A_init_80 rfl (by decide) wf_A_53 (Or.inl rfl) rfl rfl (fun _ _ => rfl) (fun g1 d1 => ?_)
  first | refine x_aload_n d_A_init_83 rfl ?_ | refine x_aloadq_n d_A_init_83 rfl ?_
  refine x_iconst (v := (-1)) d_A_init_84 (by decide) ?_
  refine b_putI (k := 0) (kc := 0) (j := 9) d1 (by decide +kernel) (by decide +kernel) d_A_init_85 rfl (by decide) wf_A_57 (Or.inl rfl) rfl rfl (fun _ _ => rfl) (fun g2 d2 => ?_)
  first | refine x_aload_n d_A_init_88 rfl ?_ | refine x_aloadq_n d_A_init_88 rfl ?_
  refine x_ldc (v := (-2147483648)) d_A_init_89 wv_A_60 ?_
  refine b_putI (k := 0) (kc := 0) (j := 10) d2 (by decide +kernel) (by decide +kernel) d_A_init_91 rfl (by decide) wf_A_61 (Or.inl rfl) rfl rfl (fun _ _ => rfl) (fun g3 d3 => ?_)
  first | refine x_aload_n d_A_init_94 rfl ?_ | refine x_aloadq_n d_A_init_94 rfl ?_
  refine x_iconst (v := nI 0) d_A_init_95 (by decide) ?_
  refine b_putI (k := 0) (kc := 0) (j := 11) d3 (by decide +kernel) (by decide +kernel) d_A_init_96 rfl (by decide) wf_A_64 (Or.inl rfl) rfl rfl (fun _ _ => rfl) (fun g4 d4 => ?_)
  first | refine x_aload_n d_A_init_99 rfl ?_ | refine x_aloadq_n d_A_init_99 rfl ?_
  refine x_iconst (v := nI 0) d_A_init_100 (by decide) ?_
  refine b_putI (k := 0) (kc := 0) (j := 12) d4 (by decide +kernel) (by decide +kernel) d_A_init_101 rfl (by decide) wf_A_67 (Or.inl rfl) rfl rfl (fun _ _ => rfl) (fun g5 d5 => ?_)
  first | refine x_aload_n d_A_init_104 rfl ?_ | refine x_aloadq_n d_A_init_104 rfl ?_
  refine x_iconst (v := nI 0) d_A_init_105 (by decide) ?_
  refine b_putI (k := 0) (kc := 0) (j := 13) d5 (by decide +kernel) (by decide +kernel) d_A_init_106 rfl (by decide) wf_A_70 (Or.inl rfl) rfl rfl (fun _ _ => rfl) (fun g6 d6 => ?_)
  first | refine x_aload_n d_A_init_109 rfl ?_ | refine x_aloadq_n d_A_init_109 rfl ?_
  refine x_iconst (v := nI 0) d_A_init_110 (by decide) ?_
  refine b_putI (k := 0) (kc := 0) (j := 14) d6 (by decide +kernel) (by decide +kernel) d_A_init_111 rfl (by decide) wf_A_73 (Or.inl rfl) rfl rfl (fun _ _ => rfl) (fun g7 d7 => ?_)
  refine x_iconst (v := nI 0) d_A_init_114 (by decide) ?_
  refine x_istore_n d_A_init_115 (by decide) ?_
  have w0 : CB g g7 z sW0 3131 := d7
  refine xV.loc (ai_w0 w0) (by repeat (first | exact trivial | refine ⟨rfl, ?_⟩))
/-- the shape of the class, once it is made -/
theorem lt2 {p : Nat → Prop} (h0 : p 0) (h1 : p 1) (h2 : p 2) : ∀ n, n < 3 → p n := fun n hn => by
  rcases (by omega : n = 0 ∨ n = 1 ∨ n = 2) with rfl | rfl | rfl
  · exact h0
  · exact h1
  · exact h2
theorem lt5 {p : Nat → Prop} (h0 : p 0) (h1 : p 1) (h2 : p 2) (h3 : p 3) (h4 : p 4) (h5 : p 5) : ∀ n, n < 6 → p n := fun n hn => by
  rcases (by omega : n = 0 ∨ n = 1 ∨ n = 2 ∨ n = 3 ∨ n = 4 ∨ n = 5) with rfl | rfl | rfl | rfl | rfl | rfl
  · exact h0
  · exact h1
  · exact h2
  · exact h3
  · exact h4
  · exact h5
theorem lt3 {p : Nat → Prop} (h0 : p 0) (h1 : p 1) (h2 : p 2) (h3 : p 3) : ∀ n, n < 4 → p n := fun n hn => by
  rcases (by omega : n = 0 ∨ n = 1 ∨ n = 2 ∨ n = 3) with rfl | rfl | rfl | rfl
  · exact h0
  · exact h1
  · exact h2
  · exact h3
theorem CB.T {s : SG} {sl : Nat} (b : CB g h z s sl) {k t : Nat} (hk : k < s.1) (e : s.2.1 k = t) : xT h (z + k) = t := (b.2.2.1 k hk).1.trans e
theorem CB.N {s : SG} {sl : Nat} (b : CB g h z s sl) {k n : Nat} (hk : k < s.1) (e : s.2.2.1 k = n) : xN h (z + k) = n := (b.2.2.1 k hk).2.1.trans e
theorem CB.P {s : SG} {sl : Nat} (b : CB g h z s sl) {k j m : Nat} (hk : k < s.1) (e : s.2.2.2.1 k j = some m) : xP h (z + k) j = some (z + m) := ((b.2.2.1 k hk).2.2.1 j).trans (by rw [e]; rfl)
theorem CB.P0 {s : SG} {sl : Nat} (b : CB g h z s sl) {k j : Nat} (hk : k < s.1) (e : s.2.2.2.1 k j = none) : xP h (z + k) j = none := ((b.2.2.1 k hk).2.2.1 j).trans (by rw [e]; rfl)
theorem CB.I {s : SG} {sl : Nat} (b : CB g h z s sl) {k j : Nat} {v : Int32} (hk : k < s.1) (e : s.2.2.2.2 k j = v) : xI h (z + k) j = v := ((b.2.2.1 k hk).2.2.2 j).trans e
theorem CB.shape {sl : Nat} (b : CB g h z sR3 sl) : CSh h z := by
  refine ⟨b.T (k := 0) (by decide +kernel) (by decide +kernel), ⟨b.P (k := 0) (j := 0) (by decide +kernel) (by decide +kernel), b.P (k := 0) (j := 1) (by decide +kernel) (by decide +kernel), b.P (k := 0) (j := 2) (by decide +kernel) (by decide +kernel), b.P (k := 0) (j := 3) (by decide +kernel) (by decide +kernel), b.P (k := 0) (j := 4) (by decide +kernel) (by decide +kernel)⟩, ⟨b.T (k := 1) (by decide +kernel) (by decide +kernel), b.N (k := 1) (by decide +kernel) (by decide +kernel), ?_⟩, ⟨b.T (k := 2) (by decide +kernel) (by decide +kernel), b.N (k := 2) (by decide +kernel) (by decide +kernel), ?_⟩, ⟨b.T (k := 3) (by decide +kernel) (by decide +kernel), b.N (k := 3) (by decide +kernel) (by decide +kernel), ?_⟩, ⟨b.T (k := 4) (by decide +kernel) (by decide +kernel), b.N (k := 4) (by decide +kernel) (by decide +kernel), ?_⟩, ?_, ?_, ?_, ?_, ?_⟩
  · exact lt3 (b.P (k := 1) (j := 0) (by decide +kernel) (by decide +kernel)) (b.P (k := 1) (j := 1) (by decide +kernel) (by decide +kernel)) (b.P (k := 1) (j := 2) (by decide +kernel) (by decide +kernel)) (b.P (k := 1) (j := 3) (by decide +kernel) (by decide +kernel))
  · exact lt5 (b.P (k := 2) (j := 0) (by decide +kernel) (by decide +kernel)) (b.P (k := 2) (j := 1) (by decide +kernel) (by decide +kernel)) (b.P (k := 2) (j := 2) (by decide +kernel) (by decide +kernel)) (b.P (k := 2) (j := 3) (by decide +kernel) (by decide +kernel)) (b.P (k := 2) (j := 4) (by decide +kernel) (by decide +kernel)) (b.P (k := 2) (j := 5) (by decide +kernel) (by decide +kernel))
  · exact lt5 (b.P (k := 3) (j := 0) (by decide +kernel) (by decide +kernel)) (b.P (k := 3) (j := 1) (by decide +kernel) (by decide +kernel)) (b.P (k := 3) (j := 2) (by decide +kernel) (by decide +kernel)) (b.P (k := 3) (j := 3) (by decide +kernel) (by decide +kernel)) (b.P (k := 3) (j := 4) (by decide +kernel) (by decide +kernel)) (b.P (k := 3) (j := 5) (by decide +kernel) (by decide +kernel))
  · exact lt2 (b.P (k := 4) (j := 0) (by decide +kernel) (by decide +kernel)) (b.P (k := 4) (j := 1) (by decide +kernel) (by decide +kernel)) (b.P (k := 4) (j := 2) (by decide +kernel) (by decide +kernel))
  · rintro o cap (⟨rfl, rfl⟩ | ⟨d, p, hp, rfl, rfl⟩ | ⟨d, p, hp, rfl, rfl⟩)
    · exact ⟨b.T (k := 5) (by decide +kernel) (by decide +kernel), b.P (k := 5) (j := 0) (by decide +kernel) (by decide +kernel), b.P (k := 5) (j := 1) (by decide +kernel) (by decide +kernel), b.T (k := 6) (by decide +kernel) (by decide +kernel), b.T (k := 7) (by decide +kernel) (by decide +kernel), b.N (k := 6) (by decide +kernel) (by decide +kernel), b.N (k := 7) (by decide +kernel) (by decide +kernel)⟩
    · revert p
      cases d
      · exact lt2 (⟨b.T (k := 11) (by decide +kernel) (by decide +kernel), b.P (k := 11) (j := 0) (by decide +kernel) (by decide +kernel), b.P (k := 11) (j := 1) (by decide +kernel) (by decide +kernel), b.T (k := 12) (by decide +kernel) (by decide +kernel), b.T (k := 13) (by decide +kernel) (by decide +kernel), b.N (k := 12) (by decide +kernel) (by decide +kernel), b.N (k := 13) (by decide +kernel) (by decide +kernel)⟩) (⟨b.T (k := 17) (by decide +kernel) (by decide +kernel), b.P (k := 17) (j := 0) (by decide +kernel) (by decide +kernel), b.P (k := 17) (j := 1) (by decide +kernel) (by decide +kernel), b.T (k := 18) (by decide +kernel) (by decide +kernel), b.T (k := 19) (by decide +kernel) (by decide +kernel), b.N (k := 18) (by decide +kernel) (by decide +kernel), b.N (k := 19) (by decide +kernel) (by decide +kernel)⟩) (⟨b.T (k := 23) (by decide +kernel) (by decide +kernel), b.P (k := 23) (j := 0) (by decide +kernel) (by decide +kernel), b.P (k := 23) (j := 1) (by decide +kernel) (by decide +kernel), b.T (k := 24) (by decide +kernel) (by decide +kernel), b.T (k := 25) (by decide +kernel) (by decide +kernel), b.N (k := 24) (by decide +kernel) (by decide +kernel), b.N (k := 25) (by decide +kernel) (by decide +kernel)⟩)
      · exact lt2 (⟨b.T (k := 32) (by decide +kernel) (by decide +kernel), b.P (k := 32) (j := 0) (by decide +kernel) (by decide +kernel), b.P (k := 32) (j := 1) (by decide +kernel) (by decide +kernel), b.T (k := 33) (by decide +kernel) (by decide +kernel), b.T (k := 34) (by decide +kernel) (by decide +kernel), b.N (k := 33) (by decide +kernel) (by decide +kernel), b.N (k := 34) (by decide +kernel) (by decide +kernel)⟩) (⟨b.T (k := 38) (by decide +kernel) (by decide +kernel), b.P (k := 38) (j := 0) (by decide +kernel) (by decide +kernel), b.P (k := 38) (j := 1) (by decide +kernel) (by decide +kernel), b.T (k := 39) (by decide +kernel) (by decide +kernel), b.T (k := 40) (by decide +kernel) (by decide +kernel), b.N (k := 39) (by decide +kernel) (by decide +kernel), b.N (k := 40) (by decide +kernel) (by decide +kernel)⟩) (⟨b.T (k := 44) (by decide +kernel) (by decide +kernel), b.P (k := 44) (j := 0) (by decide +kernel) (by decide +kernel), b.P (k := 44) (j := 1) (by decide +kernel) (by decide +kernel), b.T (k := 45) (by decide +kernel) (by decide +kernel), b.T (k := 46) (by decide +kernel) (by decide +kernel), b.N (k := 45) (by decide +kernel) (by decide +kernel), b.N (k := 46) (by decide +kernel) (by decide +kernel)⟩)
    · revert p
      cases d
      · exact lt2 (⟨b.T (k := 14) (by decide +kernel) (by decide +kernel), b.P (k := 14) (j := 0) (by decide +kernel) (by decide +kernel), b.P (k := 14) (j := 1) (by decide +kernel) (by decide +kernel), b.T (k := 15) (by decide +kernel) (by decide +kernel), b.T (k := 16) (by decide +kernel) (by decide +kernel), b.N (k := 15) (by decide +kernel) (by decide +kernel), b.N (k := 16) (by decide +kernel) (by decide +kernel)⟩) (⟨b.T (k := 20) (by decide +kernel) (by decide +kernel), b.P (k := 20) (j := 0) (by decide +kernel) (by decide +kernel), b.P (k := 20) (j := 1) (by decide +kernel) (by decide +kernel), b.T (k := 21) (by decide +kernel) (by decide +kernel), b.T (k := 22) (by decide +kernel) (by decide +kernel), b.N (k := 21) (by decide +kernel) (by decide +kernel), b.N (k := 22) (by decide +kernel) (by decide +kernel)⟩) (⟨b.T (k := 26) (by decide +kernel) (by decide +kernel), b.P (k := 26) (j := 0) (by decide +kernel) (by decide +kernel), b.P (k := 26) (j := 1) (by decide +kernel) (by decide +kernel), b.T (k := 27) (by decide +kernel) (by decide +kernel), b.T (k := 28) (by decide +kernel) (by decide +kernel), b.N (k := 27) (by decide +kernel) (by decide +kernel), b.N (k := 28) (by decide +kernel) (by decide +kernel)⟩)
      · exact lt2 (⟨b.T (k := 35) (by decide +kernel) (by decide +kernel), b.P (k := 35) (j := 0) (by decide +kernel) (by decide +kernel), b.P (k := 35) (j := 1) (by decide +kernel) (by decide +kernel), b.T (k := 36) (by decide +kernel) (by decide +kernel), b.T (k := 37) (by decide +kernel) (by decide +kernel), b.N (k := 36) (by decide +kernel) (by decide +kernel), b.N (k := 37) (by decide +kernel) (by decide +kernel)⟩) (⟨b.T (k := 41) (by decide +kernel) (by decide +kernel), b.P (k := 41) (j := 0) (by decide +kernel) (by decide +kernel), b.P (k := 41) (j := 1) (by decide +kernel) (by decide +kernel), b.T (k := 42) (by decide +kernel) (by decide +kernel), b.T (k := 43) (by decide +kernel) (by decide +kernel), b.N (k := 42) (by decide +kernel) (by decide +kernel), b.N (k := 43) (by decide +kernel) (by decide +kernel)⟩) (⟨b.T (k := 47) (by decide +kernel) (by decide +kernel), b.P (k := 47) (j := 0) (by decide +kernel) (by decide +kernel), b.P (k := 47) (j := 1) (by decide +kernel) (by decide +kernel), b.T (k := 48) (by decide +kernel) (by decide +kernel), b.T (k := 49) (by decide +kernel) (by decide +kernel), b.N (k := 48) (by decide +kernel) (by decide +kernel), b.N (k := 49) (by decide +kernel) (by decide +kernel)⟩)
  · intro d
    cases d
    · exact ⟨b.T (k := 8) (by decide +kernel) (by decide +kernel), b.P (k := 8) (j := 0) (by decide +kernel) (by decide +kernel), b.P (k := 8) (j := 1) (by decide +kernel) (by decide +kernel), b.T (k := 9) (by decide +kernel) (by decide +kernel), b.N (k := 9) (by decide +kernel) (by decide +kernel), b.T (k := 10) (by decide +kernel) (by decide +kernel), b.N (k := 10) (by decide +kernel) (by decide +kernel), lt2 (b.P (k := 9) (j := 0) (by decide +kernel) (by decide +kernel)) (b.P (k := 9) (j := 1) (by decide +kernel) (by decide +kernel)) (b.P (k := 9) (j := 2) (by decide +kernel) (by decide +kernel)), lt2 (b.P (k := 10) (j := 0) (by decide +kernel) (by decide +kernel)) (b.P (k := 10) (j := 1) (by decide +kernel) (by decide +kernel)) (b.P (k := 10) (j := 2) (by decide +kernel) (by decide +kernel))⟩
    · exact ⟨b.T (k := 29) (by decide +kernel) (by decide +kernel), b.P (k := 29) (j := 0) (by decide +kernel) (by decide +kernel), b.P (k := 29) (j := 1) (by decide +kernel) (by decide +kernel), b.T (k := 30) (by decide +kernel) (by decide +kernel), b.N (k := 30) (by decide +kernel) (by decide +kernel), b.T (k := 31) (by decide +kernel) (by decide +kernel), b.N (k := 31) (by decide +kernel) (by decide +kernel), lt2 (b.P (k := 30) (j := 0) (by decide +kernel) (by decide +kernel)) (b.P (k := 30) (j := 1) (by decide +kernel) (by decide +kernel)) (b.P (k := 30) (j := 2) (by decide +kernel) (by decide +kernel)), lt2 (b.P (k := 31) (j := 0) (by decide +kernel) (by decide +kernel)) (b.P (k := 31) (j := 1) (by decide +kernel) (by decide +kernel)) (b.P (k := 31) (j := 2) (by decide +kernel) (by decide +kernel))⟩
  · exact lt3 (b.T (k := 50) (by decide +kernel) (by decide +kernel)) (b.T (k := 51) (by decide +kernel) (by decide +kernel)) (b.T (k := 52) (by decide +kernel) (by decide +kernel)) (b.T (k := 53) (by decide +kernel) (by decide +kernel))
  · exact lt5 ⟨b.T (k := 54) (by decide +kernel) (by decide +kernel), b.P (k := 54) (j := 0) (by decide +kernel) (by decide +kernel), b.T (k := 55) (by decide +kernel) (by decide +kernel), b.N (k := 55) (by decide +kernel) (by decide +kernel)⟩ ⟨b.T (k := 57) (by decide +kernel) (by decide +kernel), b.P (k := 57) (j := 0) (by decide +kernel) (by decide +kernel), b.T (k := 58) (by decide +kernel) (by decide +kernel), b.N (k := 58) (by decide +kernel) (by decide +kernel)⟩ ⟨b.T (k := 60) (by decide +kernel) (by decide +kernel), b.P (k := 60) (j := 0) (by decide +kernel) (by decide +kernel), b.T (k := 61) (by decide +kernel) (by decide +kernel), b.N (k := 61) (by decide +kernel) (by decide +kernel)⟩ ⟨b.T (k := 63) (by decide +kernel) (by decide +kernel), b.P (k := 63) (j := 0) (by decide +kernel) (by decide +kernel), b.T (k := 64) (by decide +kernel) (by decide +kernel), b.N (k := 64) (by decide +kernel) (by decide +kernel)⟩ ⟨b.T (k := 66) (by decide +kernel) (by decide +kernel), b.P (k := 66) (j := 0) (by decide +kernel) (by decide +kernel), b.T (k := 67) (by decide +kernel) (by decide +kernel), b.N (k := 67) (by decide +kernel) (by decide +kernel)⟩ ⟨b.T (k := 69) (by decide +kernel) (by decide +kernel), b.P (k := 69) (j := 0) (by decide +kernel) (by decide +kernel), b.T (k := 70) (by decide +kernel) (by decide +kernel), b.N (k := 70) (by decide +kernel) (by decide +kernel)⟩
  · intro t ht
    rcases (by omega : t = 0 ∨ t = 1 ∨ t = 2 ∨ t = 3 ∨ t = 4 ∨ t = 5 ∨ t = 8 ∨ t = 9 ∨ t = 10) with rfl | rfl | rfl | rfl | rfl | rfl | rfl | rfl | rfl
    · exact b.T (k := 56) (by decide +kernel) (by decide +kernel)
    · exact b.T (k := 59) (by decide +kernel) (by decide +kernel)
    · exact b.T (k := 62) (by decide +kernel) (by decide +kernel)
    · exact b.T (k := 65) (by decide +kernel) (by decide +kernel)
    · exact b.T (k := 68) (by decide +kernel) (by decide +kernel)
    · exact b.T (k := 71) (by decide +kernel) (by decide +kernel)
    · exact b.T (k := 72) (by decide +kernel) (by decide +kernel)
    · exact b.T (k := 73) (by decide +kernel) (by decide +kernel)
    · exact b.T (k := 74) (by decide +kernel) (by decide +kernel)
end XC15
