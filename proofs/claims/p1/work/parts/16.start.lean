theorem xstat_of {args : Array Value} {s : State} {C n ds : String} (hl : (Cond.laysStatic C n ds).before args s = true) (h : (Cond.isRef (.static C n ds)).before args s = true) : xStat s.heap s (C, n, ds) := by
  obtain ⟨c, k, i, f, a, cell, hc, hi, hst, ha, hcell, hs, hcls, hlt, hty⟩ := Cond.laysStatic_spec hl
  have he : (Term.static C n ds).eval args s none [] s = cell.slots[f.slot]? := by simp [Term.eval, State.fieldNamed?, hi, hst, ha, hcell, hs]
  simp only [Cond.before, Cond.holds, Cond.value, he] at h
  cases hv : cell.slots[f.slot]? with
  | none => simp [hv] at h
  | some v =>
    refine ⟨c, k, i, f, a, cell, v, hc, hi, hst, ha, hcell, hs, hcls, hlt, hty, hv, ?_⟩
    cases v with
    | null => exact Or.inl rfl
    | ref t => exact Or.inr ⟨t, rfl⟩
    | _ => simp [hv] at h
theorem xarr_p {args : Array Value} {s : State} {ty : FieldType} (h : (Cond.arrayClass ty).before args s = true) (hra : ∀ c : ClassId, va_RA s c ty = (s.vm.findClass ("[" ++ ty.toString) = some c)) : ∃ cA : ClassId, ArrOfT s cA ty ∧ va_RA s cA ty := by
  obtain ⟨c, k, comp, h1, h2, h3⟩ := Cond.arrayClass_spec h
  exact ⟨c, fun n z => ⟨fun k h => (by cases h), k, h2, comp, h3⟩, by rw [hra]; exact h1⟩
theorem xarr_o {args : Array Value} {s : State} {C : String} (h : (Cond.arrayOver (.object C)).before args s = true) : ∃ cA : ClassId, ArrOfT s cA (.object C) ∧ va_RA s cA (.object C) := by
  obtain ⟨comp, c, k, h1, h2, h3, h4, h5⟩ := Cond.arrayOver_spec h
  exact ⟨c, fun n z => ⟨fun k h => (by cases h), k, h3, comp, h4⟩, k, comp, h3, h4, h1, h5⟩
set_option maxHeartbeats 4000000 in
theorem xstart {p : Program} {s : State} {m : MethodId} {meth : Method} {c : Code} {b L : Nat} {xs : Nat → Int32} (C0 : lw_At p s m meth c b L xs) : ∃ (D : va_G) (cA : Nat → ClassId), xKn (D, cA, s.heap, b, L, xs) s := by
  obtain ⟨hx, hb, hr, hml, hown, hts, hX, hbl, hlocks, hgv⟩ := C0
  have htt : ∀ (a' : Array Value) (w : Cond), w ∈ xTT → w.before a' s = true := fun a' w hw => xword (State.WarmedH.refl s) (xTTgood w hw) (hts w (List.mem_filter.mp hw).1)
  have hf := flat_of_before _ hgv
  obtain ⟨c0, i0, k0⟩ := u_known (C := "ReduceCluster") (T := F_A) (N := 15) (n := 15) (htt #[]) i_A (htt #[] _ wo_A)
  obtain ⟨c1, i1, k1⟩ := u_known (C := "ReduceCluster$Chunk") (T := F_C) (N := 2) (n := 2) (htt #[]) i_C (htt #[] _ wo_C)
  obtain ⟨c2, i2, k2⟩ := u_known (C := "ReduceCluster$Job") (T := F_J) (N := 5) (n := 5) (htt #[]) i_J (htt #[] _ wo_J)
  obtain ⟨c3, i3, k3⟩ := u_known (C := "ReduceCluster$Pairs") (T := F_P) (N := 3) (n := 3) (htt #[]) i_P (htt #[] _ wo_P)
  obtain ⟨c4, i4, k4⟩ := u_known (C := "ReduceCluster$Task") (T := F_T) (N := 5) (n := 5) (htt #[]) i_T (htt #[] _ wo_T)
  obtain ⟨c5, i5, k5⟩ := u_known (C := "ReduceCluster$Worker") (T := F_K) (N := 5) (n := 5) (htt #[]) i_K (htt #[] _ wo_K)
  obtain ⟨c6, i6, k6⟩ := u_known (C := "ReduceClusterModel") (T := F_M) (N := 31) (n := 31) (htt #[]) i_M (htt #[] _ wo_M)
  obtain ⟨a100, p100⟩ := xarr_p (ty := .int) (htt #[] _ wa_int) (fun _ => rfl)
  obtain ⟨a101, p101⟩ := xarr_p (ty := .boolean) (htt #[] _ wa_boolean) (fun _ => rfl)
  obtain ⟨a102, p102⟩ := xarr_p (ty := .long) (htt #[] _ wa_long) (fun _ => rfl)
  obtain ⟨a110, p110⟩ := xarr_o (htt #[] _ wq_K)
  obtain ⟨a111, p111⟩ := xarr_o (htt #[] _ wq_C)
  obtain ⟨a112, p112⟩ := xarr_o (htt #[] _ wq_T)
  obtain ⟨a113, p113⟩ := xarr_o (htt #[] _ wq_P)
  obtain ⟨a200, -, p200, -⟩ := Cond.instantiable_spec (htt #[] _ wo_IllegalArgumentException)
  obtain ⟨a201, -, p201, -⟩ := Cond.instantiable_spec (htt #[] _ wo_IllegalStateException)
  obtain ⟨a202, -, p202, -⟩ := Cond.instantiable_spec (htt #[] _ wo_NoSuchElementException)
  obtain ⟨a203, -, p203, -⟩ := Cond.instantiable_spec (htt #[] _ wo_ArithmeticException)
  refine ⟨(fun k => match k with | 0 => c0 | 1 => c1 | 2 => c2 | 3 => c3 | 4 => c4 | 5 => c5 | _ => c6, fun k => match k with | 0 => i0 | 1 => i1 | 2 => i2 | 3 => i3 | 4 => i4 | 5 => i5 | _ => i6), fun t => match t with | 100 => a100 | 101 => a101 | 102 => a102 | 110 => a110 | 111 => a111 | 112 => a112 | 113 => a113 | 200 => a200 | 201 => a201 | 202 => a202 | _ => a203, ?_, ?_, ?_, htt, ?_, ?_, hX⟩
  · intro k q hq
    match k, hq with
    | 0, hq => cases hq; exact k0
    | 1, hq => cases hq; exact k1
    | 2, hq => cases hq; exact k2
    | 3, hq => cases hq; exact k3
    | 4, hq => cases hq; exact k4
    | 5, hq => cases hq; exact k5
    | 6, hq => cases hq; exact k6
    | n + 7, hq => simp [xcls] at hq
  · intro t ty ht
    unfold xat at ht
    split at ht
    · cases ht; exact p100
    · cases ht; exact p101
    · cases ht; exact p102
    · cases ht; exact p110
    · cases ht; exact p111
    · cases ht; exact p112
    · cases ht; exact p113
    · cases ht
  · intro k n hk
    match k, hk with
    | 0, hk => cases hk; exact p200
    | 1, hk => cases hk; exact p201
    | 2, hk => cases hk; exact p202
    | 3, hk => cases hk; exact p203
    | n + 4, hk => simp [xexn] at hk
  · intro q hq
    simp only [xSS, List.mem_cons, List.not_mem_nil, or_false] at hq
    rcases hq with rfl | rfl
    · exact xstat_of (hts _ (List.mem_append_right _ (List.mem_append_right _ (List.mem_append_left _ (List.mem_of_getElem? (l := tables_1_2) (i := 26) rfl))))) (hf (Cond.isRef (.static "java/lang/Throwable" "UNASSIGNED_STACK" "[Ljava/lang/StackTraceElement;")) (by decide +kernel))
    · exact xstat_of (hts _ (List.mem_append_right _ (List.mem_append_right _ (List.mem_append_left _ (List.mem_of_getElem? (l := tables_1_2) (i := 28) rfl))))) (hf (Cond.isRef (.static "java/lang/Throwable" "SUPPRESSED_SENTINEL" "Ljava/util/List;")) (by decide +kernel))
  · intro q hq
    simp only [xNC, List.mem_cons, List.not_mem_nil, or_false] at hq
    rcases hq with rfl | rfl | rfl | rfl | rfl | rfl | rfl | rfl | rfl | rfl | rfl | rfl
    · exact va_Nc.of (hf (Cond.not (.castable "java/lang/IllegalArgumentException" "java/lang/IllegalStateException")) (by decide +kernel))
    · exact va_Nc.of (hf (Cond.not (.castable "java/lang/IllegalArgumentException" "java/util/NoSuchElementException")) (by decide +kernel))
    · exact va_Nc.of (hf (Cond.not (.castable "java/lang/IllegalArgumentException" "java/lang/ArithmeticException")) (by decide +kernel))
    · exact va_Nc.of (hf (Cond.not (.castable "java/lang/IllegalStateException" "java/lang/IllegalArgumentException")) (by decide +kernel))
    · exact va_Nc.of (hf (Cond.not (.castable "java/lang/IllegalStateException" "java/util/NoSuchElementException")) (by decide +kernel))
    · exact va_Nc.of (hf (Cond.not (.castable "java/lang/IllegalStateException" "java/lang/ArithmeticException")) (by decide +kernel))
    · exact va_Nc.of (hf (Cond.not (.castable "java/util/NoSuchElementException" "java/lang/IllegalArgumentException")) (by decide +kernel))
    · exact va_Nc.of (hf (Cond.not (.castable "java/util/NoSuchElementException" "java/lang/IllegalStateException")) (by decide +kernel))
    · exact va_Nc.of (hf (Cond.not (.castable "java/util/NoSuchElementException" "java/lang/ArithmeticException")) (by decide +kernel))
    · exact va_Nc.of (hf (Cond.not (.castable "java/lang/ArithmeticException" "java/lang/IllegalArgumentException")) (by decide +kernel))
    · exact va_Nc.of (hf (Cond.not (.castable "java/lang/ArithmeticException" "java/lang/IllegalStateException")) (by decide +kernel))
    · exact va_Nc.of (hf (Cond.not (.castable "java/lang/ArithmeticException" "java/util/NoSuchElementException")) (by decide +kernel))
