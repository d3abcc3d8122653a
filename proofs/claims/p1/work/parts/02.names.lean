/-! NAMES, written by gen_names.py out of the claim -/
/-- a method: name, code, local variables, answer's type, handlers -/
abbrev xM : Type := MethodName × ByteArray × Nat × Option FieldType × List (Nat × Nat × Nat × Nat)
abbrev xMn (M : xM) : MethodName := M.1
abbrev xMc (M : xM) : ByteArray := M.2.1
abbrev xMl (M : xM) : Nat := M.2.2.1
abbrev xMr (M : xM) : Option FieldType := M.2.2.2.1
abbrev xMh (M : xM) : List (Nat × Nat × Nat × Nat) := M.2.2.2.2
def xgood : Cond → Bool
  | .arrayClass _ => true
  | .methodLinkNest .. => true
  | .fieldLinkNest .. => true
  | .arrayOver (.object _) => true
  | w => w.onTables && w.keepsFace
def xTT : List Cond := lw_tbl.filter xgood
theorem xTTgood : ∀ w ∈ xTT, xgood w = true := fun w hw => (List.mem_filter.mp hw).2
theorem xin {w : Cond} (h : w ∈ tables_1) (hg : xgood w = true) : w ∈ xTT := List.mem_filter.mpr ⟨List.mem_append_right _ h, hg⟩
theorem xin1 {w : Cond} (i : Nat) (h : tables_1_1[i]? = some w) (hg : xgood w = true) : w ∈ xTT := xin (List.mem_append_left _ (List.mem_of_getElem? h)) hg
theorem xin2 {w : Cond} (i : Nat) (h : tables_1_2[i]? = some w) (hg : xgood w = true) : w ∈ xTT := xin (List.mem_append_right _ (List.mem_append_left _ (List.mem_of_getElem? h))) hg
theorem xin3 {w : Cond} (i : Nat) (h : tables_1_3[i]? = some w) (hg : xgood w = true) : w ∈ xTT := xin (List.mem_append_right _ (List.mem_append_right _ (List.mem_append_left _ (List.mem_of_getElem? h)))) hg
theorem xin4 {w : Cond} (i : Nat) (h : tables_1_4[i]? = some w) (hg : xgood w = true) : w ∈ xTT := xin (List.mem_append_right _ (List.mem_append_right _ (List.mem_append_right _ (List.mem_of_getElem? h)))) hg
theorem xsel {w : Cond} (i : Nat) (h : (k2_sels lw_privs)[i]? = some w) (hg : xgood w = true) : w ∈ xTT := List.mem_filter.mpr ⟨List.mem_append_left _ (List.mem_of_getElem? h), hg⟩

def F_A : u_T := fun k => match k with
  | 0 => ("ReduceCluster", "workers", "[LReduceCluster$Worker;", true)
  | 1 => ("ReduceCluster", "chunks", "[LReduceCluster$Chunk;", true)
  | 2 => ("ReduceCluster", "mapTasks", "[LReduceCluster$Task;", true)
  | 3 => ("ReduceCluster", "reduceTasks", "[LReduceCluster$Task;", true)
  | 4 => ("ReduceCluster", "mapped", "LReduceCluster$Pairs;", true)
  | 5 => ("ReduceCluster", "job", "LReduceCluster$Job;", false)
  | 6 => ("ReduceCluster", "endedJob", "LReduceCluster$Job;", false)
  | 7 => ("ReduceCluster", "underWay", "Z", false)
  | 8 => ("ReduceCluster", "chunkCount", "I", false)
  | 9 => ("ReduceCluster", "latestMapper", "I", false)
  | 10 => ("ReduceCluster", "nextFilter", "I", false)
  | 11 => ("ReduceCluster", "ticks", "I", false)
  | 12 => ("ReduceCluster", "jobsEnded", "I", false)
  | 13 => ("ReduceCluster", "secondTimes", "I", false)
  | _ => ("ReduceCluster", "mapTasksLost", "I", false)
def ft_A : Nat → FieldType := fun k => match k with
  | 0 => .array (.object "ReduceCluster$Worker")
  | 1 => .array (.object "ReduceCluster$Chunk")
  | 2 => .array (.object "ReduceCluster$Task")
  | 3 => .array (.object "ReduceCluster$Task")
  | 4 => .object "ReduceCluster$Pairs"
  | 5 => .object "ReduceCluster$Job"
  | 6 => .object "ReduceCluster$Job"
  | 7 => .boolean
  | 8 => .int
  | 9 => .int
  | 10 => .int
  | 11 => .int
  | 12 => .int
  | 13 => .int
  | _ => .int
def F_C : u_T := fun k => match k with
  | 0 => ("ReduceCluster$Chunk", "numbers", "[I", true)
  | _ => ("ReduceCluster$Chunk", "size", "I", false)
def ft_C : Nat → FieldType := fun k => match k with
  | 0 => .array (.int)
  | _ => .int
def F_J : u_T := fun k => match k with
  | 0 => ("ReduceCluster$Job", "taken", "[LReduceCluster$Pairs;", true)
  | 1 => ("ReduceCluster$Job", "reduced", "[LReduceCluster$Pairs;", true)
  | 2 => ("ReduceCluster$Job", "reducer", "I", false)
  | 3 => ("ReduceCluster$Job", "partitions", "I", false)
  | _ => ("ReduceCluster$Job", "least", "I", false)
def ft_J : Nat → FieldType := fun k => match k with
  | 0 => .array (.object "ReduceCluster$Pairs")
  | 1 => .array (.object "ReduceCluster$Pairs")
  | 2 => .int
  | 3 => .int
  | _ => .int
def F_P : u_T := fun k => match k with
  | 0 => ("ReduceCluster$Pairs", "keys", "[I", true)
  | 1 => ("ReduceCluster$Pairs", "values", "[I", true)
  | _ => ("ReduceCluster$Pairs", "size", "I", false)
def ft_P : Nat → FieldType := fun k => match k with
  | 0 => .array (.int)
  | 1 => .array (.int)
  | _ => .int
def F_T : u_T := fun k => match k with
  | 0 => ("ReduceCluster$Task", "map", "Z", true)
  | 1 => ("ReduceCluster$Task", "number", "I", true)
  | 2 => ("ReduceCluster$Task", "units", "I", false)
  | 3 => ("ReduceCluster$Task", "runs", "I", false)
  | _ => ("ReduceCluster$Task", "doneBy", "I", false)
def ft_T : Nat → FieldType := fun k => match k with
  | 0 => .boolean
  | 1 => .int
  | 2 => .int
  | 3 => .int
  | _ => .int
def F_K : u_T := fun k => match k with
  | 0 => ("ReduceCluster$Worker", "up", "Z", false)
  | 1 => ("ReduceCluster$Worker", "unitsPerTick", "I", false)
  | 2 => ("ReduceCluster$Worker", "task", "LReduceCluster$Task;", false)
  | 3 => ("ReduceCluster$Worker", "unitsLeft", "I", false)
  | _ => ("ReduceCluster$Worker", "unitsDone", "I", false)
def ft_K : Nat → FieldType := fun k => match k with
  | 0 => .boolean
  | 1 => .int
  | 2 => .object "ReduceCluster$Task"
  | 3 => .int
  | _ => .int
def F_M : u_T := fun k => match k with
  | 0 => ("ReduceClusterModel", "size", "[I", true)
  | 1 => ("ReduceClusterModel", "numbers", "[I", true)
  | 2 => ("ReduceClusterModel", "speed", "[I", true)
  | 3 => ("ReduceClusterModel", "task", "[I", true)
  | 4 => ("ReduceClusterModel", "left", "[I", true)
  | 5 => ("ReduceClusterModel", "units", "[I", true)
  | 6 => ("ReduceClusterModel", "up", "[Z", true)
  | 7 => ("ReduceClusterModel", "done", "[Z", true)
  | 8 => ("ReduceClusterModel", "doneBy", "[I", true)
  | 9 => ("ReduceClusterModel", "key", "[I", true)
  | 10 => ("ReduceClusterModel", "value", "[I", true)
  | 11 => ("ReduceClusterModel", "perChunk", "[I", true)
  | 12 => ("ReduceClusterModel", "pairs", "I", false)
  | 13 => ("ReduceClusterModel", "chunks", "I", false)
  | 14 => ("ReduceClusterModel", "thrown", "I", false)
  | 15 => ("ReduceClusterModel", "least", "I", false)
  | 16 => ("ReduceClusterModel", "jobLeast", "I", false)
  | 17 => ("ReduceClusterModel", "mapper", "I", false)
  | 18 => ("ReduceClusterModel", "reducer", "I", false)
  | 19 => ("ReduceClusterModel", "partitions", "I", false)
  | 20 => ("ReduceClusterModel", "buffer", "I", false)
  | 21 => ("ReduceClusterModel", "ticks", "I", false)
  | 22 => ("ReduceClusterModel", "ended", "I", false)
  | 23 => ("ReduceClusterModel", "seconds", "I", false)
  | 24 => ("ReduceClusterModel", "undone", "I", false)
  | 25 => ("ReduceClusterModel", "outPartitions", "I", false)
  | 26 => ("ReduceClusterModel", "job", "Z", false)
  | 27 => ("ReduceClusterModel", "any", "Z", false)
  | 28 => ("ReduceClusterModel", "outKey", "[I", true)
  | 29 => ("ReduceClusterModel", "outValue", "[I", true)
  | _ => ("ReduceClusterModel", "outCount", "[I", true)
def ft_M : Nat → FieldType := fun k => match k with
  | 0 => .array (.int)
  | 1 => .array (.int)
  | 2 => .array (.int)
  | 3 => .array (.int)
  | 4 => .array (.int)
  | 5 => .array (.int)
  | 6 => .array (.boolean)
  | 7 => .array (.boolean)
  | 8 => .array (.int)
  | 9 => .array (.int)
  | 10 => .array (.int)
  | 11 => .array (.int)
  | 12 => .int
  | 13 => .int
  | 14 => .int
  | 15 => .int
  | 16 => .int
  | 17 => .int
  | 18 => .int
  | 19 => .int
  | 20 => .int
  | 21 => .int
  | 22 => .int
  | 23 => .int
  | 24 => .int
  | 25 => .int
  | 26 => .boolean
  | 27 => .boolean
  | 28 => .array (.int)
  | 29 => .array (.int)
  | _ => .array (.int)
abbrev xcls : List vw_C := [("ReduceCluster", F_A, 15), ("ReduceCluster$Chunk", F_C, 2), ("ReduceCluster$Job", F_J, 5), ("ReduceCluster$Pairs", F_P, 3), ("ReduceCluster$Task", F_T, 5), ("ReduceCluster$Worker", F_K, 5), ("ReduceClusterModel", F_M, 31)]
def xft (k : Nat) : Nat → FieldType := match k with
  | 0 => ft_A
  | 1 => ft_C
  | 2 => ft_J
  | 3 => ft_P
  | 4 => ft_T
  | 5 => ft_K
  | _ => ft_M
def xat : Nat → Option FieldType := fun t => match t with
  | 100 => some .int
  | 101 => some .boolean
  | 102 => some .long
  | 110 => some (.object "ReduceCluster$Worker")
  | 111 => some (.object "ReduceCluster$Chunk")
  | 112 => some (.object "ReduceCluster$Task")
  | 113 => some (.object "ReduceCluster$Pairs")
  | _ => none
def xexn : List String := ["java/lang/IllegalArgumentException", "java/lang/IllegalStateException", "java/util/NoSuchElementException", "java/lang/ArithmeticException"]
def xNC : List (String × String) := [("java/lang/IllegalArgumentException", "java/lang/IllegalStateException"), ("java/lang/IllegalArgumentException", "java/util/NoSuchElementException"), ("java/lang/IllegalArgumentException", "java/lang/ArithmeticException"), ("java/lang/IllegalStateException", "java/lang/IllegalArgumentException"), ("java/lang/IllegalStateException", "java/util/NoSuchElementException"), ("java/lang/IllegalStateException", "java/lang/ArithmeticException"), ("java/util/NoSuchElementException", "java/lang/IllegalArgumentException"), ("java/util/NoSuchElementException", "java/lang/IllegalStateException"), ("java/util/NoSuchElementException", "java/lang/ArithmeticException"), ("java/lang/ArithmeticException", "java/lang/IllegalArgumentException"), ("java/lang/ArithmeticException", "java/lang/IllegalStateException"), ("java/lang/ArithmeticException", "java/util/NoSuchElementException")]
def xSS : List (String × String × String) := [("java/lang/Throwable", "UNASSIGNED_STACK", "[Ljava/lang/StackTraceElement;"), ("java/lang/Throwable", "SUPPRESSED_SENTINEL", "Ljava/util/List;")]
def xSWW : List Cond := [.laysStatic Bundle.tN "UNASSIGNED_STACK" Bundle.steD, .laysStatic Bundle.tN "SUPPRESSED_SENTINEL" Bundle.listD, .isRef (.static Bundle.tN "UNASSIGNED_STACK" Bundle.steD), .isRef (.static Bundle.tN "SUPPRESSED_SENTINEL" Bundle.listD)]
theorem i_A : ∀ w ∈ u_ws "ReduceCluster" F_A 15, w ∈ xTT := by
  intro w hw
  simp only [u_ws, List.mem_map, List.mem_range] at hw
  obtain ⟨k, hk, rfl⟩ := hw
  match k, hk with
  | 0, _ => exact xin1 167 rfl rfl
  | 1, _ => exact xin1 169 rfl rfl
  | 2, _ => exact xin1 171 rfl rfl
  | 3, _ => exact xin1 173 rfl rfl
  | 4, _ => exact xin1 175 rfl rfl
  | 5, _ => exact xin1 177 rfl rfl
  | 6, _ => exact xin1 179 rfl rfl
  | 7, _ => exact xin1 181 rfl rfl
  | 8, _ => exact xin1 183 rfl rfl
  | 9, _ => exact xin1 185 rfl rfl
  | 10, _ => exact xin1 187 rfl rfl
  | 11, _ => exact xin1 189 rfl rfl
  | 12, _ => exact xin1 191 rfl rfl
  | 13, _ => exact xin1 193 rfl rfl
  | 14, _ => exact xin1 195 rfl rfl
  | n + 15, h => omega
theorem t_A_ok : ∀ k, k < 15 → parseFieldDescriptor (F_A k).2.2.1 = some (ft_A k) := by decide +kernel
theorem n_A : ∀ a, a < 15 → ∀ b, b < 15 → a ≠ b → (F_A a).2.1 ≠ (F_A b).2.1 := by decide +kernel
theorem i_C : ∀ w ∈ u_ws "ReduceCluster$Chunk" F_C 2, w ∈ xTT := by
  intro w hw
  simp only [u_ws, List.mem_map, List.mem_range] at hw
  obtain ⟨k, hk, rfl⟩ := hw
  match k, hk with
  | 0, _ => exact xin1 118 rfl rfl
  | 1, _ => exact xin1 120 rfl rfl
  | n + 2, h => omega
theorem t_C_ok : ∀ k, k < 2 → parseFieldDescriptor (F_C k).2.2.1 = some (ft_C k) := by decide +kernel
theorem n_C : ∀ a, a < 2 → ∀ b, b < 2 → a ≠ b → (F_C a).2.1 ≠ (F_C b).2.1 := by decide +kernel
theorem i_J : ∀ w ∈ u_ws "ReduceCluster$Job" F_J 5, w ∈ xTT := by
  intro w hw
  simp only [u_ws, List.mem_map, List.mem_range] at hw
  obtain ⟨k, hk, rfl⟩ := hw
  match k, hk with
  | 0, _ => exact xin1 71 rfl rfl
  | 1, _ => exact xin1 73 rfl rfl
  | 2, _ => exact xin1 75 rfl rfl
  | 3, _ => exact xin1 77 rfl rfl
  | 4, _ => exact xin1 79 rfl rfl
  | n + 5, h => omega
theorem t_J_ok : ∀ k, k < 5 → parseFieldDescriptor (F_J k).2.2.1 = some (ft_J k) := by decide +kernel
theorem n_J : ∀ a, a < 5 → ∀ b, b < 5 → a ≠ b → (F_J a).2.1 ≠ (F_J b).2.1 := by decide +kernel
theorem i_P : ∀ w ∈ u_ws "ReduceCluster$Pairs" F_P 3, w ∈ xTT := by
  intro w hw
  simp only [u_ws, List.mem_map, List.mem_range] at hw
  obtain ⟨k, hk, rfl⟩ := hw
  match k, hk with
  | 0, _ => exact xin1 45 rfl rfl
  | 1, _ => exact xin1 47 rfl rfl
  | 2, _ => exact xin1 49 rfl rfl
  | n + 3, h => omega
theorem t_P_ok : ∀ k, k < 3 → parseFieldDescriptor (F_P k).2.2.1 = some (ft_P k) := by decide +kernel
theorem n_P : ∀ a, a < 3 → ∀ b, b < 3 → a ≠ b → (F_P a).2.1 ≠ (F_P b).2.1 := by decide +kernel
theorem i_T : ∀ w ∈ u_ws "ReduceCluster$Task" F_T 5, w ∈ xTT := by
  intro w hw
  simp only [u_ws, List.mem_map, List.mem_range] at hw
  obtain ⟨k, hk, rfl⟩ := hw
  match k, hk with
  | 0, _ => exact xin1 141 rfl rfl
  | 1, _ => exact xin1 143 rfl rfl
  | 2, _ => exact xin1 145 rfl rfl
  | 3, _ => exact xin1 147 rfl rfl
  | 4, _ => exact xin1 149 rfl rfl
  | n + 5, h => omega
theorem t_T_ok : ∀ k, k < 5 → parseFieldDescriptor (F_T k).2.2.1 = some (ft_T k) := by decide +kernel
theorem n_T : ∀ a, a < 5 → ∀ b, b < 5 → a ≠ b → (F_T a).2.1 ≠ (F_T b).2.1 := by decide +kernel
theorem i_K : ∀ w ∈ u_ws "ReduceCluster$Worker" F_K 5, w ∈ xTT := by
  intro w hw
  simp only [u_ws, List.mem_map, List.mem_range] at hw
  obtain ⟨k, hk, rfl⟩ := hw
  match k, hk with
  | 0, _ => exact xin1 98 rfl rfl
  | 1, _ => exact xin1 100 rfl rfl
  | 2, _ => exact xin1 102 rfl rfl
  | 3, _ => exact xin1 104 rfl rfl
  | 4, _ => exact xin1 106 rfl rfl
  | n + 5, h => omega
theorem t_K_ok : ∀ k, k < 5 → parseFieldDescriptor (F_K k).2.2.1 = some (ft_K k) := by decide +kernel
theorem n_K : ∀ a, a < 5 → ∀ b, b < 5 → a ≠ b → (F_K a).2.1 ≠ (F_K b).2.1 := by decide +kernel
theorem i_M : ∀ w ∈ u_ws "ReduceClusterModel" F_M 31, w ∈ xTT := by
  intro w hw
  simp only [u_ws, List.mem_map, List.mem_range] at hw
  obtain ⟨k, hk, rfl⟩ := hw
  match k, hk with
  | 0, _ => exact xin3 115 rfl rfl
  | 1, _ => exact xin3 117 rfl rfl
  | 2, _ => exact xin3 119 rfl rfl
  | 3, _ => exact xin3 121 rfl rfl
  | 4, _ => exact xin3 123 rfl rfl
  | 5, _ => exact xin3 125 rfl rfl
  | 6, _ => exact xin3 127 rfl rfl
  | 7, _ => exact xin3 129 rfl rfl
  | 8, _ => exact xin3 131 rfl rfl
  | 9, _ => exact xin3 133 rfl rfl
  | 10, _ => exact xin3 135 rfl rfl
  | 11, _ => exact xin3 137 rfl rfl
  | 12, _ => exact xin3 139 rfl rfl
  | 13, _ => exact xin3 141 rfl rfl
  | 14, _ => exact xin3 143 rfl rfl
  | 15, _ => exact xin3 145 rfl rfl
  | 16, _ => exact xin3 147 rfl rfl
  | 17, _ => exact xin3 149 rfl rfl
  | 18, _ => exact xin3 151 rfl rfl
  | 19, _ => exact xin3 153 rfl rfl
  | 20, _ => exact xin3 155 rfl rfl
  | 21, _ => exact xin3 157 rfl rfl
  | 22, _ => exact xin3 159 rfl rfl
  | 23, _ => exact xin3 161 rfl rfl
  | 24, _ => exact xin3 163 rfl rfl
  | 25, _ => exact xin3 165 rfl rfl
  | 26, _ => exact xin3 167 rfl rfl
  | 27, _ => exact xin3 169 rfl rfl
  | 28, _ => exact xin3 171 rfl rfl
  | 29, _ => exact xin3 173 rfl rfl
  | 30, _ => exact xin3 175 rfl rfl
  | n + 31, h => omega
theorem t_M_ok : ∀ k, k < 31 → parseFieldDescriptor (F_M k).2.2.1 = some (ft_M k) := by decide +kernel
theorem n_M : ∀ a, a < 31 → ∀ b, b < 31 → a ≠ b → (F_M a).2.1 ≠ (F_M b).2.1 := by decide +kernel
theorem xclsok : ∀ (k : Nat) (C : vw_C), xcls[k]? = some C → k < 99 ∧ (∀ w ∈ u_ws C.1 C.2.1 C.2.2, w ∈ xTT) ∧ (∀ j, j < C.2.2 → parseFieldDescriptor (C.2.1 j).2.2.1 = some (xft k j)) ∧ (∀ a, a < C.2.2 → ∀ b, b < C.2.2 → a ≠ b → (C.2.1 a).2.1 ≠ (C.2.1 b).2.1) := by
  intro k C h
  match k, h with
  | 0, h => cases h; exact ⟨by decide, i_A, t_A_ok, n_A⟩
  | 1, h => cases h; exact ⟨by decide, i_C, t_C_ok, n_C⟩
  | 2, h => cases h; exact ⟨by decide, i_J, t_J_ok, n_J⟩
  | 3, h => cases h; exact ⟨by decide, i_P, t_P_ok, n_P⟩
  | 4, h => cases h; exact ⟨by decide, i_T, t_T_ok, n_T⟩
  | 5, h => cases h; exact ⟨by decide, i_K, t_K_ok, n_K⟩
  | 6, h => cases h; exact ⟨by decide, i_M, t_M_ok, n_M⟩
  | n + 7, h => simp [xcls] at h
def m_A_init : xM := (⟨"ReduceCluster", "<init>", "()V"⟩, prog_1_method_1_code, 2, (Option.none : Option FieldType), [])
theorem wc_A_init : Cond.code (xMn m_A_init) (xMc m_A_init) (xMl m_A_init) (xMr m_A_init) ∈ xTT := xin1 20 rfl rfl
def m_O_init : xM := (⟨"java/lang/Object", "<init>", "()V"⟩, object_method_1_code, 1, (Option.none : Option FieldType), [])
theorem wc_O_init : Cond.code (xMn m_O_init) (xMc m_O_init) (xMl m_O_init) (xMr m_O_init) ∈ xTT := xin1 23 rfl rfl
def m_P_init : xM := (⟨"ReduceCluster$Pairs", "<init>", "(I)V"⟩, prog_4_method_1_code, 2, (Option.none : Option FieldType), [])
theorem wc_P_init : Cond.code (xMn m_P_init) (xMc m_P_init) (xMl m_P_init) (xMr m_P_init) ∈ xTT := xin1 34 rfl rfl
def m_J_init : xM := (⟨"ReduceCluster$Job", "<init>", "()V"⟩, prog_3_method_1_code, 2, (Option.none : Option FieldType), [])
theorem wc_J_init : Cond.code (xMn m_J_init) (xMc m_J_init) (xMl m_J_init) (xMr m_J_init) ∈ xTT := xin1 57 rfl rfl
def m_K_init : xM := (⟨"ReduceCluster$Worker", "<init>", "()V"⟩, prog_6_method_1_code, 1, (Option.none : Option FieldType), [])
theorem wc_K_init : Cond.code (xMn m_K_init) (xMc m_K_init) (xMl m_K_init) (xMr m_K_init) ∈ xTT := xin1 86 rfl rfl
def m_C_init : xM := (⟨"ReduceCluster$Chunk", "<init>", "()V"⟩, prog_2_method_1_code, 1, (Option.none : Option FieldType), [])
theorem wc_C_init : Cond.code (xMn m_C_init) (xMc m_C_init) (xMl m_C_init) (xMr m_C_init) ∈ xTT := xin1 112 rfl rfl
def m_T_init : xM := (⟨"ReduceCluster$Task", "<init>", "(ZI)V"⟩, prog_5_method_1_code, 3, (Option.none : Option FieldType), [])
theorem wc_T_init : Cond.code (xMn m_T_init) (xMc m_T_init) (xMl m_T_init) (xMr m_T_init) ∈ xTT := xin1 126 rfl rfl
def m_A_filter : xM := (⟨"ReduceCluster", "filter", "(I)V"⟩, prog_1_method_5_code, 2, (Option.none : Option FieldType), [])
theorem wc_A_filter : Cond.code (xMn m_A_filter) (xMc m_A_filter) (xMl m_A_filter) (xMr m_A_filter) ∈ xTT := xin1 201 rfl rfl
def m_A_count : xM := (⟨"ReduceCluster", "count", "(I)I"⟩, prog_1_method_13_code, 2, (Option.some FieldType.int), [])
theorem wc_A_count : Cond.code (xMn m_A_count) (xMc m_A_count) (xMl m_A_count) (xMr m_A_count) ∈ xTT := xin1 205 rfl rfl
def m_A_pairsOfChunks : xM := (⟨"ReduceCluster", "pairsOfChunks", "()I"⟩, prog_1_method_18_code, 4, (Option.some FieldType.int), [])
theorem wc_A_pairsOfChunks : Cond.code (xMn m_A_pairsOfChunks) (xMc m_A_pairsOfChunks) (xMl m_A_pairsOfChunks) (xMr m_A_pairsOfChunks) ∈ xTT := xin1 209 rfl rfl
def m_A_mapNumber : xM := (⟨"ReduceCluster", "mapNumber", "(IILReduceCluster$Pairs;)V"⟩, prog_1_method_19_code, 3, (Option.none : Option FieldType), [])
theorem wc_A_mapNumber : Cond.code (xMn m_A_mapNumber) (xMc m_A_mapNumber) (xMl m_A_mapNumber) (xMr m_A_mapNumber) ∈ xTT := xin1 212 rfl rfl
def m_Z_floorMod : xM := (⟨"java/lang/Math", "floorMod", "(II)I"⟩, prog_13_method_50_code, 3, (Option.some FieldType.int), [])
theorem wc_Z_floorMod : Cond.code (xMn m_Z_floorMod) (xMc m_Z_floorMod) (xMl m_Z_floorMod) (xMr m_Z_floorMod) ∈ xTT := xin1 215 rfl rfl
def m_P_append : xM := (⟨"ReduceCluster$Pairs", "append", "(II)V"⟩, prog_4_method_2_code, 3, (Option.none : Option FieldType), [])
theorem wc_P_append : Cond.code (xMn m_P_append) (xMc m_P_append) (xMl m_P_append) (xMr m_P_append) ∈ xTT := xin1 219 rfl rfl
def m_A_mapDigits : xM := (⟨"ReduceCluster", "mapDigits", "(ILReduceCluster$Pairs;)V"⟩, prog_1_method_20_code, 5, (Option.none : Option FieldType), [])
theorem wc_A_mapDigits : Cond.code (xMn m_A_mapDigits) (xMc m_A_mapDigits) (xMl m_A_mapDigits) (xMr m_A_mapDigits) ∈ xTT := xin1 222 rfl rfl
def m_Z_abs : xM := (⟨"java/lang/Math", "abs", "(J)J"⟩, prog_13_method_61_code, 2, (Option.some FieldType.long), [])
theorem wc_Z_abs : Cond.code (xMn m_Z_abs) (xMc m_Z_abs) (xMl m_Z_abs) (xMr m_Z_abs) ∈ xTT := xin1 225 rfl rfl
def m_L_chunk : xM := (⟨"ReduceClusterLaw", "chunk", "(LReduceCluster;JII[J)I"⟩, method_3_code, 7, (Option.some FieldType.int), [((0 : Nat), (13 : Nat), (16 : Nat), (13 : Nat)), ((0 : Nat), (13 : Nat), (20 : Nat), (15 : Nat))])
theorem wc_L_chunk : Cond.codeWith (xMn m_L_chunk) (xMc m_L_chunk) (xMl m_L_chunk) (xMr m_L_chunk) (xMh m_L_chunk) ∈ xTT := xin1 229 rfl rfl
def m_A_chunk : xM := (⟨"ReduceCluster", "chunk", "(JII)I"⟩, prog_1_method_2_code, 5, (Option.some FieldType.int), [])
theorem wc_A_chunk : Cond.code (xMn m_A_chunk) (xMc m_A_chunk) (xMl m_A_chunk) (xMr m_A_chunk) ∈ xTT := xin1 235 rfl rfl
def m_A_demandRange : xM := (⟨"ReduceCluster", "demandRange", "(III)V"⟩, prog_1_method_14_code, 3, (Option.none : Option FieldType), [])
theorem wc_A_demandRange : Cond.code (xMn m_A_demandRange) (xMc m_A_demandRange) (xMl m_A_demandRange) (xMr m_A_demandRange) ∈ xTT := xin1 238 rfl rfl
def m_C_fill : xM := (⟨"ReduceCluster$Chunk", "fill", "(JII)V"⟩, prog_2_method_2_code, 6, (Option.none : Option FieldType), [])
theorem wc_C_fill : Cond.code (xMn m_C_fill) (xMc m_C_fill) (xMl m_C_fill) (xMr m_C_fill) ∈ xTT := xin2 81 rfl rfl
def m_Z_min : xM := (⟨"java/lang/Math", "min", "(II)I"⟩, prog_13_method_69_code, 2, (Option.some FieldType.int), [])
theorem wc_Z_min : Cond.code (xMn m_Z_min) (xMc m_Z_min) (xMl m_Z_min) (xMr m_Z_min) ∈ xTT := xin2 84 rfl rfl
def m_L_worker : xM := (⟨"ReduceClusterLaw", "worker", "(LReduceCluster;IZ)I"⟩, method_4_code, 4, (Option.some FieldType.int), [((0 : Nat), (6 : Nat), (9 : Nat), (13 : Nat))])
theorem wc_L_worker : Cond.codeWith (xMn m_L_worker) (xMc m_L_worker) (xMl m_L_worker) (xMr m_L_worker) (xMh m_L_worker) ∈ xTT := xin2 87 rfl rfl
def m_A_worker : xM := (⟨"ReduceCluster", "worker", "(IZ)V"⟩, prog_1_method_3_code, 3, (Option.none : Option FieldType), [])
theorem wc_A_worker : Cond.code (xMn m_A_worker) (xMc m_A_worker) (xMl m_A_worker) (xMr m_A_worker) ∈ xTT := xin2 91 rfl rfl
def m_K_drop : xM := (⟨"ReduceCluster$Worker", "drop", "()V"⟩, prog_6_method_3_code, 1, (Option.none : Option FieldType), [])
theorem wc_K_drop : Cond.code (xMn m_K_drop) (xMc m_K_drop) (xMl m_K_drop) (xMr m_K_drop) ∈ xTT := xin2 95 rfl rfl
def m_A_loseDisk : xM := (⟨"ReduceCluster", "loseDisk", "(I)V"⟩, prog_1_method_34_code, 4, (Option.none : Option FieldType), [])
theorem wc_A_loseDisk : Cond.code (xMn m_A_loseDisk) (xMc m_A_loseDisk) (xMl m_A_loseDisk) (xMr m_A_loseDisk) ∈ xTT := xin2 99 rfl rfl
def m_A_giveUpReduceTasks : xM := (⟨"ReduceCluster", "giveUpReduceTasks", "()V"⟩, prog_1_method_35_code, 3, (Option.none : Option FieldType), [])
theorem wc_A_giveUpReduceTasks : Cond.code (xMn m_A_giveUpReduceTasks) (xMc m_A_giveUpReduceTasks) (xMl m_A_giveUpReduceTasks) (xMr m_A_giveUpReduceTasks) ∈ xTT := xin2 103 rfl rfl
def m_L_speed : xM := (⟨"ReduceClusterLaw", "speed", "(LReduceCluster;II)I"⟩, method_5_code, 4, (Option.some FieldType.int), [((0 : Nat), (6 : Nat), (9 : Nat), (13 : Nat))])
theorem wc_L_speed : Cond.codeWith (xMn m_L_speed) (xMc m_L_speed) (xMl m_L_speed) (xMr m_L_speed) (xMh m_L_speed) ∈ xTT := xin2 106 rfl rfl
def m_A_speed : xM := (⟨"ReduceCluster", "speed", "(II)V"⟩, prog_1_method_4_code, 3, (Option.none : Option FieldType), [])
theorem wc_A_speed : Cond.code (xMn m_A_speed) (xMc m_A_speed) (xMl m_A_speed) (xMr m_A_speed) ∈ xTT := xin2 110 rfl rfl
def m_L_begin : xM := (⟨"ReduceClusterLaw", "begin", "(LReduceCluster;IIII[J)I"⟩, method_6_code, 7, (Option.some FieldType.int), [((0 : Nat), (14 : Nat), (17 : Nat), (13 : Nat)), ((0 : Nat), (14 : Nat), (21 : Nat), (15 : Nat))])
theorem wc_L_begin : Cond.codeWith (xMn m_L_begin) (xMc m_L_begin) (xMl m_L_begin) (xMr m_L_begin) (xMh m_L_begin) ∈ xTT := xin2 113 rfl rfl
def m_A_begin : xM := (⟨"ReduceCluster", "begin", "(IIII)I"⟩, prog_1_method_6_code, 6, (Option.some FieldType.int), [])
theorem wc_A_begin : Cond.code (xMn m_A_begin) (xMc m_A_begin) (xMl m_A_begin) (xMr m_A_begin) ∈ xTT := xin2 117 rfl rfl
def m_J_prepare : xM := (⟨"ReduceCluster$Job", "prepare", "(III)V"⟩, prog_3_method_2_code, 5, (Option.none : Option FieldType), [])
theorem wc_J_prepare : Cond.code (xMn m_J_prepare) (xMc m_J_prepare) (xMl m_J_prepare) (xMr m_J_prepare) ∈ xTT := xin2 121 rfl rfl
def m_A_mapChunk : xM := (⟨"ReduceCluster", "mapChunk", "(I)I"⟩, prog_1_method_17_code, 4, (Option.some FieldType.int), [])
theorem wc_A_mapChunk : Cond.code (xMn m_A_mapChunk) (xMc m_A_mapChunk) (xMl m_A_mapChunk) (xMr m_A_mapChunk) ∈ xTT := xin2 125 rfl rfl
def m_J_take : xM := (⟨"ReduceCluster$Job", "take", "(LReduceCluster$Pairs;)V"⟩, prog_3_method_4_code, 3, (Option.none : Option FieldType), [])
theorem wc_J_take : Cond.code (xMn m_J_take) (xMc m_J_take) (xMl m_J_take) (xMr m_J_take) ∈ xTT := xin2 129 rfl rfl
def m_J_partitionOf : xM := (⟨"ReduceCluster$Job", "partitionOf", "(I)I"⟩, prog_3_method_3_code, 2, (Option.some FieldType.int), [])
theorem wc_J_partitionOf : Cond.code (xMn m_J_partitionOf) (xMc m_J_partitionOf) (xMl m_J_partitionOf) (xMr m_J_partitionOf) ∈ xTT := xin2 133 rfl rfl
def m_Z_max : xM := (⟨"java/lang/Math", "max", "(II)I"⟩, prog_13_method_65_code, 2, (Option.some FieldType.int), [])
theorem wc_Z_max : Cond.code (xMn m_Z_max) (xMc m_Z_max) (xMl m_Z_max) (xMr m_Z_max) ∈ xTT := xin2 136 rfl rfl
def m_P_insertByKey : xM := (⟨"ReduceCluster$Pairs", "insertByKey", "(II)V"⟩, prog_4_method_3_code, 4, (Option.none : Option FieldType), [])
theorem wc_P_insertByKey : Cond.code (xMn m_P_insertByKey) (xMc m_P_insertByKey) (xMl m_P_insertByKey) (xMr m_P_insertByKey) ∈ xTT := xin2 141 rfl rfl
def m_A_runsOf : xM := (⟨"ReduceCluster", "runsOf", "(II)I"⟩, prog_1_method_16_code, 2, (Option.some FieldType.int), [])
theorem wc_A_runsOf : Cond.code (xMn m_A_runsOf) (xMc m_A_runsOf) (xMl m_A_runsOf) (xMr m_A_runsOf) ∈ xTT := xin2 144 rfl rfl
def m_T_renew : xM := (⟨"ReduceCluster$Task", "renew", "(II)V"⟩, prog_5_method_2_code, 3, (Option.none : Option FieldType), [])
theorem wc_T_renew : Cond.code (xMn m_T_renew) (xMc m_T_renew) (xMl m_T_renew) (xMr m_T_renew) ∈ xTT := xin2 149 rfl rfl
def m_L_run : xM := (⟨"ReduceClusterLaw", "run", "(LReduceCluster;I[J)I"⟩, method_7_code, 4, (Option.some FieldType.int), [((0 : Nat), (9 : Nat), (12 : Nat), (13 : Nat)), ((0 : Nat), (9 : Nat), (15 : Nat), (15 : Nat)), ((0 : Nat), (9 : Nat), (18 : Nat), (33 : Nat))])
theorem wc_L_run : Cond.codeWith (xMn m_L_run) (xMc m_L_run) (xMl m_L_run) (xMr m_L_run) (xMh m_L_run) ∈ xTT := xin2 152 rfl rfl
def m_A_run : xM := (⟨"ReduceCluster", "run", "(I)I"⟩, prog_1_method_7_code, 4, (Option.some FieldType.int), [])
theorem wc_A_run : Cond.code (xMn m_A_run) (xMc m_A_run) (xMl m_A_run) (xMr m_A_run) ∈ xTT := xin2 157 rfl rfl
def m_A_demandJob : xM := (⟨"ReduceCluster", "demandJob", "()V"⟩, prog_1_method_15_code, 1, (Option.none : Option FieldType), [])
theorem wc_A_demandJob : Cond.code (xMn m_A_demandJob) (xMc m_A_demandJob) (xMl m_A_demandJob) (xMr m_A_demandJob) ∈ xTT := xin2 161 rfl rfl
def m_A_passTick : xM := (⟨"ReduceCluster", "passTick", "()I"⟩, prog_1_method_21_code, 3, (Option.some FieldType.int), [])
theorem wc_A_passTick : Cond.code (xMn m_A_passTick) (xMc m_A_passTick) (xMl m_A_passTick) (xMr m_A_passTick) ∈ xTT := xin2 165 rfl rfl
def m_A_giveTask : xM := (⟨"ReduceCluster", "giveTask", "(I)V"⟩, prog_1_method_23_code, 4, (Option.none : Option FieldType), [])
theorem wc_A_giveTask : Cond.code (xMn m_A_giveTask) (xMc m_A_giveTask) (xMl m_A_giveTask) (xMr m_A_giveTask) ∈ xTT := xin2 169 rfl rfl
def m_A_allDone : xM := (⟨"ReduceCluster", "allDone", "(Z)Z"⟩, prog_1_method_33_code, 4, (Option.some FieldType.boolean), [])
theorem wc_A_allDone : Cond.code (xMn m_A_allDone) (xMc m_A_allDone) (xMl m_A_allDone) (xMr m_A_allDone) ∈ xTT := xin2 173 rfl rfl
def m_A_taskCount : xM := (⟨"ReduceCluster", "taskCount", "(Z)I"⟩, prog_1_method_32_code, 2, (Option.some FieldType.int), [])
theorem wc_A_taskCount : Cond.code (xMn m_A_taskCount) (xMc m_A_taskCount) (xMl m_A_taskCount) (xMr m_A_taskCount) ∈ xTT := xin2 177 rfl rfl
def m_T_isDone : xM := (⟨"ReduceCluster$Task", "isDone", "()Z"⟩, prog_5_method_3_code, 1, (Option.some FieldType.boolean), [])
theorem wc_T_isDone : Cond.code (xMn m_T_isDone) (xMc m_T_isDone) (xMl m_T_isDone) (xMr m_T_isDone) ∈ xTT := xin2 181 rfl rfl
def m_A_freshTask : xM := (⟨"ReduceCluster", "freshTask", "(ZI)LReduceCluster$Task;"⟩, prog_1_method_24_code, 7, (Option.some (FieldType.object "ReduceCluster$Task")), [])
theorem wc_A_freshTask : Cond.code (xMn m_A_freshTask) (xMc m_A_freshTask) (xMl m_A_freshTask) (xMr m_A_freshTask) ∈ xTT := xin2 185 rfl rfl
def m_A_doers : xM := (⟨"ReduceCluster", "doers", "(LReduceCluster$Task;)I"⟩, prog_1_method_28_code, 4, (Option.some FieldType.int), [])
theorem wc_A_doers : Cond.code (xMn m_A_doers) (xMc m_A_doers) (xMl m_A_doers) (xMr m_A_doers) ∈ xTT := xin2 189 rfl rfl
def m_A_canBeDone : xM := (⟨"ReduceCluster", "canBeDone", "(LReduceCluster$Task;)Z"⟩, prog_1_method_27_code, 3, (Option.some FieldType.boolean), [])
theorem wc_A_canBeDone : Cond.code (xMn m_A_canBeDone) (xMc m_A_canBeDone) (xMl m_A_canBeDone) (xMr m_A_canBeDone) ∈ xTT := xin2 193 rfl rfl
def m_A_isHome : xM := (⟨"ReduceCluster", "isHome", "(II)Z"⟩, prog_1_method_26_code, 2, (Option.some FieldType.boolean), [])
theorem wc_A_isHome : Cond.code (xMn m_A_isHome) (xMc m_A_isHome) (xMl m_A_isHome) (xMr m_A_isHome) ∈ xTT := xin2 196 rfl rfl
def m_A_taskForSecondTime : xM := (⟨"ReduceCluster", "taskForSecondTime", "(Z)LReduceCluster$Task;"⟩, prog_1_method_25_code, 8, (Option.some (FieldType.object "ReduceCluster$Task")), [])
theorem wc_A_taskForSecondTime : Cond.code (xMn m_A_taskForSecondTime) (xMc m_A_taskForSecondTime) (xMl m_A_taskForSecondTime) (xMr m_A_taskForSecondTime) ∈ xTT := xin2 200 rfl rfl
def m_A_leastDoer : xM := (⟨"ReduceCluster", "leastDoer", "(LReduceCluster$Task;)I"⟩, prog_1_method_29_code, 3, (Option.some FieldType.int), [])
theorem wc_A_leastDoer : Cond.code (xMn m_A_leastDoer) (xMc m_A_leastDoer) (xMl m_A_leastDoer) (xMr m_A_leastDoer) ∈ xTT := xin2 204 rfl rfl
def m_K_take : xM := (⟨"ReduceCluster$Worker", "take", "(LReduceCluster$Task;)V"⟩, prog_6_method_2_code, 2, (Option.none : Option FieldType), [])
theorem wc_K_take : Cond.code (xMn m_K_take) (xMc m_K_take) (xMl m_K_take) (xMr m_K_take) ∈ xTT := xin2 208 rfl rfl
def m_K_doUnits : xM := (⟨"ReduceCluster$Worker", "doUnits", "()Z"⟩, prog_6_method_4_code, 2, (Option.some FieldType.boolean), [])
theorem wc_K_doUnits : Cond.code (xMn m_K_doUnits) (xMc m_K_doUnits) (xMl m_K_doUnits) (xMr m_K_doUnits) ∈ xTT := xin2 212 rfl rfl
def m_A_completeTask : xM := (⟨"ReduceCluster", "completeTask", "(I)Z"⟩, prog_1_method_22_code, 4, (Option.some FieldType.boolean), [])
theorem wc_A_completeTask : Cond.code (xMn m_A_completeTask) (xMc m_A_completeTask) (xMl m_A_completeTask) (xMr m_A_completeTask) ∈ xTT := xin2 217 rfl rfl
def m_J_reduce : xM := (⟨"ReduceCluster$Job", "reduce", "(I)Z"⟩, prog_3_method_5_code, 7, (Option.some FieldType.boolean), [])
theorem wc_J_reduce : Cond.code (xMn m_J_reduce) (xMc m_J_reduce) (xMl m_J_reduce) (xMr m_J_reduce) ∈ xTT := xin2 221 rfl rfl
def m_J_combine : xM := (⟨"ReduceCluster$Job", "combine", "(III)I"⟩, prog_3_method_6_code, 3, (Option.some FieldType.int), [])
theorem wc_J_combine : Cond.code (xMn m_J_combine) (xMc m_J_combine) (xMl m_J_combine) (xMr m_J_combine) ∈ xTT := xin2 225 rfl rfl
def m_A_giveUpJob : xM := (⟨"ReduceCluster", "giveUpJob", "()V"⟩, prog_1_method_37_code, 2, (Option.none : Option FieldType), [])
theorem wc_A_giveUpJob : Cond.code (xMn m_A_giveUpJob) (xMc m_A_giveUpJob) (xMl m_A_giveUpJob) (xMr m_A_giveUpJob) ∈ xTT := xin2 229 rfl rfl
def m_A_endJob : xM := (⟨"ReduceCluster", "endJob", "()V"⟩, prog_1_method_36_code, 2, (Option.none : Option FieldType), [])
theorem wc_A_endJob : Cond.code (xMn m_A_endJob) (xMc m_A_endJob) (xMl m_A_endJob) (xMr m_A_endJob) ∈ xTT := xin2 233 rfl rfl
def m_A_anyoneWorks : xM := (⟨"ReduceCluster", "anyoneWorks", "()Z"⟩, prog_1_method_31_code, 2, (Option.some FieldType.boolean), [])
theorem wc_A_anyoneWorks : Cond.code (xMn m_A_anyoneWorks) (xMc m_A_anyoneWorks) (xMl m_A_anyoneWorks) (xMr m_A_anyoneWorks) ∈ xTT := xin2 237 rfl rfl
def m_L_stop : xM := (⟨"ReduceClusterLaw", "stop", "(LReduceCluster;)I"⟩, method_8_code, 2, (Option.some FieldType.int), [((0 : Nat), (4 : Nat), (7 : Nat), (15 : Nat))])
theorem wc_L_stop : Cond.codeWith (xMn m_L_stop) (xMc m_L_stop) (xMl m_L_stop) (xMr m_L_stop) (xMh m_L_stop) ∈ xTT := xin3 15 rfl rfl
def m_A_stop : xM := (⟨"ReduceCluster", "stop", "()V"⟩, prog_1_method_8_code, 1, (Option.none : Option FieldType), [])
theorem wc_A_stop : Cond.code (xMn m_A_stop) (xMc m_A_stop) (xMl m_A_stop) (xMr m_A_stop) ∈ xTT := xin3 19 rfl rfl
def m_L_output : xM := (⟨"ReduceClusterLaw", "output", "(LReduceCluster;III[J)I"⟩, method_9_code, 6, (Option.some FieldType.int), [((0 : Nat), (12 : Nat), (15 : Nat), (13 : Nat)), ((0 : Nat), (12 : Nat), (19 : Nat), (42 : Nat))])
theorem wc_L_output : Cond.codeWith (xMn m_L_output) (xMc m_L_output) (xMl m_L_output) (xMr m_L_output) (xMh m_L_output) ∈ xTT := xin3 22 rfl rfl
def m_A_output : xM := (⟨"ReduceCluster", "output", "(III)I"⟩, prog_1_method_9_code, 5, (Option.some FieldType.int), [])
theorem wc_A_output : Cond.code (xMn m_A_output) (xMc m_A_output) (xMl m_A_output) (xMr m_A_output) ∈ xTT := xin3 27 rfl rfl
def m_L_find : xM := (⟨"ReduceClusterLaw", "find", "(LReduceCluster;I[J)I"⟩, method_10_code, 4, (Option.some FieldType.int), [((0 : Nat), (9 : Nat), (12 : Nat), (42 : Nat))])
theorem wc_L_find : Cond.codeWith (xMn m_L_find) (xMc m_L_find) (xMl m_L_find) (xMr m_L_find) (xMh m_L_find) ∈ xTT := xin3 45 rfl rfl
def m_A_find : xM := (⟨"ReduceCluster", "find", "(I)I"⟩, prog_1_method_10_code, 4, (Option.some FieldType.int), [])
theorem wc_A_find : Cond.code (xMn m_A_find) (xMc m_A_find) (xMl m_A_find) (xMr m_A_find) ∈ xTT := xin3 49 rfl rfl
def m_P_indexOf : xM := (⟨"ReduceCluster$Pairs", "indexOf", "(I)I"⟩, prog_4_method_4_code, 3, (Option.some FieldType.int), [])
theorem wc_P_indexOf : Cond.code (xMn m_P_indexOf) (xMc m_P_indexOf) (xMl m_P_indexOf) (xMr m_P_indexOf) ∈ xTT := xin3 54 rfl rfl
def m_L_task : xM := (⟨"ReduceClusterLaw", "task", "(LReduceCluster;ZII[J)I"⟩, method_11_code, 6, (Option.some FieldType.int), [((0 : Nat), (12 : Nat), (15 : Nat), (13 : Nat)), ((0 : Nat), (12 : Nat), (19 : Nat), (42 : Nat)), ((0 : Nat), (12 : Nat), (23 : Nat), (15 : Nat))])
theorem wc_L_task : Cond.codeWith (xMn m_L_task) (xMc m_L_task) (xMl m_L_task) (xMr m_L_task) (xMh m_L_task) ∈ xTT := xin3 57 rfl rfl
def m_A_task : xM := (⟨"ReduceCluster", "task", "(ZII)I"⟩, prog_1_method_11_code, 5, (Option.some FieldType.int), [])
theorem wc_A_task : Cond.code (xMn m_A_task) (xMc m_A_task) (xMl m_A_task) (xMr m_A_task) ∈ xTT := xin3 61 rfl rfl
def m_A_stateOf : xM := (⟨"ReduceCluster", "stateOf", "(LReduceCluster$Task;)I"⟩, prog_1_method_30_code, 2, (Option.some FieldType.int), [])
theorem wc_A_stateOf : Cond.code (xMn m_A_stateOf) (xMc m_A_stateOf) (xMl m_A_stateOf) (xMr m_A_stateOf) ∈ xTT := xin3 65 rfl rfl
def m_L_ofWorker : xM := (⟨"ReduceClusterLaw", "ofWorker", "(LReduceCluster;II[J)I"⟩, method_12_code, 5, (Option.some FieldType.int), [((0 : Nat), (10 : Nat), (13 : Nat), (13 : Nat))])
theorem wc_L_ofWorker : Cond.codeWith (xMn m_L_ofWorker) (xMc m_L_ofWorker) (xMl m_L_ofWorker) (xMr m_L_ofWorker) (xMh m_L_ofWorker) ∈ xTT := xin3 68 rfl rfl
def m_A_ofWorker : xM := (⟨"ReduceCluster", "ofWorker", "(II)I"⟩, prog_1_method_12_code, 3, (Option.some FieldType.int), [])
theorem wc_A_ofWorker : Cond.code (xMn m_A_ofWorker) (xMc m_A_ofWorker) (xMl m_A_ofWorker) (xMr m_A_ofWorker) ∈ xTT := xin3 72 rfl rfl
def m_K_taskNumber : xM := (⟨"ReduceCluster$Worker", "taskNumber", "()I"⟩, prog_6_method_5_code, 1, (Option.some FieldType.int), [])
theorem wc_K_taskNumber : Cond.code (xMn m_K_taskNumber) (xMc m_K_taskNumber) (xMl m_K_taskNumber) (xMr m_K_taskNumber) ∈ xTT := xin3 76 rfl rfl
def m_M_init : xM := (⟨"ReduceClusterModel", "<init>", "()V"⟩, prog_8_method_1_code, 1, (Option.none : Option FieldType), [])
theorem wc_M_init : Cond.code (xMn m_M_init) (xMc m_M_init) (xMl m_M_init) (xMr m_M_init) ∈ xTT := xin3 81 rfl rfl
def m_M_thrown : xM := (⟨"ReduceClusterModel", "thrown", "()I"⟩, prog_8_method_2_code, 1, (Option.some FieldType.int), [])
theorem wc_M_thrown : Cond.code (xMn m_M_thrown) (xMc m_M_thrown) (xMl m_M_thrown) (xMr m_M_thrown) ∈ xTT := xin3 182 rfl rfl
def m_M_chunk : xM := (⟨"ReduceClusterModel", "chunk", "(JII)I"⟩, prog_8_method_7_code, 6, (Option.some FieldType.int), [])
theorem wc_M_chunk : Cond.code (xMn m_M_chunk) (xMc m_M_chunk) (xMl m_M_chunk) (xMr m_M_chunk) ∈ xTT := xin3 186 rfl rfl
def m_M_in : xM := (⟨"ReduceClusterModel", "in", "(III)Z"⟩, prog_8_method_3_code, 3, (Option.some FieldType.boolean), [])
theorem wc_M_in : Cond.code (xMn m_M_in) (xMc m_M_in) (xMl m_M_in) (xMr m_M_in) ∈ xTT := xin3 189 rfl rfl
def m_M_bad : xM := (⟨"ReduceClusterModel", "bad", "(Z)Z"⟩, prog_8_method_4_code, 2, (Option.some FieldType.boolean), [])
theorem wc_M_bad : Cond.code (xMn m_M_bad) (xMc m_M_bad) (xMl m_M_bad) (xMr m_M_bad) ∈ xTT := xin3 193 rfl rfl
def m_M_fail : xM := (⟨"ReduceClusterModel", "fail", "(I)I"⟩, prog_8_method_5_code, 2, (Option.some FieldType.int), [])
theorem wc_M_fail : Cond.code (xMn m_M_fail) (xMc m_M_fail) (xMl m_M_fail) (xMr m_M_fail) ∈ xTT := xin3 197 rfl rfl
def m_M_worker : xM := (⟨"ReduceClusterModel", "worker", "(IZ)V"⟩, prog_8_method_16_code, 5, (Option.none : Option FieldType), [])
theorem wc_M_worker : Cond.code (xMn m_M_worker) (xMc m_M_worker) (xMl m_M_worker) (xMr m_M_worker) ∈ xTT := xin3 201 rfl rfl
def m_M_giveUp : xM := (⟨"ReduceClusterModel", "giveUp", "(Z)V"⟩, prog_8_method_15_code, 3, (Option.none : Option FieldType), [])
theorem wc_M_giveUp : Cond.code (xMn m_M_giveUp) (xMc m_M_giveUp) (xMl m_M_giveUp) (xMr m_M_giveUp) ∈ xTT := xin3 205 rfl rfl
def m_M_speed : xM := (⟨"ReduceClusterModel", "speed", "(II)V"⟩, prog_8_method_17_code, 3, (Option.none : Option FieldType), [])
theorem wc_M_speed : Cond.code (xMn m_M_speed) (xMc m_M_speed) (xMl m_M_speed) (xMr m_M_speed) ∈ xTT := xin3 209 rfl rfl
def m_M_filter : xM := (⟨"ReduceClusterModel", "filter", "(I)V"⟩, prog_8_method_18_code, 2, (Option.none : Option FieldType), [])
theorem wc_M_filter : Cond.code (xMn m_M_filter) (xMc m_M_filter) (xMl m_M_filter) (xMr m_M_filter) ∈ xTT := xin3 213 rfl rfl
def m_M_begin : xM := (⟨"ReduceClusterModel", "begin", "(IIII)I"⟩, prog_8_method_19_code, 6, (Option.some FieldType.int), [])
theorem wc_M_begin : Cond.code (xMn m_M_begin) (xMc m_M_begin) (xMl m_M_begin) (xMr m_M_begin) ∈ xTT := xin3 217 rfl rfl
def m_M_mapAll : xM := (⟨"ReduceClusterModel", "mapAll", "()V"⟩, prog_8_method_10_code, 4, (Option.none : Option FieldType), [])
theorem wc_M_mapAll : Cond.code (xMn m_M_mapAll) (xMc m_M_mapAll) (xMl m_M_mapAll) (xMr m_M_mapAll) ∈ xTT := xin3 221 rfl rfl
def m_M_map : xM := (⟨"ReduceClusterModel", "map", "(I)V"⟩, prog_8_method_9_code, 4, (Option.none : Option FieldType), [])
theorem wc_M_map : Cond.code (xMn m_M_map) (xMc m_M_map) (xMl m_M_map) (xMr m_M_map) ∈ xTT := xin3 225 rfl rfl
def m_M_modulo : xM := (⟨"ReduceClusterModel", "modulo", "(II)I"⟩, prog_8_method_6_code, 2, (Option.some FieldType.int), [])
theorem wc_M_modulo : Cond.code (xMn m_M_modulo) (xMc m_M_modulo) (xMl m_M_modulo) (xMr m_M_modulo) ∈ xTT := xin3 228 rfl rfl
def m_M_pair : xM := (⟨"ReduceClusterModel", "pair", "(II)V"⟩, prog_8_method_8_code, 3, (Option.none : Option FieldType), [])
theorem wc_M_pair : Cond.code (xMn m_M_pair) (xMc m_M_pair) (xMl m_M_pair) (xMr m_M_pair) ∈ xTT := xin3 232 rfl rfl
def m_M_sort : xM := (⟨"ReduceClusterModel", "sort", "()V"⟩, prog_8_method_11_code, 5, (Option.none : Option FieldType), [])
theorem wc_M_sort : Cond.code (xMn m_M_sort) (xMc m_M_sort) (xMl m_M_sort) (xMr m_M_sort) ∈ xTT := xin3 237 rfl rfl
def m_M_run : xM := (⟨"ReduceClusterModel", "run", "(I)I"⟩, prog_8_method_30_code, 3, (Option.some FieldType.int), [])
theorem wc_M_run : Cond.code (xMn m_M_run) (xMc m_M_run) (xMl m_M_run) (xMr m_M_run) ∈ xTT := xin4 1 rfl rfl
def m_M_tick : xM := (⟨"ReduceClusterModel", "tick", "()V"⟩, prog_8_method_29_code, 4, (Option.none : Option FieldType), [])
theorem wc_M_tick : Cond.code (xMn m_M_tick) (xMc m_M_tick) (xMl m_M_tick) (xMr m_M_tick) ∈ xTT := xin4 5 rfl rfl
def m_M_get : xM := (⟨"ReduceClusterModel", "get", "(I)V"⟩, prog_8_method_26_code, 10, (Option.none : Option FieldType), [])
theorem wc_M_get : Cond.code (xMn m_M_get) (xMc m_M_get) (xMl m_M_get) (xMr m_M_get) ∈ xTT := xin4 9 rfl rfl
def m_M_mapsDone : xM := (⟨"ReduceClusterModel", "mapsDone", "()Z"⟩, prog_8_method_20_code, 2, (Option.some FieldType.boolean), [])
theorem wc_M_mapsDone : Cond.code (xMn m_M_mapsDone) (xMc m_M_mapsDone) (xMl m_M_mapsDone) (xMr m_M_mapsDone) ∈ xTT := xin4 13 rfl rfl
def m_M_readable : xM := (⟨"ReduceClusterModel", "readable", "(I)Z"⟩, prog_8_method_23_code, 2, (Option.some FieldType.boolean), [])
theorem wc_M_readable : Cond.code (xMn m_M_readable) (xMc m_M_readable) (xMl m_M_readable) (xMr m_M_readable) ∈ xTT := xin4 17 rfl rfl
def m_M_doing : xM := (⟨"ReduceClusterModel", "doing", "(I)I"⟩, prog_8_method_24_code, 4, (Option.some FieldType.int), [])
theorem wc_M_doing : Cond.code (xMn m_M_doing) (xMc m_M_doing) (xMl m_M_doing) (xMr m_M_doing) ∈ xTT := xin4 21 rfl rfl
def m_M_leftOf : xM := (⟨"ReduceClusterModel", "leftOf", "(I)I"⟩, prog_8_method_25_code, 3, (Option.some FieldType.int), [])
theorem wc_M_leftOf : Cond.code (xMn m_M_leftOf) (xMc m_M_leftOf) (xMl m_M_leftOf) (xMr m_M_leftOf) ∈ xTT := xin4 25 rfl rfl
def m_M_needs : xM := (⟨"ReduceClusterModel", "needs", "(I)I"⟩, prog_8_method_22_code, 2, (Option.some FieldType.int), [])
theorem wc_M_needs : Cond.code (xMn m_M_needs) (xMc m_M_needs) (xMl m_M_needs) (xMr m_M_needs) ∈ xTT := xin4 29 rfl rfl
def m_M_runs : xM := (⟨"ReduceClusterModel", "runs", "(I)I"⟩, prog_8_method_21_code, 2, (Option.some FieldType.int), [])
theorem wc_M_runs : Cond.code (xMn m_M_runs) (xMc m_M_runs) (xMl m_M_runs) (xMr m_M_runs) ∈ xTT := xin4 33 rfl rfl
def m_M_pairsOf : xM := (⟨"ReduceClusterModel", "pairsOf", "(I)I"⟩, prog_8_method_12_code, 4, (Option.some FieldType.int), [])
theorem wc_M_pairsOf : Cond.code (xMn m_M_pairsOf) (xMc m_M_pairsOf) (xMl m_M_pairsOf) (xMr m_M_pairsOf) ∈ xTT := xin4 37 rfl rfl
def m_M_finish : xM := (⟨"ReduceClusterModel", "finish", "(I)V"⟩, prog_8_method_27_code, 4, (Option.none : Option FieldType), [])
theorem wc_M_finish : Cond.code (xMn m_M_finish) (xMc m_M_finish) (xMl m_M_finish) (xMr m_M_finish) ∈ xTT := xin4 41 rfl rfl
def m_M_reduce : xM := (⟨"ReduceClusterModel", "reduce", "(IZ)I"⟩, prog_8_method_14_code, 6, (Option.some FieldType.int), [])
theorem wc_M_reduce : Cond.code (xMn m_M_reduce) (xMc m_M_reduce) (xMl m_M_reduce) (xMr m_M_reduce) ∈ xTT := xin4 45 rfl rfl
def m_M_reduced : xM := (⟨"ReduceClusterModel", "reduced", "(I)I"⟩, prog_8_method_13_code, 6, (Option.some FieldType.int), [])
theorem wc_M_reduced : Cond.code (xMn m_M_reduced) (xMc m_M_reduced) (xMl m_M_reduced) (xMr m_M_reduced) ∈ xTT := xin4 49 rfl rfl
def m_M_end : xM := (⟨"ReduceClusterModel", "end", "()V"⟩, prog_8_method_28_code, 2, (Option.none : Option FieldType), [])
theorem wc_M_end : Cond.code (xMn m_M_end) (xMc m_M_end) (xMl m_M_end) (xMr m_M_end) ∈ xTT := xin4 53 rfl rfl
def m_M_stop : xM := (⟨"ReduceClusterModel", "stop", "()V"⟩, prog_8_method_31_code, 1, (Option.none : Option FieldType), [])
theorem wc_M_stop : Cond.code (xMn m_M_stop) (xMc m_M_stop) (xMl m_M_stop) (xMr m_M_stop) ∈ xTT := xin4 57 rfl rfl
def m_M_output : xM := (⟨"ReduceClusterModel", "output", "(III)I"⟩, prog_8_method_32_code, 4, (Option.some FieldType.int), [])
theorem wc_M_output : Cond.code (xMn m_M_output) (xMc m_M_output) (xMl m_M_output) (xMr m_M_output) ∈ xTT := xin4 61 rfl rfl
def m_M_find : xM := (⟨"ReduceClusterModel", "find", "(I)I"⟩, prog_8_method_33_code, 4, (Option.some FieldType.int), [])
theorem wc_M_find : Cond.code (xMn m_M_find) (xMc m_M_find) (xMl m_M_find) (xMr m_M_find) ∈ xTT := xin4 65 rfl rfl
def m_M_task : xM := (⟨"ReduceClusterModel", "task", "(ZII)I"⟩, prog_8_method_34_code, 7, (Option.some FieldType.int), [])
theorem wc_M_task : Cond.code (xMn m_M_task) (xMc m_M_task) (xMl m_M_task) (xMr m_M_task) ∈ xTT := xin4 69 rfl rfl
def m_M_ofWorker : xM := (⟨"ReduceClusterModel", "ofWorker", "(II)I"⟩, prog_8_method_35_code, 3, (Option.some FieldType.int), [])
theorem wc_M_ofWorker : Cond.code (xMn m_M_ofWorker) (xMc m_M_ofWorker) (xMl m_M_ofWorker) (xMr m_M_ofWorker) ∈ xTT := xin4 73 rfl rfl
def m_M_count : xM := (⟨"ReduceClusterModel", "count", "(I)I"⟩, prog_8_method_36_code, 2, (Option.some FieldType.int), [])
theorem wc_M_count : Cond.code (xMn m_M_count) (xMc m_M_count) (xMl m_M_count) (xMr m_M_count) ∈ xTT := xin4 77 rfl rfl
theorem wi_L : Cond.initialized "ReduceClusterLaw" ∈ xTT := xin1 0 rfl rfl
theorem wi_A : Cond.initialized "ReduceCluster" ∈ xTT := xin1 1 rfl rfl
theorem wi_P : Cond.initialized "ReduceCluster$Pairs" ∈ xTT := xin1 2 rfl rfl
theorem wi_J : Cond.initialized "ReduceCluster$Job" ∈ xTT := xin1 3 rfl rfl
theorem wi_K : Cond.initialized "ReduceCluster$Worker" ∈ xTT := xin1 4 rfl rfl
theorem wi_C : Cond.initialized "ReduceCluster$Chunk" ∈ xTT := xin1 5 rfl rfl
theorem wi_T : Cond.initialized "ReduceCluster$Task" ∈ xTT := xin1 6 rfl rfl
theorem wi_M : Cond.initialized "ReduceClusterModel" ∈ xTT := xin1 7 rfl rfl
theorem wi_Throwable : Cond.initialized "java/lang/Throwable" ∈ xTT := xin1 8 rfl rfl
theorem wi_Exception : Cond.initialized "java/lang/Exception" ∈ xTT := xin1 9 rfl rfl
theorem wi_RuntimeException : Cond.initialized "java/lang/RuntimeException" ∈ xTT := xin1 10 rfl rfl
theorem wi_IllegalArgumentException : Cond.initialized "java/lang/IllegalArgumentException" ∈ xTT := xin1 11 rfl rfl
theorem wi_IllegalStateException : Cond.initialized "java/lang/IllegalStateException" ∈ xTT := xin1 12 rfl rfl
theorem wi_Z : Cond.initialized "java/lang/Math" ∈ xTT := xin1 13 rfl rfl
theorem wi_ArithmeticException : Cond.initialized "java/lang/ArithmeticException" ∈ xTT := xin1 14 rfl rfl
theorem wi_NoSuchElementException : Cond.initialized "java/util/NoSuchElementException" ∈ xTT := xin1 15 rfl rfl
theorem wk_L_8 : Cond.classLink "ReduceClusterLaw" 8 "ReduceCluster" ∈ xTT := xin1 16 rfl rfl
theorem wo_A : Cond.instantiable "ReduceCluster" 15 ∈ xTT := xin1 17 rfl rfl
theorem wl_L_55 : Cond.methodLink "ReduceClusterLaw" 55 (⟨"ReduceCluster", "<init>", "()V"⟩ : MethodName) ∈ xTT := xin1 18 rfl rfl
theorem wm_A_init : Cond.instanceMethod (⟨"ReduceCluster", "<init>", "()V"⟩ : MethodName) ∈ xTT := xin1 19 rfl rfl
theorem wl_A_3 : Cond.methodLink "ReduceCluster" 3 (⟨"java/lang/Object", "<init>", "()V"⟩ : MethodName) ∈ xTT := xin1 21 rfl rfl
theorem wm_O_init : Cond.instanceMethod (⟨"java/lang/Object", "<init>", "()V"⟩ : MethodName) ∈ xTT := xin1 22 rfl rfl
theorem wk_A_9 : Cond.classLink "ReduceCluster" 9 "ReduceCluster$Worker" ∈ xTT := xin1 24 rfl rfl
theorem wq_K : Cond.arrayOver (FieldType.object "ReduceCluster$Worker") ∈ xTT := xin1 25 rfl rfl
theorem wk_A_15 : Cond.classLink "ReduceCluster" 15 "ReduceCluster$Chunk" ∈ xTT := xin1 26 rfl rfl
theorem wq_C : Cond.arrayOver (FieldType.object "ReduceCluster$Chunk") ∈ xTT := xin1 27 rfl rfl
theorem wk_A_21 : Cond.classLink "ReduceCluster" 21 "ReduceCluster$Task" ∈ xTT := xin1 28 rfl rfl
theorem wq_T : Cond.arrayOver (FieldType.object "ReduceCluster$Task") ∈ xTT := xin1 29 rfl rfl
theorem wk_A_30 : Cond.classLink "ReduceCluster" 30 "ReduceCluster$Pairs" ∈ xTT := xin1 30 rfl rfl
theorem wo_P : Cond.instantiable "ReduceCluster$Pairs" 3 ∈ xTT := xin1 31 rfl rfl
theorem wl_A_32 : Cond.methodLink "ReduceCluster" 32 (⟨"ReduceCluster$Pairs", "<init>", "(I)V"⟩ : MethodName) ∈ xTT := xin1 32 rfl rfl
theorem wm_P_init : Cond.instanceMethod (⟨"ReduceCluster$Pairs", "<init>", "(I)V"⟩ : MethodName) ∈ xTT := xin1 33 rfl rfl
theorem wl_P_3 : Cond.methodLink "ReduceCluster$Pairs" 3 (⟨"java/lang/Object", "<init>", "()V"⟩ : MethodName) ∈ xTT := xin1 35 rfl rfl
theorem wf_P_15 : Cond.fieldLink "ReduceCluster$Pairs" 15 "ReduceCluster$Pairs" "keys" "[I" ∈ xTT := xin1 36 rfl rfl
theorem wf_J_46 : Cond.fieldLink "ReduceCluster$Job" 46 "ReduceCluster$Pairs" "keys" "[I" ∈ xTT := xin1 37 rfl rfl
theorem wf_A_149 : Cond.fieldLink "ReduceCluster" 149 "ReduceCluster$Pairs" "keys" "[I" ∈ xTT := xin1 38 rfl rfl
theorem wf_P_19 : Cond.fieldLink "ReduceCluster$Pairs" 19 "ReduceCluster$Pairs" "values" "[I" ∈ xTT := xin1 39 rfl rfl
theorem wf_J_54 : Cond.fieldLink "ReduceCluster$Job" 54 "ReduceCluster$Pairs" "values" "[I" ∈ xTT := xin1 40 rfl rfl
theorem wf_A_153 : Cond.fieldLink "ReduceCluster" 153 "ReduceCluster$Pairs" "values" "[I" ∈ xTT := xin1 41 rfl rfl
theorem wf_P_9 : Cond.fieldLink "ReduceCluster$Pairs" 9 "ReduceCluster$Pairs" "size" "I" ∈ xTT := xin1 42 rfl rfl
theorem wf_J_34 : Cond.fieldLink "ReduceCluster$Job" 34 "ReduceCluster$Pairs" "size" "I" ∈ xTT := xin1 43 rfl rfl
theorem wf_A_126 : Cond.fieldLink "ReduceCluster" 126 "ReduceCluster$Pairs" "size" "I" ∈ xTT := xin1 44 rfl rfl
theorem wa_int : Cond.arrayClass FieldType.int ∈ xTT := xin1 52 rfl rfl
theorem wk_A_39 : Cond.classLink "ReduceCluster" 39 "ReduceCluster$Job" ∈ xTT := xin1 53 rfl rfl
theorem wo_J : Cond.instantiable "ReduceCluster$Job" 5 ∈ xTT := xin1 54 rfl rfl
theorem wl_A_41 : Cond.methodLink "ReduceCluster" 41 (⟨"ReduceCluster$Job", "<init>", "()V"⟩ : MethodName) ∈ xTT := xin1 55 rfl rfl
theorem wm_J_init : Cond.instanceMethod (⟨"ReduceCluster$Job", "<init>", "()V"⟩ : MethodName) ∈ xTT := xin1 56 rfl rfl
theorem wl_J_3 : Cond.methodLink "ReduceCluster$Job" 3 (⟨"java/lang/Object", "<init>", "()V"⟩ : MethodName) ∈ xTT := xin1 58 rfl rfl
theorem wk_J_9 : Cond.classLink "ReduceCluster$Job" 9 "ReduceCluster$Pairs" ∈ xTT := xin1 59 rfl rfl
theorem wq_P : Cond.arrayOver (FieldType.object "ReduceCluster$Pairs") ∈ xTT := xin1 60 rfl rfl
theorem wv_J_27 : Cond.constant "ReduceCluster$Job" 27 (-2147483648) ∈ xTT := xin1 61 rfl rfl
theorem wl_J_31 : Cond.methodLink "ReduceCluster$Job" 31 (⟨"ReduceCluster$Pairs", "<init>", "(I)V"⟩ : MethodName) ∈ xTT := xin1 62 rfl rfl
theorem wf_J_11 : Cond.fieldLink "ReduceCluster$Job" 11 "ReduceCluster$Job" "taken" "[LReduceCluster$Pairs;" ∈ xTT := xin1 63 rfl rfl
theorem wf_A_122 : Cond.fieldLink "ReduceCluster" 122 "ReduceCluster$Job" "taken" "[LReduceCluster$Pairs;" ∈ xTT := xin1 64 rfl rfl
theorem wf_J_17 : Cond.fieldLink "ReduceCluster$Job" 17 "ReduceCluster$Job" "reduced" "[LReduceCluster$Pairs;" ∈ xTT := xin1 65 rfl rfl
theorem wf_A_146 : Cond.fieldLink "ReduceCluster" 146 "ReduceCluster$Job" "reduced" "[LReduceCluster$Pairs;" ∈ xTT := xin1 66 rfl rfl
theorem wf_J_20 : Cond.fieldLink "ReduceCluster$Job" 20 "ReduceCluster$Job" "reducer" "I" ∈ xTT := xin1 67 rfl rfl
theorem wf_J_24 : Cond.fieldLink "ReduceCluster$Job" 24 "ReduceCluster$Job" "partitions" "I" ∈ xTT := xin1 68 rfl rfl
theorem wf_A_140 : Cond.fieldLink "ReduceCluster" 140 "ReduceCluster$Job" "partitions" "I" ∈ xTT := xin1 69 rfl rfl
theorem wf_J_28 : Cond.fieldLink "ReduceCluster$Job" 28 "ReduceCluster$Job" "least" "I" ∈ xTT := xin1 70 rfl rfl
theorem wv_A_60 : Cond.constant "ReduceCluster" 60 (-2147483648) ∈ xTT := xin1 82 rfl rfl
theorem wo_K : Cond.instantiable "ReduceCluster$Worker" 5 ∈ xTT := xin1 83 rfl rfl
theorem wn_A_76 : Cond.methodLinkNest "ReduceCluster" 76 (⟨"ReduceCluster$Worker", "<init>", "()V"⟩ : MethodName) "ReduceCluster" ∈ xTT := xin1 84 rfl rfl
theorem wm_K_init : Cond.instanceMethod (⟨"ReduceCluster$Worker", "<init>", "()V"⟩ : MethodName) ∈ xTT := xin1 85 rfl rfl
theorem wl_K_3 : Cond.methodLink "ReduceCluster$Worker" 3 (⟨"java/lang/Object", "<init>", "()V"⟩ : MethodName) ∈ xTT := xin1 87 rfl rfl
theorem wf_K_9 : Cond.fieldLink "ReduceCluster$Worker" 9 "ReduceCluster$Worker" "up" "Z" ∈ xTT := xin1 88 rfl rfl
theorem wf_A_92 : Cond.fieldLink "ReduceCluster" 92 "ReduceCluster$Worker" "up" "Z" ∈ xTT := xin1 89 rfl rfl
theorem wf_K_15 : Cond.fieldLink "ReduceCluster$Worker" 15 "ReduceCluster$Worker" "unitsPerTick" "I" ∈ xTT := xin1 90 rfl rfl
theorem wf_A_101 : Cond.fieldLink "ReduceCluster" 101 "ReduceCluster$Worker" "unitsPerTick" "I" ∈ xTT := xin1 91 rfl rfl
theorem wf_K_19 : Cond.fieldLink "ReduceCluster$Worker" 19 "ReduceCluster$Worker" "task" "LReduceCluster$Task;" ∈ xTT := xin1 92 rfl rfl
theorem wf_A_237 : Cond.fieldLink "ReduceCluster" 237 "ReduceCluster$Worker" "task" "LReduceCluster$Task;" ∈ xTT := xin1 93 rfl rfl
theorem wf_K_23 : Cond.fieldLink "ReduceCluster$Worker" 23 "ReduceCluster$Worker" "unitsLeft" "I" ∈ xTT := xin1 94 rfl rfl
theorem wf_A_193 : Cond.fieldLink "ReduceCluster" 193 "ReduceCluster$Worker" "unitsLeft" "I" ∈ xTT := xin1 95 rfl rfl
theorem wf_K_26 : Cond.fieldLink "ReduceCluster$Worker" 26 "ReduceCluster$Worker" "unitsDone" "I" ∈ xTT := xin1 96 rfl rfl
theorem wf_A_196 : Cond.fieldLink "ReduceCluster" 196 "ReduceCluster$Worker" "unitsDone" "I" ∈ xTT := xin1 97 rfl rfl
theorem wo_C : Cond.instantiable "ReduceCluster$Chunk" 2 ∈ xTT := xin1 109 rfl rfl
theorem wn_A_77 : Cond.methodLinkNest "ReduceCluster" 77 (⟨"ReduceCluster$Chunk", "<init>", "()V"⟩ : MethodName) "ReduceCluster" ∈ xTT := xin1 110 rfl rfl
theorem wm_C_init : Cond.instanceMethod (⟨"ReduceCluster$Chunk", "<init>", "()V"⟩ : MethodName) ∈ xTT := xin1 111 rfl rfl
theorem wl_C_3 : Cond.methodLink "ReduceCluster$Chunk" 3 (⟨"java/lang/Object", "<init>", "()V"⟩ : MethodName) ∈ xTT := xin1 113 rfl rfl
theorem wf_C_9 : Cond.fieldLink "ReduceCluster$Chunk" 9 "ReduceCluster$Chunk" "numbers" "[I" ∈ xTT := xin1 114 rfl rfl
theorem wf_A_210 : Cond.fieldLink "ReduceCluster" 210 "ReduceCluster$Chunk" "numbers" "[I" ∈ xTT := xin1 115 rfl rfl
theorem wf_C_15 : Cond.fieldLink "ReduceCluster$Chunk" 15 "ReduceCluster$Chunk" "size" "I" ∈ xTT := xin1 116 rfl rfl
theorem wf_A_107 : Cond.fieldLink "ReduceCluster" 107 "ReduceCluster$Chunk" "size" "I" ∈ xTT := xin1 117 rfl rfl
theorem wo_T : Cond.instantiable "ReduceCluster$Task" 5 ∈ xTT := xin1 123 rfl rfl
theorem wl_A_78 : Cond.methodLink "ReduceCluster" 78 (⟨"ReduceCluster$Task", "<init>", "(ZI)V"⟩ : MethodName) ∈ xTT := xin1 124 rfl rfl
theorem wm_T_init : Cond.instanceMethod (⟨"ReduceCluster$Task", "<init>", "(ZI)V"⟩ : MethodName) ∈ xTT := xin1 125 rfl rfl
theorem wl_T_3 : Cond.methodLink "ReduceCluster$Task" 3 (⟨"java/lang/Object", "<init>", "()V"⟩ : MethodName) ∈ xTT := xin1 127 rfl rfl
theorem wf_T_21 : Cond.fieldLink "ReduceCluster$Task" 21 "ReduceCluster$Task" "map" "Z" ∈ xTT := xin1 128 rfl rfl
theorem wf_K_40 : Cond.fieldLink "ReduceCluster$Worker" 40 "ReduceCluster$Task" "map" "Z" ∈ xTT := xin1 129 rfl rfl
theorem wf_A_257 : Cond.fieldLink "ReduceCluster" 257 "ReduceCluster$Task" "map" "Z" ∈ xTT := xin1 130 rfl rfl
theorem wf_T_25 : Cond.fieldLink "ReduceCluster$Task" 25 "ReduceCluster$Task" "number" "I" ∈ xTT := xin1 131 rfl rfl
theorem wf_K_43 : Cond.fieldLink "ReduceCluster$Worker" 43 "ReduceCluster$Task" "number" "I" ∈ xTT := xin1 132 rfl rfl
theorem wf_A_260 : Cond.fieldLink "ReduceCluster" 260 "ReduceCluster$Task" "number" "I" ∈ xTT := xin1 133 rfl rfl
theorem wf_T_9 : Cond.fieldLink "ReduceCluster$Task" 9 "ReduceCluster$Task" "units" "I" ∈ xTT := xin1 134 rfl rfl
theorem wf_K_29 : Cond.fieldLink "ReduceCluster$Worker" 29 "ReduceCluster$Task" "units" "I" ∈ xTT := xin1 135 rfl rfl
theorem wf_A_174 : Cond.fieldLink "ReduceCluster" 174 "ReduceCluster$Task" "units" "I" ∈ xTT := xin1 136 rfl rfl
theorem wf_T_15 : Cond.fieldLink "ReduceCluster$Task" 15 "ReduceCluster$Task" "runs" "I" ∈ xTT := xin1 137 rfl rfl
theorem wf_A_177 : Cond.fieldLink "ReduceCluster" 177 "ReduceCluster$Task" "runs" "I" ∈ xTT := xin1 138 rfl rfl
theorem wf_T_18 : Cond.fieldLink "ReduceCluster$Task" 18 "ReduceCluster$Task" "doneBy" "I" ∈ xTT := xin1 139 rfl rfl
theorem wf_A_184 : Cond.fieldLink "ReduceCluster" 184 "ReduceCluster$Task" "doneBy" "I" ∈ xTT := xin1 140 rfl rfl
theorem wf_A_11 : Cond.fieldLink "ReduceCluster" 11 "ReduceCluster" "workers" "[LReduceCluster$Worker;" ∈ xTT := xin1 152 rfl rfl
theorem wf_A_17 : Cond.fieldLink "ReduceCluster" 17 "ReduceCluster" "chunks" "[LReduceCluster$Chunk;" ∈ xTT := xin1 153 rfl rfl
theorem wf_A_23 : Cond.fieldLink "ReduceCluster" 23 "ReduceCluster" "mapTasks" "[LReduceCluster$Task;" ∈ xTT := xin1 154 rfl rfl
theorem wf_A_27 : Cond.fieldLink "ReduceCluster" 27 "ReduceCluster" "reduceTasks" "[LReduceCluster$Task;" ∈ xTT := xin1 155 rfl rfl
theorem wf_A_35 : Cond.fieldLink "ReduceCluster" 35 "ReduceCluster" "mapped" "LReduceCluster$Pairs;" ∈ xTT := xin1 156 rfl rfl
theorem wf_A_42 : Cond.fieldLink "ReduceCluster" 42 "ReduceCluster" "job" "LReduceCluster$Job;" ∈ xTT := xin1 157 rfl rfl
theorem wf_A_46 : Cond.fieldLink "ReduceCluster" 46 "ReduceCluster" "endedJob" "LReduceCluster$Job;" ∈ xTT := xin1 158 rfl rfl
theorem wf_A_49 : Cond.fieldLink "ReduceCluster" 49 "ReduceCluster" "underWay" "Z" ∈ xTT := xin1 159 rfl rfl
theorem wf_A_53 : Cond.fieldLink "ReduceCluster" 53 "ReduceCluster" "chunkCount" "I" ∈ xTT := xin1 160 rfl rfl
theorem wf_A_57 : Cond.fieldLink "ReduceCluster" 57 "ReduceCluster" "latestMapper" "I" ∈ xTT := xin1 161 rfl rfl
theorem wf_A_61 : Cond.fieldLink "ReduceCluster" 61 "ReduceCluster" "nextFilter" "I" ∈ xTT := xin1 162 rfl rfl
theorem wf_A_64 : Cond.fieldLink "ReduceCluster" 64 "ReduceCluster" "ticks" "I" ∈ xTT := xin1 163 rfl rfl
theorem wf_A_67 : Cond.fieldLink "ReduceCluster" 67 "ReduceCluster" "jobsEnded" "I" ∈ xTT := xin1 164 rfl rfl
theorem wf_A_70 : Cond.fieldLink "ReduceCluster" 70 "ReduceCluster" "secondTimes" "I" ∈ xTT := xin1 165 rfl rfl
theorem wf_A_73 : Cond.fieldLink "ReduceCluster" 73 "ReduceCluster" "mapTasksLost" "I" ∈ xTT := xin1 166 rfl rfl
theorem wl_L_79 : Cond.methodLink "ReduceClusterLaw" 79 (⟨"ReduceCluster", "filter", "(I)V"⟩ : MethodName) ∈ xTT := xin1 198 rfl rfl
theorem wm_A_filter : Cond.instanceMethod (⟨"ReduceCluster", "filter", "(I)V"⟩ : MethodName) ∈ xTT := xin1 199 rfl rfl
theorem we_A_filter : Cond.selects "ReduceCluster" (⟨"ReduceCluster", "filter", "(I)V"⟩ : MethodName) (⟨"ReduceCluster", "filter", "(I)V"⟩ : MethodName) ∈ xTT := xin1 200 rfl rfl
theorem wl_L_111 : Cond.methodLink "ReduceClusterLaw" 111 (⟨"ReduceCluster", "count", "(I)I"⟩ : MethodName) ∈ xTT := xin1 202 rfl rfl
theorem wm_A_count : Cond.instanceMethod (⟨"ReduceCluster", "count", "(I)I"⟩ : MethodName) ∈ xTT := xin1 203 rfl rfl
theorem we_A_count : Cond.selects "ReduceCluster" (⟨"ReduceCluster", "count", "(I)I"⟩ : MethodName) (⟨"ReduceCluster", "count", "(I)I"⟩ : MethodName) ∈ xTT := xin1 204 rfl rfl
theorem wl_A_199 : Cond.methodLink "ReduceCluster" 199 (⟨"ReduceCluster", "pairsOfChunks", "()I"⟩ : MethodName) ∈ xTT := xin1 206 rfl rfl
theorem wm_A_pairsOfChunks : Cond.instanceMethod (⟨"ReduceCluster", "pairsOfChunks", "()I"⟩ : MethodName) ∈ xTT := xin1 208 rfl rfl
theorem wl_A_213 : Cond.methodLink "ReduceCluster" 213 (⟨"ReduceCluster", "mapNumber", "(IILReduceCluster$Pairs;)V"⟩ : MethodName) ∈ xTT := xin1 210 rfl rfl
theorem ws_A_mapNumber : Cond.static (⟨"ReduceCluster", "mapNumber", "(IILReduceCluster$Pairs;)V"⟩ : MethodName) ∈ xTT := xin1 211 rfl rfl
theorem wl_A_221 : Cond.methodLink "ReduceCluster" 221 (⟨"java/lang/Math", "floorMod", "(II)I"⟩ : MethodName) ∈ xTT := xin1 213 rfl rfl
theorem ws_Z_floorMod : Cond.static (⟨"java/lang/Math", "floorMod", "(II)I"⟩ : MethodName) ∈ xTT := xin1 214 rfl rfl
theorem wl_A_224 : Cond.methodLink "ReduceCluster" 224 (⟨"ReduceCluster$Pairs", "append", "(II)V"⟩ : MethodName) ∈ xTT := xin1 216 rfl rfl
theorem wm_P_append : Cond.instanceMethod (⟨"ReduceCluster$Pairs", "append", "(II)V"⟩ : MethodName) ∈ xTT := xin1 217 rfl rfl
theorem we_P_append : Cond.selects "ReduceCluster$Pairs" (⟨"ReduceCluster$Pairs", "append", "(II)V"⟩ : MethodName) (⟨"ReduceCluster$Pairs", "append", "(II)V"⟩ : MethodName) ∈ xTT := xin1 218 rfl rfl
theorem wl_A_227 : Cond.methodLink "ReduceCluster" 227 (⟨"ReduceCluster", "mapDigits", "(ILReduceCluster$Pairs;)V"⟩ : MethodName) ∈ xTT := xin1 220 rfl rfl
theorem ws_A_mapDigits : Cond.static (⟨"ReduceCluster", "mapDigits", "(ILReduceCluster$Pairs;)V"⟩ : MethodName) ∈ xTT := xin1 221 rfl rfl
theorem wl_A_231 : Cond.methodLink "ReduceCluster" 231 (⟨"java/lang/Math", "abs", "(J)J"⟩ : MethodName) ∈ xTT := xin1 223 rfl rfl
theorem ws_Z_abs : Cond.static (⟨"java/lang/Math", "abs", "(J)J"⟩ : MethodName) ∈ xTT := xin1 224 rfl rfl
theorem wv_A_235 : Cond.constantLong "ReduceCluster" 235 10 ∈ xTT := xin1 226 rfl rfl
theorem wl_L_61 : Cond.methodLink "ReduceClusterLaw" 61 (⟨"ReduceClusterLaw", "chunk", "(LReduceCluster;JII[J)I"⟩ : MethodName) ∈ xTT := xin1 227 rfl rfl
theorem ws_L_chunk : Cond.static (⟨"ReduceClusterLaw", "chunk", "(LReduceCluster;JII[J)I"⟩ : MethodName) ∈ xTT := xin1 228 rfl rfl
theorem wk_L_13 : Cond.classLink "ReduceClusterLaw" 13 "java/lang/IllegalArgumentException" ∈ xTT := xin1 230 rfl rfl
theorem wk_L_15 : Cond.classLink "ReduceClusterLaw" 15 "java/lang/IllegalStateException" ∈ xTT := xin1 231 rfl rfl
theorem wl_L_7 : Cond.methodLink "ReduceClusterLaw" 7 (⟨"ReduceCluster", "chunk", "(JII)I"⟩ : MethodName) ∈ xTT := xin1 232 rfl rfl
theorem wm_A_chunk : Cond.instanceMethod (⟨"ReduceCluster", "chunk", "(JII)I"⟩ : MethodName) ∈ xTT := xin1 233 rfl rfl
theorem we_A_chunk : Cond.selects "ReduceCluster" (⟨"ReduceCluster", "chunk", "(JII)I"⟩ : MethodName) (⟨"ReduceCluster", "chunk", "(JII)I"⟩ : MethodName) ∈ xTT := xin1 234 rfl rfl
theorem wl_A_81 : Cond.methodLink "ReduceCluster" 81 (⟨"ReduceCluster", "demandRange", "(III)V"⟩ : MethodName) ∈ xTT := xin1 236 rfl rfl
theorem ws_A_demandRange : Cond.static (⟨"ReduceCluster", "demandRange", "(III)V"⟩ : MethodName) ∈ xTT := xin1 237 rfl rfl
theorem wk_A_202 : Cond.classLink "ReduceCluster" 202 "java/lang/IllegalArgumentException" ∈ xTT := xin1 239 rfl rfl
theorem wo_IllegalArgumentException : Cond.instantiable "java/lang/IllegalArgumentException" 6 ∈ xTT := xin2 0 rfl rfl
theorem wz_IllegalArgumentException : Cond.castable "java/lang/IllegalArgumentException" "java/lang/IllegalArgumentException" ∈ xTT := xin2 1 rfl rfl
theorem wo_Throwable : Cond.instantiable "java/lang/Throwable" 6 ∈ xTT := xin2 39 rfl rfl
theorem wl_A_204 : Cond.methodLink "ReduceCluster" 204 (⟨"java/lang/IllegalArgumentException", "<init>", "()V"⟩ : MethodName) ∈ xTT := xin2 41 rfl rfl
theorem wk_A_85 : Cond.classLink "ReduceCluster" 85 "java/lang/IllegalStateException" ∈ xTT := xin2 63 rfl rfl
theorem wo_IllegalStateException : Cond.instantiable "java/lang/IllegalStateException" 6 ∈ xTT := xin2 64 rfl rfl
theorem wz_IllegalStateException : Cond.castable "java/lang/IllegalStateException" "java/lang/IllegalStateException" ∈ xTT := xin2 65 rfl rfl
theorem wl_A_87 : Cond.methodLink "ReduceCluster" 87 (⟨"java/lang/IllegalStateException", "<init>", "()V"⟩ : MethodName) ∈ xTT := xin2 72 rfl rfl
theorem wl_A_88 : Cond.methodLink "ReduceCluster" 88 (⟨"ReduceCluster$Chunk", "fill", "(JII)V"⟩ : MethodName) ∈ xTT := xin2 78 rfl rfl
theorem wm_C_fill : Cond.instanceMethod (⟨"ReduceCluster$Chunk", "fill", "(JII)V"⟩ : MethodName) ∈ xTT := xin2 79 rfl rfl
theorem we_C_fill : Cond.selects "ReduceCluster$Chunk" (⟨"ReduceCluster$Chunk", "fill", "(JII)V"⟩ : MethodName) (⟨"ReduceCluster$Chunk", "fill", "(JII)V"⟩ : MethodName) ∈ xTT := xin2 80 rfl rfl
theorem wl_C_19 : Cond.methodLink "ReduceCluster$Chunk" 19 (⟨"java/lang/Math", "min", "(II)I"⟩ : MethodName) ∈ xTT := xin2 82 rfl rfl
theorem ws_Z_min : Cond.static (⟨"java/lang/Math", "min", "(II)I"⟩ : MethodName) ∈ xTT := xin2 83 rfl rfl
theorem wl_L_71 : Cond.methodLink "ReduceClusterLaw" 71 (⟨"ReduceClusterLaw", "worker", "(LReduceCluster;IZ)I"⟩ : MethodName) ∈ xTT := xin2 85 rfl rfl
theorem ws_L_worker : Cond.static (⟨"ReduceClusterLaw", "worker", "(LReduceCluster;IZ)I"⟩ : MethodName) ∈ xTT := xin2 86 rfl rfl
theorem wl_L_17 : Cond.methodLink "ReduceClusterLaw" 17 (⟨"ReduceCluster", "worker", "(IZ)V"⟩ : MethodName) ∈ xTT := xin2 88 rfl rfl
theorem wm_A_worker : Cond.instanceMethod (⟨"ReduceCluster", "worker", "(IZ)V"⟩ : MethodName) ∈ xTT := xin2 89 rfl rfl
theorem we_A_worker : Cond.selects "ReduceCluster" (⟨"ReduceCluster", "worker", "(IZ)V"⟩ : MethodName) (⟨"ReduceCluster", "worker", "(IZ)V"⟩ : MethodName) ∈ xTT := xin2 90 rfl rfl
theorem wl_A_95 : Cond.methodLink "ReduceCluster" 95 (⟨"ReduceCluster$Worker", "drop", "()V"⟩ : MethodName) ∈ xTT := xin2 92 rfl rfl
theorem wm_K_drop : Cond.instanceMethod (⟨"ReduceCluster$Worker", "drop", "()V"⟩ : MethodName) ∈ xTT := xin2 93 rfl rfl
theorem we_K_drop : Cond.selects "ReduceCluster$Worker" (⟨"ReduceCluster$Worker", "drop", "()V"⟩ : MethodName) (⟨"ReduceCluster$Worker", "drop", "()V"⟩ : MethodName) ∈ xTT := xin2 94 rfl rfl
theorem wl_A_98 : Cond.methodLink "ReduceCluster" 98 (⟨"ReduceCluster", "loseDisk", "(I)V"⟩ : MethodName) ∈ xTT := xin2 96 rfl rfl
theorem wm_A_loseDisk : Cond.instanceMethod (⟨"ReduceCluster", "loseDisk", "(I)V"⟩ : MethodName) ∈ xTT := xin2 98 rfl rfl
theorem wl_A_288 : Cond.methodLink "ReduceCluster" 288 (⟨"ReduceCluster", "giveUpReduceTasks", "()V"⟩ : MethodName) ∈ xTT := xin2 100 rfl rfl
theorem wm_A_giveUpReduceTasks : Cond.instanceMethod (⟨"ReduceCluster", "giveUpReduceTasks", "()V"⟩ : MethodName) ∈ xTT := xin2 102 rfl rfl
theorem wl_L_75 : Cond.methodLink "ReduceClusterLaw" 75 (⟨"ReduceClusterLaw", "speed", "(LReduceCluster;II)I"⟩ : MethodName) ∈ xTT := xin2 104 rfl rfl
theorem ws_L_speed : Cond.static (⟨"ReduceClusterLaw", "speed", "(LReduceCluster;II)I"⟩ : MethodName) ∈ xTT := xin2 105 rfl rfl
theorem wl_L_21 : Cond.methodLink "ReduceClusterLaw" 21 (⟨"ReduceCluster", "speed", "(II)V"⟩ : MethodName) ∈ xTT := xin2 107 rfl rfl
theorem wm_A_speed : Cond.instanceMethod (⟨"ReduceCluster", "speed", "(II)V"⟩ : MethodName) ∈ xTT := xin2 108 rfl rfl
theorem we_A_speed : Cond.selects "ReduceCluster" (⟨"ReduceCluster", "speed", "(II)V"⟩ : MethodName) (⟨"ReduceCluster", "speed", "(II)V"⟩ : MethodName) ∈ xTT := xin2 109 rfl rfl
theorem wl_L_84 : Cond.methodLink "ReduceClusterLaw" 84 (⟨"ReduceClusterLaw", "begin", "(LReduceCluster;IIII[J)I"⟩ : MethodName) ∈ xTT := xin2 111 rfl rfl
theorem ws_L_begin : Cond.static (⟨"ReduceClusterLaw", "begin", "(LReduceCluster;IIII[J)I"⟩ : MethodName) ∈ xTT := xin2 112 rfl rfl
theorem wl_L_25 : Cond.methodLink "ReduceClusterLaw" 25 (⟨"ReduceCluster", "begin", "(IIII)I"⟩ : MethodName) ∈ xTT := xin2 114 rfl rfl
theorem wm_A_begin : Cond.instanceMethod (⟨"ReduceCluster", "begin", "(IIII)I"⟩ : MethodName) ∈ xTT := xin2 115 rfl rfl
theorem we_A_begin : Cond.selects "ReduceCluster" (⟨"ReduceCluster", "begin", "(IIII)I"⟩ : MethodName) (⟨"ReduceCluster", "begin", "(IIII)I"⟩ : MethodName) ∈ xTT := xin2 116 rfl rfl
theorem wl_A_104 : Cond.methodLink "ReduceCluster" 104 (⟨"ReduceCluster$Job", "prepare", "(III)V"⟩ : MethodName) ∈ xTT := xin2 118 rfl rfl
theorem wm_J_prepare : Cond.instanceMethod (⟨"ReduceCluster$Job", "prepare", "(III)V"⟩ : MethodName) ∈ xTT := xin2 119 rfl rfl
theorem we_J_prepare : Cond.selects "ReduceCluster$Job" (⟨"ReduceCluster$Job", "prepare", "(III)V"⟩ : MethodName) (⟨"ReduceCluster$Job", "prepare", "(III)V"⟩ : MethodName) ∈ xTT := xin2 120 rfl rfl
theorem wl_A_110 : Cond.methodLink "ReduceCluster" 110 (⟨"ReduceCluster", "mapChunk", "(I)I"⟩ : MethodName) ∈ xTT := xin2 122 rfl rfl
theorem wm_A_mapChunk : Cond.instanceMethod (⟨"ReduceCluster", "mapChunk", "(I)I"⟩ : MethodName) ∈ xTT := xin2 124 rfl rfl
theorem wl_A_217 : Cond.methodLink "ReduceCluster" 217 (⟨"ReduceCluster$Job", "take", "(LReduceCluster$Pairs;)V"⟩ : MethodName) ∈ xTT := xin2 126 rfl rfl
theorem wm_J_take : Cond.instanceMethod (⟨"ReduceCluster$Job", "take", "(LReduceCluster$Pairs;)V"⟩ : MethodName) ∈ xTT := xin2 127 rfl rfl
theorem we_J_take : Cond.selects "ReduceCluster$Job" (⟨"ReduceCluster$Job", "take", "(LReduceCluster$Pairs;)V"⟩ : MethodName) (⟨"ReduceCluster$Job", "take", "(LReduceCluster$Pairs;)V"⟩ : MethodName) ∈ xTT := xin2 128 rfl rfl
theorem wl_J_50 : Cond.methodLink "ReduceCluster$Job" 50 (⟨"ReduceCluster$Job", "partitionOf", "(I)I"⟩ : MethodName) ∈ xTT := xin2 130 rfl rfl
theorem wm_J_partitionOf : Cond.instanceMethod (⟨"ReduceCluster$Job", "partitionOf", "(I)I"⟩ : MethodName) ∈ xTT := xin2 131 rfl rfl
theorem we_J_partitionOf : Cond.selects "ReduceCluster$Job" (⟨"ReduceCluster$Job", "partitionOf", "(I)I"⟩ : MethodName) (⟨"ReduceCluster$Job", "partitionOf", "(I)I"⟩ : MethodName) ∈ xTT := xin2 132 rfl rfl
theorem wl_J_37 : Cond.methodLink "ReduceCluster$Job" 37 (⟨"java/lang/Math", "max", "(II)I"⟩ : MethodName) ∈ xTT := xin2 134 rfl rfl
theorem ws_Z_max : Cond.static (⟨"java/lang/Math", "max", "(II)I"⟩ : MethodName) ∈ xTT := xin2 135 rfl rfl
theorem wl_J_43 : Cond.methodLink "ReduceCluster$Job" 43 (⟨"java/lang/Math", "floorMod", "(II)I"⟩ : MethodName) ∈ xTT := xin2 137 rfl rfl
theorem wl_J_57 : Cond.methodLink "ReduceCluster$Job" 57 (⟨"ReduceCluster$Pairs", "insertByKey", "(II)V"⟩ : MethodName) ∈ xTT := xin2 138 rfl rfl
theorem wm_P_insertByKey : Cond.instanceMethod (⟨"ReduceCluster$Pairs", "insertByKey", "(II)V"⟩ : MethodName) ∈ xTT := xin2 139 rfl rfl
theorem we_P_insertByKey : Cond.selects "ReduceCluster$Pairs" (⟨"ReduceCluster$Pairs", "insertByKey", "(II)V"⟩ : MethodName) (⟨"ReduceCluster$Pairs", "insertByKey", "(II)V"⟩ : MethodName) ∈ xTT := xin2 140 rfl rfl
theorem wl_A_114 : Cond.methodLink "ReduceCluster" 114 (⟨"ReduceCluster", "runsOf", "(II)I"⟩ : MethodName) ∈ xTT := xin2 142 rfl rfl
theorem ws_A_runsOf : Cond.static (⟨"ReduceCluster", "runsOf", "(II)I"⟩ : MethodName) ∈ xTT := xin2 143 rfl rfl
theorem wl_A_205 : Cond.methodLink "ReduceCluster" 205 (⟨"java/lang/Math", "max", "(II)I"⟩ : MethodName) ∈ xTT := xin2 145 rfl rfl
theorem wl_A_118 : Cond.methodLink "ReduceCluster" 118 (⟨"ReduceCluster$Task", "renew", "(II)V"⟩ : MethodName) ∈ xTT := xin2 146 rfl rfl
theorem wm_T_renew : Cond.instanceMethod (⟨"ReduceCluster$Task", "renew", "(II)V"⟩ : MethodName) ∈ xTT := xin2 147 rfl rfl
theorem we_T_renew : Cond.selects "ReduceCluster$Task" (⟨"ReduceCluster$Task", "renew", "(II)V"⟩ : MethodName) (⟨"ReduceCluster$Task", "renew", "(II)V"⟩ : MethodName) ∈ xTT := xin2 148 rfl rfl
theorem wl_L_88 : Cond.methodLink "ReduceClusterLaw" 88 (⟨"ReduceClusterLaw", "run", "(LReduceCluster;I[J)I"⟩ : MethodName) ∈ xTT := xin2 150 rfl rfl
theorem ws_L_run : Cond.static (⟨"ReduceClusterLaw", "run", "(LReduceCluster;I[J)I"⟩ : MethodName) ∈ xTT := xin2 151 rfl rfl
theorem wk_L_33 : Cond.classLink "ReduceClusterLaw" 33 "java/lang/ArithmeticException" ∈ xTT := xin2 153 rfl rfl
theorem wl_L_29 : Cond.methodLink "ReduceClusterLaw" 29 (⟨"ReduceCluster", "run", "(I)I"⟩ : MethodName) ∈ xTT := xin2 154 rfl rfl
theorem wm_A_run : Cond.instanceMethod (⟨"ReduceCluster", "run", "(I)I"⟩ : MethodName) ∈ xTT := xin2 155 rfl rfl
theorem we_A_run : Cond.selects "ReduceCluster" (⟨"ReduceCluster", "run", "(I)I"⟩ : MethodName) (⟨"ReduceCluster", "run", "(I)I"⟩ : MethodName) ∈ xTT := xin2 156 rfl rfl
theorem wl_A_127 : Cond.methodLink "ReduceCluster" 127 (⟨"ReduceCluster", "demandJob", "()V"⟩ : MethodName) ∈ xTT := xin2 158 rfl rfl
theorem wm_A_demandJob : Cond.instanceMethod (⟨"ReduceCluster", "demandJob", "()V"⟩ : MethodName) ∈ xTT := xin2 160 rfl rfl
theorem wl_A_130 : Cond.methodLink "ReduceCluster" 130 (⟨"ReduceCluster", "passTick", "()I"⟩ : MethodName) ∈ xTT := xin2 162 rfl rfl
theorem wm_A_passTick : Cond.instanceMethod (⟨"ReduceCluster", "passTick", "()I"⟩ : MethodName) ∈ xTT := xin2 164 rfl rfl
theorem wl_A_241 : Cond.methodLink "ReduceCluster" 241 (⟨"ReduceCluster", "giveTask", "(I)V"⟩ : MethodName) ∈ xTT := xin2 166 rfl rfl
theorem wm_A_giveTask : Cond.instanceMethod (⟨"ReduceCluster", "giveTask", "(I)V"⟩ : MethodName) ∈ xTT := xin2 168 rfl rfl
theorem wl_A_170 : Cond.methodLink "ReduceCluster" 170 (⟨"ReduceCluster", "allDone", "(Z)Z"⟩ : MethodName) ∈ xTT := xin2 170 rfl rfl
theorem wm_A_allDone : Cond.instanceMethod (⟨"ReduceCluster", "allDone", "(Z)Z"⟩ : MethodName) ∈ xTT := xin2 172 rfl rfl
theorem wl_A_162 : Cond.methodLink "ReduceCluster" 162 (⟨"ReduceCluster", "taskCount", "(Z)I"⟩ : MethodName) ∈ xTT := xin2 174 rfl rfl
theorem wm_A_taskCount : Cond.instanceMethod (⟨"ReduceCluster", "taskCount", "(Z)I"⟩ : MethodName) ∈ xTT := xin2 176 rfl rfl
theorem wl_A_180 : Cond.methodLink "ReduceCluster" 180 (⟨"ReduceCluster$Task", "isDone", "()Z"⟩ : MethodName) ∈ xTT := xin2 178 rfl rfl
theorem wm_T_isDone : Cond.instanceMethod (⟨"ReduceCluster$Task", "isDone", "()Z"⟩ : MethodName) ∈ xTT := xin2 179 rfl rfl
theorem we_T_isDone : Cond.selects "ReduceCluster$Task" (⟨"ReduceCluster$Task", "isDone", "()Z"⟩ : MethodName) (⟨"ReduceCluster$Task", "isDone", "()Z"⟩ : MethodName) ∈ xTT := xin2 180 rfl rfl
theorem wl_A_266 : Cond.methodLink "ReduceCluster" 266 (⟨"ReduceCluster", "freshTask", "(ZI)LReduceCluster$Task;"⟩ : MethodName) ∈ xTT := xin2 182 rfl rfl
theorem wm_A_freshTask : Cond.instanceMethod (⟨"ReduceCluster", "freshTask", "(ZI)LReduceCluster$Task;"⟩ : MethodName) ∈ xTT := xin2 184 rfl rfl
theorem wl_A_277 : Cond.methodLink "ReduceCluster" 277 (⟨"ReduceCluster", "doers", "(LReduceCluster$Task;)I"⟩ : MethodName) ∈ xTT := xin2 186 rfl rfl
theorem wm_A_doers : Cond.instanceMethod (⟨"ReduceCluster", "doers", "(LReduceCluster$Task;)I"⟩ : MethodName) ∈ xTT := xin2 188 rfl rfl
theorem wl_A_280 : Cond.methodLink "ReduceCluster" 280 (⟨"ReduceCluster", "canBeDone", "(LReduceCluster$Task;)Z"⟩ : MethodName) ∈ xTT := xin2 190 rfl rfl
theorem wm_A_canBeDone : Cond.instanceMethod (⟨"ReduceCluster", "canBeDone", "(LReduceCluster$Task;)Z"⟩ : MethodName) ∈ xTT := xin2 192 rfl rfl
theorem wl_A_284 : Cond.methodLink "ReduceCluster" 284 (⟨"ReduceCluster", "isHome", "(II)Z"⟩ : MethodName) ∈ xTT := xin2 194 rfl rfl
theorem ws_A_isHome : Cond.static (⟨"ReduceCluster", "isHome", "(II)Z"⟩ : MethodName) ∈ xTT := xin2 195 rfl rfl
theorem wl_A_270 : Cond.methodLink "ReduceCluster" 270 (⟨"ReduceCluster", "taskForSecondTime", "(Z)LReduceCluster$Task;"⟩ : MethodName) ∈ xTT := xin2 197 rfl rfl
theorem wm_A_taskForSecondTime : Cond.instanceMethod (⟨"ReduceCluster", "taskForSecondTime", "(Z)LReduceCluster$Task;"⟩ : MethodName) ∈ xTT := xin2 199 rfl rfl
theorem wl_A_187 : Cond.methodLink "ReduceCluster" 187 (⟨"ReduceCluster", "leastDoer", "(LReduceCluster$Task;)I"⟩ : MethodName) ∈ xTT := xin2 201 rfl rfl
theorem wm_A_leastDoer : Cond.instanceMethod (⟨"ReduceCluster", "leastDoer", "(LReduceCluster$Task;)I"⟩ : MethodName) ∈ xTT := xin2 203 rfl rfl
theorem wl_A_274 : Cond.methodLink "ReduceCluster" 274 (⟨"ReduceCluster$Worker", "take", "(LReduceCluster$Task;)V"⟩ : MethodName) ∈ xTT := xin2 205 rfl rfl
theorem wm_K_take : Cond.instanceMethod (⟨"ReduceCluster$Worker", "take", "(LReduceCluster$Task;)V"⟩ : MethodName) ∈ xTT := xin2 206 rfl rfl
theorem we_K_take : Cond.selects "ReduceCluster$Worker" (⟨"ReduceCluster$Worker", "take", "(LReduceCluster$Task;)V"⟩ : MethodName) (⟨"ReduceCluster$Worker", "take", "(LReduceCluster$Task;)V"⟩ : MethodName) ∈ xTT := xin2 207 rfl rfl
theorem wl_A_244 : Cond.methodLink "ReduceCluster" 244 (⟨"ReduceCluster$Worker", "doUnits", "()Z"⟩ : MethodName) ∈ xTT := xin2 209 rfl rfl
theorem wm_K_doUnits : Cond.instanceMethod (⟨"ReduceCluster$Worker", "doUnits", "()Z"⟩ : MethodName) ∈ xTT := xin2 210 rfl rfl
theorem we_K_doUnits : Cond.selects "ReduceCluster$Worker" (⟨"ReduceCluster$Worker", "doUnits", "()Z"⟩ : MethodName) (⟨"ReduceCluster$Worker", "doUnits", "()Z"⟩ : MethodName) ∈ xTT := xin2 211 rfl rfl
theorem wl_K_34 : Cond.methodLink "ReduceCluster$Worker" 34 (⟨"java/lang/Math", "min", "(II)I"⟩ : MethodName) ∈ xTT := xin2 213 rfl rfl
theorem wl_A_247 : Cond.methodLink "ReduceCluster" 247 (⟨"ReduceCluster", "completeTask", "(I)Z"⟩ : MethodName) ∈ xTT := xin2 214 rfl rfl
theorem wm_A_completeTask : Cond.instanceMethod (⟨"ReduceCluster", "completeTask", "(I)Z"⟩ : MethodName) ∈ xTT := xin2 216 rfl rfl
theorem wl_A_263 : Cond.methodLink "ReduceCluster" 263 (⟨"ReduceCluster$Job", "reduce", "(I)Z"⟩ : MethodName) ∈ xTT := xin2 218 rfl rfl
theorem wm_J_reduce : Cond.instanceMethod (⟨"ReduceCluster$Job", "reduce", "(I)Z"⟩ : MethodName) ∈ xTT := xin2 219 rfl rfl
theorem we_J_reduce : Cond.selects "ReduceCluster$Job" (⟨"ReduceCluster$Job", "reduce", "(I)Z"⟩ : MethodName) (⟨"ReduceCluster$Job", "reduce", "(I)Z"⟩ : MethodName) ∈ xTT := xin2 220 rfl rfl
theorem wl_J_61 : Cond.methodLink "ReduceCluster$Job" 61 (⟨"ReduceCluster$Pairs", "append", "(II)V"⟩ : MethodName) ∈ xTT := xin2 222 rfl rfl
theorem wl_J_64 : Cond.methodLink "ReduceCluster$Job" 64 (⟨"ReduceCluster$Job", "combine", "(III)I"⟩ : MethodName) ∈ xTT := xin2 223 rfl rfl
theorem ws_J_combine : Cond.static (⟨"ReduceCluster$Job", "combine", "(III)I"⟩ : MethodName) ∈ xTT := xin2 224 rfl rfl
theorem wl_A_137 : Cond.methodLink "ReduceCluster" 137 (⟨"ReduceCluster", "giveUpJob", "()V"⟩ : MethodName) ∈ xTT := xin2 226 rfl rfl
theorem wm_A_giveUpJob : Cond.instanceMethod (⟨"ReduceCluster", "giveUpJob", "()V"⟩ : MethodName) ∈ xTT := xin2 228 rfl rfl
theorem wl_A_251 : Cond.methodLink "ReduceCluster" 251 (⟨"ReduceCluster", "endJob", "()V"⟩ : MethodName) ∈ xTT := xin2 230 rfl rfl
theorem wm_A_endJob : Cond.instanceMethod (⟨"ReduceCluster", "endJob", "()V"⟩ : MethodName) ∈ xTT := xin2 232 rfl rfl
theorem wl_A_254 : Cond.methodLink "ReduceCluster" 254 (⟨"ReduceCluster", "anyoneWorks", "()Z"⟩ : MethodName) ∈ xTT := xin2 234 rfl rfl
theorem wm_A_anyoneWorks : Cond.instanceMethod (⟨"ReduceCluster", "anyoneWorks", "()Z"⟩ : MethodName) ∈ xTT := xin2 236 rfl rfl
theorem wk_A_134 : Cond.classLink "ReduceCluster" 134 "java/lang/ArithmeticException" ∈ xTT := xin2 238 rfl rfl
theorem wo_ArithmeticException : Cond.instantiable "java/lang/ArithmeticException" 6 ∈ xTT := xin2 239 rfl rfl
theorem wz_ArithmeticException : Cond.castable "java/lang/ArithmeticException" "java/lang/ArithmeticException" ∈ xTT := xin3 0 rfl rfl
theorem wl_A_136 : Cond.methodLink "ReduceCluster" 136 (⟨"java/lang/ArithmeticException", "<init>", "()V"⟩ : MethodName) ∈ xTT := xin3 7 rfl rfl
theorem wl_L_92 : Cond.methodLink "ReduceClusterLaw" 92 (⟨"ReduceClusterLaw", "stop", "(LReduceCluster;)I"⟩ : MethodName) ∈ xTT := xin3 13 rfl rfl
theorem ws_L_stop : Cond.static (⟨"ReduceClusterLaw", "stop", "(LReduceCluster;)I"⟩ : MethodName) ∈ xTT := xin3 14 rfl rfl
theorem wl_L_35 : Cond.methodLink "ReduceClusterLaw" 35 (⟨"ReduceCluster", "stop", "()V"⟩ : MethodName) ∈ xTT := xin3 16 rfl rfl
theorem wm_A_stop : Cond.instanceMethod (⟨"ReduceCluster", "stop", "()V"⟩ : MethodName) ∈ xTT := xin3 17 rfl rfl
theorem we_A_stop : Cond.selects "ReduceCluster" (⟨"ReduceCluster", "stop", "()V"⟩ : MethodName) (⟨"ReduceCluster", "stop", "()V"⟩ : MethodName) ∈ xTT := xin3 18 rfl rfl
theorem wl_L_96 : Cond.methodLink "ReduceClusterLaw" 96 (⟨"ReduceClusterLaw", "output", "(LReduceCluster;III[J)I"⟩ : MethodName) ∈ xTT := xin3 20 rfl rfl
theorem ws_L_output : Cond.static (⟨"ReduceClusterLaw", "output", "(LReduceCluster;III[J)I"⟩ : MethodName) ∈ xTT := xin3 21 rfl rfl
theorem wk_L_42 : Cond.classLink "ReduceClusterLaw" 42 "java/util/NoSuchElementException" ∈ xTT := xin3 23 rfl rfl
theorem wl_L_38 : Cond.methodLink "ReduceClusterLaw" 38 (⟨"ReduceCluster", "output", "(III)I"⟩ : MethodName) ∈ xTT := xin3 24 rfl rfl
theorem wm_A_output : Cond.instanceMethod (⟨"ReduceCluster", "output", "(III)I"⟩ : MethodName) ∈ xTT := xin3 25 rfl rfl
theorem we_A_output : Cond.selects "ReduceCluster" (⟨"ReduceCluster", "output", "(III)I"⟩ : MethodName) (⟨"ReduceCluster", "output", "(III)I"⟩ : MethodName) ∈ xTT := xin3 26 rfl rfl
theorem wk_A_143 : Cond.classLink "ReduceCluster" 143 "java/util/NoSuchElementException" ∈ xTT := xin3 28 rfl rfl
theorem wo_NoSuchElementException : Cond.instantiable "java/util/NoSuchElementException" 6 ∈ xTT := xin3 29 rfl rfl
theorem wz_NoSuchElementException : Cond.castable "java/util/NoSuchElementException" "java/util/NoSuchElementException" ∈ xTT := xin3 30 rfl rfl
theorem wl_A_145 : Cond.methodLink "ReduceCluster" 145 (⟨"java/util/NoSuchElementException", "<init>", "()V"⟩ : MethodName) ∈ xTT := xin3 37 rfl rfl
theorem wl_L_100 : Cond.methodLink "ReduceClusterLaw" 100 (⟨"ReduceClusterLaw", "find", "(LReduceCluster;I[J)I"⟩ : MethodName) ∈ xTT := xin3 43 rfl rfl
theorem ws_L_find : Cond.static (⟨"ReduceClusterLaw", "find", "(LReduceCluster;I[J)I"⟩ : MethodName) ∈ xTT := xin3 44 rfl rfl
theorem wl_L_44 : Cond.methodLink "ReduceClusterLaw" 44 (⟨"ReduceCluster", "find", "(I)I"⟩ : MethodName) ∈ xTT := xin3 46 rfl rfl
theorem wm_A_find : Cond.instanceMethod (⟨"ReduceCluster", "find", "(I)I"⟩ : MethodName) ∈ xTT := xin3 47 rfl rfl
theorem we_A_find : Cond.selects "ReduceCluster" (⟨"ReduceCluster", "find", "(I)I"⟩ : MethodName) (⟨"ReduceCluster", "find", "(I)I"⟩ : MethodName) ∈ xTT := xin3 48 rfl rfl
theorem wl_A_156 : Cond.methodLink "ReduceCluster" 156 (⟨"ReduceCluster$Job", "partitionOf", "(I)I"⟩ : MethodName) ∈ xTT := xin3 50 rfl rfl
theorem wl_A_159 : Cond.methodLink "ReduceCluster" 159 (⟨"ReduceCluster$Pairs", "indexOf", "(I)I"⟩ : MethodName) ∈ xTT := xin3 51 rfl rfl
theorem wm_P_indexOf : Cond.instanceMethod (⟨"ReduceCluster$Pairs", "indexOf", "(I)I"⟩ : MethodName) ∈ xTT := xin3 52 rfl rfl
theorem we_P_indexOf : Cond.selects "ReduceCluster$Pairs" (⟨"ReduceCluster$Pairs", "indexOf", "(I)I"⟩ : MethodName) (⟨"ReduceCluster$Pairs", "indexOf", "(I)I"⟩ : MethodName) ∈ xTT := xin3 53 rfl rfl
theorem wl_L_103 : Cond.methodLink "ReduceClusterLaw" 103 (⟨"ReduceClusterLaw", "task", "(LReduceCluster;ZII[J)I"⟩ : MethodName) ∈ xTT := xin3 55 rfl rfl
theorem ws_L_task : Cond.static (⟨"ReduceClusterLaw", "task", "(LReduceCluster;ZII[J)I"⟩ : MethodName) ∈ xTT := xin3 56 rfl rfl
theorem wl_L_47 : Cond.methodLink "ReduceClusterLaw" 47 (⟨"ReduceCluster", "task", "(ZII)I"⟩ : MethodName) ∈ xTT := xin3 58 rfl rfl
theorem wm_A_task : Cond.instanceMethod (⟨"ReduceCluster", "task", "(ZII)I"⟩ : MethodName) ∈ xTT := xin3 59 rfl rfl
theorem we_A_task : Cond.selects "ReduceCluster" (⟨"ReduceCluster", "task", "(ZII)I"⟩ : MethodName) (⟨"ReduceCluster", "task", "(ZII)I"⟩ : MethodName) ∈ xTT := xin3 60 rfl rfl
theorem wl_A_166 : Cond.methodLink "ReduceCluster" 166 (⟨"ReduceCluster", "stateOf", "(LReduceCluster$Task;)I"⟩ : MethodName) ∈ xTT := xin3 62 rfl rfl
theorem wm_A_stateOf : Cond.instanceMethod (⟨"ReduceCluster", "stateOf", "(LReduceCluster$Task;)I"⟩ : MethodName) ∈ xTT := xin3 64 rfl rfl
theorem wl_L_107 : Cond.methodLink "ReduceClusterLaw" 107 (⟨"ReduceClusterLaw", "ofWorker", "(LReduceCluster;II[J)I"⟩ : MethodName) ∈ xTT := xin3 66 rfl rfl
theorem ws_L_ofWorker : Cond.static (⟨"ReduceClusterLaw", "ofWorker", "(LReduceCluster;II[J)I"⟩ : MethodName) ∈ xTT := xin3 67 rfl rfl
theorem wl_L_51 : Cond.methodLink "ReduceClusterLaw" 51 (⟨"ReduceCluster", "ofWorker", "(II)I"⟩ : MethodName) ∈ xTT := xin3 69 rfl rfl
theorem wm_A_ofWorker : Cond.instanceMethod (⟨"ReduceCluster", "ofWorker", "(II)I"⟩ : MethodName) ∈ xTT := xin3 70 rfl rfl
theorem we_A_ofWorker : Cond.selects "ReduceCluster" (⟨"ReduceCluster", "ofWorker", "(II)I"⟩ : MethodName) (⟨"ReduceCluster", "ofWorker", "(II)I"⟩ : MethodName) ∈ xTT := xin3 71 rfl rfl
theorem wl_A_190 : Cond.methodLink "ReduceCluster" 190 (⟨"ReduceCluster$Worker", "taskNumber", "()I"⟩ : MethodName) ∈ xTT := xin3 73 rfl rfl
theorem wm_K_taskNumber : Cond.instanceMethod (⟨"ReduceCluster$Worker", "taskNumber", "()I"⟩ : MethodName) ∈ xTT := xin3 74 rfl rfl
theorem we_K_taskNumber : Cond.selects "ReduceCluster$Worker" (⟨"ReduceCluster$Worker", "taskNumber", "()I"⟩ : MethodName) (⟨"ReduceCluster$Worker", "taskNumber", "()I"⟩ : MethodName) ∈ xTT := xin3 75 rfl rfl
theorem wk_L_56 : Cond.classLink "ReduceClusterLaw" 56 "ReduceClusterModel" ∈ xTT := xin3 77 rfl rfl
theorem wo_M : Cond.instantiable "ReduceClusterModel" 31 ∈ xTT := xin3 78 rfl rfl
theorem wl_L_58 : Cond.methodLink "ReduceClusterLaw" 58 (⟨"ReduceClusterModel", "<init>", "()V"⟩ : MethodName) ∈ xTT := xin3 79 rfl rfl
theorem wm_M_init : Cond.instanceMethod (⟨"ReduceClusterModel", "<init>", "()V"⟩ : MethodName) ∈ xTT := xin3 80 rfl rfl
theorem wl_M_1 : Cond.methodLink "ReduceClusterModel" 1 (⟨"java/lang/Object", "<init>", "()V"⟩ : MethodName) ∈ xTT := xin3 82 rfl rfl
theorem wv_M_47 : Cond.constant "ReduceClusterModel" 47 (-2147483648) ∈ xTT := xin3 83 rfl rfl
theorem wf_M_7 : Cond.fieldLink "ReduceClusterModel" 7 "ReduceClusterModel" "size" "[I" ∈ xTT := xin3 84 rfl rfl
theorem wf_M_13 : Cond.fieldLink "ReduceClusterModel" 13 "ReduceClusterModel" "numbers" "[I" ∈ xTT := xin3 85 rfl rfl
theorem wf_M_16 : Cond.fieldLink "ReduceClusterModel" 16 "ReduceClusterModel" "speed" "[I" ∈ xTT := xin3 86 rfl rfl
theorem wf_M_19 : Cond.fieldLink "ReduceClusterModel" 19 "ReduceClusterModel" "task" "[I" ∈ xTT := xin3 87 rfl rfl
theorem wf_M_22 : Cond.fieldLink "ReduceClusterModel" 22 "ReduceClusterModel" "left" "[I" ∈ xTT := xin3 88 rfl rfl
theorem wf_M_25 : Cond.fieldLink "ReduceClusterModel" 25 "ReduceClusterModel" "units" "[I" ∈ xTT := xin3 89 rfl rfl
theorem wf_M_28 : Cond.fieldLink "ReduceClusterModel" 28 "ReduceClusterModel" "up" "[Z" ∈ xTT := xin3 90 rfl rfl
theorem wf_M_32 : Cond.fieldLink "ReduceClusterModel" 32 "ReduceClusterModel" "done" "[Z" ∈ xTT := xin3 91 rfl rfl
theorem wf_M_35 : Cond.fieldLink "ReduceClusterModel" 35 "ReduceClusterModel" "doneBy" "[I" ∈ xTT := xin3 92 rfl rfl
theorem wf_M_38 : Cond.fieldLink "ReduceClusterModel" 38 "ReduceClusterModel" "key" "[I" ∈ xTT := xin3 93 rfl rfl
theorem wf_M_41 : Cond.fieldLink "ReduceClusterModel" 41 "ReduceClusterModel" "value" "[I" ∈ xTT := xin3 94 rfl rfl
theorem wf_M_44 : Cond.fieldLink "ReduceClusterModel" 44 "ReduceClusterModel" "perChunk" "[I" ∈ xTT := xin3 95 rfl rfl
theorem wf_M_86 : Cond.fieldLink "ReduceClusterModel" 86 "ReduceClusterModel" "pairs" "I" ∈ xTT := xin3 96 rfl rfl
theorem wf_M_79 : Cond.fieldLink "ReduceClusterModel" 79 "ReduceClusterModel" "chunks" "I" ∈ xTT := xin3 97 rfl rfl
theorem wf_M_64 : Cond.fieldLink "ReduceClusterModel" 64 "ReduceClusterModel" "thrown" "I" ∈ xTT := xin3 98 rfl rfl
theorem wf_M_48 : Cond.fieldLink "ReduceClusterModel" 48 "ReduceClusterModel" "least" "I" ∈ xTT := xin3 99 rfl rfl
theorem wf_M_106 : Cond.fieldLink "ReduceClusterModel" 106 "ReduceClusterModel" "jobLeast" "I" ∈ xTT := xin3 100 rfl rfl
theorem wf_M_52 : Cond.fieldLink "ReduceClusterModel" 52 "ReduceClusterModel" "mapper" "I" ∈ xTT := xin3 101 rfl rfl
theorem wf_M_109 : Cond.fieldLink "ReduceClusterModel" 109 "ReduceClusterModel" "reducer" "I" ∈ xTT := xin3 102 rfl rfl
theorem wf_M_103 : Cond.fieldLink "ReduceClusterModel" 103 "ReduceClusterModel" "partitions" "I" ∈ xTT := xin3 103 rfl rfl
theorem wf_M_125 : Cond.fieldLink "ReduceClusterModel" 125 "ReduceClusterModel" "buffer" "I" ∈ xTT := xin3 104 rfl rfl
theorem wf_M_170 : Cond.fieldLink "ReduceClusterModel" 170 "ReduceClusterModel" "ticks" "I" ∈ xTT := xin3 105 rfl rfl
theorem wf_M_164 : Cond.fieldLink "ReduceClusterModel" 164 "ReduceClusterModel" "ended" "I" ∈ xTT := xin3 106 rfl rfl
theorem wf_M_154 : Cond.fieldLink "ReduceClusterModel" 154 "ReduceClusterModel" "seconds" "I" ∈ xTT := xin3 107 rfl rfl
theorem wf_M_118 : Cond.fieldLink "ReduceClusterModel" 118 "ReduceClusterModel" "undone" "I" ∈ xTT := xin3 108 rfl rfl
theorem wf_M_167 : Cond.fieldLink "ReduceClusterModel" 167 "ReduceClusterModel" "outPartitions" "I" ∈ xTT := xin3 109 rfl rfl
theorem wf_M_75 : Cond.fieldLink "ReduceClusterModel" 75 "ReduceClusterModel" "job" "Z" ∈ xTT := xin3 110 rfl rfl
theorem wf_M_112 : Cond.fieldLink "ReduceClusterModel" 112 "ReduceClusterModel" "any" "Z" ∈ xTT := xin3 111 rfl rfl
theorem wf_M_55 : Cond.fieldLink "ReduceClusterModel" 55 "ReduceClusterModel" "outKey" "[I" ∈ xTT := xin3 112 rfl rfl
theorem wf_M_58 : Cond.fieldLink "ReduceClusterModel" 58 "ReduceClusterModel" "outValue" "[I" ∈ xTT := xin3 113 rfl rfl
theorem wf_M_61 : Cond.fieldLink "ReduceClusterModel" 61 "ReduceClusterModel" "outCount" "[I" ∈ xTT := xin3 114 rfl rfl
theorem wa_boolean : Cond.arrayClass FieldType.boolean ∈ xTT := xin3 178 rfl rfl
theorem wl_L_67 : Cond.methodLink "ReduceClusterLaw" 67 (⟨"ReduceClusterModel", "thrown", "()I"⟩ : MethodName) ∈ xTT := xin3 179 rfl rfl
theorem wm_M_thrown : Cond.instanceMethod (⟨"ReduceClusterModel", "thrown", "()I"⟩ : MethodName) ∈ xTT := xin3 180 rfl rfl
theorem we_M_thrown : Cond.selects "ReduceClusterModel" (⟨"ReduceClusterModel", "thrown", "()I"⟩ : MethodName) (⟨"ReduceClusterModel", "thrown", "()I"⟩ : MethodName) ∈ xTT := xin3 181 rfl rfl
theorem wl_L_66 : Cond.methodLink "ReduceClusterLaw" 66 (⟨"ReduceClusterModel", "chunk", "(JII)I"⟩ : MethodName) ∈ xTT := xin3 183 rfl rfl
theorem wm_M_chunk : Cond.instanceMethod (⟨"ReduceClusterModel", "chunk", "(JII)I"⟩ : MethodName) ∈ xTT := xin3 184 rfl rfl
theorem we_M_chunk : Cond.selects "ReduceClusterModel" (⟨"ReduceClusterModel", "chunk", "(JII)I"⟩ : MethodName) (⟨"ReduceClusterModel", "chunk", "(JII)I"⟩ : MethodName) ∈ xTT := xin3 185 rfl rfl
theorem wl_M_67 : Cond.methodLink "ReduceClusterModel" 67 (⟨"ReduceClusterModel", "in", "(III)Z"⟩ : MethodName) ∈ xTT := xin3 187 rfl rfl
theorem ws_M_in : Cond.static (⟨"ReduceClusterModel", "in", "(III)Z"⟩ : MethodName) ∈ xTT := xin3 188 rfl rfl
theorem wl_M_71 : Cond.methodLink "ReduceClusterModel" 71 (⟨"ReduceClusterModel", "bad", "(Z)Z"⟩ : MethodName) ∈ xTT := xin3 190 rfl rfl
theorem wm_M_bad : Cond.instanceMethod (⟨"ReduceClusterModel", "bad", "(Z)Z"⟩ : MethodName) ∈ xTT := xin3 192 rfl rfl
theorem wl_M_82 : Cond.methodLink "ReduceClusterModel" 82 (⟨"ReduceClusterModel", "fail", "(I)I"⟩ : MethodName) ∈ xTT := xin3 194 rfl rfl
theorem wm_M_fail : Cond.instanceMethod (⟨"ReduceClusterModel", "fail", "(I)I"⟩ : MethodName) ∈ xTT := xin3 196 rfl rfl
theorem wl_L_74 : Cond.methodLink "ReduceClusterLaw" 74 (⟨"ReduceClusterModel", "worker", "(IZ)V"⟩ : MethodName) ∈ xTT := xin3 198 rfl rfl
theorem wm_M_worker : Cond.instanceMethod (⟨"ReduceClusterModel", "worker", "(IZ)V"⟩ : MethodName) ∈ xTT := xin3 199 rfl rfl
theorem we_M_worker : Cond.selects "ReduceClusterModel" (⟨"ReduceClusterModel", "worker", "(IZ)V"⟩ : MethodName) (⟨"ReduceClusterModel", "worker", "(IZ)V"⟩ : MethodName) ∈ xTT := xin3 200 rfl rfl
theorem wl_M_121 : Cond.methodLink "ReduceClusterModel" 121 (⟨"ReduceClusterModel", "giveUp", "(Z)V"⟩ : MethodName) ∈ xTT := xin3 202 rfl rfl
theorem wm_M_giveUp : Cond.instanceMethod (⟨"ReduceClusterModel", "giveUp", "(Z)V"⟩ : MethodName) ∈ xTT := xin3 204 rfl rfl
theorem wl_L_78 : Cond.methodLink "ReduceClusterLaw" 78 (⟨"ReduceClusterModel", "speed", "(II)V"⟩ : MethodName) ∈ xTT := xin3 206 rfl rfl
theorem wm_M_speed : Cond.instanceMethod (⟨"ReduceClusterModel", "speed", "(II)V"⟩ : MethodName) ∈ xTT := xin3 207 rfl rfl
theorem we_M_speed : Cond.selects "ReduceClusterModel" (⟨"ReduceClusterModel", "speed", "(II)V"⟩ : MethodName) (⟨"ReduceClusterModel", "speed", "(II)V"⟩ : MethodName) ∈ xTT := xin3 208 rfl rfl
theorem wl_L_83 : Cond.methodLink "ReduceClusterLaw" 83 (⟨"ReduceClusterModel", "filter", "(I)V"⟩ : MethodName) ∈ xTT := xin3 210 rfl rfl
theorem wm_M_filter : Cond.instanceMethod (⟨"ReduceClusterModel", "filter", "(I)V"⟩ : MethodName) ∈ xTT := xin3 211 rfl rfl
theorem we_M_filter : Cond.selects "ReduceClusterModel" (⟨"ReduceClusterModel", "filter", "(I)V"⟩ : MethodName) (⟨"ReduceClusterModel", "filter", "(I)V"⟩ : MethodName) ∈ xTT := xin3 212 rfl rfl
theorem wl_L_87 : Cond.methodLink "ReduceClusterLaw" 87 (⟨"ReduceClusterModel", "begin", "(IIII)I"⟩ : MethodName) ∈ xTT := xin3 214 rfl rfl
theorem wm_M_begin : Cond.instanceMethod (⟨"ReduceClusterModel", "begin", "(IIII)I"⟩ : MethodName) ∈ xTT := xin3 215 rfl rfl
theorem we_M_begin : Cond.selects "ReduceClusterModel" (⟨"ReduceClusterModel", "begin", "(IIII)I"⟩ : MethodName) (⟨"ReduceClusterModel", "begin", "(IIII)I"⟩ : MethodName) ∈ xTT := xin3 216 rfl rfl
theorem wl_M_128 : Cond.methodLink "ReduceClusterModel" 128 (⟨"ReduceClusterModel", "mapAll", "()V"⟩ : MethodName) ∈ xTT := xin3 218 rfl rfl
theorem wm_M_mapAll : Cond.instanceMethod (⟨"ReduceClusterModel", "mapAll", "()V"⟩ : MethodName) ∈ xTT := xin3 220 rfl rfl
theorem wl_M_99 : Cond.methodLink "ReduceClusterModel" 99 (⟨"ReduceClusterModel", "map", "(I)V"⟩ : MethodName) ∈ xTT := xin3 222 rfl rfl
theorem wm_M_map : Cond.instanceMethod (⟨"ReduceClusterModel", "map", "(I)V"⟩ : MethodName) ∈ xTT := xin3 224 rfl rfl
theorem wl_M_89 : Cond.methodLink "ReduceClusterModel" 89 (⟨"ReduceClusterModel", "modulo", "(II)I"⟩ : MethodName) ∈ xTT := xin3 226 rfl rfl
theorem ws_M_modulo : Cond.static (⟨"ReduceClusterModel", "modulo", "(II)I"⟩ : MethodName) ∈ xTT := xin3 227 rfl rfl
theorem wl_M_93 : Cond.methodLink "ReduceClusterModel" 93 (⟨"ReduceClusterModel", "pair", "(II)V"⟩ : MethodName) ∈ xTT := xin3 229 rfl rfl
theorem wm_M_pair : Cond.instanceMethod (⟨"ReduceClusterModel", "pair", "(II)V"⟩ : MethodName) ∈ xTT := xin3 231 rfl rfl
theorem wv_M_97 : Cond.constantLong "ReduceClusterModel" 97 10 ∈ xTT := xin3 233 rfl rfl
theorem wl_M_131 : Cond.methodLink "ReduceClusterModel" 131 (⟨"ReduceClusterModel", "sort", "()V"⟩ : MethodName) ∈ xTT := xin3 234 rfl rfl
theorem wm_M_sort : Cond.instanceMethod (⟨"ReduceClusterModel", "sort", "()V"⟩ : MethodName) ∈ xTT := xin3 236 rfl rfl
theorem wl_L_91 : Cond.methodLink "ReduceClusterLaw" 91 (⟨"ReduceClusterModel", "run", "(I)I"⟩ : MethodName) ∈ xTT := xin3 238 rfl rfl
theorem wm_M_run : Cond.instanceMethod (⟨"ReduceClusterModel", "run", "(I)I"⟩ : MethodName) ∈ xTT := xin3 239 rfl rfl
theorem we_M_run : Cond.selects "ReduceClusterModel" (⟨"ReduceClusterModel", "run", "(I)I"⟩ : MethodName) (⟨"ReduceClusterModel", "run", "(I)I"⟩ : MethodName) ∈ xTT := xin4 0 rfl rfl
theorem wl_M_182 : Cond.methodLink "ReduceClusterModel" 182 (⟨"ReduceClusterModel", "tick", "()V"⟩ : MethodName) ∈ xTT := xin4 2 rfl rfl
theorem wm_M_tick : Cond.instanceMethod (⟨"ReduceClusterModel", "tick", "()V"⟩ : MethodName) ∈ xTT := xin4 4 rfl rfl
theorem wl_M_173 : Cond.methodLink "ReduceClusterModel" 173 (⟨"ReduceClusterModel", "get", "(I)V"⟩ : MethodName) ∈ xTT := xin4 6 rfl rfl
theorem wm_M_get : Cond.instanceMethod (⟨"ReduceClusterModel", "get", "(I)V"⟩ : MethodName) ∈ xTT := xin4 8 rfl rfl
theorem wl_M_140 : Cond.methodLink "ReduceClusterModel" 140 (⟨"ReduceClusterModel", "mapsDone", "()Z"⟩ : MethodName) ∈ xTT := xin4 10 rfl rfl
theorem wm_M_mapsDone : Cond.instanceMethod (⟨"ReduceClusterModel", "mapsDone", "()Z"⟩ : MethodName) ∈ xTT := xin4 12 rfl rfl
theorem wl_M_144 : Cond.methodLink "ReduceClusterModel" 144 (⟨"ReduceClusterModel", "readable", "(I)Z"⟩ : MethodName) ∈ xTT := xin4 14 rfl rfl
theorem wm_M_readable : Cond.instanceMethod (⟨"ReduceClusterModel", "readable", "(I)Z"⟩ : MethodName) ∈ xTT := xin4 16 rfl rfl
theorem wl_M_148 : Cond.methodLink "ReduceClusterModel" 148 (⟨"ReduceClusterModel", "doing", "(I)I"⟩ : MethodName) ∈ xTT := xin4 18 rfl rfl
theorem wm_M_doing : Cond.instanceMethod (⟨"ReduceClusterModel", "doing", "(I)I"⟩ : MethodName) ∈ xTT := xin4 20 rfl rfl
theorem wl_M_151 : Cond.methodLink "ReduceClusterModel" 151 (⟨"ReduceClusterModel", "leftOf", "(I)I"⟩ : MethodName) ∈ xTT := xin4 22 rfl rfl
theorem wm_M_leftOf : Cond.instanceMethod (⟨"ReduceClusterModel", "leftOf", "(I)I"⟩ : MethodName) ∈ xTT := xin4 24 rfl rfl
theorem wl_M_157 : Cond.methodLink "ReduceClusterModel" 157 (⟨"ReduceClusterModel", "needs", "(I)I"⟩ : MethodName) ∈ xTT := xin4 26 rfl rfl
theorem wm_M_needs : Cond.instanceMethod (⟨"ReduceClusterModel", "needs", "(I)I"⟩ : MethodName) ∈ xTT := xin4 28 rfl rfl
theorem wl_M_134 : Cond.methodLink "ReduceClusterModel" 134 (⟨"ReduceClusterModel", "runs", "(I)I"⟩ : MethodName) ∈ xTT := xin4 30 rfl rfl
theorem wm_M_runs : Cond.instanceMethod (⟨"ReduceClusterModel", "runs", "(I)I"⟩ : MethodName) ∈ xTT := xin4 32 rfl rfl
theorem wl_M_137 : Cond.methodLink "ReduceClusterModel" 137 (⟨"ReduceClusterModel", "pairsOf", "(I)I"⟩ : MethodName) ∈ xTT := xin4 34 rfl rfl
theorem wm_M_pairsOf : Cond.instanceMethod (⟨"ReduceClusterModel", "pairsOf", "(I)I"⟩ : MethodName) ∈ xTT := xin4 36 rfl rfl
theorem wl_M_176 : Cond.methodLink "ReduceClusterModel" 176 (⟨"ReduceClusterModel", "finish", "(I)V"⟩ : MethodName) ∈ xTT := xin4 38 rfl rfl
theorem wm_M_finish : Cond.instanceMethod (⟨"ReduceClusterModel", "finish", "(I)V"⟩ : MethodName) ∈ xTT := xin4 40 rfl rfl
theorem wl_M_160 : Cond.methodLink "ReduceClusterModel" 160 (⟨"ReduceClusterModel", "reduce", "(IZ)I"⟩ : MethodName) ∈ xTT := xin4 42 rfl rfl
theorem wm_M_reduce : Cond.instanceMethod (⟨"ReduceClusterModel", "reduce", "(IZ)I"⟩ : MethodName) ∈ xTT := xin4 44 rfl rfl
theorem wl_M_115 : Cond.methodLink "ReduceClusterModel" 115 (⟨"ReduceClusterModel", "reduced", "(I)I"⟩ : MethodName) ∈ xTT := xin4 46 rfl rfl
theorem wm_M_reduced : Cond.instanceMethod (⟨"ReduceClusterModel", "reduced", "(I)I"⟩ : MethodName) ∈ xTT := xin4 48 rfl rfl
theorem wl_M_179 : Cond.methodLink "ReduceClusterModel" 179 (⟨"ReduceClusterModel", "end", "()V"⟩ : MethodName) ∈ xTT := xin4 50 rfl rfl
theorem wm_M_end : Cond.instanceMethod (⟨"ReduceClusterModel", "end", "()V"⟩ : MethodName) ∈ xTT := xin4 52 rfl rfl
theorem wl_L_95 : Cond.methodLink "ReduceClusterLaw" 95 (⟨"ReduceClusterModel", "stop", "()V"⟩ : MethodName) ∈ xTT := xin4 54 rfl rfl
theorem wm_M_stop : Cond.instanceMethod (⟨"ReduceClusterModel", "stop", "()V"⟩ : MethodName) ∈ xTT := xin4 55 rfl rfl
theorem we_M_stop : Cond.selects "ReduceClusterModel" (⟨"ReduceClusterModel", "stop", "()V"⟩ : MethodName) (⟨"ReduceClusterModel", "stop", "()V"⟩ : MethodName) ∈ xTT := xin4 56 rfl rfl
theorem wl_L_99 : Cond.methodLink "ReduceClusterLaw" 99 (⟨"ReduceClusterModel", "output", "(III)I"⟩ : MethodName) ∈ xTT := xin4 58 rfl rfl
theorem wm_M_output : Cond.instanceMethod (⟨"ReduceClusterModel", "output", "(III)I"⟩ : MethodName) ∈ xTT := xin4 59 rfl rfl
theorem we_M_output : Cond.selects "ReduceClusterModel" (⟨"ReduceClusterModel", "output", "(III)I"⟩ : MethodName) (⟨"ReduceClusterModel", "output", "(III)I"⟩ : MethodName) ∈ xTT := xin4 60 rfl rfl
theorem wl_L_102 : Cond.methodLink "ReduceClusterLaw" 102 (⟨"ReduceClusterModel", "find", "(I)I"⟩ : MethodName) ∈ xTT := xin4 62 rfl rfl
theorem wm_M_find : Cond.instanceMethod (⟨"ReduceClusterModel", "find", "(I)I"⟩ : MethodName) ∈ xTT := xin4 63 rfl rfl
theorem we_M_find : Cond.selects "ReduceClusterModel" (⟨"ReduceClusterModel", "find", "(I)I"⟩ : MethodName) (⟨"ReduceClusterModel", "find", "(I)I"⟩ : MethodName) ∈ xTT := xin4 64 rfl rfl
theorem wl_L_106 : Cond.methodLink "ReduceClusterLaw" 106 (⟨"ReduceClusterModel", "task", "(ZII)I"⟩ : MethodName) ∈ xTT := xin4 66 rfl rfl
theorem wm_M_task : Cond.instanceMethod (⟨"ReduceClusterModel", "task", "(ZII)I"⟩ : MethodName) ∈ xTT := xin4 67 rfl rfl
theorem we_M_task : Cond.selects "ReduceClusterModel" (⟨"ReduceClusterModel", "task", "(ZII)I"⟩ : MethodName) (⟨"ReduceClusterModel", "task", "(ZII)I"⟩ : MethodName) ∈ xTT := xin4 68 rfl rfl
theorem wl_L_110 : Cond.methodLink "ReduceClusterLaw" 110 (⟨"ReduceClusterModel", "ofWorker", "(II)I"⟩ : MethodName) ∈ xTT := xin4 70 rfl rfl
theorem wm_M_ofWorker : Cond.instanceMethod (⟨"ReduceClusterModel", "ofWorker", "(II)I"⟩ : MethodName) ∈ xTT := xin4 71 rfl rfl
theorem we_M_ofWorker : Cond.selects "ReduceClusterModel" (⟨"ReduceClusterModel", "ofWorker", "(II)I"⟩ : MethodName) (⟨"ReduceClusterModel", "ofWorker", "(II)I"⟩ : MethodName) ∈ xTT := xin4 72 rfl rfl
theorem wl_L_114 : Cond.methodLink "ReduceClusterLaw" 114 (⟨"ReduceClusterModel", "count", "(I)I"⟩ : MethodName) ∈ xTT := xin4 74 rfl rfl
theorem wm_M_count : Cond.instanceMethod (⟨"ReduceClusterModel", "count", "(I)I"⟩ : MethodName) ∈ xTT := xin4 75 rfl rfl
theorem we_M_count : Cond.selects "ReduceClusterModel" (⟨"ReduceClusterModel", "count", "(I)I"⟩ : MethodName) (⟨"ReduceClusterModel", "count", "(I)I"⟩ : MethodName) ∈ xTT := xin4 76 rfl rfl
theorem wv_L_59 : Cond.constantLong "ReduceClusterLaw" 59 4294967295 ∈ xTT := xin4 78 rfl rfl
theorem wa_long : Cond.arrayClass FieldType.long ∈ xTT := xin4 79 rfl rfl
theorem plc_A : plainName "ReduceCluster" = true := by decide +kernel
theorem plc_C : plainName "ReduceCluster$Chunk" = true := by decide +kernel
theorem plc_J : plainName "ReduceCluster$Job" = true := by decide +kernel
theorem plc_P : plainName "ReduceCluster$Pairs" = true := by decide +kernel
theorem plc_T : plainName "ReduceCluster$Task" = true := by decide +kernel
theorem plc_K : plainName "ReduceCluster$Worker" = true := by decide +kernel
theorem plc_M : plainName "ReduceClusterModel" = true := by decide +kernel
theorem plc_L : plainName "ReduceClusterLaw" = true := by decide +kernel
theorem pl_A_init : plainFor (xMn m_A_init) = true := plainFor_of_name plc_A
theorem np_A_init : (parseMethodDescriptor (xMn m_A_init).desc).map (fun d => d.parameters.length) = some 0 := by decide +kernel
theorem pl_P_init : plainFor (xMn m_P_init) = true := plainFor_of_name plc_P
theorem np_P_init : (parseMethodDescriptor (xMn m_P_init).desc).map (fun d => d.parameters.length) = some 1 := by decide +kernel
theorem pl_J_init : plainFor (xMn m_J_init) = true := plainFor_of_name plc_J
theorem np_J_init : (parseMethodDescriptor (xMn m_J_init).desc).map (fun d => d.parameters.length) = some 0 := by decide +kernel
theorem pl_K_init : plainFor (xMn m_K_init) = true := plainFor_of_name plc_K
theorem np_K_init : (parseMethodDescriptor (xMn m_K_init).desc).map (fun d => d.parameters.length) = some 0 := by decide +kernel
theorem pl_C_init : plainFor (xMn m_C_init) = true := plainFor_of_name plc_C
theorem np_C_init : (parseMethodDescriptor (xMn m_C_init).desc).map (fun d => d.parameters.length) = some 0 := by decide +kernel
theorem pl_T_init : plainFor (xMn m_T_init) = true := plainFor_of_name plc_T
theorem np_T_init : (parseMethodDescriptor (xMn m_T_init).desc).map (fun d => d.parameters.length) = some 2 := by decide +kernel
theorem pl_A_filter : plainFor (xMn m_A_filter) = true := plainFor_of_name plc_A
theorem np_A_filter : (parseMethodDescriptor (xMn m_A_filter).desc).map (fun d => d.parameters.length) = some 1 := by decide +kernel
theorem pl_A_count : plainFor (xMn m_A_count) = true := plainFor_of_name plc_A
theorem np_A_count : (parseMethodDescriptor (xMn m_A_count).desc).map (fun d => d.parameters.length) = some 1 := by decide +kernel
theorem pl_A_pairsOfChunks : plainFor (xMn m_A_pairsOfChunks) = true := plainFor_of_name plc_A
theorem np_A_pairsOfChunks : (parseMethodDescriptor (xMn m_A_pairsOfChunks).desc).map (fun d => d.parameters.length) = some 0 := by decide +kernel
theorem pl_A_mapNumber : plainFor (xMn m_A_mapNumber) = true := plainFor_of_name plc_A
theorem np_A_mapNumber : (parseMethodDescriptor (xMn m_A_mapNumber).desc).map (fun d => d.parameters.length) = some 3 := by decide +kernel
theorem pl_Z_floorMod : plainFor (xMn m_Z_floorMod) = true := by decide +kernel
theorem np_Z_floorMod : (parseMethodDescriptor (xMn m_Z_floorMod).desc).map (fun d => d.parameters.length) = some 2 := by decide +kernel
theorem pl_P_append : plainFor (xMn m_P_append) = true := plainFor_of_name plc_P
theorem np_P_append : (parseMethodDescriptor (xMn m_P_append).desc).map (fun d => d.parameters.length) = some 2 := by decide +kernel
theorem pl_A_mapDigits : plainFor (xMn m_A_mapDigits) = true := plainFor_of_name plc_A
theorem np_A_mapDigits : (parseMethodDescriptor (xMn m_A_mapDigits).desc).map (fun d => d.parameters.length) = some 2 := by decide +kernel
theorem pl_Z_abs : plainFor (xMn m_Z_abs) = true := by decide +kernel
theorem np_Z_abs : (parseMethodDescriptor (xMn m_Z_abs).desc).map (fun d => d.parameters.length) = some 1 := by decide +kernel
theorem pl_L_chunk : plainFor (xMn m_L_chunk) = true := plainFor_of_name plc_L
theorem np_L_chunk : (parseMethodDescriptor (xMn m_L_chunk).desc).map (fun d => d.parameters.length) = some 5 := by decide +kernel
theorem pl_A_chunk : plainFor (xMn m_A_chunk) = true := plainFor_of_name plc_A
theorem np_A_chunk : (parseMethodDescriptor (xMn m_A_chunk).desc).map (fun d => d.parameters.length) = some 3 := by decide +kernel
theorem pl_A_demandRange : plainFor (xMn m_A_demandRange) = true := plainFor_of_name plc_A
theorem np_A_demandRange : (parseMethodDescriptor (xMn m_A_demandRange).desc).map (fun d => d.parameters.length) = some 3 := by decide +kernel
theorem pl_C_fill : plainFor (xMn m_C_fill) = true := plainFor_of_name plc_C
theorem np_C_fill : (parseMethodDescriptor (xMn m_C_fill).desc).map (fun d => d.parameters.length) = some 3 := by decide +kernel
theorem pl_Z_min : plainFor (xMn m_Z_min) = true := by decide +kernel
theorem np_Z_min : (parseMethodDescriptor (xMn m_Z_min).desc).map (fun d => d.parameters.length) = some 2 := by decide +kernel
theorem pl_L_worker : plainFor (xMn m_L_worker) = true := plainFor_of_name plc_L
theorem np_L_worker : (parseMethodDescriptor (xMn m_L_worker).desc).map (fun d => d.parameters.length) = some 3 := by decide +kernel
theorem pl_A_worker : plainFor (xMn m_A_worker) = true := plainFor_of_name plc_A
theorem np_A_worker : (parseMethodDescriptor (xMn m_A_worker).desc).map (fun d => d.parameters.length) = some 2 := by decide +kernel
theorem pl_K_drop : plainFor (xMn m_K_drop) = true := plainFor_of_name plc_K
theorem np_K_drop : (parseMethodDescriptor (xMn m_K_drop).desc).map (fun d => d.parameters.length) = some 0 := by decide +kernel
theorem pl_A_loseDisk : plainFor (xMn m_A_loseDisk) = true := plainFor_of_name plc_A
theorem np_A_loseDisk : (parseMethodDescriptor (xMn m_A_loseDisk).desc).map (fun d => d.parameters.length) = some 1 := by decide +kernel
theorem pl_A_giveUpReduceTasks : plainFor (xMn m_A_giveUpReduceTasks) = true := plainFor_of_name plc_A
theorem np_A_giveUpReduceTasks : (parseMethodDescriptor (xMn m_A_giveUpReduceTasks).desc).map (fun d => d.parameters.length) = some 0 := by decide +kernel
theorem pl_L_speed : plainFor (xMn m_L_speed) = true := plainFor_of_name plc_L
theorem np_L_speed : (parseMethodDescriptor (xMn m_L_speed).desc).map (fun d => d.parameters.length) = some 3 := by decide +kernel
theorem pl_A_speed : plainFor (xMn m_A_speed) = true := plainFor_of_name plc_A
theorem np_A_speed : (parseMethodDescriptor (xMn m_A_speed).desc).map (fun d => d.parameters.length) = some 2 := by decide +kernel
theorem pl_L_begin : plainFor (xMn m_L_begin) = true := plainFor_of_name plc_L
theorem np_L_begin : (parseMethodDescriptor (xMn m_L_begin).desc).map (fun d => d.parameters.length) = some 6 := by decide +kernel
theorem pl_A_begin : plainFor (xMn m_A_begin) = true := plainFor_of_name plc_A
theorem np_A_begin : (parseMethodDescriptor (xMn m_A_begin).desc).map (fun d => d.parameters.length) = some 4 := by decide +kernel
theorem pl_J_prepare : plainFor (xMn m_J_prepare) = true := plainFor_of_name plc_J
theorem np_J_prepare : (parseMethodDescriptor (xMn m_J_prepare).desc).map (fun d => d.parameters.length) = some 3 := by decide +kernel
theorem pl_A_mapChunk : plainFor (xMn m_A_mapChunk) = true := plainFor_of_name plc_A
theorem np_A_mapChunk : (parseMethodDescriptor (xMn m_A_mapChunk).desc).map (fun d => d.parameters.length) = some 1 := by decide +kernel
theorem pl_J_take : plainFor (xMn m_J_take) = true := plainFor_of_name plc_J
theorem np_J_take : (parseMethodDescriptor (xMn m_J_take).desc).map (fun d => d.parameters.length) = some 1 := by decide +kernel
theorem pl_J_partitionOf : plainFor (xMn m_J_partitionOf) = true := plainFor_of_name plc_J
theorem np_J_partitionOf : (parseMethodDescriptor (xMn m_J_partitionOf).desc).map (fun d => d.parameters.length) = some 1 := by decide +kernel
theorem pl_Z_max : plainFor (xMn m_Z_max) = true := by decide +kernel
theorem np_Z_max : (parseMethodDescriptor (xMn m_Z_max).desc).map (fun d => d.parameters.length) = some 2 := by decide +kernel
theorem pl_P_insertByKey : plainFor (xMn m_P_insertByKey) = true := plainFor_of_name plc_P
theorem np_P_insertByKey : (parseMethodDescriptor (xMn m_P_insertByKey).desc).map (fun d => d.parameters.length) = some 2 := by decide +kernel
theorem pl_A_runsOf : plainFor (xMn m_A_runsOf) = true := plainFor_of_name plc_A
theorem np_A_runsOf : (parseMethodDescriptor (xMn m_A_runsOf).desc).map (fun d => d.parameters.length) = some 2 := by decide +kernel
theorem pl_T_renew : plainFor (xMn m_T_renew) = true := plainFor_of_name plc_T
theorem np_T_renew : (parseMethodDescriptor (xMn m_T_renew).desc).map (fun d => d.parameters.length) = some 2 := by decide +kernel
theorem pl_L_run : plainFor (xMn m_L_run) = true := plainFor_of_name plc_L
theorem np_L_run : (parseMethodDescriptor (xMn m_L_run).desc).map (fun d => d.parameters.length) = some 3 := by decide +kernel
theorem pl_A_run : plainFor (xMn m_A_run) = true := plainFor_of_name plc_A
theorem np_A_run : (parseMethodDescriptor (xMn m_A_run).desc).map (fun d => d.parameters.length) = some 1 := by decide +kernel
theorem pl_A_demandJob : plainFor (xMn m_A_demandJob) = true := plainFor_of_name plc_A
theorem np_A_demandJob : (parseMethodDescriptor (xMn m_A_demandJob).desc).map (fun d => d.parameters.length) = some 0 := by decide +kernel
theorem pl_A_passTick : plainFor (xMn m_A_passTick) = true := plainFor_of_name plc_A
theorem np_A_passTick : (parseMethodDescriptor (xMn m_A_passTick).desc).map (fun d => d.parameters.length) = some 0 := by decide +kernel
theorem pl_A_giveTask : plainFor (xMn m_A_giveTask) = true := plainFor_of_name plc_A
theorem np_A_giveTask : (parseMethodDescriptor (xMn m_A_giveTask).desc).map (fun d => d.parameters.length) = some 1 := by decide +kernel
theorem pl_A_allDone : plainFor (xMn m_A_allDone) = true := plainFor_of_name plc_A
theorem np_A_allDone : (parseMethodDescriptor (xMn m_A_allDone).desc).map (fun d => d.parameters.length) = some 1 := by decide +kernel
theorem pl_A_taskCount : plainFor (xMn m_A_taskCount) = true := plainFor_of_name plc_A
theorem np_A_taskCount : (parseMethodDescriptor (xMn m_A_taskCount).desc).map (fun d => d.parameters.length) = some 1 := by decide +kernel
theorem pl_T_isDone : plainFor (xMn m_T_isDone) = true := plainFor_of_name plc_T
theorem np_T_isDone : (parseMethodDescriptor (xMn m_T_isDone).desc).map (fun d => d.parameters.length) = some 0 := by decide +kernel
theorem pl_A_freshTask : plainFor (xMn m_A_freshTask) = true := plainFor_of_name plc_A
theorem np_A_freshTask : (parseMethodDescriptor (xMn m_A_freshTask).desc).map (fun d => d.parameters.length) = some 2 := by decide +kernel
theorem pl_A_doers : plainFor (xMn m_A_doers) = true := plainFor_of_name plc_A
theorem np_A_doers : (parseMethodDescriptor (xMn m_A_doers).desc).map (fun d => d.parameters.length) = some 1 := by decide +kernel
theorem pl_A_canBeDone : plainFor (xMn m_A_canBeDone) = true := plainFor_of_name plc_A
theorem np_A_canBeDone : (parseMethodDescriptor (xMn m_A_canBeDone).desc).map (fun d => d.parameters.length) = some 1 := by decide +kernel
theorem pl_A_isHome : plainFor (xMn m_A_isHome) = true := plainFor_of_name plc_A
theorem np_A_isHome : (parseMethodDescriptor (xMn m_A_isHome).desc).map (fun d => d.parameters.length) = some 2 := by decide +kernel
theorem pl_A_taskForSecondTime : plainFor (xMn m_A_taskForSecondTime) = true := plainFor_of_name plc_A
theorem np_A_taskForSecondTime : (parseMethodDescriptor (xMn m_A_taskForSecondTime).desc).map (fun d => d.parameters.length) = some 1 := by decide +kernel
theorem pl_A_leastDoer : plainFor (xMn m_A_leastDoer) = true := plainFor_of_name plc_A
theorem np_A_leastDoer : (parseMethodDescriptor (xMn m_A_leastDoer).desc).map (fun d => d.parameters.length) = some 1 := by decide +kernel
theorem pl_K_take : plainFor (xMn m_K_take) = true := plainFor_of_name plc_K
theorem np_K_take : (parseMethodDescriptor (xMn m_K_take).desc).map (fun d => d.parameters.length) = some 1 := by decide +kernel
theorem pl_K_doUnits : plainFor (xMn m_K_doUnits) = true := plainFor_of_name plc_K
theorem np_K_doUnits : (parseMethodDescriptor (xMn m_K_doUnits).desc).map (fun d => d.parameters.length) = some 0 := by decide +kernel
theorem pl_A_completeTask : plainFor (xMn m_A_completeTask) = true := plainFor_of_name plc_A
theorem np_A_completeTask : (parseMethodDescriptor (xMn m_A_completeTask).desc).map (fun d => d.parameters.length) = some 1 := by decide +kernel
theorem pl_J_reduce : plainFor (xMn m_J_reduce) = true := plainFor_of_name plc_J
theorem np_J_reduce : (parseMethodDescriptor (xMn m_J_reduce).desc).map (fun d => d.parameters.length) = some 1 := by decide +kernel
theorem pl_J_combine : plainFor (xMn m_J_combine) = true := plainFor_of_name plc_J
theorem np_J_combine : (parseMethodDescriptor (xMn m_J_combine).desc).map (fun d => d.parameters.length) = some 3 := by decide +kernel
theorem pl_A_giveUpJob : plainFor (xMn m_A_giveUpJob) = true := plainFor_of_name plc_A
theorem np_A_giveUpJob : (parseMethodDescriptor (xMn m_A_giveUpJob).desc).map (fun d => d.parameters.length) = some 0 := by decide +kernel
theorem pl_A_endJob : plainFor (xMn m_A_endJob) = true := plainFor_of_name plc_A
theorem np_A_endJob : (parseMethodDescriptor (xMn m_A_endJob).desc).map (fun d => d.parameters.length) = some 0 := by decide +kernel
theorem pl_A_anyoneWorks : plainFor (xMn m_A_anyoneWorks) = true := plainFor_of_name plc_A
theorem np_A_anyoneWorks : (parseMethodDescriptor (xMn m_A_anyoneWorks).desc).map (fun d => d.parameters.length) = some 0 := by decide +kernel
theorem pl_L_stop : plainFor (xMn m_L_stop) = true := plainFor_of_name plc_L
theorem np_L_stop : (parseMethodDescriptor (xMn m_L_stop).desc).map (fun d => d.parameters.length) = some 1 := by decide +kernel
theorem pl_A_stop : plainFor (xMn m_A_stop) = true := plainFor_of_name plc_A
theorem np_A_stop : (parseMethodDescriptor (xMn m_A_stop).desc).map (fun d => d.parameters.length) = some 0 := by decide +kernel
theorem pl_L_output : plainFor (xMn m_L_output) = true := plainFor_of_name plc_L
theorem np_L_output : (parseMethodDescriptor (xMn m_L_output).desc).map (fun d => d.parameters.length) = some 5 := by decide +kernel
theorem pl_A_output : plainFor (xMn m_A_output) = true := plainFor_of_name plc_A
theorem np_A_output : (parseMethodDescriptor (xMn m_A_output).desc).map (fun d => d.parameters.length) = some 3 := by decide +kernel
theorem pl_L_find : plainFor (xMn m_L_find) = true := plainFor_of_name plc_L
theorem np_L_find : (parseMethodDescriptor (xMn m_L_find).desc).map (fun d => d.parameters.length) = some 3 := by decide +kernel
theorem pl_A_find : plainFor (xMn m_A_find) = true := plainFor_of_name plc_A
theorem np_A_find : (parseMethodDescriptor (xMn m_A_find).desc).map (fun d => d.parameters.length) = some 1 := by decide +kernel
theorem pl_P_indexOf : plainFor (xMn m_P_indexOf) = true := plainFor_of_name plc_P
theorem np_P_indexOf : (parseMethodDescriptor (xMn m_P_indexOf).desc).map (fun d => d.parameters.length) = some 1 := by decide +kernel
theorem pl_L_task : plainFor (xMn m_L_task) = true := plainFor_of_name plc_L
theorem np_L_task : (parseMethodDescriptor (xMn m_L_task).desc).map (fun d => d.parameters.length) = some 5 := by decide +kernel
theorem pl_A_task : plainFor (xMn m_A_task) = true := plainFor_of_name plc_A
theorem np_A_task : (parseMethodDescriptor (xMn m_A_task).desc).map (fun d => d.parameters.length) = some 3 := by decide +kernel
theorem pl_A_stateOf : plainFor (xMn m_A_stateOf) = true := plainFor_of_name plc_A
theorem np_A_stateOf : (parseMethodDescriptor (xMn m_A_stateOf).desc).map (fun d => d.parameters.length) = some 1 := by decide +kernel
theorem pl_L_ofWorker : plainFor (xMn m_L_ofWorker) = true := plainFor_of_name plc_L
theorem np_L_ofWorker : (parseMethodDescriptor (xMn m_L_ofWorker).desc).map (fun d => d.parameters.length) = some 4 := by decide +kernel
theorem pl_A_ofWorker : plainFor (xMn m_A_ofWorker) = true := plainFor_of_name plc_A
theorem np_A_ofWorker : (parseMethodDescriptor (xMn m_A_ofWorker).desc).map (fun d => d.parameters.length) = some 2 := by decide +kernel
theorem pl_K_taskNumber : plainFor (xMn m_K_taskNumber) = true := plainFor_of_name plc_K
theorem np_K_taskNumber : (parseMethodDescriptor (xMn m_K_taskNumber).desc).map (fun d => d.parameters.length) = some 0 := by decide +kernel
theorem pl_M_init : plainFor (xMn m_M_init) = true := plainFor_of_name plc_M
theorem np_M_init : (parseMethodDescriptor (xMn m_M_init).desc).map (fun d => d.parameters.length) = some 0 := by decide +kernel
theorem pl_M_thrown : plainFor (xMn m_M_thrown) = true := plainFor_of_name plc_M
theorem np_M_thrown : (parseMethodDescriptor (xMn m_M_thrown).desc).map (fun d => d.parameters.length) = some 0 := by decide +kernel
theorem pl_M_chunk : plainFor (xMn m_M_chunk) = true := plainFor_of_name plc_M
theorem np_M_chunk : (parseMethodDescriptor (xMn m_M_chunk).desc).map (fun d => d.parameters.length) = some 3 := by decide +kernel
theorem pl_M_in : plainFor (xMn m_M_in) = true := plainFor_of_name plc_M
theorem np_M_in : (parseMethodDescriptor (xMn m_M_in).desc).map (fun d => d.parameters.length) = some 3 := by decide +kernel
theorem pl_M_bad : plainFor (xMn m_M_bad) = true := plainFor_of_name plc_M
theorem np_M_bad : (parseMethodDescriptor (xMn m_M_bad).desc).map (fun d => d.parameters.length) = some 1 := by decide +kernel
theorem pl_M_fail : plainFor (xMn m_M_fail) = true := plainFor_of_name plc_M
theorem np_M_fail : (parseMethodDescriptor (xMn m_M_fail).desc).map (fun d => d.parameters.length) = some 1 := by decide +kernel
theorem pl_M_worker : plainFor (xMn m_M_worker) = true := plainFor_of_name plc_M
theorem np_M_worker : (parseMethodDescriptor (xMn m_M_worker).desc).map (fun d => d.parameters.length) = some 2 := by decide +kernel
theorem pl_M_giveUp : plainFor (xMn m_M_giveUp) = true := plainFor_of_name plc_M
theorem np_M_giveUp : (parseMethodDescriptor (xMn m_M_giveUp).desc).map (fun d => d.parameters.length) = some 1 := by decide +kernel
theorem pl_M_speed : plainFor (xMn m_M_speed) = true := plainFor_of_name plc_M
theorem np_M_speed : (parseMethodDescriptor (xMn m_M_speed).desc).map (fun d => d.parameters.length) = some 2 := by decide +kernel
theorem pl_M_filter : plainFor (xMn m_M_filter) = true := plainFor_of_name plc_M
theorem np_M_filter : (parseMethodDescriptor (xMn m_M_filter).desc).map (fun d => d.parameters.length) = some 1 := by decide +kernel
theorem pl_M_begin : plainFor (xMn m_M_begin) = true := plainFor_of_name plc_M
theorem np_M_begin : (parseMethodDescriptor (xMn m_M_begin).desc).map (fun d => d.parameters.length) = some 4 := by decide +kernel
theorem pl_M_mapAll : plainFor (xMn m_M_mapAll) = true := plainFor_of_name plc_M
theorem np_M_mapAll : (parseMethodDescriptor (xMn m_M_mapAll).desc).map (fun d => d.parameters.length) = some 0 := by decide +kernel
theorem pl_M_map : plainFor (xMn m_M_map) = true := plainFor_of_name plc_M
theorem np_M_map : (parseMethodDescriptor (xMn m_M_map).desc).map (fun d => d.parameters.length) = some 1 := by decide +kernel
theorem pl_M_modulo : plainFor (xMn m_M_modulo) = true := plainFor_of_name plc_M
theorem np_M_modulo : (parseMethodDescriptor (xMn m_M_modulo).desc).map (fun d => d.parameters.length) = some 2 := by decide +kernel
theorem pl_M_pair : plainFor (xMn m_M_pair) = true := plainFor_of_name plc_M
theorem np_M_pair : (parseMethodDescriptor (xMn m_M_pair).desc).map (fun d => d.parameters.length) = some 2 := by decide +kernel
theorem pl_M_sort : plainFor (xMn m_M_sort) = true := plainFor_of_name plc_M
theorem np_M_sort : (parseMethodDescriptor (xMn m_M_sort).desc).map (fun d => d.parameters.length) = some 0 := by decide +kernel
theorem pl_M_run : plainFor (xMn m_M_run) = true := plainFor_of_name plc_M
theorem np_M_run : (parseMethodDescriptor (xMn m_M_run).desc).map (fun d => d.parameters.length) = some 1 := by decide +kernel
theorem pl_M_tick : plainFor (xMn m_M_tick) = true := plainFor_of_name plc_M
theorem np_M_tick : (parseMethodDescriptor (xMn m_M_tick).desc).map (fun d => d.parameters.length) = some 0 := by decide +kernel
theorem pl_M_get : plainFor (xMn m_M_get) = true := plainFor_of_name plc_M
theorem np_M_get : (parseMethodDescriptor (xMn m_M_get).desc).map (fun d => d.parameters.length) = some 1 := by decide +kernel
theorem pl_M_mapsDone : plainFor (xMn m_M_mapsDone) = true := plainFor_of_name plc_M
theorem np_M_mapsDone : (parseMethodDescriptor (xMn m_M_mapsDone).desc).map (fun d => d.parameters.length) = some 0 := by decide +kernel
theorem pl_M_readable : plainFor (xMn m_M_readable) = true := plainFor_of_name plc_M
theorem np_M_readable : (parseMethodDescriptor (xMn m_M_readable).desc).map (fun d => d.parameters.length) = some 1 := by decide +kernel
theorem pl_M_doing : plainFor (xMn m_M_doing) = true := plainFor_of_name plc_M
theorem np_M_doing : (parseMethodDescriptor (xMn m_M_doing).desc).map (fun d => d.parameters.length) = some 1 := by decide +kernel
theorem pl_M_leftOf : plainFor (xMn m_M_leftOf) = true := plainFor_of_name plc_M
theorem np_M_leftOf : (parseMethodDescriptor (xMn m_M_leftOf).desc).map (fun d => d.parameters.length) = some 1 := by decide +kernel
theorem pl_M_needs : plainFor (xMn m_M_needs) = true := plainFor_of_name plc_M
theorem np_M_needs : (parseMethodDescriptor (xMn m_M_needs).desc).map (fun d => d.parameters.length) = some 1 := by decide +kernel
theorem pl_M_runs : plainFor (xMn m_M_runs) = true := plainFor_of_name plc_M
theorem np_M_runs : (parseMethodDescriptor (xMn m_M_runs).desc).map (fun d => d.parameters.length) = some 1 := by decide +kernel
theorem pl_M_pairsOf : plainFor (xMn m_M_pairsOf) = true := plainFor_of_name plc_M
theorem np_M_pairsOf : (parseMethodDescriptor (xMn m_M_pairsOf).desc).map (fun d => d.parameters.length) = some 1 := by decide +kernel
theorem pl_M_finish : plainFor (xMn m_M_finish) = true := plainFor_of_name plc_M
theorem np_M_finish : (parseMethodDescriptor (xMn m_M_finish).desc).map (fun d => d.parameters.length) = some 1 := by decide +kernel
theorem pl_M_reduce : plainFor (xMn m_M_reduce) = true := plainFor_of_name plc_M
theorem np_M_reduce : (parseMethodDescriptor (xMn m_M_reduce).desc).map (fun d => d.parameters.length) = some 2 := by decide +kernel
theorem pl_M_reduced : plainFor (xMn m_M_reduced) = true := plainFor_of_name plc_M
theorem np_M_reduced : (parseMethodDescriptor (xMn m_M_reduced).desc).map (fun d => d.parameters.length) = some 1 := by decide +kernel
theorem pl_M_end : plainFor (xMn m_M_end) = true := plainFor_of_name plc_M
theorem np_M_end : (parseMethodDescriptor (xMn m_M_end).desc).map (fun d => d.parameters.length) = some 0 := by decide +kernel
theorem pl_M_stop : plainFor (xMn m_M_stop) = true := plainFor_of_name plc_M
theorem np_M_stop : (parseMethodDescriptor (xMn m_M_stop).desc).map (fun d => d.parameters.length) = some 0 := by decide +kernel
theorem pl_M_output : plainFor (xMn m_M_output) = true := plainFor_of_name plc_M
theorem np_M_output : (parseMethodDescriptor (xMn m_M_output).desc).map (fun d => d.parameters.length) = some 3 := by decide +kernel
theorem pl_M_find : plainFor (xMn m_M_find) = true := plainFor_of_name plc_M
theorem np_M_find : (parseMethodDescriptor (xMn m_M_find).desc).map (fun d => d.parameters.length) = some 1 := by decide +kernel
theorem pl_M_task : plainFor (xMn m_M_task) = true := plainFor_of_name plc_M
theorem np_M_task : (parseMethodDescriptor (xMn m_M_task).desc).map (fun d => d.parameters.length) = some 3 := by decide +kernel
theorem pl_M_ofWorker : plainFor (xMn m_M_ofWorker) = true := plainFor_of_name plc_M
theorem np_M_ofWorker : (parseMethodDescriptor (xMn m_M_ofWorker).desc).map (fun d => d.parameters.length) = some 2 := by decide +kernel
theorem pl_M_count : plainFor (xMn m_M_count) = true := plainFor_of_name plc_M
theorem np_M_count : (parseMethodDescriptor (xMn m_M_count).desc).map (fun d => d.parameters.length) = some 1 := by decide +kernel
theorem we_A_pairsOfChunks : Cond.selects "ReduceCluster" (⟨"ReduceCluster", "pairsOfChunks", "()I"⟩ : MethodName) (⟨"ReduceCluster", "pairsOfChunks", "()I"⟩ : MethodName) ∈ xTT := xsel 0 rfl rfl
theorem we_A_loseDisk : Cond.selects "ReduceCluster" (⟨"ReduceCluster", "loseDisk", "(I)V"⟩ : MethodName) (⟨"ReduceCluster", "loseDisk", "(I)V"⟩ : MethodName) ∈ xTT := xsel 2 rfl rfl
theorem we_A_giveUpReduceTasks : Cond.selects "ReduceCluster" (⟨"ReduceCluster", "giveUpReduceTasks", "()V"⟩ : MethodName) (⟨"ReduceCluster", "giveUpReduceTasks", "()V"⟩ : MethodName) ∈ xTT := xsel 3 rfl rfl
theorem we_A_mapChunk : Cond.selects "ReduceCluster" (⟨"ReduceCluster", "mapChunk", "(I)I"⟩ : MethodName) (⟨"ReduceCluster", "mapChunk", "(I)I"⟩ : MethodName) ∈ xTT := xsel 4 rfl rfl
theorem we_A_demandJob : Cond.selects "ReduceCluster" (⟨"ReduceCluster", "demandJob", "()V"⟩ : MethodName) (⟨"ReduceCluster", "demandJob", "()V"⟩ : MethodName) ∈ xTT := xsel 5 rfl rfl
theorem we_A_passTick : Cond.selects "ReduceCluster" (⟨"ReduceCluster", "passTick", "()I"⟩ : MethodName) (⟨"ReduceCluster", "passTick", "()I"⟩ : MethodName) ∈ xTT := xsel 6 rfl rfl
theorem we_A_giveTask : Cond.selects "ReduceCluster" (⟨"ReduceCluster", "giveTask", "(I)V"⟩ : MethodName) (⟨"ReduceCluster", "giveTask", "(I)V"⟩ : MethodName) ∈ xTT := xsel 7 rfl rfl
theorem we_A_allDone : Cond.selects "ReduceCluster" (⟨"ReduceCluster", "allDone", "(Z)Z"⟩ : MethodName) (⟨"ReduceCluster", "allDone", "(Z)Z"⟩ : MethodName) ∈ xTT := xsel 8 rfl rfl
theorem we_A_taskCount : Cond.selects "ReduceCluster" (⟨"ReduceCluster", "taskCount", "(Z)I"⟩ : MethodName) (⟨"ReduceCluster", "taskCount", "(Z)I"⟩ : MethodName) ∈ xTT := xsel 9 rfl rfl
theorem we_A_freshTask : Cond.selects "ReduceCluster" (⟨"ReduceCluster", "freshTask", "(ZI)LReduceCluster$Task;"⟩ : MethodName) (⟨"ReduceCluster", "freshTask", "(ZI)LReduceCluster$Task;"⟩ : MethodName) ∈ xTT := xsel 10 rfl rfl
theorem we_A_doers : Cond.selects "ReduceCluster" (⟨"ReduceCluster", "doers", "(LReduceCluster$Task;)I"⟩ : MethodName) (⟨"ReduceCluster", "doers", "(LReduceCluster$Task;)I"⟩ : MethodName) ∈ xTT := xsel 11 rfl rfl
theorem we_A_canBeDone : Cond.selects "ReduceCluster" (⟨"ReduceCluster", "canBeDone", "(LReduceCluster$Task;)Z"⟩ : MethodName) (⟨"ReduceCluster", "canBeDone", "(LReduceCluster$Task;)Z"⟩ : MethodName) ∈ xTT := xsel 12 rfl rfl
theorem we_A_taskForSecondTime : Cond.selects "ReduceCluster" (⟨"ReduceCluster", "taskForSecondTime", "(Z)LReduceCluster$Task;"⟩ : MethodName) (⟨"ReduceCluster", "taskForSecondTime", "(Z)LReduceCluster$Task;"⟩ : MethodName) ∈ xTT := xsel 13 rfl rfl
theorem we_A_leastDoer : Cond.selects "ReduceCluster" (⟨"ReduceCluster", "leastDoer", "(LReduceCluster$Task;)I"⟩ : MethodName) (⟨"ReduceCluster", "leastDoer", "(LReduceCluster$Task;)I"⟩ : MethodName) ∈ xTT := xsel 14 rfl rfl
theorem we_A_completeTask : Cond.selects "ReduceCluster" (⟨"ReduceCluster", "completeTask", "(I)Z"⟩ : MethodName) (⟨"ReduceCluster", "completeTask", "(I)Z"⟩ : MethodName) ∈ xTT := xsel 15 rfl rfl
theorem we_A_giveUpJob : Cond.selects "ReduceCluster" (⟨"ReduceCluster", "giveUpJob", "()V"⟩ : MethodName) (⟨"ReduceCluster", "giveUpJob", "()V"⟩ : MethodName) ∈ xTT := xsel 16 rfl rfl
theorem we_A_endJob : Cond.selects "ReduceCluster" (⟨"ReduceCluster", "endJob", "()V"⟩ : MethodName) (⟨"ReduceCluster", "endJob", "()V"⟩ : MethodName) ∈ xTT := xsel 17 rfl rfl
theorem we_A_anyoneWorks : Cond.selects "ReduceCluster" (⟨"ReduceCluster", "anyoneWorks", "()Z"⟩ : MethodName) (⟨"ReduceCluster", "anyoneWorks", "()Z"⟩ : MethodName) ∈ xTT := xsel 18 rfl rfl
theorem we_A_stateOf : Cond.selects "ReduceCluster" (⟨"ReduceCluster", "stateOf", "(LReduceCluster$Task;)I"⟩ : MethodName) (⟨"ReduceCluster", "stateOf", "(LReduceCluster$Task;)I"⟩ : MethodName) ∈ xTT := xsel 19 rfl rfl
theorem we_M_bad : Cond.selects "ReduceClusterModel" (⟨"ReduceClusterModel", "bad", "(Z)Z"⟩ : MethodName) (⟨"ReduceClusterModel", "bad", "(Z)Z"⟩ : MethodName) ∈ xTT := xsel 20 rfl rfl
theorem we_M_fail : Cond.selects "ReduceClusterModel" (⟨"ReduceClusterModel", "fail", "(I)I"⟩ : MethodName) (⟨"ReduceClusterModel", "fail", "(I)I"⟩ : MethodName) ∈ xTT := xsel 21 rfl rfl
theorem we_M_giveUp : Cond.selects "ReduceClusterModel" (⟨"ReduceClusterModel", "giveUp", "(Z)V"⟩ : MethodName) (⟨"ReduceClusterModel", "giveUp", "(Z)V"⟩ : MethodName) ∈ xTT := xsel 22 rfl rfl
theorem we_M_mapAll : Cond.selects "ReduceClusterModel" (⟨"ReduceClusterModel", "mapAll", "()V"⟩ : MethodName) (⟨"ReduceClusterModel", "mapAll", "()V"⟩ : MethodName) ∈ xTT := xsel 23 rfl rfl
theorem we_M_map : Cond.selects "ReduceClusterModel" (⟨"ReduceClusterModel", "map", "(I)V"⟩ : MethodName) (⟨"ReduceClusterModel", "map", "(I)V"⟩ : MethodName) ∈ xTT := xsel 24 rfl rfl
theorem we_M_pair : Cond.selects "ReduceClusterModel" (⟨"ReduceClusterModel", "pair", "(II)V"⟩ : MethodName) (⟨"ReduceClusterModel", "pair", "(II)V"⟩ : MethodName) ∈ xTT := xsel 25 rfl rfl
theorem we_M_sort : Cond.selects "ReduceClusterModel" (⟨"ReduceClusterModel", "sort", "()V"⟩ : MethodName) (⟨"ReduceClusterModel", "sort", "()V"⟩ : MethodName) ∈ xTT := xsel 26 rfl rfl
theorem we_M_tick : Cond.selects "ReduceClusterModel" (⟨"ReduceClusterModel", "tick", "()V"⟩ : MethodName) (⟨"ReduceClusterModel", "tick", "()V"⟩ : MethodName) ∈ xTT := xsel 27 rfl rfl
theorem we_M_get : Cond.selects "ReduceClusterModel" (⟨"ReduceClusterModel", "get", "(I)V"⟩ : MethodName) (⟨"ReduceClusterModel", "get", "(I)V"⟩ : MethodName) ∈ xTT := xsel 28 rfl rfl
theorem we_M_mapsDone : Cond.selects "ReduceClusterModel" (⟨"ReduceClusterModel", "mapsDone", "()Z"⟩ : MethodName) (⟨"ReduceClusterModel", "mapsDone", "()Z"⟩ : MethodName) ∈ xTT := xsel 29 rfl rfl
theorem we_M_readable : Cond.selects "ReduceClusterModel" (⟨"ReduceClusterModel", "readable", "(I)Z"⟩ : MethodName) (⟨"ReduceClusterModel", "readable", "(I)Z"⟩ : MethodName) ∈ xTT := xsel 30 rfl rfl
theorem we_M_doing : Cond.selects "ReduceClusterModel" (⟨"ReduceClusterModel", "doing", "(I)I"⟩ : MethodName) (⟨"ReduceClusterModel", "doing", "(I)I"⟩ : MethodName) ∈ xTT := xsel 31 rfl rfl
theorem we_M_leftOf : Cond.selects "ReduceClusterModel" (⟨"ReduceClusterModel", "leftOf", "(I)I"⟩ : MethodName) (⟨"ReduceClusterModel", "leftOf", "(I)I"⟩ : MethodName) ∈ xTT := xsel 32 rfl rfl
theorem we_M_needs : Cond.selects "ReduceClusterModel" (⟨"ReduceClusterModel", "needs", "(I)I"⟩ : MethodName) (⟨"ReduceClusterModel", "needs", "(I)I"⟩ : MethodName) ∈ xTT := xsel 33 rfl rfl
theorem we_M_runs : Cond.selects "ReduceClusterModel" (⟨"ReduceClusterModel", "runs", "(I)I"⟩ : MethodName) (⟨"ReduceClusterModel", "runs", "(I)I"⟩ : MethodName) ∈ xTT := xsel 34 rfl rfl
theorem we_M_pairsOf : Cond.selects "ReduceClusterModel" (⟨"ReduceClusterModel", "pairsOf", "(I)I"⟩ : MethodName) (⟨"ReduceClusterModel", "pairsOf", "(I)I"⟩ : MethodName) ∈ xTT := xsel 35 rfl rfl
theorem we_M_finish : Cond.selects "ReduceClusterModel" (⟨"ReduceClusterModel", "finish", "(I)V"⟩ : MethodName) (⟨"ReduceClusterModel", "finish", "(I)V"⟩ : MethodName) ∈ xTT := xsel 36 rfl rfl
theorem we_M_reduce : Cond.selects "ReduceClusterModel" (⟨"ReduceClusterModel", "reduce", "(IZ)I"⟩ : MethodName) (⟨"ReduceClusterModel", "reduce", "(IZ)I"⟩ : MethodName) ∈ xTT := xsel 37 rfl rfl
theorem we_M_reduced : Cond.selects "ReduceClusterModel" (⟨"ReduceClusterModel", "reduced", "(I)I"⟩ : MethodName) (⟨"ReduceClusterModel", "reduced", "(I)I"⟩ : MethodName) ∈ xTT := xsel 38 rfl rfl
theorem we_M_end : Cond.selects "ReduceClusterModel" (⟨"ReduceClusterModel", "end", "()V"⟩ : MethodName) (⟨"ReduceClusterModel", "end", "()V"⟩ : MethodName) ∈ xTT := xsel 39 rfl rfl
